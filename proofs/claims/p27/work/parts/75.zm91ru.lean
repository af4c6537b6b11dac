/-! the reference: calls, waits, a step -/
section RU
variable {L : Nat} {xs : Nat → Int32} {S : Nat → pm_E} {n b pic : Nat} {P : PG} {x : Nat} {D : Nat → Nat} {nw nx : Nat → Int32} {g : Int32}
def stK (P : PG) (D' : Nat → Nat) (S : Nat → pm_E) (n : Nat) : q_K := fun r S' n' => r = none ∧ n = n' ∧ (∀ k, k ≠ 53 → S' k = S k) ∧ ∃ nx', S' 53 = .inl (0, 20, .inl nx') ∧ ∀ i, i < 20 → nx' i = ra P D' i
set_option maxHeartbeats 4000000 in
theorem l_call {l : Nat} (hW : WFP P) (hn : 82 ≤ n) (hb : b ≤ 3) (hR : JR b P S) (t52 : S 52 = .inl (0, 20, .inl nw)) (hN : ∀ i, i < 20 → nw i = ra P D i) (t53 : S 53 = .inl (0, 20, .inl nx)) (hX : rX P D nx g) (hD : WFD P pic D) (hl : l < 3) : PM (j_SL L) (j_SV xs) j_EX mm_X12_call [.ref 46, .int (nI l)] S n (wsK P (calD P D l) g S n) := by
  have hH := hW.2.1
  have hR0 := hR
  obtain ⟨fs, mn, fk, fa, fn, vl, k46, f1, f2, f3, f4, f5, f6, f7, f8, f9, f10, k47, k48, k49, k50, k51, hmn, hpr, hvl⟩ := hR
  change PQ (j_SL L) (j_SV xs) j_EX mm_X12_call 0 [.ref 46, .int (nI l), pm_un] [] S n 0 0 _
  have key : ∀ q o : Nat, o + q = pH P → (∀ y, y < o → calB P D l y = false) → PQ (j_SL L) (j_SV xs) j_EX mm_X12_call 2 [.ref 46, .int (nI l), .int (nI o)] [] S n 0 0 (wsK P (calD P D l) g S n) := by
    intro q
    induction q with
    | zero =>
      intro o hx hy
      refine q_iload_n rfl rfl rfl ?_
      refine q_aload_n rfl rfl rfl ?_
      refine q_getf rfl rfl (by omega) k46 f1 ?_
      refine q_icge rfl rfl (fun _ => ?_) (fun h => absurd ((m_le (by omega) (by omega)).mpr (by omega)) h)
      exact q_ret rfl rfl ⟨rfl, rfl, fun _ _ => rfl, nx, t53, by rw [cal_no hH (fun y h => hy y (by omega))]; exact hX⟩
    | succ q ih =>
      intro o hxq hy
      have ho : o < pH P := by omega
      have hw := hD.1 o ho
      have hl8 := hW.2.2.1 o ho
      refine q_iload_n rfl rfl rfl ?_
      refine q_aload_n rfl rfl rfl ?_
      refine q_getf rfl rfl (by omega) k46 f1 ?_
      refine q_icge rfl rfl (fun h => absurd ((m_le (by omega) (by omega)).mp h) (by omega)) (fun _ => ?_)
      have next : calB P D l o = false → PQ (j_SL L) (j_SV xs) j_EX mm_X12_call 61 [.ref 46, .int (nI l), .int (nI o)] [] S n 0 0 (wsK P (calD P D l) g S n) := by
        intro h
        refine q_inc2 rfl rfl rfl rfl ?_
        refine q_goto rfl ?_
        rw [show nI o + 1 = nI (o + 1) from nI_add o 1]
        refine ih (o + 1) (by omega) (fun y hy' => ?_)
        by_cases e : y = o
        · rw [e]
          exact h
        · exact hy y (by omega)
      have nob : ¬ (o < pH P ∧ D (4 * o + 3) = 1 ∧ oA P D o = l) → calB P D l o = false := fun h => by
        cases e : calB P D l o
        · rfl
        · exact absurd (calB_ok.mp e) h
      refine q_aload_n rfl rfl rfl ?_
      refine q_iload_n rfl rfl rfl ?_
      refine q_cV rfl rfl (Or.inl rfl) rfl rfl rfl rfl (by omega) k46 trivial rfl rfl rfl rfl rfl (l_over hW hn hb hR0 t52 hN ho) ?_
      rintro r _ _ ⟨rfl, rfl, hr⟩
      rcases hr with ⟨hov, rfl⟩ | ⟨hov, rfl⟩
      · show PQ (j_SL L) (j_SV xs) j_EX mm_X12_call 15 _ [.int 1] S n 0 0 _
        refine q_ifne rfl rfl (fun h => absurd h (by decide)) (fun _ => next (nob (fun h9 => ?_)))
        have := (hw.2.2.2.2.1 (by omega)).1
        unfold ovr at hov
        omega
      show PQ (j_SL L) (j_SV xs) j_EX mm_X12_call 15 _ [.int 0] S n 0 0 _
      refine q_ifne rfl rfl (fun _ => ?_) (fun h => absurd rfl h)
      have hlt : D (4 * o) < pL P o := by unfold ovr at hov; omega
      have hs2 := hw.2.2.2.1
      refine q_aload_n rfl rfl rfl ?_
      refine q_getf rfl rfl (by omega) k46 f8 ?_
      refine q_iconst rfl rfl ?_
      refine q_iload_n rfl rfl rfl ?_
      refine q_imul rfl rfl (q_tn (z := nI (4 * o)) (by rw [show (4 : Int32) = nI 4 from rfl, pk_mul]) ?_)
      refine q_iconst rfl rfl ?_
      refine q_iadd rfl rfl (q_tn (z := nI (4 * o + 3)) (nI_add _ 3) ?_)
      refine q_iald rfl rfl (by omega) t52 (q_inN (by omega) (by decide)) (q_tn (z := nI (D (4 * o + 3))) (by rw [nI_clamp (by omega), hN _ (by omega)]; exact ra_k (by omega)) ?_)
      refine q_iconst rfl rfl ?_
      refine q_icne rfl rfl (fun h => ?_) (fun h => next (nob (fun h9 => h (by rw [h9.2.1]; rfl))))
      have h1 := (m_eq (b := 1) (by omega) (by omega)).mp h
      obtain ⟨-, hk, -⟩ := hw.2.2.2.2.1 (by omega)
      obtain ⟨q3, eq⟩ := wfp_l (D := D) hW ho hov (by unfold hasL; omega)
      refine q_aload_n rfl rfl rfl ?_
      refine q_getf rfl rfl (by omega) k46 f4 ?_
      refine q_aload_n rfl rfl rfl ?_
      refine q_iload_n rfl rfl rfl ?_
      refine q_cV rfl rfl (Or.inl rfl) rfl rfl rfl rfl (by omega) k46 trivial rfl rfl rfl rfl rfl (l_at hW hn hb hR0 t52 hN ho hov) ?_
      rintro r _ _ ⟨rfl, rfl, rfl⟩
      show PQ (j_SL L) (j_SV xs) j_EX mm_X12_call 41 _ [.int (nI (8 * (b + o) + D (4 * o))), .ref 49] S n 0 0 _
      refine q_iald rfl rfl (by omega) k49 (q_inN (by omega) (by decide)) (q_tn (z := nI (oA P D o)) (by rw [nI_clamp (by omega)]; exact (hpr o _ ho hlt).2.1.trans eq) ?_)
      refine q_iload_n rfl rfl rfl ?_
      refine q_iceq rfl rfl (fun h => ?_) (fun h => ?_)
      · have h2 := (m_eq (by omega) (by omega)).mp h
        refine q_aload_n rfl rfl rfl ?_
        refine q_getf rfl rfl (by omega) k46 f9 ?_
        refine q_iconst rfl rfl ?_
        refine q_iload_n rfl rfl rfl ?_
        refine q_imul rfl rfl (q_tn (z := nI (4 * o)) (by rw [show (4 : Int32) = nI 4 from rfl, pk_mul]) ?_)
        refine q_iconst rfl rfl ?_
        refine q_iadd rfl rfl (q_tn (z := nI (4 * o + 3)) (nI_add _ 3) ?_)
        refine q_iconst rfl rfl ?_
        refine q_iast rfl rfl (by omega) t53 (q_inN (by omega) (by decide)) ?_
        rw [nI_clamp (by omega)]
        refine q_ret rfl rfl ⟨rfl, rfl, fun k hk => u_ne hk, _, u_eq, ?_⟩
        rw [cal_at (by omega) hy (calB_ok.mpr ⟨ho, h1, h2⟩)]
        exact rX_up (i := 4 * o + 3) (v := 2) hX (by omega) (by omega)
      · refine q_goto rfl ?_
        exact next (nob (fun h9 => h (by rw [h9.2.2])))
  refine q_iconst rfl rfl ?_
  refine q_ist2n rfl rfl rfl rfl ?_
  exact key (pH P) 0 (by omega) (fun y h => absurd h (by omega))
set_option maxHeartbeats 4000000 in
theorem l_wait (hW : WFP P) (hn : 82 ≤ n) (hb : b ≤ 3) (hR : JR b P S) (t52 : S 52 = .inl (0, 20, .inl nw)) (hN : ∀ i, i < 20 → nw i = ra P D i) (t53 : S 53 = .inl (0, 20, .inl nx)) (hX : rX P D nx g) (hD : WFD P pic D) (hx : x < pH P) (ho : ¬ ovr P D x) (hk : kA P D x = 10) : PM (j_SL L) (j_SV xs) j_EX mm_X12_waitStep [.ref 46, .int (nI x), .int (nI (8 * (b + x) + D (4 * x)))] S n (wsK P (aftD P pic D x) g S n) := by
  have hH := hW.2.1
  have hR0 := hR
  obtain ⟨fs, mn, fk, fa, fn, vl, k46, f1, f2, f3, f4, f5, f6, f7, f8, f9, f10, k47, k48, k49, k50, k51, hmn, hpr, hvl⟩ := hR
  have hl8 := hW.2.2.1 x hx
  have hw := hD.1 x hx
  have hlt : D (4 * x) < pL P x := by unfold ovr at ho; omega
  obtain ⟨q3, eq⟩ := wfp_l hW hx ho (by unfold hasL; omega)
  have how := hD.2.2.2.1 _ q3
  have hm2 := hw.2.2.1
  have hU : ∀ k, k ≠ 53 → S k = S k := fun _ _ => rfl
  change PQ (j_SL L) (j_SV xs) j_EX mm_X12_waitStep 0 [.ref 46, .int (nI x), .int (nI (8 * (b + x) + D (4 * x)))] [] S n 0 0 _
  refine q_aload_n rfl rfl rfl ?_
  refine q_getf rfl rfl (by omega) k46 f8 ?_
  refine q_iconst rfl rfl ?_
  refine q_iload_n rfl rfl rfl ?_
  refine q_imul rfl rfl (q_tn (z := nI (4 * x)) (by rw [show (4 : Int32) = nI 4 from rfl, pk_mul]) ?_)
  refine q_iconst rfl rfl ?_
  refine q_iadd rfl rfl (q_tn (z := nI (4 * x + 2)) (nI_add _ 2) ?_)
  refine q_iald rfl rfl (by omega) t52 (q_inN (by omega) (by decide)) (q_tn (z := nI (D (4 * x + 2))) (by rw [nI_clamp (by omega), hN _ (by omega)]; exact ra_k (by omega)) ?_)
  refine q_iconst rfl rfl ?_
  refine q_icne rfl rfl (fun h => ?_) (fun h => ?_)
  · have h1 := (m_eq (b := 1) (by omega) (by omega)).mp h
    rw [aft_10 hk, if_pos h1]
    refine q_aload_n rfl rfl rfl ?_
    refine q_getf rfl rfl (by omega) k46 f9 ?_
    refine q_bipush rfl rfl ?_
    refine q_aload_n rfl rfl rfl ?_
    refine q_getf rfl rfl (by omega) k46 f4 ?_
    refine q_iload_n rfl rfl rfl ?_
    refine q_iald rfl rfl (by omega) ((hU 49 (by decide)).trans k49) (q_inN (by omega) (by decide)) (q_tn (z := nI (oA P D x)) (by rw [nI_clamp (by omega)]; exact (hpr x _ hx hlt).2.1.trans eq) ?_)
    refine q_iadd rfl rfl (q_tn (z := nI (16 + oA P D x)) (nI_add 16 _) ?_)
    refine q_iload_n rfl rfl rfl ?_
    refine q_iconst rfl rfl ?_
    refine q_iadd rfl rfl (q_tn (z := nI (x + 1)) (nI_add _ 1) ?_)
    refine q_iast rfl rfl (by omega) t53 (q_inN (by omega) (by decide)) ?_
    rw [nI_clamp (by omega)]
    have hX1 := rX_up (i := 16 + oA P D x) (v := x + 1) hX (by omega) (by omega)
    have hU1 : ∀ k, k ≠ 53 → va_up S 53 (.inl (0, 20, .inl (upd nx (16 + oA P D x) (nI (x + 1))))) k = S k := fun k hk => u_ne hk
    have u531 : va_up S 53 (.inl (0, 20, .inl (upd nx (16 + oA P D x) (nI (x + 1))))) 53 = .inl (0, 20, .inl (upd nx (16 + oA P D x) (nI (x + 1)))) := u_eq
    generalize va_up S 53 (.inl (0, 20, .inl (upd nx (16 + oA P D x) (nI (x + 1))))) = U1 at hU1 u531 ⊢
    refine q_aload_n rfl rfl rfl ?_
    refine q_getf rfl rfl (by omega) ((hU1 46 (by decide)).trans k46) f9 ?_
    refine q_iconst rfl rfl ?_
    refine q_iload_n rfl rfl rfl ?_
    refine q_imul rfl rfl (q_tn (z := nI (4 * x)) (by rw [show (4 : Int32) = nI 4 from rfl, pk_mul]) ?_)
    refine q_iconst rfl rfl ?_
    refine q_iadd rfl rfl (q_tn (z := nI (4 * x + 3)) (nI_add _ 3) ?_)
    refine q_iconst rfl rfl ?_
    refine q_iast rfl rfl (by omega) u531 (q_inN (by omega) (by decide)) ?_
    rw [nI_clamp (by omega)]
    have hV : ∀ k, k ≠ 53 → va_up U1 53 (.inl (0, 20, .inl (upd (upd nx (16 + oA P D x) (nI (x + 1))) (4 * x + 3) (0)))) k = S k := fun k hk => (u_ne hk).trans (hU1 k hk)
    have v53 : va_up U1 53 (.inl (0, 20, .inl (upd (upd nx (16 + oA P D x) (nI (x + 1))) (4 * x + 3) (0)))) 53 = .inl (0, 20, .inl (upd (upd nx (16 + oA P D x) (nI (x + 1))) (4 * x + 3) (0))) := u_eq
    generalize va_up U1 53 (.inl (0, 20, .inl (upd (upd nx (16 + oA P D x) (nI (x + 1))) (4 * x + 3) (0)))) = V at hV v53 ⊢
    have hX2 := rX_up (i := 4 * x + 3) (v := 0) hX1 (by omega) (by omega)
    refine q_aload_n rfl rfl rfl ?_
    refine q_iload_n rfl rfl rfl ?_
    refine q_aload_n rfl rfl rfl ?_
    refine q_getf rfl rfl (by omega) ((hV 46 (by decide)).trans k46) f8 ?_
    refine q_iconst rfl rfl ?_
    refine q_iload_n rfl rfl rfl ?_
    refine q_imul rfl rfl (q_tn (z := nI (4 * x)) (by rw [show (4 : Int32) = nI 4 from rfl, pk_mul]) ?_)
    refine q_iald rfl rfl (by omega) ((hV 52 (by decide)).trans t52) (q_inN (by omega) (by decide)) (q_tn (z := nI (D (4 * x))) (by rw [nI_clamp (by omega), hN _ (by omega)]; exact (ra_0 hx).trans (by rw [rp_lt ho])) ?_)
    refine q_iconst rfl rfl ?_
    refine q_iadd rfl rfl (q_tn (z := nI (D (4 * x) + 1)) (nI_add _ 1) ?_)
    refine q_cV rfl rfl (Or.inl rfl) rfl rfl rfl rfl (by omega) ((hV 46 (by decide)).trans k46) trivial rfl rfl rfl rfl rfl (l_goto hW hn hb (JR_53 hR0 hV) v53 hx (show D (4 * x) + 1 < 100 by omega)) ?_
    rintro r W m9 ⟨rfl, rfl, eW, w53⟩
    show PQ (j_SL L) (j_SV xs) j_EX mm_X12_waitStep 57 [.ref 46, .int (nI x), .int (nI (8 * (b + x) + D (4 * x)))] [] W n 0 0 _
    refine q_goto rfl ?_
    have hq0 : (e_up (e_up D (16 + oA P D x) (x + 1)) (4 * x + 3) 0) (4 * x) = D (4 * x) := by rw [e_up_ot (by omega), e_up_ot (by omega)]
    have hq3 := rX_ps hX2 hW hx (e_up_at) (by rw [hq0]; exact hlt)
    rw [hq0] at hq3
    refine q_ret rfl rfl ⟨rfl, rfl, fun k hk => (eW k hk).trans (hV k hk), _, w53, rX_cg hq3 (fun i _ => ?_)⟩
    unfold passD atD
    by_cases e3 : i = 4 * x + 3
    · rw [e3, e_up_at, e_up_at]
    · rw [e_up_ot e3, e_up_ot e3]
      by_cases e2 : i = 4 * x + 2
      · rw [e2, e_up_at, e_up_at]
      · rw [e_up_ot e2, e_up_ot e2]
        by_cases e0 : i = 4 * x
        · rw [e0, e_up_at, e_up_at, e_up_ot (f := e_up D (16 + oA P D x) (x + 1)) (i := 4 * x + 3) (by omega)]
        · rw [e_up_ot e0, e_up_ot e0, e_up_ot e3]
  have h1 : ¬ D (4 * x + 2) = 1 := fun e => h (by rw [e]; rfl)
  have hs0 : D (4 * x + 3) = 0 := Classical.byContradiction (fun h => h1 (hw.2.2.2.2.1 h).2.2)
  rw [aft_10 hk, if_neg h1]
  refine q_aload_n rfl rfl rfl ?_
  refine q_getf rfl rfl (by omega) k46 f8 ?_
  refine q_bipush rfl rfl ?_
  refine q_aload_n rfl rfl rfl ?_
  refine q_getf rfl rfl (by omega) k46 f4 ?_
  refine q_iload_n rfl rfl rfl ?_
  refine q_iald rfl rfl (by omega) ((hU 49 (by decide)).trans k49) (q_inN (by omega) (by decide)) (q_tn (z := nI (oA P D x)) (by rw [nI_clamp (by omega)]; exact (hpr x _ hx hlt).2.1.trans eq) ?_)
  refine q_iadd rfl rfl (q_tn (z := nI (16 + oA P D x)) (nI_add 16 _) ?_)
  refine q_iald rfl rfl (by omega) t52 (q_inN (by omega) (by decide)) (q_tn (z := nI (D (16 + oA P D x))) (by rw [nI_clamp (by omega), hN _ (by omega)]; exact ra_h hH (by omega)) ?_)
  refine q_iload_n rfl rfl rfl ?_
  refine q_iconst rfl rfl ?_
  refine q_iadd rfl rfl (q_tn (z := nI (x + 1)) (nI_add _ 1) ?_)
  refine q_iceq rfl rfl (fun h => ?_) (fun h => ?_)
  · have h2 := (m_eq (by omega) (by omega)).mp h
    rw [if_pos h2]
    refine q_aload_n rfl rfl rfl ?_
    refine q_getf rfl rfl (by omega) k46 f9 ?_
    refine q_bipush rfl rfl ?_
    refine q_aload_n rfl rfl rfl ?_
    refine q_getf rfl rfl (by omega) k46 f4 ?_
    refine q_iload_n rfl rfl rfl ?_
    refine q_iald rfl rfl (by omega) ((hU 49 (by decide)).trans k49) (q_inN (by omega) (by decide)) (q_tn (z := nI (oA P D x)) (by rw [nI_clamp (by omega)]; exact (hpr x _ hx hlt).2.1.trans eq) ?_)
    refine q_iadd rfl rfl (q_tn (z := nI (16 + oA P D x)) (nI_add 16 _) ?_)
    refine q_iconst rfl rfl ?_
    refine q_iast rfl rfl (by omega) t53 (q_inN (by omega) (by decide)) ?_
    rw [nI_clamp (by omega)]
    have hX1 := rX_up (i := 16 + oA P D x) (v := 0) hX (by omega) (by omega)
    refine q_aload_n rfl rfl rfl ?_
    refine q_getf rfl rfl (by omega) ((u_ne (by decide)).trans k46) f9 ?_
    refine q_iconst rfl rfl ?_
    refine q_iload_n rfl rfl rfl ?_
    refine q_imul rfl rfl (q_tn (z := nI (4 * x)) (by rw [show (4 : Int32) = nI 4 from rfl, pk_mul]) ?_)
    refine q_iconst rfl rfl ?_
    refine q_iadd rfl rfl (q_tn (z := nI (4 * x + 3)) (nI_add _ 3) ?_)
    refine q_iconst rfl rfl ?_
    refine q_iast rfl rfl (by omega) u_eq (q_inN (by omega) (by decide)) ?_
    rw [nI_clamp (by omega)]
    have hX2 := rX_up (i := 4 * x + 3) (v := 1) hX1 (by omega) (by omega)
    refine q_aload_n rfl rfl rfl ?_
    refine q_getf rfl rfl (by omega) ((u_ne (by decide)).trans ((u_ne (by decide)).trans k46)) f9 ?_
    refine q_iconst rfl rfl ?_
    refine q_iload_n rfl rfl rfl ?_
    refine q_imul rfl rfl (q_tn (z := nI (4 * x)) (by rw [show (4 : Int32) = nI 4 from rfl, pk_mul]) ?_)
    refine q_iconst rfl rfl ?_
    refine q_iadd rfl rfl (q_tn (z := nI (4 * x + 2)) (nI_add _ 2) ?_)
    refine q_iconst rfl rfl ?_
    refine q_iast rfl rfl (by omega) u_eq (q_inN (by omega) (by decide)) ?_
    rw [nI_clamp (by omega)]
    have hX3 := rX_up (i := 4 * x + 2) (v := 1) hX2 (by omega) (by omega)
    refine q_ret rfl rfl ⟨rfl, rfl, fun k hk => (u_ne hk).trans ((u_ne hk).trans (u_ne hk)), _, u_eq, rX_cg hX3 (fun i _ => ?_)⟩
    by_cases e2 : i = 4 * x + 2
    · rw [e2, e_up_at, e_up_ot (by omega), e_up_at]
    · by_cases e3 : i = 4 * x + 3
      · rw [e3, e_up_at, e_up_ot (by omega), e_up_at]
      · rw [e_up_ot e3, e_up_ot e2, e_up_ot e2, e_up_ot e3]
  · have h2 : ¬ D (16 + oA P D x) = x + 1 := fun e => h (by rw [e])
    rw [if_neg h2]
    refine q_aload_n rfl rfl rfl ?_
    refine q_iload_n rfl rfl rfl ?_
    refine q_cV rfl rfl (Or.inl rfl) rfl rfl rfl rfl (by omega) k46 trivial rfl rfl rfl rfl rfl (l_fail hW hn hb hR0 t53 hx) ?_
    rintro r W m9 ⟨rfl, rfl, eW, w53⟩
    show PQ (j_SL L) (j_SV xs) j_EX mm_X12_waitStep 85 [.ref 46, .int (nI x), .int (nI (8 * (b + x) + D (4 * x)))] [] W n 0 0 _
    refine q_goto rfl ?_
    refine q_ret rfl rfl ⟨rfl, rfl, eW, _, w53, rX_at hX hH hx hs0 ?_⟩
    unfold rp
    rw [at_0, if_neg (by omega), if_pos rfl]
set_option maxHeartbeats 8000000 in
theorem l_step (hW : WFP P) (hn : 82 ≤ n) (hb : b ≤ 3) (hR : JR b P S) (t52 : S 52 = .inl (0, 20, .inl nw)) (hN : ∀ i, i < 20 → nw i = ra P D i) (t53 : S 53 = .inl (0, 20, .inl nx)) (hD : WFD P pic D) (hp5 : pic < 5) (hx : x < pH P) (ha : ableP P pic D x) : PM (j_SL L) (j_SV xs) j_EX mm_X12_stepBy [.ref 46, .int (nI x), .int (nI pic)] S n (stK P (mkD pic (aftD P pic D x) x) S n) := by
  have ho := ha.1
  have hH := hW.2.1
  have hR0 := hR
  obtain ⟨fs, mn, fk, fa, fn, vl, k46, f1, f2, f3, f4, f5, f6, f7, f8, f9, f10, k47, k48, k49, k50, k51, hmn, hpr, hvl⟩ := hR
  have hl8 := hW.2.2.1 x hx
  have hw := hD.1 x hx
  have hlt : D (4 * x) < pL P x := by unfold ovr at ho; omega
  have hwA := wf_aft hW hD hx ha
  have hU0 : ∀ k, k ≠ 53 → S k = S k := fun _ _ => rfl
  change PQ (j_SL L) (j_SV xs) j_EX mm_X12_stepBy 0 [.ref 46, .int (nI x), .int (nI pic), pm_un, pm_un, pm_un] [] S n 0 0 _
  have fin : ∀ (V : Nat → pm_E) (nx' : Nat → Int32), (∀ k, k ≠ 53 → V k = S k) → V 53 = .inl (0, 20, .inl nx') → rX P (aftD P pic D x) nx' (nI (if pic = 1 ∨ pic = 2 then x + 1 else 0)) → (stK P (mkD pic (aftD P pic D x) x) S n) none V n := by
    intro V nx' hV v53 hX
    refine ⟨rfl, rfl, hV, nx', v53, fun i hi => ?_⟩
    have h19 := hwA.2.2.2.2.2.1
    unfold mkD
    by_cases c : pic = 1 ∨ pic = 2
    · rw [if_pos c]
      by_cases e : i = 19
      · rw [e, hX.2, if_pos c, ra_k (by decide), e_up_at]
      · rw [hX.1 i (by omega)]
        exact (ra_cg (e_up_ot e) (fun q1 q2 => rp_cg (e_up_ot (by omega)))).symm
    · rw [if_neg c]
      by_cases e : i = 19
      · rw [e, hX.2, if_neg c, ra_k (by decide), h19 c]
      · exact hX.1 i (by omega)
  have s467 : ∀ (V : Nat → pm_E) (nxV : Nat → Int32) (D1 : Nat → Nat), (∀ k, k ≠ 53 → V k = S k) → V 53 = .inl (0, 20, .inl nxV) → rX P D1 nxV (nI (if pic = 1 ∨ pic = 2 then x + 1 else 0)) → D1 (4 * x + 3) = 0 → D1 (4 * x) = D (4 * x) → aftD P pic D x = passD D1 x → ∀ w : Value, PQ (j_SL L) (j_SV xs) j_EX mm_X12_stepBy 467 [.ref 46, .int (nI x), .int (nI pic), .int (nI (8 * (b + x) + D (4 * x))), .int (nI (D (4 * x) + 1)), w] [] V n 0 0 (stK P (mkD pic (aftD P pic D x) x) S n) := by
    intro V nxV D1 hV v53 hX1 h3 h0 hA w
    refine q_aload_n rfl rfl rfl ?_
    refine q_iload_n rfl rfl rfl ?_
    refine q_iload rfl rfl rfl ?_
    refine q_cV rfl rfl (Or.inl rfl) rfl rfl rfl rfl (by omega) ((hV 46 (by decide)).trans k46) trivial rfl rfl rfl rfl rfl (l_goto hW hn hb (JR_53 hR0 hV) v53 hx (show D (4 * x) + 1 < 100 by omega)) ?_
    rintro r W m9 ⟨rfl, rfl, eW, w53⟩
    show PQ (j_SL L) (j_SV xs) j_EX mm_X12_stepBy 474 _ [] W n 0 0 _
    refine q_ret rfl rfl (fin W _ (fun k hk => (eW k hk).trans (hV k hk)) w53 ?_)
    have hq3 := rX_ps hX1 hW hx h3 (by rw [h0]; exact hlt)
    rw [h0] at hq3
    rw [hA]
    exact hq3
  have main : ∀ (U : Nat → pm_E) (nxU : Nat → Int32) (w5 : Value), (∀ k, k ≠ 53 → U k = S k) → U 53 = .inl (0, 20, .inl nxU) → rX P D nxU (nI (if pic = 1 ∨ pic = 2 then x + 1 else 0)) → PQ (j_SL L) (j_SV xs) j_EX mm_X12_stepBy 74 [.ref 46, .int (nI x), .int (nI pic), .int (nI (8 * (b + x) + D (4 * x))), .int (nI (D (4 * x) + 1)), w5] [.int (nI (kA P D x))] U n 0 0 (stK P (mkD pic (aftD P pic D x) x) S n) := by
    intro U nxU w5 hU u53 hX
    have hRU := JR_53 hR0 hU
    have u52 := (hU 52 (by decide)).trans t52
    have hk12 := wfp_k hW hx ho
    generalize hk : kA P D x = kk at hk12
    match kk, hk12 with
    | 0, _ =>
      refine q_switch (q := 140) rfl rfl ?_
      obtain ⟨q4, eq⟩ := wfp_o hW hx ho (by unfold hasP; omega)
      have hpl := hD.2.2.1 _ q4
      obtain ⟨n9, en⟩ := wfp_n hW hx ho (by unfold hasN; omega)
      have hs0 := wf_s0 hD hx (by omega)
      refine q_aload_n rfl rfl rfl ?_
      refine q_getf rfl rfl (by omega) ((hU 46 (by decide)).trans k46) f9 ?_
      refine q_bipush rfl rfl ?_
      refine q_aload_n rfl rfl rfl ?_
      refine q_getf rfl rfl (by omega) ((hU 46 (by decide)).trans k46) f4 ?_
      refine q_iload_n rfl rfl rfl ?_
      refine q_iald rfl rfl (by omega) ((hU 49 (by decide)).trans k49) (q_inN (by omega) (by decide)) (q_tn (z := nI (oA P D x)) (by rw [nI_clamp (by omega)]; exact (hpr x _ hx hlt).2.1.trans eq) ?_)
      refine q_iadd rfl rfl (q_tn (z := nI (12 + oA P D x)) (nI_add 12 _) ?_)
      refine q_aload_n rfl rfl rfl ?_
      refine q_getf rfl rfl (by omega) ((hU 46 (by decide)).trans k46) f5 ?_
      refine q_iload_n rfl rfl rfl ?_
      refine q_iald rfl rfl (by omega) ((hU 50 (by decide)).trans k50) (q_inN (by omega) (by decide)) (q_tn (z := nI (nA P D x)) (by rw [nI_clamp (by omega)]; exact (hpr x _ hx hlt).2.2.trans en) ?_)
      refine q_iast rfl rfl (by omega) u53 (q_inN (by omega) (by decide)) ?_
      rw [nI_clamp (by omega)]
      have hX2 := rX_up (i := 12 + oA P D x) (v := nA P D x) hX (by omega) (by omega)
      refine q_goto rfl ?_
      exact s467 _ _ (e_up D (12 + oA P D x) (nA P D x)) (fun k hk => (u_ne hk).trans (hU k hk)) u_eq hX2 ((e_up_ot (by omega)).trans hs0) (e_up_ot (by omega)) (aft_0 hk) _
    | 1, _ =>
      refine q_switch (q := 163) rfl rfl ?_
      obtain ⟨q4, eq⟩ := wfp_o hW hx ho (by unfold hasP; omega)
      have hpl := hD.2.2.1 _ q4
      have hs0 := wf_s0 hD hx (by omega)
      refine q_aload_n rfl rfl rfl ?_
      refine q_getf rfl rfl (by omega) ((hU 46 (by decide)).trans k46) f9 ?_
      refine q_iconst rfl rfl ?_
      refine q_iload_n rfl rfl rfl ?_
      refine q_imul rfl rfl (q_tn (z := nI (4 * x)) (by rw [show (4 : Int32) = nI 4 from rfl, pk_mul]) ?_)
      refine q_iconst rfl rfl ?_
      refine q_iadd rfl rfl (q_tn (z := nI (4 * x + 1)) (nI_add _ 1) ?_)
      refine q_aload_n rfl rfl rfl ?_
      refine q_getf rfl rfl (by omega) ((hU 46 (by decide)).trans k46) f8 ?_
      refine q_bipush rfl rfl ?_
      refine q_aload_n rfl rfl rfl ?_
      refine q_getf rfl rfl (by omega) ((hU 46 (by decide)).trans k46) f4 ?_
      refine q_iload_n rfl rfl rfl ?_
      refine q_iald rfl rfl (by omega) ((hU 49 (by decide)).trans k49) (q_inN (by omega) (by decide)) (q_tn (z := nI (oA P D x)) (by rw [nI_clamp (by omega)]; exact (hpr x _ hx hlt).2.1.trans eq) ?_)
      refine q_iadd rfl rfl (q_tn (z := nI (12 + oA P D x)) (nI_add 12 _) ?_)
      refine q_iald rfl rfl (by omega) ((hU 52 (by decide)).trans t52) (q_inN (by omega) (by decide)) (q_tn (z := nI (D (12 + oA P D x))) (by rw [nI_clamp (by omega), hN _ (by omega)]; exact ra_h hH (by omega)) ?_)
      refine q_iast rfl rfl (by omega) u53 (q_inN (by omega) (by decide)) ?_
      rw [nI_clamp (by omega)]
      have hX2 := rX_up (i := 4 * x + 1) (v := D (12 + oA P D x)) hX (by omega) (by omega)
      refine q_goto rfl ?_
      exact s467 _ _ (e_up D (4 * x + 1) (D (12 + oA P D x))) (fun k hk => (u_ne hk).trans (hU k hk)) u_eq hX2 ((e_up_ot (by omega)).trans hs0) (e_up_ot (by omega)) (aft_1 hk) _
    | 2, _ =>
      refine q_switch (q := 190) rfl rfl ?_
      obtain ⟨q4, eq⟩ := wfp_o hW hx ho (by unfold hasP; omega)
      have hpl := hD.2.2.1 _ q4
      have hs0 := wf_s0 hD hx (by omega)
      refine q_aload_n rfl rfl rfl ?_
      refine q_getf rfl rfl (by omega) ((hU 46 (by decide)).trans k46) f9 ?_
      refine q_bipush rfl rfl ?_
      refine q_aload_n rfl rfl rfl ?_
      refine q_getf rfl rfl (by omega) ((hU 46 (by decide)).trans k46) f4 ?_
      refine q_iload_n rfl rfl rfl ?_
      refine q_iald rfl rfl (by omega) ((hU 49 (by decide)).trans k49) (q_inN (by omega) (by decide)) (q_tn (z := nI (oA P D x)) (by rw [nI_clamp (by omega)]; exact (hpr x _ hx hlt).2.1.trans eq) ?_)
      refine q_iadd rfl rfl (q_tn (z := nI (12 + oA P D x)) (nI_add 12 _) ?_)
      refine q_aload_n rfl rfl rfl ?_
      refine q_getf rfl rfl (by omega) ((hU 46 (by decide)).trans k46) f8 ?_
      refine q_iconst rfl rfl ?_
      refine q_iload_n rfl rfl rfl ?_
      refine q_imul rfl rfl (q_tn (z := nI (4 * x)) (by rw [show (4 : Int32) = nI 4 from rfl, pk_mul]) ?_)
      refine q_iconst rfl rfl ?_
      refine q_iadd rfl rfl (q_tn (z := nI (4 * x + 1)) (nI_add _ 1) ?_)
      refine q_iald rfl rfl (by omega) ((hU 52 (by decide)).trans t52) (q_inN (by omega) (by decide)) (q_tn (z := nI (D (4 * x + 1))) (by rw [nI_clamp (by omega), hN _ (by omega)]; exact ra_k (by omega)) ?_)
      refine q_iast rfl rfl (by omega) u53 (q_inN (by omega) (by decide)) ?_
      rw [nI_clamp (by omega)]
      have hX2 := rX_up (i := 12 + oA P D x) (v := D (4 * x + 1)) hX (by omega) (by omega)
      refine q_goto rfl ?_
      exact s467 _ _ (e_up D (12 + oA P D x) (D (4 * x + 1))) (fun k hk => (u_ne hk).trans (hU k hk)) u_eq hX2 ((e_up_ot (by omega)).trans hs0) (e_up_ot (by omega)) (aft_2 hk) _
    | 3, _ =>
      refine q_switch (q := 217) rfl rfl ?_
      obtain ⟨n9, en⟩ := wfp_n hW hx ho (by unfold hasN; omega)
      have hr9 := hw.2.1
      have hs0 := wf_s0 hD hx (by omega)
      refine q_aload_n rfl rfl rfl ?_
      refine q_getf rfl rfl (by omega) ((hU 46 (by decide)).trans k46) f9 ?_
      refine q_iconst rfl rfl ?_
      refine q_iload_n rfl rfl rfl ?_
      refine q_imul rfl rfl (q_tn (z := nI (4 * x)) (by rw [show (4 : Int32) = nI 4 from rfl, pk_mul]) ?_)
      refine q_iconst rfl rfl ?_
      refine q_iadd rfl rfl (q_tn (z := nI (4 * x + 1)) (nI_add _ 1) ?_)
      refine q_aload_n rfl rfl rfl ?_
      refine q_getf rfl rfl (by omega) ((hU 46 (by decide)).trans k46) f8 ?_
      refine q_iconst rfl rfl ?_
      refine q_iload_n rfl rfl rfl ?_
      refine q_imul rfl rfl (q_tn (z := nI (4 * x)) (by rw [show (4 : Int32) = nI 4 from rfl, pk_mul]) ?_)
      refine q_iconst rfl rfl ?_
      refine q_iadd rfl rfl (q_tn (z := nI (4 * x + 1)) (nI_add _ 1) ?_)
      refine q_iald rfl rfl (by omega) ((hU 52 (by decide)).trans t52) (q_inN (by omega) (by decide)) (q_tn (z := nI (D (4 * x + 1))) (by rw [nI_clamp (by omega), hN _ (by omega)]; exact ra_k (by omega)) ?_)
      refine q_aload_n rfl rfl rfl ?_
      refine q_getf rfl rfl (by omega) ((hU 46 (by decide)).trans k46) f5 ?_
      refine q_iload_n rfl rfl rfl ?_
      refine q_iald rfl rfl (by omega) ((hU 50 (by decide)).trans k50) (q_inN (by omega) (by decide)) (q_tn (z := nI (nA P D x)) (by rw [nI_clamp (by omega)]; exact (hpr x _ hx hlt).2.2.trans en) ?_)
      refine q_iadd rfl rfl ?_
      refine q_bipush rfl rfl ?_
      refine q_irem rfl rfl (by decide) (q_tn (z := nI ((D (4 * x + 1) + nA P D x) % 10)) (irem10 (by omega) (by omega)) ?_)
      refine q_iast rfl rfl (by omega) u53 (q_inN (by omega) (by decide)) ?_
      rw [nI_clamp (by omega)]
      have hX2 := rX_up (i := 4 * x + 1) (v := (D (4 * x + 1) + nA P D x) % 10) hX (by omega) (by omega)
      refine q_goto rfl ?_
      exact s467 _ _ (e_up D (4 * x + 1) ((D (4 * x + 1) + nA P D x) % 10)) (fun k hk => (u_ne hk).trans (hU k hk)) u_eq hX2 ((e_up_ot (by omega)).trans hs0) (e_up_ot (by omega)) (aft_3 hk) _
    | 4, _ =>
      refine q_switch (q := 250) rfl rfl ?_
      obtain ⟨n9, en⟩ := wfp_j hW hx ho hk
      have hr9 := hw.2.1
      have hs0 := wf_s0 hD hx (by omega)
      refine q_aload_n rfl rfl rfl ?_
      refine q_getf rfl rfl (by omega) ((hU 46 (by decide)).trans k46) f8 ?_
      refine q_iconst rfl rfl ?_
      refine q_iload_n rfl rfl rfl ?_
      refine q_imul rfl rfl (q_tn (z := nI (4 * x)) (by rw [show (4 : Int32) = nI 4 from rfl, pk_mul]) ?_)
      refine q_iconst rfl rfl ?_
      refine q_iadd rfl rfl (q_tn (z := nI (4 * x + 1)) (nI_add _ 1) ?_)
      refine q_iald rfl rfl (by omega) ((hU 52 (by decide)).trans t52) (q_inN (by omega) (by decide)) (q_tn (z := nI (D (4 * x + 1))) (by rw [nI_clamp (by omega), hN _ (by omega)]; exact ra_k (by omega)) ?_)
      refine q_ifne rfl rfl (fun h => ?_) (fun h => ?_)
      · have h0 := (m_eq (b := 0) (by omega) (by omega)).mp h
        refine q_aload_n rfl rfl rfl ?_
        refine q_getf rfl rfl (by omega) ((hU 46 (by decide)).trans k46) f5 ?_
        refine q_iload_n rfl rfl rfl ?_
        refine q_iald rfl rfl (by omega) ((hU 50 (by decide)).trans k50) (q_inN (by omega) (by decide)) (q_tn (z := nI (nA P D x)) (by rw [nI_clamp (by omega)]; exact (hpr x _ hx hlt).2.2.trans en) ?_)
        refine q_goto rfl ?_
        refine q_ist4 rfl rfl rfl rfl ?_
        refine q_goto rfl ?_
        refine q_aload_n rfl rfl rfl ?_
        refine q_iload_n rfl rfl rfl ?_
        refine q_iload rfl rfl rfl ?_
        refine q_cV rfl rfl (Or.inl rfl) rfl rfl rfl rfl (by omega) ((hU 46 (by decide)).trans k46) trivial rfl rfl rfl rfl rfl (l_goto hW hn hb hRU u53 hx (show nA P D x < 100 by omega)) ?_
        rintro r W m9 ⟨rfl, rfl, eW, w53⟩
        show PQ (j_SL L) (j_SV xs) j_EX mm_X12_stepBy 474 _ [] W n 0 0 _
        refine q_ret rfl rfl (fin W _ (fun k hk => (eW k hk).trans (hU k hk)) w53 ?_)
        rw [aft_4 hk, if_pos h0]
        exact rX_gt hX hW hx hs0
      · have h0 : ¬ D (4 * x + 1) = 0 := fun e => h (by rw [e]; rfl)
        refine q_iload rfl rfl rfl ?_
        refine q_ist4 rfl rfl rfl rfl ?_
        refine q_goto rfl ?_
        exact s467 U _ D hU u53 hX hs0 rfl (by rw [aft_4 hk, if_neg h0]) _
    | 5, _ =>
      refine q_switch (q := 467) rfl rfl ?_
      exact s467 U _ D hU u53 hX (wf_s0 hD hx (by omega)) rfl (aft_5 hk) _
    | 6, _ =>
      refine q_switch (q := 398) rfl rfl ?_
      refine q_aload_n rfl rfl rfl ?_
      refine q_iload_n rfl rfl rfl ?_
      refine q_iload_n rfl rfl rfl ?_
      refine q_iload_n rfl rfl rfl ?_
      refine q_iconst rfl rfl ?_
      have go : ∀ wh : Int32, ((wh = 1 ∧ pic = 3) ∨ (wh = 0 ∧ ¬ pic = 3)) → PQ (j_SL L) (j_SV xs) j_EX mm_X12_stepBy 411 [.ref 46, .int (nI x), .int (nI pic), .int (nI (8 * (b + x) + D (4 * x))), .int (nI (D (4 * x) + 1)), w5] [.int wh, .int (nI (8 * (b + x) + D (4 * x))), .int (nI x), .ref 46] U n 0 0 (stK P (mkD pic (aftD P pic D x) x) S n) := by
        intro wh hwh
        refine q_cV rfl rfl (Or.inl rfl) rfl rfl rfl rfl (by omega) ((hU 46 (by decide)).trans k46) trivial rfl rfl rfl rfl rfl (l_long hW hn hb hRU u52 hN u53 hX hD hx ho hk hwh) ?_
        rintro r W m9 ⟨rfl, rfl, eW, nx', w53, hX'⟩
        show PQ (j_SL L) (j_SV xs) j_EX mm_X12_stepBy 414 _ [] W n 0 0 _
        exact q_ret rfl rfl (fin W _ (fun k hk => (eW k hk).trans (hU k hk)) w53 hX')
      refine q_icne rfl rfl (fun h => ?_) (fun h => ?_)
      · refine q_iconst rfl rfl ?_
        refine q_goto rfl ?_
        exact go 1 (Or.inl ⟨rfl, (m_eq (b := 3) (by omega) (by omega)).mp h⟩)
      · refine q_iconst rfl rfl ?_
        exact go 0 (Or.inr ⟨rfl, fun e => h (by rw [e]; rfl)⟩)
    | 7, _ =>
      refine q_switch (q := 279) rfl rfl ?_
      obtain ⟨q4, eq⟩ := wfp_o hW hx ho (by unfold hasP; omega)
      have hpl := hD.2.2.1 _ q4
      have hs0 := wf_s0 hD hx (by omega)
      refine q_aload_n rfl rfl rfl ?_
      refine q_getf rfl rfl (by omega) ((hU 46 (by decide)).trans k46) f9 ?_
      refine q_iconst rfl rfl ?_
      refine q_iload_n rfl rfl rfl ?_
      refine q_imul rfl rfl (q_tn (z := nI (4 * x)) (by rw [show (4 : Int32) = nI 4 from rfl, pk_mul]) ?_)
      refine q_iconst rfl rfl ?_
      refine q_iadd rfl rfl (q_tn (z := nI (4 * x + 1)) (nI_add _ 1) ?_)
      refine q_aload_n rfl rfl rfl ?_
      refine q_getf rfl rfl (by omega) ((hU 46 (by decide)).trans k46) f8 ?_
      refine q_bipush rfl rfl ?_
      refine q_aload_n rfl rfl rfl ?_
      refine q_getf rfl rfl (by omega) ((hU 46 (by decide)).trans k46) f4 ?_
      refine q_iload_n rfl rfl rfl ?_
      refine q_iald rfl rfl (by omega) ((hU 49 (by decide)).trans k49) (q_inN (by omega) (by decide)) (q_tn (z := nI (oA P D x)) (by rw [nI_clamp (by omega)]; exact (hpr x _ hx hlt).2.1.trans eq) ?_)
      refine q_iadd rfl rfl (q_tn (z := nI (12 + oA P D x)) (nI_add 12 _) ?_)
      refine q_iald rfl rfl (by omega) ((hU 52 (by decide)).trans t52) (q_inN (by omega) (by decide)) (q_tn (z := nI (D (12 + oA P D x))) (by rw [nI_clamp (by omega), hN _ (by omega)]; exact ra_h hH (by omega)) ?_)
      refine q_iast rfl rfl (by omega) u53 (q_inN (by omega) (by decide)) ?_
      rw [nI_clamp (by omega)]
      have hX1 := rX_up (i := 4 * x + 1) (v := D (12 + oA P D x)) hX (by omega) (by omega)
      refine q_aload_n rfl rfl rfl ?_
      refine q_getf rfl rfl (by omega) ((u_ne (by decide)).trans ((hU 46 (by decide)).trans k46)) f9 ?_
      refine q_bipush rfl rfl ?_
      refine q_aload_n rfl rfl rfl ?_
      refine q_getf rfl rfl (by omega) ((u_ne (by decide)).trans ((hU 46 (by decide)).trans k46)) f4 ?_
      refine q_iload_n rfl rfl rfl ?_
      refine q_iald rfl rfl (by omega) ((u_ne (by decide)).trans ((hU 49 (by decide)).trans k49)) (q_inN (by omega) (by decide)) (q_tn (z := nI (oA P D x)) (by rw [nI_clamp (by omega)]; exact (hpr x _ hx hlt).2.1.trans eq) ?_)
      refine q_iadd rfl rfl (q_tn (z := nI (12 + oA P D x)) (nI_add 12 _) ?_)
      refine q_iconst rfl rfl ?_
      refine q_iast rfl rfl (by omega) u_eq (q_inN (by omega) (by decide)) ?_
      rw [nI_clamp (by omega)]
      have hX2 := rX_up (i := 12 + oA P D x) (v := 1) hX1 (by omega) (by omega)
      refine q_goto rfl ?_
      exact s467 _ _ (e_up (e_up D (4 * x + 1) (D (12 + oA P D x))) (12 + oA P D x) 1) (fun k hk => (u_ne hk).trans ((u_ne hk).trans (hU k hk))) u_eq hX2 (by rw [e_up_ot (by omega), e_up_ot (by omega)]; exact hs0) (by rw [e_up_ot (by omega), e_up_ot (by omega)]) (aft_7 hk) _
    | 8, _ =>
      refine q_switch (q := 321) rfl rfl ?_
      obtain ⟨q3, eq⟩ := wfp_l hW hx ho (by unfold hasL; omega)
      have how := hD.2.2.2.1 _ q3
      have hs0 := wf_s0 hD hx (by omega)
      refine q_aload_n rfl rfl rfl ?_
      refine q_getf rfl rfl (by omega) ((hU 46 (by decide)).trans k46) f9 ?_
      refine q_bipush rfl rfl ?_
      refine q_aload_n rfl rfl rfl ?_
      refine q_getf rfl rfl (by omega) ((hU 46 (by decide)).trans k46) f4 ?_
      refine q_iload_n rfl rfl rfl ?_
      refine q_iald rfl rfl (by omega) ((hU 49 (by decide)).trans k49) (q_inN (by omega) (by decide)) (q_tn (z := nI (oA P D x)) (by rw [nI_clamp (by omega)]; exact (hpr x _ hx hlt).2.1.trans eq) ?_)
      refine q_iadd rfl rfl (q_tn (z := nI (16 + oA P D x)) (nI_add 16 _) ?_)
      refine q_iload_n rfl rfl rfl ?_
      refine q_iconst rfl rfl ?_
      refine q_iadd rfl rfl (q_tn (z := nI (x + 1)) (nI_add _ 1) ?_)
      refine q_iast rfl rfl (by omega) u53 (q_inN (by omega) (by decide)) ?_
      rw [nI_clamp (by omega)]
      have hX2 := rX_up (i := 16 + oA P D x) (v := x + 1) hX (by omega) (by omega)
      refine q_goto rfl ?_
      exact s467 _ _ (e_up D (16 + oA P D x) (x + 1)) (fun k hk => (u_ne hk).trans (hU k hk)) u_eq hX2 ((e_up_ot (by omega)).trans hs0) (e_up_ot (by omega)) (aft_8 hk) _
    | 9, _ =>
      refine q_switch (q := 341) rfl rfl ?_
      obtain ⟨q3, eq⟩ := wfp_l hW hx ho (by unfold hasL; omega)
      have how := hD.2.2.2.1 _ q3
      have hs0 := wf_s0 hD hx (by omega)
      refine q_aload_n rfl rfl rfl ?_
      refine q_getf rfl rfl (by omega) ((hU 46 (by decide)).trans k46) f8 ?_
      refine q_bipush rfl rfl ?_
      refine q_aload_n rfl rfl rfl ?_
      refine q_getf rfl rfl (by omega) ((hU 46 (by decide)).trans k46) f4 ?_
      refine q_iload_n rfl rfl rfl ?_
      refine q_iald rfl rfl (by omega) ((hU 49 (by decide)).trans k49) (q_inN (by omega) (by decide)) (q_tn (z := nI (oA P D x)) (by rw [nI_clamp (by omega)]; exact (hpr x _ hx hlt).2.1.trans eq) ?_)
      refine q_iadd rfl rfl (q_tn (z := nI (16 + oA P D x)) (nI_add 16 _) ?_)
      refine q_iald rfl rfl (by omega) ((hU 52 (by decide)).trans t52) (q_inN (by omega) (by decide)) (q_tn (z := nI (D (16 + oA P D x))) (by rw [nI_clamp (by omega), hN _ (by omega)]; exact ra_h hH (by omega)) ?_)
      refine q_iload_n rfl rfl rfl ?_
      refine q_iconst rfl rfl ?_
      refine q_iadd rfl rfl (q_tn (z := nI (x + 1)) (nI_add _ 1) ?_)
      refine q_iceq rfl rfl (fun h => ?_) (fun h => ?_)
      · have h2 := (m_eq (by omega) (by omega)).mp h
        refine q_aload_n rfl rfl rfl ?_
        refine q_getf rfl rfl (by omega) ((hU 46 (by decide)).trans k46) f9 ?_
        refine q_bipush rfl rfl ?_
        refine q_aload_n rfl rfl rfl ?_
        refine q_getf rfl rfl (by omega) ((hU 46 (by decide)).trans k46) f4 ?_
        refine q_iload_n rfl rfl rfl ?_
        refine q_iald rfl rfl (by omega) ((hU 49 (by decide)).trans k49) (q_inN (by omega) (by decide)) (q_tn (z := nI (oA P D x)) (by rw [nI_clamp (by omega)]; exact (hpr x _ hx hlt).2.1.trans eq) ?_)
        refine q_iadd rfl rfl (q_tn (z := nI (16 + oA P D x)) (nI_add 16 _) ?_)
        refine q_iconst rfl rfl ?_
        refine q_iast rfl rfl (by omega) u53 (q_inN (by omega) (by decide)) ?_
        rw [nI_clamp (by omega)]
        have hX2 := rX_up (i := 16 + oA P D x) (v := 0) hX (by omega) (by omega)
        refine q_goto rfl ?_
        exact s467 _ _ (e_up D (16 + oA P D x) 0) (fun k hk => (u_ne hk).trans (hU k hk)) u_eq hX2 ((e_up_ot (by omega)).trans hs0) (e_up_ot (by omega)) (by rw [aft_9 hk, if_pos h2]) _
      · have h2 : ¬ D (16 + oA P D x) = x + 1 := fun e => h (by rw [e])
        refine q_aload_n rfl rfl rfl ?_
        refine q_iload_n rfl rfl rfl ?_
        refine q_cV rfl rfl (Or.inl rfl) rfl rfl rfl rfl (by omega) ((hU 46 (by decide)).trans k46) trivial rfl rfl rfl rfl rfl (l_fail hW hn hb hRU u53 hx) ?_
        rintro r W m9 ⟨rfl, rfl, eW, w53⟩
        show PQ (j_SL L) (j_SV xs) j_EX mm_X12_stepBy 366 _ [] W n 0 0 _
        refine q_ret rfl rfl (fin W _ (fun k hk => (eW k hk).trans (hU k hk)) w53 ?_)
        rw [aft_9 hk, if_neg h2]
        refine rX_at hX hH hx hs0 ?_
        unfold rp
        rw [at_0, if_neg (by omega), if_pos rfl]
    | 10, _ =>
      refine q_switch (q := 415) rfl rfl ?_
      refine q_aload_n rfl rfl rfl ?_
      refine q_iload_n rfl rfl rfl ?_
      refine q_iload_n rfl rfl rfl ?_
      refine q_cV rfl rfl (Or.inl rfl) rfl rfl rfl rfl (by omega) ((hU 46 (by decide)).trans k46) trivial rfl rfl rfl rfl rfl (l_wait hW hn hb hRU u52 hN u53 hX hD hx ho hk) ?_
      rintro r W m9 ⟨rfl, rfl, eW, nx', w53, hX'⟩
      show PQ (j_SL L) (j_SV xs) j_EX mm_X12_stepBy 421 _ [] W n 0 0 _
      exact q_ret rfl rfl (fin W _ (fun k hk => (eW k hk).trans (hU k hk)) w53 hX')
    | 11, _ =>
      refine q_switch (q := 385) rfl rfl ?_
      obtain ⟨q3, eq⟩ := wfp_l hW hx ho (by unfold hasL; omega)
      have how := hD.2.2.2.1 _ q3
      have hs0 := wf_s0 hD hx (by omega)
      refine q_aload_n rfl rfl rfl ?_
      refine q_aload_n rfl rfl rfl ?_
      refine q_getf rfl rfl (by omega) ((hU 46 (by decide)).trans k46) f4 ?_
      refine q_iload_n rfl rfl rfl ?_
      refine q_iald rfl rfl (by omega) ((hU 49 (by decide)).trans k49) (q_inN (by omega) (by decide)) (q_tn (z := nI (oA P D x)) (by rw [nI_clamp (by omega)]; exact (hpr x _ hx hlt).2.1.trans eq) ?_)
      refine q_cV rfl rfl (Or.inl rfl) rfl rfl rfl rfl (by omega) ((hU 46 (by decide)).trans k46) trivial rfl rfl rfl rfl rfl (l_call hW hn hb hRU u52 hN u53 hX hD q3) ?_
      rintro r W m9 ⟨rfl, rfl, eW, nx', w53, hX'⟩
      show PQ (j_SL L) (j_SV xs) j_EX mm_X12_stepBy 395 [.ref 46, .int (nI x), .int (nI pic), .int (nI (8 * (b + x) + D (4 * x))), .int (nI (D (4 * x) + 1)), w5] [] W n 0 0 _
      refine q_goto rfl ?_
      have c3 : calD P D (oA P D x) (4 * x + 3) = 0 := by
        rcases cal_cs (P := P) (D := D) (oA P D x) with e | ⟨o, h1, h2, -, e⟩
        · rw [e]
          exact hs0
        · rw [e]
          by_cases c : o = x
          · rw [c, hs0] at h2
            omega
          · rw [e_up_ot (by omega)]
            exact hs0
      exact s467 W _ (calD P D (oA P D x)) (fun k hk => (eW k hk).trans (hU k hk)) w53 hX' c3 (cal_ot (fun o _ => by omega)) (aft_11 hk) _
    | 12, _ =>
      refine q_switch (q := 422) rfl rfl ?_
      have hmt := ha.2.2.2.2 hk
      have key : ∀ q o : Nat, o + q = pH P → ∀ (V : Nat → pm_E) (nxV : Nat → Int32), (∀ k, k ≠ 53 → V k = S k) → V 53 = .inl (0, 20, .inl nxV) → rX P (metD P D o) nxV (nI (if pic = 1 ∨ pic = 2 then x + 1 else 0)) → PQ (j_SL L) (j_SV xs) j_EX mm_X12_stepBy 425 [.ref 46, .int (nI x), .int (nI pic), .int (nI (8 * (b + x) + D (4 * x))), .int (nI (D (4 * x) + 1)), .int (nI o)] [] V n 0 0 (stK P (mkD pic (aftD P pic D x) x) S n) := by
        intro q
        induction q with
        | zero =>
          intro o ho9 V nxV hV v53 hXV
          refine q_iload rfl rfl rfl ?_
          refine q_aload_n rfl rfl rfl ?_
          refine q_getf rfl rfl (by omega) ((hV 46 (by decide)).trans k46) f1 ?_
          refine q_icge rfl rfl (fun _ => ?_) (fun h => absurd ((m_le (by omega) (by omega)).mpr (by omega)) h)
          exact q_ret rfl rfl (fin V _ hV v53 (by rw [aft_12 hk, ← show o = pH P by omega]; exact hXV))
        | succ q ih =>
          intro o hoq V nxV hV v53 hXV
          have hoH : o < pH P := by omega
          have hl8o := hW.2.2.1 o hoH
          have v52 := (hV 52 (by decide)).trans t52
          refine q_iload rfl rfl rfl ?_
          refine q_aload_n rfl rfl rfl ?_
          refine q_getf rfl rfl (by omega) ((hV 46 (by decide)).trans k46) f1 ?_
          refine q_icge rfl rfl (fun h => absurd ((m_le (by omega) (by omega)).mp h) (by omega)) (fun _ => ?_)
          refine q_aload_n rfl rfl rfl ?_
          refine q_iload rfl rfl rfl ?_
          refine q_cV rfl rfl (Or.inl rfl) rfl rfl rfl rfl (by omega) ((hV 46 (by decide)).trans k46) trivial rfl rfl rfl rfl rfl (l_over hW hn hb (JR_53 hR0 hV) v52 hN hoH) ?_
          rintro r _ _ ⟨rfl, rfl, hr⟩
          rcases hr with ⟨hov, rfl⟩ | ⟨hov, rfl⟩
          · show PQ (j_SL L) (j_SV xs) j_EX mm_X12_stepBy 440 [.ref 46, .int (nI x), .int (nI pic), .int (nI (8 * (b + x) + D (4 * x))), .int (nI (D (4 * x) + 1)), .int (nI o)] [.int 1] V n 0 0 _
            refine q_ifne rfl rfl (fun h => absurd h (by decide)) (fun _ => ?_)
            refine q_inc5 rfl rfl rfl rfl ?_
            refine q_goto rfl ?_
            rw [show nI o + 1 = nI (o + 1) from nI_add o 1]
            refine ih (o + 1) (by omega) V nxV hV v53 ?_
            unfold metD
            rw [if_neg (fun h => ?_)]
            · exact hXV
            · have := (metB_ok.mp h).2.1
              unfold ovr at hov
              omega
          · show PQ (j_SL L) (j_SV xs) j_EX mm_X12_stepBy 440 [.ref 46, .int (nI x), .int (nI pic), .int (nI (8 * (b + x) + D (4 * x))), .int (nI (D (4 * x) + 1)), .int (nI o)] [.int 0] V n 0 0 _
            refine q_ifne rfl rfl (fun _ => ?_) (fun h => absurd rfl h)
            have hlo : D (4 * o) < pL P o := by unfold ovr at hov; omega
            have hko : kA P D o = 12 := by
              rcases hmt o hoH with h | h
              · exact absurd h hov
              · exact h
            have hso := wf_s0 hD hoH (by omega)
            refine q_aload_n rfl rfl rfl ?_
            refine q_iload rfl rfl rfl ?_
            refine q_aload_n rfl rfl rfl ?_
            refine q_getf rfl rfl (by omega) ((hV 46 (by decide)).trans k46) f8 ?_
            refine q_iconst rfl rfl ?_
            refine q_iload rfl rfl rfl ?_
            refine q_imul rfl rfl (q_tn (z := nI (4 * o)) (by rw [show (4 : Int32) = nI 4 from rfl, pk_mul]) ?_)
            refine q_iald rfl rfl (by omega) v52 (q_inN (by omega) (by decide)) (q_tn (z := nI (D (4 * o))) (by rw [nI_clamp (by omega), hN _ (by omega)]; exact (ra_0 hoH).trans (by rw [rp_lt hov])) ?_)
            refine q_iconst rfl rfl ?_
            refine q_iadd rfl rfl (q_tn (z := nI (D (4 * o) + 1)) (nI_add _ 1) ?_)
            refine q_cV rfl rfl (Or.inl rfl) rfl rfl rfl rfl (by omega) ((hV 46 (by decide)).trans k46) trivial rfl rfl rfl rfl rfl (l_goto hW hn hb (JR_53 hR0 hV) v53 hoH (show D (4 * o) + 1 < 100 by omega)) ?_
            rintro r W m9 ⟨rfl, rfl, eW, w53⟩
            show PQ (j_SL L) (j_SV xs) j_EX mm_X12_stepBy 460 [.ref 46, .int (nI x), .int (nI pic), .int (nI (8 * (b + x) + D (4 * x))), .int (nI (D (4 * x) + 1)), .int (nI o)] [] W n 0 0 _
            refine q_inc5 rfl rfl rfl rfl ?_
            refine q_goto rfl ?_
            rw [show nI o + 1 = nI (o + 1) from nI_add o 1]
            refine ih (o + 1) (by omega) W _ (fun k hk => (eW k hk).trans (hV k hk)) w53 ?_
            unfold metD
            rw [if_pos (metB_ok.mpr ⟨hoH, hlo, hko⟩)]
            have e0 : metD P D o (4 * o) = D (4 * o) := met_ot (Nat.le_refl _)
            have e3 : metD P D o (4 * o + 3) = 0 := (met_ot (by omega)).trans hso
            have hq3 := rX_ps hXV hW hoH e3 (by rw [e0]; exact hlo)
            rw [e0] at hq3
            exact hq3
      refine q_iconst rfl rfl ?_
      refine q_ist5 rfl rfl rfl rfl ?_
      exact key (pH P) 0 (by omega) U nxU hU u53 hX
    | kk + 13, h => omega
  have mid : ∀ (U : Nat → pm_E) (nxU : Nat → Int32) (w3 : Value), pm_c2 w3 = false → (∀ k, k ≠ 53 → U k = S k) → U 53 = .inl (0, 20, .inl nxU) → (∀ i, i < 20 → nxU i = nw i) → PQ (j_SL L) (j_SV xs) j_EX mm_X12_stepBy 26 [.ref 46, .int (nI x), .int (nI pic), w3, pm_un, pm_un] [] U n 0 0 (stK P (mkD pic (aftD P pic D x) x) S n) := by
    intro U nxU w3 hw3 hU u53 hnx
    have tl : ∀ v : Nat, v = (if pic = 1 ∨ pic = 2 then x + 1 else 0) → PQ (j_SL L) (j_SV xs) j_EX mm_X12_stepBy 49 [.ref 46, .int (nI x), .int (nI pic), w3, pm_un, pm_un] [.int (nI v), .int (nI 19), .ref 53] U n 0 0 (stK P (mkD pic (aftD P pic D x) x) S n) := by
      rintro v rfl
      refine q_iast rfl rfl (by omega) u53 (q_inN (by omega) (by decide)) ?_
      rw [nI_clamp (by omega)]
      have hV : ∀ k, k ≠ 53 → va_up U 53 (.inl (0, 20, .inl (upd nxU 19 (nI (if pic = 1 ∨ pic = 2 then x + 1 else 0))))) k = S k := fun k hk => (u_ne hk).trans (hU k hk)
      have v53 : va_up U 53 (.inl (0, 20, .inl (upd nxU 19 (nI (if pic = 1 ∨ pic = 2 then x + 1 else 0))))) 53 = .inl (0, 20, .inl (upd nxU 19 (nI (if pic = 1 ∨ pic = 2 then x + 1 else 0)))) := u_eq
      generalize va_up U 53 (.inl (0, 20, .inl (upd nxU 19 (nI (if pic = 1 ∨ pic = 2 then x + 1 else 0))))) = V at hV v53 ⊢
      have hXV : rX P D (upd nxU 19 (nI (if pic = 1 ∨ pic = 2 then x + 1 else 0))) (nI (if pic = 1 ∨ pic = 2 then x + 1 else 0)) := ⟨fun i hi => by rw [u32_ot (by omega), hnx i (by omega), hN i (by omega)], u32_at⟩
      refine q_aload_n rfl rfl rfl ?_
      refine q_iload_n rfl rfl rfl ?_
      refine q_cV rfl rfl (Or.inl rfl) rfl rfl rfl rfl (by omega) ((hV 46 (by decide)).trans k46) trivial rfl rfl rfl rfl rfl (l_at hW hn hb (JR_53 hR0 hV) ((hV 52 (by decide)).trans t52) hN hx ho) ?_
      rintro r _ _ ⟨rfl, rfl, rfl⟩
      show PQ (j_SL L) (j_SV xs) j_EX mm_X12_stepBy 55 [.ref 46, .int (nI x), .int (nI pic), w3, pm_un, pm_un] [.int (nI (8 * (b + x) + D (4 * x)))] V n 0 0 _
      refine q_ist3n rfl rfl rfl rfl ?_
      refine q_aload_n rfl rfl rfl ?_
      refine q_getf rfl rfl (by omega) ((hV 46 (by decide)).trans k46) f8 ?_
      refine q_iconst rfl rfl ?_
      refine q_iload_n rfl rfl rfl ?_
      refine q_imul rfl rfl (q_tn (z := nI (4 * x)) (by rw [show (4 : Int32) = nI 4 from rfl, pk_mul]) ?_)
      refine q_iald rfl rfl (by omega) ((hV 52 (by decide)).trans t52) (q_inN (by omega) (by decide)) (q_tn (z := nI (D (4 * x))) (by rw [nI_clamp (by omega), hN _ (by omega)]; exact (ra_0 hx).trans (by rw [rp_lt ho])) ?_)
      refine q_iconst rfl rfl ?_
      refine q_iadd rfl rfl (q_tn (z := nI (D (4 * x) + 1)) (nI_add _ 1) ?_)
      refine q_ist4 rfl rfl rfl rfl ?_
      refine q_aload_n rfl rfl rfl ?_
      refine q_getf rfl rfl (by omega) ((hV 46 (by decide)).trans k46) f3 ?_
      refine q_iload_n rfl rfl rfl ?_
      refine q_iald rfl rfl (by omega) ((hV 48 (by decide)).trans k48) (q_inN (by omega) (by decide)) (q_tn (z := nI (kA P D x)) (by rw [nI_clamp (by omega)]; exact (hpr x _ hx hlt).1) ?_)
      exact main V _ _ hV v53 hXV
    refine q_aload_n rfl rfl rfl ?_
    refine q_getf rfl rfl (by omega) ((hU 46 (by decide)).trans k46) f9 ?_
    refine q_bipush rfl rfl ?_
    refine q_iload_n rfl rfl rfl ?_
    refine q_iconst rfl rfl ?_
    have y : pic = 1 ∨ pic = 2 → PQ (j_SL L) (j_SV xs) j_EX mm_X12_stepBy 42 [.ref 46, .int (nI x), .int (nI pic), w3, pm_un, pm_un] [.int (nI 19), .ref 53] U n 0 0 (stK P (mkD pic (aftD P pic D x) x) S n) := by
      intro h
      refine q_iload_n rfl rfl rfl ?_
      refine q_iconst rfl rfl ?_
      refine q_iadd rfl rfl (q_tn (z := nI (x + 1)) (nI_add x 1) ?_)
      refine q_goto rfl ?_
      exact tl (x + 1) (by rw [if_pos h])
    refine q_iceq rfl rfl (fun h => y (Or.inl ((m_eq (b := 1) (by omega) (by omega)).mp h))) (fun h1 => ?_)
    refine q_iload_n rfl rfl rfl ?_
    refine q_iconst rfl rfl ?_
    refine q_icne rfl rfl (fun h => y (Or.inr ((m_eq (b := 2) (by omega) (by omega)).mp h))) (fun h2 => ?_)
    refine q_iconst rfl rfl ?_
    exact tl 0 (by rw [if_neg (fun h => h.elim (fun e => h1 (by rw [e]; rfl)) (fun e => h2 (by rw [e]; rfl)))])
  have loop : ∀ q k : Nat, k + q = 20 → ∀ (U : Nat → pm_E) (nxU : Nat → Int32), (∀ j, j ≠ 53 → U j = S j) → U 53 = .inl (0, 20, .inl nxU) → (∀ i, i < k → nxU i = nw i) → PQ (j_SL L) (j_SV xs) j_EX mm_X12_stepBy 2 [.ref 46, .int (nI x), .int (nI pic), .int (nI k), pm_un, pm_un] [] U n 0 0 (stK P (mkD pic (aftD P pic D x) x) S n) := by
    intro q
    induction q with
    | zero =>
      intro k hk U nxU hU u53 hnx
      have e : k = 20 := by omega
      subst e
      refine q_iload_n rfl rfl rfl ?_
      refine q_bipush rfl rfl ?_
      refine q_icge rfl rfl (fun _ => ?_) (fun h => absurd (by decide) h)
      exact mid U nxU _ rfl hU u53 hnx
    | succ q ih =>
      intro k hk U nxU hU u53 hnx
      have hk20 : k < 20 := by omega
      refine q_iload_n rfl rfl rfl ?_
      refine q_bipush rfl rfl ?_
      refine q_icge rfl rfl (fun h => absurd h (nI_ge (a := k) (b := 20) hk20 (by decide))) (fun _ => ?_)
      refine q_aload_n rfl rfl rfl ?_
      refine q_getf rfl rfl (by omega) ((hU 46 (by decide)).trans k46) f9 ?_
      refine q_iload_n rfl rfl rfl ?_
      refine q_aload_n rfl rfl rfl ?_
      refine q_getf rfl rfl (by omega) ((hU 46 (by decide)).trans k46) f8 ?_
      refine q_iload_n rfl rfl rfl ?_
      refine q_iald rfl rfl (by omega) ((hU 52 (by decide)).trans t52) (q_inN (by omega) (by decide)) (q_tn (z := nw k) (by rw [nI_clamp (by omega)]) ?_)
      refine q_iast rfl rfl (by omega) u53 (q_inN (by omega) (by decide)) ?_
      rw [nI_clamp (by omega)]
      refine q_inc3 rfl rfl rfl rfl ?_
      refine q_goto rfl ?_
      rw [show nI k + 1 = nI (k + 1) from nI_add k 1]
      refine ih (k + 1) (by omega) _ _ (fun j hj => (u_ne hj).trans (hU j hj)) u_eq (fun i hi => ?_)
      by_cases e : i = k
      · rw [e, u32_at]
      · rw [u32_ot e]
        exact hnx i (by omega)
  refine q_iconst rfl rfl ?_
  refine q_ist3n rfl rfl rfl rfl ?_
  exact loop 20 0 rfl S nx hU0 t53 (fun i h => absurd h (by omega))
end RU
