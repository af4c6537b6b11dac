/-! the reference: what a step leaves, by kinds -/
section RT
variable {L : Nat} {xs : Nat → Int32} {S : Nat → pm_E} {n b pic : Nat} {P : PG} {x : Nat} {D : Nat → Nat} {nw nx : Nat → Int32} {g : Int32}
def wsK (P : PG) (D' : Nat → Nat) (g : Int32) (S : Nat → pm_E) (n : Nat) : q_K := fun r S' n' => r = none ∧ n = n' ∧ (∀ k, k ≠ 53 → S' k = S k) ∧ ∃ nx', S' 53 = .inl (0, 20, .inl nx') ∧ rX P D' nx' g
theorem JR_53 {U : Nat → pm_E} (hR : JR b P S) (hU : ∀ k, k ≠ 53 → U k = S k) : JR b P U := JR_same hR (fun k h1 h2 => hU k (by omega))
theorem wf_s0 (hD : WFD P pic D) (hx : x < pH P) (hk : kA P D x ≠ 10) : D (4 * x + 3) = 0 := Classical.byContradiction (fun h => hk ((hD.1 x hx).2.2.2.2.1 h).2.1)
set_option maxHeartbeats 4000000 in
theorem l_long {wh : Int32} (hW : WFP P) (hn : 82 ≤ n) (hb : b ≤ 3) (hR : JR b P S) (t52 : S 52 = .inl (0, 20, .inl nw)) (hN : ∀ i, i < 20 → nw i = ra P D i) (t53 : S 53 = .inl (0, 20, .inl nx)) (hX : rX P D nx g) (hD : WFD P pic D) (hx : x < pH P) (ho : ¬ ovr P D x) (hk : kA P D x = 6) (hwh : (wh = 1 ∧ pic = 3) ∨ (wh = 0 ∧ ¬ pic = 3)) : PM (j_SL L) (j_SV xs) j_EX mm_X12_longStep [.ref 46, .int (nI x), .int (nI (8 * (b + x) + D (4 * x))), .int wh] S n (wsK P (aftD P pic D x) g S n) := by
  have hH := hW.2.1
  have hR0 := hR
  obtain ⟨fs, mn, fk, fa, fn, vl, k46, f1, f2, f3, f4, f5, f6, f7, f8, f9, f10, k47, k48, k49, k50, k51, hmn, hpr, hvl⟩ := hR
  have hl8 := hW.2.2.1 x hx
  have hw := hD.1 x hx
  have hlt : D (4 * x) < pL P x := by unfold ovr at ho; omega
  obtain ⟨q4, eq⟩ := wfp_o hW hx ho (by unfold hasP; omega)
  obtain ⟨n9, en⟩ := wfp_n hW hx ho (by unfold hasN; omega)
  have hpl := hD.2.2.1 _ q4
  have hs0 := wf_s0 hD hx (by omega)
  have hr9 := hw.2.1
  have hm2 := hw.2.2.1
  change PQ (j_SL L) (j_SV xs) j_EX mm_X12_longStep 0 [.ref 46, .int (nI x), .int (nI (8 * (b + x) + D (4 * x))), .int wh, pm_un] [] S n 0 0 _
  have b95 : ∀ (U : Nat → pm_E) (nxU : Nat → Int32) (D1 : Nat → Nat) (v : Nat), (∀ k, k ≠ 53 → U k = S k) → U 53 = .inl (0, 20, .inl nxU) → rX P D1 nxU g → D1 (4 * x) = D (4 * x) → D1 (4 * x + 3) = 0 → nxU (4 * x + 1) = nI v → PQ (j_SL L) (j_SV xs) j_EX mm_X12_longStep 95 [.ref 46, .int (nI x), .int (nI (8 * (b + x) + D (4 * x))), .int wh, .int (nI (D (4 * x + 2)))] [] U n 0 0 (wsK P (passD (e_up D1 (12 + oA P D x) v) x) g S n) := by
    intro U nxU D1 v hU u53 hX1 h10 h13 hv
    refine q_aload_n rfl rfl rfl ?_
    refine q_getf rfl rfl (by omega) ((hU 46 (by decide)).trans k46) f9 ?_
    refine q_bipush rfl rfl ?_
    refine q_aload_n rfl rfl rfl ?_
    refine q_getf rfl rfl (by omega) ((hU 46 (by decide)).trans k46) f4 ?_
    refine q_iload_n rfl rfl rfl ?_
    refine q_iald rfl rfl (by omega) ((hU 49 (by decide)).trans k49) (q_inN (by omega) (by decide)) (q_tn (z := nI (oA P D x)) (by rw [nI_clamp (by omega)]; exact (hpr x _ hx hlt).2.1.trans eq) ?_)
    refine q_iadd rfl rfl (q_tn (z := nI (12 + oA P D x)) (nI_add 12 _) ?_)
    refine q_aload_n rfl rfl rfl ?_
    refine q_getf rfl rfl (by omega) ((hU 46 (by decide)).trans k46) f9 ?_
    refine q_iconst rfl rfl ?_
    refine q_iload_n rfl rfl rfl ?_
    refine q_imul rfl rfl (q_tn (z := nI (4 * x)) (by rw [show (4 : Int32) = nI 4 from rfl, pk_mul]) ?_)
    refine q_iconst rfl rfl ?_
    refine q_iadd rfl rfl (q_tn (z := nI (4 * x + 1)) (nI_add _ 1) ?_)
    refine q_iald rfl rfl (by omega) u53 (q_inN (by omega) (by decide)) (q_tn (z := nI v) (by rw [nI_clamp (by omega)]; exact hv) ?_)
    refine q_iast rfl rfl (by omega) u53 (q_inN (by omega) (by decide)) ?_
    rw [nI_clamp (by omega)]
    have hV : ∀ k, k ≠ 53 → va_up U 53 (.inl (0, 20, .inl (upd nxU (12 + oA P D x) (nI v)))) k = S k := fun k hk => (u_ne hk).trans (hU k hk)
    have v53 : va_up U 53 (.inl (0, 20, .inl (upd nxU (12 + oA P D x) (nI v)))) 53 = .inl (0, 20, .inl (upd nxU (12 + oA P D x) (nI v))) := u_eq
    generalize va_up U 53 (.inl (0, 20, .inl (upd nxU (12 + oA P D x) (nI v)))) = V at hV v53 ⊢
    have hX2 := rX_up (i := 12 + oA P D x) (v := v) hX1 (by omega) (by omega)
    refine q_aload_n rfl rfl rfl ?_
    refine q_iload_n rfl rfl rfl ?_
    refine q_aload_n rfl rfl rfl ?_
    refine q_getf rfl rfl (by omega) ((hV 46 (by decide)).trans k46) f8 ?_
    refine q_iconst rfl rfl ?_
    refine q_iload_n rfl rfl rfl ?_
    refine q_imul rfl rfl (q_tn (z := nI (4 * x)) (by rw [show (4 : Int32) = nI 4 from rfl, pk_mul]) ?_)
    refine q_iald rfl rfl (by omega) ((hV 52 (by decide)).trans t52) (q_inN (by omega) (by decide)) (q_tn (z := nI (D (4 * x))) (by rw [nI_clamp (by omega), hN _ (by omega)]; exact (ra_0 hx).trans (by rw [rp_lt ho])) ?_)
    refine q_iconst rfl rfl ?_
    refine q_iadd rfl rfl (q_tn (z := nI (D (4 * x) + 1)) (nI_add _ 1) ?_)
    refine q_cV rfl rfl (Or.inl rfl) rfl rfl rfl rfl (by omega) ((hV 46 (by decide)).trans k46) trivial rfl rfl rfl rfl rfl (l_goto hW hn hb (JR_53 hR0 hV) v53 hx (show D (4 * x) + 1 < 100 by omega)) ?_
    rintro r W m9 ⟨rfl, rfl, eW, w53⟩
    show PQ (j_SL L) (j_SV xs) j_EX mm_X12_longStep 134 [.ref 46, .int (nI x), .int (nI (8 * (b + x) + D (4 * x))), .int wh, .int (nI (D (4 * x + 2)))] [] W n 0 0 _
    refine q_goto rfl ?_
    have hq0 : (e_up D1 (12 + oA P D x) v) (4 * x) = D (4 * x) := by rw [e_up_ot (by omega)]; exact h10
    have hq3 := rX_ps hX2 hW hx (by rw [e_up_ot (by omega)]; exact h13) (by rw [hq0]; exact hlt)
    rw [hq0] at hq3
    exact q_ret rfl rfl ⟨rfl, rfl, fun k hk => (eW k hk).trans (hV k hk), _, w53, hq3⟩
  have b137 : ∀ (U : Nat → pm_E) (nxU : Nat → Int32) (D1 : Nat → Nat), (∀ k, k ≠ 53 → U k = S k) → U 53 = .inl (0, 20, .inl nxU) → rX P D1 nxU g → PQ (j_SL L) (j_SV xs) j_EX mm_X12_longStep 137 [.ref 46, .int (nI x), .int (nI (8 * (b + x) + D (4 * x))), .int wh, .int (nI (D (4 * x + 2)))] [] U n 0 0 (wsK P (e_up D1 (4 * x + 2) (D (4 * x + 2) + 1)) g S n) := by
    intro U nxU D1 hU u53 hX1
    refine q_aload_n rfl rfl rfl ?_
    refine q_getf rfl rfl (by omega) ((hU 46 (by decide)).trans k46) f9 ?_
    refine q_iconst rfl rfl ?_
    refine q_iload_n rfl rfl rfl ?_
    refine q_imul rfl rfl (q_tn (z := nI (4 * x)) (by rw [show (4 : Int32) = nI 4 from rfl, pk_mul]) ?_)
    refine q_iconst rfl rfl ?_
    refine q_iadd rfl rfl (q_tn (z := nI (4 * x + 2)) (nI_add _ 2) ?_)
    refine q_iload rfl rfl rfl ?_
    refine q_iconst rfl rfl ?_
    refine q_iadd rfl rfl (q_tn (z := nI (D (4 * x + 2) + 1)) (nI_add _ 1) ?_)
    refine q_iast rfl rfl (by omega) u53 (q_inN (by omega) (by decide)) ?_
    rw [nI_clamp (by omega)]
    exact q_ret rfl rfl ⟨rfl, rfl, fun k hk => (u_ne hk).trans (hU k hk), _, u_eq, rX_up (i := 4 * x + 2) hX1 (by omega) (by omega)⟩
  have b55 : ∀ (U : Nat → pm_E) (nxU : Nat → Int32) (v : Nat) (K : q_K), v ≤ 9 → (∀ k, k ≠ 53 → U k = S k) → U 53 = .inl (0, 20, .inl nxU) → nxU (4 * x + 1) = nI v → (∀ V : Nat → pm_E, (∀ k, k ≠ 53 → V k = S k) → V 53 = .inl (0, 20, .inl (upd nxU (4 * x + 1) (nI ((v + nA P D x) % 10)))) → PQ (j_SL L) (j_SV xs) j_EX mm_X12_longStep 85 [.ref 46, .int (nI x), .int (nI (8 * (b + x) + D (4 * x))), .int wh, .int (nI (D (4 * x + 2)))] [] V n 0 0 K) → PQ (j_SL L) (j_SV xs) j_EX mm_X12_longStep 55 [.ref 46, .int (nI x), .int (nI (8 * (b + x) + D (4 * x))), .int wh, .int (nI (D (4 * x + 2)))] [] U n 0 0 K := by
    intro U nxU v K hv9 hU u53 hv kk
    refine q_aload_n rfl rfl rfl ?_
    refine q_getf rfl rfl (by omega) ((hU 46 (by decide)).trans k46) f9 ?_
    refine q_iconst rfl rfl ?_
    refine q_iload_n rfl rfl rfl ?_
    refine q_imul rfl rfl (q_tn (z := nI (4 * x)) (by rw [show (4 : Int32) = nI 4 from rfl, pk_mul]) ?_)
    refine q_iconst rfl rfl ?_
    refine q_iadd rfl rfl (q_tn (z := nI (4 * x + 1)) (nI_add _ 1) ?_)
    refine q_aload_n rfl rfl rfl ?_
    refine q_getf rfl rfl (by omega) ((hU 46 (by decide)).trans k46) f9 ?_
    refine q_iconst rfl rfl ?_
    refine q_iload_n rfl rfl rfl ?_
    refine q_imul rfl rfl (q_tn (z := nI (4 * x)) (by rw [show (4 : Int32) = nI 4 from rfl, pk_mul]) ?_)
    refine q_iconst rfl rfl ?_
    refine q_iadd rfl rfl (q_tn (z := nI (4 * x + 1)) (nI_add _ 1) ?_)
    refine q_iald rfl rfl (by omega) u53 (q_inN (by omega) (by decide)) (q_tn (z := nI v) (by rw [nI_clamp (by omega)]; exact hv) ?_)
    refine q_aload_n rfl rfl rfl ?_
    refine q_getf rfl rfl (by omega) ((hU 46 (by decide)).trans k46) f5 ?_
    refine q_iload_n rfl rfl rfl ?_
    refine q_iald rfl rfl (by omega) ((hU 50 (by decide)).trans k50) (q_inN (by omega) (by decide)) (q_tn (z := nI (nA P D x)) (by rw [nI_clamp (by omega)]; exact (hpr x _ hx hlt).2.2.trans en) ?_)
    refine q_iadd rfl rfl ?_
    refine q_bipush rfl rfl ?_
    refine q_irem rfl rfl (by decide) (q_tn (z := nI ((v + nA P D x) % 10)) (irem10 (by omega) (by omega)) ?_)
    refine q_iast rfl rfl (by omega) u53 (q_inN (by omega) (by decide)) ?_
    rw [nI_clamp (by omega)]
    exact kk _ (fun k hk => (u_ne hk).trans (hU k hk)) u_eq
  have b21 : ∀ (K : q_K), (∀ V : Nat → pm_E, (∀ k, k ≠ 53 → V k = S k) → V 53 = .inl (0, 20, .inl (upd nx (4 * x + 1) (nI (D (12 + oA P D x))))) → PQ (j_SL L) (j_SV xs) j_EX mm_X12_longStep 45 [.ref 46, .int (nI x), .int (nI (8 * (b + x) + D (4 * x))), .int wh, .int (nI (D (4 * x + 2)))] [] V n 0 0 K) → PQ (j_SL L) (j_SV xs) j_EX mm_X12_longStep 21 [.ref 46, .int (nI x), .int (nI (8 * (b + x) + D (4 * x))), .int wh, .int (nI (D (4 * x + 2)))] [] S n 0 0 K := by
    intro K kk
    have hU : ∀ k, k ≠ 53 → S k = S k := fun _ _ => rfl
    refine q_aload_n rfl rfl rfl ?_
    refine q_getf rfl rfl (by omega) ((hU 46 (by decide)).trans k46) f9 ?_
    refine q_iconst rfl rfl ?_
    refine q_iload_n rfl rfl rfl ?_
    refine q_imul rfl rfl (q_tn (z := nI (4 * x)) (by rw [show (4 : Int32) = nI 4 from rfl, pk_mul]) ?_)
    refine q_iconst rfl rfl ?_
    refine q_iadd rfl rfl (q_tn (z := nI (4 * x + 1)) (nI_add _ 1) ?_)
    refine q_aload_n rfl rfl rfl ?_
    refine q_getf rfl rfl (by omega) ((hU 46 (by decide)).trans k46) f8 ?_
    refine q_bipush rfl rfl ?_
    refine q_aload_n rfl rfl rfl ?_
    refine q_getf rfl rfl (by omega) ((hU 46 (by decide)).trans k46) f4 ?_
    refine q_iload_n rfl rfl rfl ?_
    refine q_iald rfl rfl (by omega) ((hU 49 (by decide)).trans k49) (q_inN (by omega) (by decide)) (q_tn (z := nI (oA P D x)) (by rw [nI_clamp (by omega)]; exact (hpr x _ hx hlt).2.1.trans eq) ?_)
    refine q_iadd rfl rfl (q_tn (z := nI (12 + oA P D x)) (nI_add 12 _) ?_)
    refine q_iald rfl rfl (by omega) ((hU 52 (by decide)).trans t52) (q_inN (by omega) (by decide)) (q_tn (z := nI (D (12 + oA P D x))) (by rw [nI_clamp (by omega), hN _ (by omega)]; exact ra_h hH (by omega)) ?_)
    refine q_iast rfl rfl (by omega) t53 (q_inN (by omega) (by decide)) ?_
    rw [nI_clamp (by omega)]
    exact kk _ (fun k hk => u_ne hk) u_eq
  have hU0 : ∀ k, k ≠ 53 → S k = S k := fun _ _ => rfl
  have hnx1 : nx (4 * x + 1) = nI (D (4 * x + 1)) := by rw [hX.1 _ (by omega)]; exact ra_k (by omega)
  refine q_aload_n rfl rfl rfl ?_
  refine q_getf rfl rfl (by omega) k46 f8 ?_
  refine q_iconst rfl rfl ?_
  refine q_iload_n rfl rfl rfl ?_
  refine q_imul rfl rfl (q_tn (z := nI (4 * x)) (by rw [show (4 : Int32) = nI 4 from rfl, pk_mul]) ?_)
  refine q_iconst rfl rfl ?_
  refine q_iadd rfl rfl (q_tn (z := nI (4 * x + 2)) (nI_add _ 2) ?_)
  refine q_iald rfl rfl (by omega) t52 (q_inN (by omega) (by decide)) (q_tn (z := nI (D (4 * x + 2))) (by rw [nI_clamp (by omega), hN _ (by omega)]; exact ra_k (by omega)) ?_)
  refine q_ist4 rfl rfl rfl rfl ?_
  rcases hwh with ⟨rfl, h3⟩ | ⟨rfl, h3⟩
  · rw [aft_6 hk, if_pos h3]
    refine q_iload_n rfl rfl rfl ?_
    refine q_ifne rfl rfl (fun h => absurd h (by decide)) (fun _ => ?_)
    refine b21 _ (fun V hV v53 => ?_)
    refine q_iload_n rfl rfl rfl ?_
    refine q_ifne rfl rfl (fun h => absurd h (by decide)) (fun _ => ?_)
    refine b55 V _ (D (12 + oA P D x)) _ hpl hV v53 u32_at (fun W hW' w53 => ?_)
    refine q_iload_n rfl rfl rfl ?_
    refine q_ifne rfl rfl (fun h => absurd h (by decide)) (fun _ => ?_)
    refine b95 W _ (e_up D (4 * x + 1) ((D (12 + oA P D x) + nA P D x) % 10)) ((D (12 + oA P D x) + nA P D x) % 10) hW' w53 ?_ (e_up_ot (by omega)) ((e_up_ot (by omega)).trans hs0) u32_at
    have q1 := rX_up (i := 4 * x + 1) (v := D (12 + oA P D x)) hX (by omega) (by omega)
    have q2 := rX_up (i := 4 * x + 1) (v := (D (12 + oA P D x) + nA P D x) % 10) q1 (by omega) (by omega)
    refine rX_cg q2 (fun i _ => ?_)
    unfold e_up
    split
    · rfl
    · rfl
  · rw [aft_6 hk, if_neg h3]
    refine q_iload_n rfl rfl rfl ?_
    refine q_ifne rfl rfl (fun _ => ?_) (fun h => absurd rfl h)
    refine q_iload rfl rfl rfl ?_
    have m45 : ∀ (U : Nat → pm_E) (K : q_K), (¬ D (4 * x + 2) = 1 → PQ (j_SL L) (j_SV xs) j_EX mm_X12_longStep 85 [.ref 46, .int (nI x), .int (nI (8 * (b + x) + D (4 * x))), .int 0, .int (nI (D (4 * x + 2)))] [] U n 0 0 K) → (D (4 * x + 2) = 1 → PQ (j_SL L) (j_SV xs) j_EX mm_X12_longStep 55 [.ref 46, .int (nI x), .int (nI (8 * (b + x) + D (4 * x))), .int 0, .int (nI (D (4 * x + 2)))] [] U n 0 0 K) → PQ (j_SL L) (j_SV xs) j_EX mm_X12_longStep 45 [.ref 46, .int (nI x), .int (nI (8 * (b + x) + D (4 * x))), .int 0, .int (nI (D (4 * x + 2)))] [] U n 0 0 K := by
      intro U K k1 k2
      refine q_iload_n rfl rfl rfl ?_
      refine q_ifne rfl rfl (fun _ => ?_) (fun h => absurd rfl h)
      refine q_iload rfl rfl rfl ?_
      refine q_iconst rfl rfl ?_
      exact q_icne rfl rfl (fun h => k2 ((m_eq (b := 1) (by omega) (by omega)).mp h)) (fun h => k1 (fun e => h (by rw [e]; rfl)))
    have m85 : ∀ (U : Nat → pm_E) (K : q_K), (¬ D (4 * x + 2) = 2 → PQ (j_SL L) (j_SV xs) j_EX mm_X12_longStep 137 [.ref 46, .int (nI x), .int (nI (8 * (b + x) + D (4 * x))), .int 0, .int (nI (D (4 * x + 2)))] [] U n 0 0 K) → (D (4 * x + 2) = 2 → PQ (j_SL L) (j_SV xs) j_EX mm_X12_longStep 95 [.ref 46, .int (nI x), .int (nI (8 * (b + x) + D (4 * x))), .int 0, .int (nI (D (4 * x + 2)))] [] U n 0 0 K) → PQ (j_SL L) (j_SV xs) j_EX mm_X12_longStep 85 [.ref 46, .int (nI x), .int (nI (8 * (b + x) + D (4 * x))), .int 0, .int (nI (D (4 * x + 2)))] [] U n 0 0 K := by
      intro U K k1 k2
      refine q_iload_n rfl rfl rfl ?_
      refine q_ifne rfl rfl (fun _ => ?_) (fun h => absurd rfl h)
      refine q_iload rfl rfl rfl ?_
      refine q_iconst rfl rfl ?_
      exact q_icne rfl rfl (fun h => k2 ((m_eq (b := 2) (by omega) (by omega)).mp h)) (fun h => k1 (fun e => h (by rw [e]; rfl)))
    refine q_ifne rfl rfl (fun h => ?_) (fun h => ?_)
    · have h0 := (m_eq (b := 0) (by omega) (by omega)).mp h
      rw [if_pos h0]
      refine b21 _ (fun V hV v53 => m45 V _ (fun _ => m85 V _ (fun _ => ?_) (fun e => absurd e (by omega))) (fun e => absurd e (by omega)))
      have := b137 V _ _ hV v53 (rX_up (i := 4 * x + 1) hX (by omega) (by omega))
      rw [h0] at this ⊢
      exact this
    · have h0 : ¬ D (4 * x + 2) = 0 := fun e => h (by rw [e]; rfl)
      rw [if_neg h0]
      refine m45 S _ (fun h1 => ?_) (fun h1 => ?_)
      · rw [if_neg h1]
        refine m85 S _ (fun h2 => absurd h2 (by omega)) (fun _ => ?_)
        exact b95 S nx D (D (4 * x + 1)) hU0 t53 hX rfl hs0 hnx1
      · rw [if_pos h1]
        refine b55 S nx (D (4 * x + 1)) _ hr9 hU0 t53 hnx1 (fun V hV v53 => m85 V _ (fun _ => ?_) (fun e => absurd e (by omega)))
        have := b137 V _ _ hV v53 (rX_up (i := 4 * x + 1) hX (by omega) (by omega))
        rw [h1] at this ⊢
        exact this
end RT
