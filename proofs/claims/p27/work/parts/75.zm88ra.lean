/-! the reference: a state as a row of ints; who can step -/
section RA
variable {L : Nat} {xs : Nat → Int32} {S : Nat → pm_E} {n b pic : Nat} {P : PG} {x : Nat} {D : Nat → Nat} {nw : Nat → Int32}
/-- where a hand stands, as the reference says it -/
def rp (P : PG) (D : Nat → Nat) (x : Nat) : Nat := if D (4 * x) < pL P x then D (4 * x) else if D (4 * x) = 15 then 11 else 10
def ra (P : PG) (D : Nat → Nat) (i : Nat) : Int32 := if i < 4 * pH P ∧ i % 4 = 0 then nI (rp P D (i / 4)) else nI (D i)
theorem ra_0 (hx : x < pH P) : ra P D (4 * x) = nI (rp P D x) := by
  unfold ra
  rw [if_pos (by omega), Nat.mul_div_cancel_left x (by decide)]
theorem ra_k {j : Nat} (hj : ¬ j % 4 = 0) : ra P D j = nI (D j) := by
  unfold ra
  rw [if_neg (by omega)]
theorem ra_h {j : Nat} (hH : pH P ≤ 3) (hj : 12 ≤ j) : ra P D j = nI (D j) := by
  unfold ra
  rw [if_neg (by omega)]
theorem ra_z {j : Nat} (hj : 4 * pH P ≤ j) : ra P D j = nI (D j) := by
  unfold ra
  rw [if_neg (by omega)]
theorem rp_lt (ho : ¬ ovr P D x) : rp P D x = D (4 * x) := if_pos (by unfold ovr at ho; omega)
theorem rp_ov (ho : ovr P D x) : rp P D x = 10 ∨ rp P D x = 11 := by
  unfold rp
  rw [if_neg (by unfold ovr at ho; omega)]
  split
  · exact Or.inr rfl
  · exact Or.inl rfl
/-- the reference's program, its hands from b on -/
def JR (b : Nat) (P : PG) (S : Nat → pm_E) : Prop := ∃ (fs : List Value) (mn fk fa fn vl : Nat → Int32), S 46 = .inr (10, fs) ∧ fs[1]? = some (.int (nI (pH P))) ∧ fs[2]? = some (.ref 47) ∧ fs[3]? = some (.ref 48) ∧ fs[4]? = some (.ref 49) ∧ fs[5]? = some (.ref 50) ∧ fs[6]? = some (.ref 51) ∧ fs[7]? = some (.int (nI b)) ∧ fs[8]? = some (.ref 52) ∧ fs[9]? = some (.ref 53) ∧ fs[10]? = some (.ref 54) ∧ S 47 = .inl (0, 6, .inl mn) ∧ S 48 = .inl (0, 48, .inl fk) ∧ S 49 = .inl (0, 48, .inl fa) ∧ S 50 = .inl (0, 48, .inl fn) ∧ S 51 = .inl (0, 4, .inl vl) ∧ (∀ x, x < pH P → mn (b + x) = nI (pL P x)) ∧ (∀ x i, x < pH P → i < pL P x → fk (8 * (b + x) + i) = nI (pK P x i) ∧ fa (8 * (b + x) + i) = pO P x i ∧ fn (8 * (b + x) + i) = pN P x i) ∧ ∀ p, p < 4 → vl p = nI (pV P p)
theorem JR_same {S' : Nat → pm_E} (h : JR b P S) (e : ∀ k, 46 ≤ k → k ≤ 51 → S' k = S k) : JR b P S' := by
  obtain ⟨fs, mn, fk, fa, fn, vl, k46, h⟩ := h
  rw [← e 46 (by decide) (by decide), ← e 47 (by decide) (by decide), ← e 48 (by decide) (by decide), ← e 49 (by decide) (by decide), ← e 50 (by decide) (by decide), ← e 51 (by decide) (by decide)] at *
  exact ⟨fs, mn, fk, fa, fn, vl, k46, h⟩
theorem l_over (hW : WFP P) (hn : 82 ≤ n) (hb : b ≤ 3) (hR : JR b P S) (t52 : S 52 = .inl (0, 20, .inl nw)) (hN : ∀ i, i < 20 → nw i = ra P D i) (hx : x < pH P) : PM (j_SL L) (j_SV xs) j_EX mm_X12_isOver [.ref 46, .int (nI x)] S n (yn (ovr P D x) S n) := by
  have hH := hW.2.1
  have hR0 := hR
  obtain ⟨fs, mn, fk, fa, fn, vl, k46, f1, f2, f3, f4, f5, f6, f7, f8, f9, f10, k47, k48, k49, k50, k51, hmn, hpr, hvl⟩ := hR
  have hl8 := hW.2.2.1 x hx
  change PQ (j_SL L) (j_SV xs) j_EX mm_X12_isOver 0 [.ref 46, .int (nI x)] [] S n 0 0 _
  refine q_aload_n rfl rfl rfl ?_
  refine q_getf rfl rfl (by omega) k46 f8 ?_
  refine q_iconst rfl rfl ?_
  refine q_iload_n rfl rfl rfl ?_
  refine q_imul rfl rfl (q_tn (z := nI (4 * x)) (by rw [show (4 : Int32) = nI 4 from rfl, pk_mul]) ?_)
  refine q_iald rfl rfl (by omega) t52 (q_inN (by omega) (by decide)) (q_tn (z := nI (rp P D x)) (by rw [nI_clamp (by omega), hN _ (by omega)]; exact ra_0 hx) ?_)
  refine q_bipush rfl rfl ?_
  by_cases ho : ovr P D x
  · have h10 := rp_ov ho
    refine q_iclt rfl rfl (fun h => absurd ((m_lt (b := 10) (by omega) (by decide)).mp h) (by omega)) (fun _ => ?_)
    refine q_iconst rfl rfl ?_
    refine q_goto rfl ?_
    exact q_iret rfl rfl rfl ⟨rfl, rfl, Or.inl ⟨ho, rfl⟩⟩
  · have e := rp_lt ho
    have hlt : D (4 * x) < pL P x := by unfold ovr at ho; omega
    refine q_iclt rfl rfl (fun _ => ?_) (fun h => absurd ((m_lt (b := 10) (by omega) (by decide)).mpr (by omega)) h)
    refine q_iconst rfl rfl ?_
    exact q_iret rfl rfl rfl ⟨rfl, rfl, Or.inr ⟨ho, rfl⟩⟩
theorem l_at (hW : WFP P) (hn : 82 ≤ n) (hb : b ≤ 3) (hR : JR b P S) (t52 : S 52 = .inl (0, 20, .inl nw)) (hN : ∀ i, i < 20 → nw i = ra P D i) (hx : x < pH P) (ho : ¬ ovr P D x) : PM (j_SL L) (j_SV xs) j_EX mm_X12_at [.ref 46, .int (nI x)] S n (fun r S' n' => S = S' ∧ n = n' ∧ r = some (.int (nI (8 * (b + x) + D (4 * x))))) := by
  have hH := hW.2.1
  have hR0 := hR
  obtain ⟨fs, mn, fk, fa, fn, vl, k46, f1, f2, f3, f4, f5, f6, f7, f8, f9, f10, k47, k48, k49, k50, k51, hmn, hpr, hvl⟩ := hR
  change PQ (j_SL L) (j_SV xs) j_EX mm_X12_at 0 [.ref 46, .int (nI x)] [] S n 0 0 _
  refine q_bipush rfl rfl ?_
  refine q_aload_n rfl rfl rfl ?_
  refine q_getf rfl rfl (by omega) k46 f7 ?_
  refine q_iload_n rfl rfl rfl ?_
  refine q_iadd rfl rfl (q_tn (z := nI (b + x)) (nI_add _ _) ?_)
  refine q_imul rfl rfl (q_tn (z := nI (8 * (b + x))) (by rw [show (8 : Int32) = nI 8 from rfl, pk_mul]) ?_)
  refine q_aload_n rfl rfl rfl ?_
  refine q_getf rfl rfl (by omega) k46 f8 ?_
  refine q_iconst rfl rfl ?_
  refine q_iload_n rfl rfl rfl ?_
  refine q_imul rfl rfl (q_tn (z := nI (4 * x)) (by rw [show (4 : Int32) = nI 4 from rfl, pk_mul]) ?_)
  refine q_iald rfl rfl (by omega) t52 (q_inN (by omega) (by decide)) (q_tn (z := nI (D (4 * x))) (by rw [nI_clamp (by omega), hN _ (by omega)]; exact (ra_0 hx).trans (by rw [rp_lt ho])) ?_)
  refine q_iadd rfl rfl (q_tn (z := nI (8 * (b + x) + D (4 * x))) (nI_add _ _) ?_)
  exact q_iret rfl rfl trivial ⟨rfl, rfl, rfl⟩
theorem l_free {l : Nat} (hW : WFP P) (hn : 82 ≤ n) (hb : b ≤ 3) (hR : JR b P S) (t52 : S 52 = .inl (0, 20, .inl nw)) (hN : ∀ i, i < 20 → nw i = ra P D i) (hl : l < 3) (hd : D (16 + l) < 100) : PM (j_SL L) (j_SV xs) j_EX mm_X12_isFree [.ref 46, .int (nI l)] S n (yn (D (16 + l) = 0) S n) := by
  have hH := hW.2.1
  have hR0 := hR
  obtain ⟨fs, mn, fk, fa, fn, vl, k46, f1, f2, f3, f4, f5, f6, f7, f8, f9, f10, k47, k48, k49, k50, k51, hmn, hpr, hvl⟩ := hR
  change PQ (j_SL L) (j_SV xs) j_EX mm_X12_isFree 0 [.ref 46, .int (nI l)] [] S n 0 0 _
  refine q_aload_n rfl rfl rfl ?_
  refine q_getf rfl rfl (by omega) k46 f8 ?_
  refine q_bipush rfl rfl ?_
  refine q_iload_n rfl rfl rfl ?_
  refine q_iadd rfl rfl (q_tn (z := nI (16 + l)) (nI_add 16 l) ?_)
  refine q_iald rfl rfl (by omega) t52 (q_inN (by omega) (by decide)) (q_tn (z := nI (D (16 + l))) (by rw [nI_clamp (by omega), hN _ (by omega)]; exact ra_h hH (by omega)) ?_)
  refine q_ifne rfl rfl (fun h => ?_) (fun h => ?_)
  · refine q_iconst rfl rfl ?_
    refine q_goto rfl ?_
    exact q_iret rfl rfl rfl ⟨rfl, rfl, Or.inl ⟨(m_eq (b := 0) (by omega) (by decide)).mp h, rfl⟩⟩
  · refine q_iconst rfl rfl ?_
    exact q_iret rfl rfl rfl ⟨rfl, rfl, Or.inr ⟨fun e => h (by rw [e]; rfl), rfl⟩⟩
set_option maxHeartbeats 4000000 in
theorem l_meets (hW : WFP P) (hn : 82 ≤ n) (hb : b ≤ 3) (hR : JR b P S) (t52 : S 52 = .inl (0, 20, .inl nw)) (hN : ∀ i, i < 20 → nw i = ra P D i) : PM (j_SL L) (j_SV xs) j_EX mm_X12_meets [.ref 46] S n (yn (meetP P D) S n) := by
  have hH := hW.2.1
  have hR0 := hR
  obtain ⟨fs, mn, fk, fa, fn, vl, k46, f1, f2, f3, f4, f5, f6, f7, f8, f9, f10, k47, k48, k49, k50, k51, hmn, hpr, hvl⟩ := hR
  change PQ (j_SL L) (j_SV xs) j_EX mm_X12_meets 0 [.ref 46, pm_un, pm_un] [] S n 0 0 _
  have key : ∀ q x : Nat, x + q = pH P → ∀ a : Int32, (a = 1 ∧ ∀ y, y < x → ovr P D y ∨ kA P D y = 12) ∨ (a = 0 ∧ ¬ meetP P D) → PQ (j_SL L) (j_SV xs) j_EX mm_X12_meets 4 [.ref 46, .int a, .int (nI x)] [] S n 0 0 (yn (meetP P D) S n) := by
    intro q
    induction q with
    | zero =>
      intro x hx a ha
      refine q_iload_n rfl rfl rfl ?_
      refine q_aload_n rfl rfl rfl ?_
      refine q_getf rfl rfl (by omega) k46 f1 ?_
      refine q_icge rfl rfl (fun _ => ?_) (fun h => absurd ((m_le (by omega) (by omega)).mpr (by omega)) h)
      refine q_iload_n rfl rfl rfl ?_
      rcases ha with ⟨rfl, ha⟩ | ⟨rfl, ha⟩
      · exact q_iret rfl rfl rfl ⟨rfl, rfl, Or.inl ⟨fun y hy => ha y (by omega), rfl⟩⟩
      · exact q_iret rfl rfl rfl ⟨rfl, rfl, Or.inr ⟨ha, rfl⟩⟩
    | succ q ih =>
      intro x hxq a ha
      have hx : x < pH P := by omega
      have hl8 := hW.2.2.1 x hx
      refine q_iload_n rfl rfl rfl ?_
      refine q_aload_n rfl rfl rfl ?_
      refine q_getf rfl rfl (by omega) k46 f1 ?_
      refine q_icge rfl rfl (fun h => absurd ((m_le (by omega) (by omega)).mp h) (by omega)) (fun _ => ?_)
      have no : ¬ meetP P D → PQ (j_SL L) (j_SV xs) j_EX mm_X12_meets 43 [.ref 46, .int a, .int (nI x)] [] S n 0 0 (yn (meetP P D) S n) := by
        intro h
        refine q_iconst rfl rfl ?_
        refine q_ist1n rfl rfl rfl rfl ?_
        refine q_inc2 rfl rfl rfl rfl ?_
        refine q_goto rfl ?_
        rw [show nI x + 1 = nI (x + 1) from nI_add x 1]
        exact ih (x + 1) (by omega) 0 (Or.inr ⟨rfl, h⟩)
      refine q_iload_n rfl rfl rfl ?_
      rcases ha with ⟨rfl, ha⟩ | ⟨rfl, ha⟩
      rotate_left
      · exact q_ifeq rfl rfl (fun _ => no ha) (fun h => absurd rfl h)
      refine q_ifeq rfl rfl (fun h => absurd h (by decide)) (fun _ => ?_)
      have yes : (ovr P D x ∨ kA P D x = 12) → PQ (j_SL L) (j_SV xs) j_EX mm_X12_meets 39 [.ref 46, .int 1, .int (nI x)] [] S n 0 0 (yn (meetP P D) S n) := by
        intro h
        refine q_iconst rfl rfl ?_
        refine q_goto rfl ?_
        refine q_ist1n rfl rfl rfl rfl ?_
        refine q_inc2 rfl rfl rfl rfl ?_
        refine q_goto rfl ?_
        rw [show nI x + 1 = nI (x + 1) from nI_add x 1]
        refine ih (x + 1) (by omega) 1 (Or.inl ⟨rfl, fun y hy => ?_⟩)
        by_cases e : y = x
        · rw [e]
          exact h
        · exact ha y (by omega)
      refine q_aload_n rfl rfl rfl ?_
      refine q_iload_n rfl rfl rfl ?_
      refine q_cV rfl rfl (Or.inl rfl) rfl rfl rfl rfl (by omega) k46 trivial rfl rfl rfl rfl rfl (l_over hW hn hb hR0 t52 hN hx) ?_
      rintro r _ _ ⟨rfl, rfl, hr⟩
      rcases hr with ⟨ho, rfl⟩ | ⟨ho, rfl⟩
      · show PQ (j_SL L) (j_SV xs) j_EX mm_X12_meets 21 _ [.int 1] S n 0 0 _
        exact q_ifne rfl rfl (fun h => absurd h (by decide)) (fun _ => yes (Or.inl ho))
      show PQ (j_SL L) (j_SV xs) j_EX mm_X12_meets 21 _ [.int 0] S n 0 0 _
      refine q_ifne rfl rfl (fun _ => ?_) (fun h => absurd rfl h)
      have hlt : D (4 * x) < pL P x := by unfold ovr at ho; omega
      have hk12 := wfp_k hW hx ho
      refine q_aload_n rfl rfl rfl ?_
      refine q_getf rfl rfl (by omega) k46 f3 ?_
      refine q_aload_n rfl rfl rfl ?_
      refine q_iload_n rfl rfl rfl ?_
      refine q_cV rfl rfl (Or.inl rfl) rfl rfl rfl rfl (by omega) k46 trivial rfl rfl rfl rfl rfl (l_at hW hn hb hR0 t52 hN hx ho) ?_
      rintro r _ _ ⟨rfl, rfl, rfl⟩
      show PQ (j_SL L) (j_SV xs) j_EX mm_X12_meets 33 _ [.int (nI (8 * (b + x) + D (4 * x))), .ref 48] S n 0 0 _
      refine q_iald rfl rfl (by omega) k48 (q_inN (by omega) (by decide)) (q_tn (z := nI (kA P D x)) (by rw [nI_clamp (by omega)]; exact (hpr x _ hx hlt).1) ?_)
      refine q_bipush rfl rfl ?_
      refine q_icne rfl rfl (fun h => yes (Or.inr ((m_eq (b := 12) (by omega) (by omega)).mp h))) (fun h => no (fun hm => ?_))
      rcases hm x hx with h9 | h9
      · exact ho h9
      · exact h (by rw [h9]; rfl)
  refine q_iconst rfl rfl ?_
  refine q_ist1n rfl rfl rfl rfl ?_
  refine q_iconst rfl rfl ?_
  refine q_ist2n rfl rfl rfl rfl ?_
  exact key (pH P) 0 (by omega) 1 (Or.inl ⟨rfl, fun y h => absurd h (by omega)⟩)
set_option maxHeartbeats 4000000 in
theorem l_can (hW : WFP P) (hn : 82 ≤ n) (hb : b ≤ 3) (hR : JR b P S) (t52 : S 52 = .inl (0, 20, .inl nw)) (hN : ∀ i, i < 20 → nw i = ra P D i) (hD : WFD P pic D) (hp5 : pic < 5) (hx : x < pH P) : PM (j_SL L) (j_SV xs) j_EX mm_X12_canStep [.ref 46, .int (nI x), .int (nI pic)] S n (yn (ableP P pic D x) S n) := by
  have hH := hW.2.1
  have hR0 := hR
  obtain ⟨fs, mn, fk, fa, fn, vl, k46, f1, f2, f3, f4, f5, f6, f7, f8, f9, f10, k47, k48, k49, k50, k51, hmn, hpr, hvl⟩ := hR
  have hl8 := hW.2.2.1 x hx
  have hw := hD.1 x hx
  change PQ (j_SL L) (j_SV xs) j_EX mm_X12_canStep 0 [.ref 46, .int (nI x), .int (nI pic), pm_un] [] S n 0 0 _
  refine q_aload_n rfl rfl rfl ?_
  refine q_iload_n rfl rfl rfl ?_
  refine q_cV rfl rfl (Or.inl rfl) rfl rfl rfl rfl (by omega) k46 trivial rfl rfl rfl rfl rfl (l_over hW hn hb hR0 t52 hN hx) ?_
  rintro r _ _ ⟨rfl, rfl, hr⟩
  rcases hr with ⟨ho, rfl⟩ | ⟨ho, rfl⟩
  · show PQ (j_SL L) (j_SV xs) j_EX mm_X12_canStep 5 _ [.int 1] S n 0 0 _
    refine q_ifeq rfl rfl (fun h => absurd h (by decide)) (fun _ => ?_)
    refine q_iconst rfl rfl ?_
    exact q_iret rfl rfl rfl ⟨rfl, rfl, Or.inr ⟨fun h => h.1 ho, rfl⟩⟩
  show PQ (j_SL L) (j_SV xs) j_EX mm_X12_canStep 5 _ [.int 0] S n 0 0 _
  refine q_ifeq rfl rfl (fun _ => ?_) (fun h => absurd rfl h)
  have hlt : D (4 * x) < pL P x := by unfold ovr at ho; omega
  refine q_aload_n rfl rfl rfl ?_
  refine q_iload_n rfl rfl rfl ?_
  refine q_cV rfl rfl (Or.inl rfl) rfl rfl rfl rfl (by omega) k46 trivial rfl rfl rfl rfl rfl (l_at hW hn hb hR0 t52 hN hx ho) ?_
  rintro r _ _ ⟨rfl, rfl, rfl⟩
  show PQ (j_SL L) (j_SV xs) j_EX mm_X12_canStep 15 _ [.int (nI (8 * (b + x) + D (4 * x)))] S n 0 0 _
  refine q_ist3n rfl rfl rfl rfl ?_
  refine q_aload_n rfl rfl rfl ?_
  refine q_getf rfl rfl (by omega) k46 f3 ?_
  refine q_iload_n rfl rfl rfl ?_
  refine q_iald rfl rfl (by omega) k48 (q_inN (by omega) (by decide)) (q_tn (z := nI (kA P D x)) (by rw [nI_clamp (by omega)]; exact (hpr x _ hx hlt).1) ?_)
  have yes : kA P D x ≠ 5 → kA P D x ≠ 8 → kA P D x ≠ 10 → kA P D x ≠ 12 → PQ (j_SL L) (j_SV xs) j_EX mm_X12_canStep 177 [.ref 46, .int (nI x), .int (nI pic), .int (nI (8 * (b + x) + D (4 * x)))] [] S n 0 0 (yn (ableP P pic D x) S n) := by
    intro a1 a2 a3 a4
    refine q_iconst rfl rfl ?_
    exact q_iret rfl rfl rfl ⟨rfl, rfl, Or.inl ⟨able_t ho a1 a2 a3 a4, rfl⟩⟩
  have hk12 := wfp_k hW hx ho
  show PQ (j_SL L) (j_SV xs) j_EX mm_X12_canStep 22 [.ref 46, .int (nI x), .int (nI pic), .int (nI (8 * (b + x) + D (4 * x)))] [.int (nI (kA P D x))] S n 0 0 _
  generalize hk : kA P D x = kk at hk12 yes ⊢
  match kk, hk12 with
  | 0, _ => exact q_switch (q := 177) rfl rfl (yes (by decide) (by decide) (by decide) (by decide))
  | 1, _ => exact q_switch (q := 177) rfl rfl (yes (by decide) (by decide) (by decide) (by decide))
  | 2, _ => exact q_switch (q := 177) rfl rfl (yes (by decide) (by decide) (by decide) (by decide))
  | 3, _ => exact q_switch (q := 177) rfl rfl (yes (by decide) (by decide) (by decide) (by decide))
  | 4, _ => exact q_switch (q := 177) rfl rfl (yes (by decide) (by decide) (by decide) (by decide))
  | 6, _ => exact q_switch (q := 177) rfl rfl (yes (by decide) (by decide) (by decide) (by decide))
  | 7, _ => exact q_switch (q := 177) rfl rfl (yes (by decide) (by decide) (by decide) (by decide))
  | 9, _ => exact q_switch (q := 177) rfl rfl (yes (by decide) (by decide) (by decide) (by decide))
  | 11, _ => exact q_switch (q := 177) rfl rfl (yes (by decide) (by decide) (by decide) (by decide))
  | 5, _ =>
    refine q_switch (q := 68) rfl rfl ?_
    obtain ⟨q4, eq⟩ := wfp_o hW hx ho (by unfold hasP; omega)
    obtain ⟨n9, en⟩ := wfp_n hW hx ho (by unfold hasN; omega)
    have hpl := hD.2.2.1 _ q4
    refine q_aload_n rfl rfl rfl ?_
    refine q_getf rfl rfl (by omega) k46 f8 ?_
    refine q_bipush rfl rfl ?_
    refine q_aload_n rfl rfl rfl ?_
    refine q_getf rfl rfl (by omega) k46 f4 ?_
    refine q_iload_n rfl rfl rfl ?_
    refine q_iald rfl rfl (by omega) k49 (q_inN (by omega) (by decide)) (q_tn (z := nI (oA P D x)) (by rw [nI_clamp (by omega)]; exact (hpr x _ hx hlt).2.1.trans eq) ?_)
    refine q_iadd rfl rfl (q_tn (z := nI (12 + oA P D x)) (nI_add 12 _) ?_)
    refine q_iald rfl rfl (by omega) t52 (q_inN (by omega) (by decide)) (q_tn (z := nI (D (12 + oA P D x))) (by rw [nI_clamp (by omega), hN _ (by omega)]; exact ra_h hH (by omega)) ?_)
    refine q_aload_n rfl rfl rfl ?_
    refine q_getf rfl rfl (by omega) k46 f5 ?_
    refine q_iload_n rfl rfl rfl ?_
    refine q_iald rfl rfl (by omega) k50 (q_inN (by omega) (by decide)) (q_tn (z := nI (nA P D x)) (by rw [nI_clamp (by omega)]; exact (hpr x _ hx hlt).2.2.trans en) ?_)
    refine q_icne rfl rfl (fun h => ?_) (fun h => ?_)
    · refine q_iconst rfl rfl ?_
      refine q_goto rfl ?_
      exact q_iret rfl rfl rfl ⟨rfl, rfl, Or.inl ⟨⟨ho, fun _ => (m_eq (by omega) (by omega)).mp h, fun h => absurd (hk.symm.trans h) (by decide), fun h => absurd (hk.symm.trans h) (by decide), fun h => absurd (hk.symm.trans h) (by decide)⟩, rfl⟩⟩
    · refine q_iconst rfl rfl ?_
      exact q_iret rfl rfl rfl ⟨rfl, rfl, Or.inr ⟨fun ha => h (by rw [ha.2.1 hk]), rfl⟩⟩
  | 8, _ =>
    refine q_switch (q := 97) rfl rfl ?_
    obtain ⟨q3, eq⟩ := wfp_l hW hx ho (by unfold hasL; omega)
    have how := hD.2.2.2.1 _ q3
    have y : pic = 4 ∨ D (16 + oA P D x) = 0 → PQ (j_SL L) (j_SV xs) j_EX mm_X12_canStep 115 [.ref 46, .int (nI x), .int (nI pic), .int (nI (8 * (b + x) + D (4 * x)))] [] S n 0 0 (yn (ableP P pic D x) S n) := by
      intro h
      refine q_iconst rfl rfl ?_
      refine q_goto rfl ?_
      exact q_iret rfl rfl rfl ⟨rfl, rfl, Or.inl ⟨⟨ho, fun h => absurd (hk.symm.trans h) (by decide), fun _ => h, fun h => absurd (hk.symm.trans h) (by decide), fun h => absurd (hk.symm.trans h) (by decide)⟩, rfl⟩⟩
    refine q_iload_n rfl rfl rfl ?_
    refine q_iconst rfl rfl ?_
    refine q_iceq rfl rfl (fun h => y (Or.inl ((m_eq (b := 4) (by omega) (by omega)).mp h))) (fun h4 => ?_)
    refine q_aload_n rfl rfl rfl ?_
    refine q_aload_n rfl rfl rfl ?_
    refine q_getf rfl rfl (by omega) k46 f4 ?_
    refine q_iload_n rfl rfl rfl ?_
    refine q_iald rfl rfl (by omega) k49 (q_inN (by omega) (by decide)) (q_tn (z := nI (oA P D x)) (by rw [nI_clamp (by omega)]; exact (hpr x _ hx hlt).2.1.trans eq) ?_)
    refine q_cV rfl rfl (Or.inl rfl) rfl rfl rfl rfl (by omega) k46 trivial rfl rfl rfl rfl rfl (l_free hW hn hb hR0 t52 hN q3 (by omega)) ?_
    rintro r _ _ ⟨rfl, rfl, hr⟩
    rcases hr with ⟨h0, rfl⟩ | ⟨h0, rfl⟩
    · show PQ (j_SL L) (j_SV xs) j_EX mm_X12_canStep 112 _ [.int 1] S n 0 0 _
      exact q_ifeq rfl rfl (fun h => absurd h (by decide)) (fun _ => y (Or.inr h0))
    · show PQ (j_SL L) (j_SV xs) j_EX mm_X12_canStep 112 _ [.int 0] S n 0 0 _
      refine q_ifeq rfl rfl (fun _ => ?_) (fun h => absurd rfl h)
      refine q_iconst rfl rfl ?_
      refine q_iret rfl rfl rfl ⟨rfl, rfl, Or.inr ⟨fun ha => ?_, rfl⟩⟩
      rcases ha.2.2.1 hk with e | e
      · exact h4 (by rw [e]; rfl)
      · exact h0 e
  | 10, _ =>
    refine q_switch (q := 121) rfl rfl ?_
    obtain ⟨q3, eq⟩ := wfp_l hW hx ho (by unfold hasL; omega)
    have how := hD.2.2.2.1 _ q3
    have h2b := hw.2.2.1
    have h3b := hw.2.2.2.1
    have ya : (D (4 * x + 2) = 0 ∨ (D (4 * x + 3) = 2 ∧ (pic = 4 ∨ D (16 + oA P D x) = 0))) → PQ (j_SL L) (j_SV xs) j_EX mm_X12_canStep 166 [.ref 46, .int (nI x), .int (nI pic), .int (nI (8 * (b + x) + D (4 * x)))] [] S n 0 0 (yn (ableP P pic D x) S n) := by
      intro h
      refine q_iconst rfl rfl ?_
      refine q_goto rfl ?_
      exact q_iret rfl rfl rfl ⟨rfl, rfl, Or.inl ⟨⟨ho, fun h => absurd (hk.symm.trans h) (by decide), fun h => absurd (hk.symm.trans h) (by decide), fun _ => h, fun h => absurd (hk.symm.trans h) (by decide)⟩, rfl⟩⟩
    have na : ¬ (D (4 * x + 2) = 0 ∨ (D (4 * x + 3) = 2 ∧ (pic = 4 ∨ D (16 + oA P D x) = 0))) → PQ (j_SL L) (j_SV xs) j_EX mm_X12_canStep 170 [.ref 46, .int (nI x), .int (nI pic), .int (nI (8 * (b + x) + D (4 * x)))] [] S n 0 0 (yn (ableP P pic D x) S n) := by
      intro h
      refine q_iconst rfl rfl ?_
      exact q_iret rfl rfl rfl ⟨rfl, rfl, Or.inr ⟨fun ha => h (ha.2.2.2.1 hk), rfl⟩⟩
    refine q_aload_n rfl rfl rfl ?_
    refine q_getf rfl rfl (by omega) k46 f8 ?_
    refine q_iconst rfl rfl ?_
    refine q_iload_n rfl rfl rfl ?_
    refine q_imul rfl rfl (q_tn (z := nI (4 * x)) (by rw [show (4 : Int32) = nI 4 from rfl, pk_mul]) ?_)
    refine q_iconst rfl rfl ?_
    refine q_iadd rfl rfl (q_tn (z := nI (4 * x + 2)) (nI_add _ 2) ?_)
    refine q_iald rfl rfl (by omega) t52 (q_inN (by omega) (by decide)) (q_tn (z := nI (D (4 * x + 2))) (by rw [nI_clamp (by omega), hN _ (by omega)]; exact ra_k (by omega)) ?_)
    refine q_ifeq rfl rfl (fun h => ya (Or.inl ((m_eq (b := 0) (by omega) (by omega)).mp h))) (fun h2 => ?_)
    have h2' : ¬ D (4 * x + 2) = 0 := fun e => h2 (by rw [e]; rfl)
    refine q_aload_n rfl rfl rfl ?_
    refine q_getf rfl rfl (by omega) k46 f8 ?_
    refine q_iconst rfl rfl ?_
    refine q_iload_n rfl rfl rfl ?_
    refine q_imul rfl rfl (q_tn (z := nI (4 * x)) (by rw [show (4 : Int32) = nI 4 from rfl, pk_mul]) ?_)
    refine q_iconst rfl rfl ?_
    refine q_iadd rfl rfl (q_tn (z := nI (4 * x + 3)) (nI_add _ 3) ?_)
    refine q_iald rfl rfl (by omega) t52 (q_inN (by omega) (by decide)) (q_tn (z := nI (D (4 * x + 3))) (by rw [nI_clamp (by omega), hN _ (by omega)]; exact ra_k (by omega)) ?_)
    refine q_iconst rfl rfl ?_
    refine q_icne rfl rfl (fun h => ?_) (fun h => na (fun h9 => ?_))
    rotate_left
    · rcases h9 with h9 | h9
      · exact h2' h9
      · exact h (by rw [h9.1]; rfl)
    have h3' := (m_eq (b := 2) (by omega) (by omega)).mp h
    refine q_iload_n rfl rfl rfl ?_
    refine q_iconst rfl rfl ?_
    refine q_iceq rfl rfl (fun h => ya (Or.inr ⟨h3', Or.inl ((m_eq (b := 4) (by omega) (by omega)).mp h)⟩)) (fun h4 => ?_)
    have h4' : ¬ pic = 4 := fun e => h4 (by rw [e]; rfl)
    refine q_aload_n rfl rfl rfl ?_
    refine q_aload_n rfl rfl rfl ?_
    refine q_getf rfl rfl (by omega) k46 f4 ?_
    refine q_iload_n rfl rfl rfl ?_
    refine q_iald rfl rfl (by omega) k49 (q_inN (by omega) (by decide)) (q_tn (z := nI (oA P D x)) (by rw [nI_clamp (by omega)]; exact (hpr x _ hx hlt).2.1.trans eq) ?_)
    refine q_cV rfl rfl (Or.inl rfl) rfl rfl rfl rfl (by omega) k46 trivial rfl rfl rfl rfl rfl (l_free hW hn hb hR0 t52 hN q3 (by omega)) ?_
    rintro r _ _ ⟨rfl, rfl, hr⟩
    rcases hr with ⟨h0, rfl⟩ | ⟨h0, rfl⟩
    · show PQ (j_SL L) (j_SV xs) j_EX mm_X12_canStep 163 _ [.int 1] S n 0 0 _
      exact q_ifeq rfl rfl (fun h => absurd h (by decide)) (fun _ => ya (Or.inr ⟨h3', Or.inr h0⟩))
    · show PQ (j_SL L) (j_SV xs) j_EX mm_X12_canStep 163 _ [.int 0] S n 0 0 _
      refine q_ifeq rfl rfl (fun _ => na (fun h9 => ?_)) (fun h => absurd rfl h)
      rcases h9 with h9 | ⟨-, h9 | h9⟩
      · exact h2' h9
      · exact h4' h9
      · exact h0 h9
  | 12, _ =>
    refine q_switch (q := 172) rfl rfl ?_
    refine q_aload_n rfl rfl rfl ?_
    refine q_cV rfl rfl (Or.inl rfl) rfl rfl rfl rfl (by omega) k46 trivial rfl rfl rfl rfl rfl (l_meets hW hn hb hR0 t52 hN) ?_
    rintro r _ _ ⟨rfl, rfl, hr⟩
    rcases hr with ⟨h0, rfl⟩ | ⟨h0, rfl⟩
    · show PQ (j_SL L) (j_SV xs) j_EX mm_X12_canStep 176 _ [.int 1] S n 0 0 _
      exact q_iret rfl rfl rfl ⟨rfl, rfl, Or.inl ⟨⟨ho, fun h => absurd (hk.symm.trans h) (by decide), fun h => absurd (hk.symm.trans h) (by decide), fun h => absurd (hk.symm.trans h) (by decide), fun _ => h0⟩, rfl⟩⟩
    · show PQ (j_SL L) (j_SV xs) j_EX mm_X12_canStep 176 _ [.int 0] S n 0 0 _
      exact q_iret rfl rfl rfl ⟨rfl, rfl, Or.inr ⟨fun ha => h0 (ha.2.2.2.2 hk), rfl⟩⟩
  | kk + 13, h => omega
theorem iremH {a H : Nat} (h1 : 1 ≤ H) (h3 : H ≤ 3) (ha : a < 8) : nI a - nI a / nI H * nI H = nI (a % H) := by
  have key : ∀ (a : Fin 8) (H : Fin 4), 1 ≤ H.val → nI a.val - nI a.val / nI H.val * nI H.val = nI (a.val % H.val) := by decide +kernel
  exact key ⟨a, ha⟩ ⟨H, by omega⟩ h1
set_option maxHeartbeats 4000000 in
theorem l_may (hW : WFP P) (hn : 82 ≤ n) (hb : b ≤ 3) (hR : JR b P S) (t52 : S 52 = .inl (0, 20, .inl nw)) (hN : ∀ i, i < 20 → nw i = ra P D i) (hD : WFD P pic D) (hp5 : pic < 5) (hx : x < pH P) : PM (j_SL L) (j_SV xs) j_EX mm_X12_maySteps [.ref 46, .int (nI x), .int (nI pic)] S n (yn (mayP P pic D x) S n) := by
  have hH := hW.2.1
  have hR0 := hR
  obtain ⟨fs, mn, fk, fa, fn, vl, k46, f1, f2, f3, f4, f5, f6, f7, f8, f9, f10, k47, k48, k49, k50, k51, hmn, hpr, hvl⟩ := hR
  have hd19 := hD.2.2.2.2.1
  have hH1 := hW.1
  change PQ (j_SL L) (j_SV xs) j_EX mm_X12_maySteps 0 [.ref 46, .int (nI x), .int (nI pic), pm_un, pm_un, pm_un] [] S n 0 0 _
  refine q_aload_n rfl rfl rfl ?_
  refine q_iload_n rfl rfl rfl ?_
  refine q_iload_n rfl rfl rfl ?_
  refine q_cV rfl rfl (Or.inl rfl) rfl rfl rfl rfl (by omega) k46 trivial rfl rfl rfl rfl rfl (l_can hW hn hb hR0 t52 hN hD hp5 hx) ?_
  rintro r _ _ ⟨rfl, rfl, hr⟩
  rcases hr with ⟨ha, rfl⟩ | ⟨ha, rfl⟩
  rotate_left
  · show PQ (j_SL L) (j_SV xs) j_EX mm_X12_maySteps 6 _ [.int 0] S n 0 0 _
    refine q_ifne rfl rfl (fun _ => ?_) (fun h => absurd rfl h)
    refine q_iconst rfl rfl ?_
    exact q_iret rfl rfl rfl ⟨rfl, rfl, Or.inr ⟨fun h => ha h.1, rfl⟩⟩
  show PQ (j_SL L) (j_SV xs) j_EX mm_X12_maySteps 6 _ [.int 1] S n 0 0 _
  refine q_ifne rfl rfl (fun h => absurd h (by decide)) (fun _ => ?_)
  refine q_aload_n rfl rfl rfl ?_
  refine q_getf rfl rfl (by omega) k46 f8 ?_
  refine q_bipush rfl rfl ?_
  refine q_iald (i := nI 19) rfl rfl (by omega) t52 (q_inN (by omega) (by decide)) (q_tn (z := nI (D 19)) (by rw [nI_clamp (by omega), hN _ (by omega)]; exact ra_k (by decide)) ?_)
  refine q_iconst rfl rfl ?_
  refine q_isub rfl rfl ?_
  refine q_ist3n rfl rfl rfl rfl ?_
  refine q_iload_n rfl rfl rfl ?_
  refine q_iconst rfl rfl ?_
  refine q_icne rfl rfl (fun h => ?_) (fun h => ?_)
  · have h1 := (m_eq (b := 1) (by omega) (by omega)).mp h
    have y : (D 19 = 0 ∨ D 19 = x + 1 ∨ ¬ ableP P pic D (D 19 - 1)) → PQ (j_SL L) (j_SV xs) j_EX mm_X12_maySteps 44 [.ref 46, .int (nI x), .int (nI pic), .int (nI (D 19) - 1), pm_un, pm_un] [] S n 0 0 (yn (mayP P pic D x) S n) := by
      intro h
      refine q_iconst rfl rfl ?_
      refine q_goto rfl ?_
      exact q_iret rfl rfl rfl ⟨rfl, rfl, Or.inl ⟨⟨ha, fun _ => h, fun e => absurd e (by omega)⟩, rfl⟩⟩
    refine q_iload_n rfl rfl rfl ?_
    refine q_iflt rfl rfl (fun h => y (Or.inl ?_)) (fun h0 => ?_)
    · have h' : ¬ (0 : Int32) ≤ nI (D 19) - 1 := fun h9 => i_ab h h9
      rw [m_sub0 (by omega)] at h'
      omega
    have hd1 : 1 ≤ D 19 := (m_sub0 (by omega)).mp (i_nlt h0)
    have ed : nI (D 19) - 1 = nI (D 19 - 1) := (m_subx (by omega) (by omega)).mpr (by omega)
    refine q_iload_n rfl rfl rfl ?_
    refine q_iload_n rfl rfl rfl ?_
    refine q_iceq rfl rfl (fun h => y (Or.inr (Or.inl ((m_subx (by omega) (by omega)).mp h)))) (fun hne => ?_)
    refine q_aload_n rfl rfl rfl ?_
    refine q_iload_n rfl rfl rfl ?_
    refine q_tn (z := nI (D 19 - 1)) ed ?_
    refine q_iload_n rfl rfl rfl ?_
    refine q_cV rfl rfl (Or.inl rfl) rfl rfl rfl rfl (by omega) k46 trivial rfl rfl rfl rfl rfl (l_can hW hn hb hR0 t52 hN hD hp5 (show D 19 - 1 < pH P by omega)) ?_
    rintro r _ _ ⟨rfl, rfl, hr⟩
    rcases hr with ⟨hl, rfl⟩ | ⟨hl, rfl⟩
    · show PQ (j_SL L) (j_SV xs) j_EX mm_X12_maySteps 41 _ [.int 1] S n 0 0 _
      refine q_ifne rfl rfl (fun h => absurd h (by decide)) (fun _ => ?_)
      refine q_iconst rfl rfl ?_
      refine q_iret rfl rfl rfl ⟨rfl, rfl, Or.inr ⟨fun h => ?_, rfl⟩⟩
      rcases h.2.1 h1 with q | q | q
      · omega
      · exact hne ((m_subx (by omega) (by omega)).mpr q)
      · exact q hl
    · show PQ (j_SL L) (j_SV xs) j_EX mm_X12_maySteps 41 _ [.int 0] S n 0 0 _
      exact q_ifne rfl rfl (fun _ => y (Or.inr (Or.inr hl))) (fun h => absurd rfl h)
  have h1 : ¬ pic = 1 := fun e => h (by rw [e]; rfl)
  refine q_iload_n rfl rfl rfl ?_
  refine q_iconst rfl rfl ?_
  refine q_iceq rfl rfl (fun h => ?_) (fun h => ?_)
  rotate_left
  · have h2 : ¬ pic = 2 := fun e => h (by rw [e]; rfl)
    refine q_iconst rfl rfl ?_
    exact q_iret rfl rfl rfl ⟨rfl, rfl, Or.inl ⟨⟨ha, fun e => absurd e h1, fun e => absurd e h2⟩, rfl⟩⟩
  have h2 := (m_eq (b := 2) (by omega) (by omega)).mp h
  have key : ∀ q k : Nat, k + q = pH P → (∀ k', k' < k → ¬ ableP P pic D ((D 19 + k') % pH P)) → ∀ w : Value, PQ (j_SL L) (j_SV xs) j_EX mm_X12_maySteps 60 [.ref 46, .int (nI x), .int (nI pic), .int (nI (D 19) - 1), .int (nI k), w] [] S n 0 0 (yn (mayP P pic D x) S n) := by
    intro q
    induction q with
    | zero =>
      intro k hk hno w
      refine q_iload rfl rfl rfl ?_
      refine q_aload_n rfl rfl rfl ?_
      refine q_getf rfl rfl (by omega) k46 f1 ?_
      refine q_icge rfl rfl (fun _ => ?_) (fun h => absurd ((m_le (by omega) (by omega)).mpr (by omega)) h)
      refine q_iconst rfl rfl ?_
      refine q_iret rfl rfl rfl ⟨rfl, rfl, Or.inr ⟨fun h => ?_, rfl⟩⟩
      obtain ⟨k1, hk1, e1, -⟩ := h.2.2 h2
      have := hno k1 (by omega)
      rw [e1] at this
      exact this h.1
    | succ q ih =>
      intro k hk hno w
      have hkH : k < pH P := by omega
      have hmo : (D 19 + k) % pH P < pH P := Nat.mod_lt _ (by omega)
      refine q_iload rfl rfl rfl ?_
      refine q_aload_n rfl rfl rfl ?_
      refine q_getf rfl rfl (by omega) k46 f1 ?_
      refine q_icge rfl rfl (fun h => absurd ((m_le (by omega) (by omega)).mp h) (by omega)) (fun _ => ?_)
      refine q_iload_n rfl rfl rfl ?_
      refine q_iconst rfl rfl ?_
      refine q_iadd rfl rfl (q_tn (z := nI (D 19)) (Int32.sub_add_cancel (nI (D 19)) 1) ?_)
      refine q_iload rfl rfl rfl ?_
      refine q_iadd rfl rfl (q_tn (z := nI (D 19 + k)) (nI_add _ _) ?_)
      refine q_aload_n rfl rfl rfl ?_
      refine q_getf rfl rfl (by omega) k46 f1 ?_
      refine q_irem rfl rfl (fun h => absurd ((m_eq (b := 0) (by omega) (by decide)).mp h) (by omega)) (q_tn (z := nI ((D 19 + k) % pH P)) (iremH hH1 hH (by omega)) ?_)
      generalize hh : (D 19 + k) % pH P = o at hmo
      refine q_ist5 rfl rfl rfl rfl ?_
      refine q_aload_n rfl rfl rfl ?_
      refine q_iload rfl rfl rfl ?_
      refine q_iload_n rfl rfl rfl ?_
      refine q_cV rfl rfl (Or.inl rfl) rfl rfl rfl rfl (by omega) k46 trivial rfl rfl rfl rfl rfl (l_can hW hn hb hR0 t52 hN hD hp5 hmo) ?_
      rintro r _ _ ⟨rfl, rfl, hr⟩
      rcases hr with ⟨hl, rfl⟩ | ⟨hl, rfl⟩
      · show PQ (j_SL L) (j_SV xs) j_EX mm_X12_maySteps 89 _ [.int 1] S n 0 0 _
        refine q_ifeq rfl rfl (fun h => absurd h (by decide)) (fun _ => ?_)
        refine q_iload rfl rfl rfl ?_
        refine q_iload_n rfl rfl rfl ?_
        refine q_icne rfl rfl (fun h => ?_) (fun h => ?_)
        · have e := (m_eq (by omega) (by omega)).mp h
          refine q_iconst rfl rfl ?_
          refine q_goto rfl ?_
          exact q_iret rfl rfl rfl ⟨rfl, rfl, Or.inl ⟨⟨ha, fun e => absurd e h1, fun _ => ⟨k, hkH, hh.trans e, hno⟩⟩, rfl⟩⟩
        · refine q_iconst rfl rfl ?_
          refine q_iret rfl rfl rfl ⟨rfl, rfl, Or.inr ⟨fun hx9 => ?_, rfl⟩⟩
          obtain ⟨k1, hk1, e1, h1'⟩ := hx9.2.2 h2
          rcases Nat.lt_trichotomy k1 k with q1 | q1 | q1
          · have := hno k1 q1
            rw [e1] at this
            exact this hx9.1
          · rw [q1, hh] at e1
            exact h (by rw [e1])
          · have := h1' k q1
            rw [hh] at this
            exact this hl
      · show PQ (j_SL L) (j_SV xs) j_EX mm_X12_maySteps 89 _ [.int 0] S n 0 0 _
        refine q_ifeq rfl rfl (fun _ => ?_) (fun h => absurd rfl h)
        refine q_inc4 rfl rfl rfl rfl ?_
        refine q_goto rfl ?_
        rw [show nI k + 1 = nI (k + 1) from nI_add k 1]
        refine ih (k + 1) (by omega) (fun k' hk' => ?_) _
        by_cases e : k' = k
        · rw [e, hh]
          exact hl
        · exact hno k' (by omega)
  refine q_iconst rfl rfl ?_
  refine q_ist4 rfl rfl rfl rfl ?_
  exact key (pH P) 0 (by omega) (fun k' h => absurd h (by omega)) _
end RA
