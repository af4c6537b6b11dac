/-! fix: the class's search for the least -/
section QD9
variable {P : PG} {S S' T W : Nat → pm_E} {n l c d x i m k q t s : Nat} {p v : Nat} {L : Nat} {xs : Nat → Int32} {gs : List Value} {su st : Int32} {ch : Nat → Int32} {ot : Nat → Int64}
theorem tI_lt (hc : c < 11) (hk : k < 2 ^ 31) : ¬ nI k ≤ tI9 c ↔ c = 0 ∨ to9 c < k := by
  have := f_9 hc
  rw [tI_e hc]
  by_cases c0 : c = 0
  · rw [if_pos c0]
    refine ⟨fun _ => Or.inl c0, fun _ h => ?_⟩
    rw [Int32.le_iff_toInt_le, nI_toInt hk] at h
    have h8 : (-2 : Int32).toInt = -2 := rfl
    omega
  · rw [if_neg c0, m_le hk (by omega)]
    constructor
    · intro h
      exact Or.inr (by omega)
    · rintro (h | h)
      · exact absurd h c0
      · omega
theorem wi_s (ha : c < 11) (hb : d < 11) : wI9 c + wI9 d = nI (wi9 c + wi9 d) := by
  rw [wI_e ha, wI_e hb]
  exact nI_add _ _
set_option maxHeartbeats 4000000 in
theorem c_pair9 (hW : WFP P) (h2 : pH P = 2) (hq : q < 121) (hs : s < 100) (hn : 82 ≤ n) (hj : JPc 1 P S) (k32 : S 32 = .inr (0, gs)) (g2 : gs[2]? = some (.ref 1)) : PM (j_SL L) (j_SV xs) j_EX mm_X1_isPair [.ref 32, .int (nI q), .int (nI s)] S n (yn (pr9 P s (q / 11) (q % 11)) S n) := by
  have fc := f_9 (c := q / 11) (by omega)
  have fd := f_9 (c := q % 11) (by omega)
  have l0 := hW.2.2.1 0 (by omega)
  have l1 := hW.2.2.1 1 (by omega)
  obtain ⟨os1, y1, -⟩ := p_obj hj
  change PQ (j_SL L) (j_SV xs) j_EX mm_X1_isPair 0 [.ref 32, .int (nI q), .int (nI s), pm_un, pm_un] [] S n 0 0 _
  refine q_iload_n rfl rfl rfl ?_
  refine q_bipush rfl rfl ?_
  refine q_idiv rfl rfl (by decide) ?_
  refine q_tn (z := nI (q / 11)) ((dv11 ⟨q, hq⟩).1) ?_
  refine q_ist3n rfl rfl rfl rfl ?_
  refine q_iload_n rfl rfl rfl ?_
  refine q_bipush rfl rfl ?_
  refine q_irem rfl rfl (by decide) ?_
  refine q_tn (z := nI (q % 11)) ((dv11 ⟨q, hq⟩).2) ?_
  refine q_ist4 rfl rfl rfl rfl ?_
  refine q_gets rfl rfl ?_
  refine q_iload_n rfl rfl rfl ?_
  refine q_ialdX rfl rfl (in11_4 (by omega)) (x := wI9 (q / 11)) (by rw [nI_clamp (by omega)]; rfl) ?_
  refine q_gets rfl rfl ?_
  refine q_iload rfl rfl rfl ?_
  refine q_ialdX rfl rfl (in11_4 (by omega)) (x := wI9 (q % 11)) (by rw [nI_clamp (by omega)]; rfl) ?_
  refine q_iadd rfl rfl (q_tn (z := nI (wi9 (q / 11) + wi9 (q % 11))) (wi_s (by omega) (by omega)) ?_)
  refine q_iload_n rfl rfl rfl ?_
  have no : ¬ pr9 P s (q / 11) (q % 11) → ∀ l' : List Value, l'.length = 5 → PQ (j_SL L) (j_SV xs) j_EX mm_X1_isPair 64 l' [] S n 0 0 (yn (pr9 P s (q / 11) (q % 11)) S n) := fun h l' _ => q_iconst rfl rfl (q_iret rfl rfl rfl ⟨rfl, rfl, Or.inr ⟨h, rfl⟩⟩)
  by_cases e1 : wi9 (q / 11) + wi9 (q % 11) = s
  rotate_left
  · exact q_cne rfl rfl (fun _ => no (fun h => e1 h.1) _ rfl) (fun c9 => absurd (fun h => e1 ((m_eq (by omega) (by omega)).mp h)) c9)
  refine q_cne rfl rfl (fun c9 => absurd (by rw [e1]) c9) (fun _ => ?_)
  refine q_gets rfl rfl ?_
  refine q_iload_n rfl rfl rfl ?_
  refine q_ialdX rfl rfl (in11_3 (by omega)) (x := tI9 (q / 11)) (by rw [nI_clamp (by omega)]; rfl) ?_
  refine q_aload_n rfl rfl rfl ?_
  refine q_getf rfl rfl (by omega) k32 g2 ?_
  refine q_iconst rfl rfl ?_
  refine q_cV rfl rfl (Or.inl rfl) rfl rfl rfl rfl (by omega) y1 trivial rfl rfl rfl rfl rfl (p_len (x := 0) hW (by omega) hj (by omega)) ?_
  rintro r _ _ ⟨rfl, rfl, rfl⟩
  show PQ (j_SL L) (j_SV xs) j_EX mm_X1_isPair 40 [.ref 32, .int (nI q), .int (nI s), .int (nI (q / 11)), .int (nI (q % 11))] [.int (nI (pL P 0)), .int (tI9 (q / 11))] S n 0 0 _
  by_cases e2 : q / 11 = 0 ∨ to9 (q / 11) < pL P 0
  rotate_left
  · exact q_icge rfl rfl (fun _ => no (fun h => e2 h.2.1) _ rfl) (fun c9 => absurd ((tI_lt (by omega) (by omega)).mp c9) e2)
  refine q_icge rfl rfl (fun c9 => absurd c9 ((tI_lt (by omega) (by omega)).mpr e2)) (fun _ => ?_)
  refine q_gets rfl rfl ?_
  refine q_iload rfl rfl rfl ?_
  refine q_ialdX rfl rfl (in11_3 (by omega)) (x := tI9 (q % 11)) (by rw [nI_clamp (by omega)]; rfl) ?_
  refine q_aload_n rfl rfl rfl ?_
  refine q_getf rfl rfl (by omega) k32 g2 ?_
  refine q_iconst rfl rfl ?_
  refine q_cV rfl rfl (Or.inl rfl) rfl rfl rfl rfl (by omega) y1 trivial rfl rfl rfl rfl rfl (p_len (x := 1) hW (by omega) hj (by omega)) ?_
  rintro r _ _ ⟨rfl, rfl, rfl⟩
  show PQ (j_SL L) (j_SV xs) j_EX mm_X1_isPair 57 [.ref 32, .int (nI q), .int (nI s), .int (nI (q / 11)), .int (nI (q % 11))] [.int (nI (pL P 1)), .int (tI9 (q % 11))] S n 0 0 _
  by_cases e3 : q % 11 = 0 ∨ to9 (q % 11) < pL P 1
  rotate_left
  · exact q_icge rfl rfl (fun _ => no (fun h => e3 h.2.2) _ rfl) (fun c9 => absurd ((tI_lt (by omega) (by omega)).mp c9) e3)
  refine q_icge rfl rfl (fun c9 => absurd c9 ((tI_lt (by omega) (by omega)).mpr e3)) (fun _ => ?_)
  refine q_iconst rfl rfl ?_
  refine q_goto rfl ?_
  exact q_iret rfl rfl rfl ⟨rfl, rfl, Or.inl ⟨⟨e1, e2, e3⟩, rfl⟩⟩
def fit9 (P : PG) : Prop := pH P = 2 ∧ pL P 0 ≤ 4 ∧ pL P 1 ≤ 4
set_option maxHeartbeats 4000000 in
theorem c_fits9 (hW : WFP P) (hn : 82 ≤ n) (hj : JPc 1 P S) (k32 : S 32 = .inr (0, gs)) (g2 : gs[2]? = some (.ref 1)) : PM (j_SL L) (j_SV xs) j_EX mm_X1_fits [.ref 32] S n (yn (fit9 P) S n) := by
  have h3 := hW.2.1
  obtain ⟨os1, y1, h10, -⟩ := p_obj hj
  change PQ (j_SL L) (j_SV xs) j_EX mm_X1_fits 0 [.ref 32] [] S n 0 0 _
  have no : ¬ fit9 P → ∀ l' : List Value, l'.length = 1 → PQ (j_SL L) (j_SV xs) j_EX mm_X1_fits 39 l' [] S n 0 0 (yn (fit9 P) S n) := fun h l' _ => q_iconst rfl rfl (q_iret rfl rfl rfl ⟨rfl, rfl, Or.inr ⟨h, rfl⟩⟩)
  refine q_aload_n rfl rfl rfl ?_
  refine q_getf rfl rfl (by omega) k32 g2 ?_
  refine q_getf rfl rfl (by omega) y1 h10 ?_
  refine q_iconst rfl rfl ?_
  by_cases e1 : pH P = 2
  rotate_left
  · exact q_cne rfl rfl (fun _ => no (fun h => e1 h.1) _ rfl) (fun c9 => absurd (fun h => e1 ((m_eq (b := 2) (by omega) (by decide)).mp h)) c9)
  have l0 := hW.2.2.1 0 (by omega)
  have l1 := hW.2.2.1 1 (by omega)
  refine q_cne rfl rfl (fun c9 => absurd (by rw [e1]; rfl) c9) (fun _ => ?_)
  refine q_aload_n rfl rfl rfl ?_
  refine q_getf rfl rfl (by omega) k32 g2 ?_
  refine q_iconst rfl rfl ?_
  refine q_cV rfl rfl (Or.inl rfl) rfl rfl rfl rfl (by omega) y1 trivial rfl rfl rfl rfl rfl (p_len (x := 0) hW (by omega) hj (by omega)) ?_
  rintro r _ _ ⟨rfl, rfl, rfl⟩
  show PQ (j_SL L) (j_SV xs) j_EX mm_X1_fits 19 [.ref 32] [.int (nI (pL P 0))] S n 0 0 _
  refine q_iconst rfl rfl ?_
  by_cases e2 : pL P 0 ≤ 4
  rotate_left
  · exact q_icgt rfl rfl (fun _ => no (fun h => e2 h.2.1) _ rfl) (fun c9 => absurd ((m_lt (a := 4) (by decide) (by omega)).mpr (by omega)) c9)
  refine q_icgt rfl rfl (fun c9 => absurd ((m_lt (a := 4) (by decide) (by omega)).mp c9) (by omega)) (fun _ => ?_)
  refine q_aload_n rfl rfl rfl ?_
  refine q_getf rfl rfl (by omega) k32 g2 ?_
  refine q_iconst rfl rfl ?_
  refine q_cV rfl rfl (Or.inl rfl) rfl rfl rfl rfl (by omega) y1 trivial rfl rfl rfl rfl rfl (p_len (x := 1) hW (by omega) hj (by omega)) ?_
  rintro r _ _ ⟨rfl, rfl, rfl⟩
  show PQ (j_SL L) (j_SV xs) j_EX mm_X1_fits 31 [.ref 32] [.int (nI (pL P 1))] S n 0 0 _
  refine q_iconst rfl rfl ?_
  by_cases e3 : pL P 1 ≤ 4
  rotate_left
  · exact q_icgt rfl rfl (fun _ => no (fun h => e3 h.2.2) _ rfl) (fun c9 => absurd ((m_lt (a := 4) (by decide) (by omega)).mpr (by omega)) c9)
  refine q_icgt rfl rfl (fun c9 => absurd ((m_lt (a := 4) (by decide) (by omega)).mp c9) (by omega)) (fun _ => ?_)
  refine q_iconst rfl rfl ?_
  refine q_goto rfl ?_
  exact q_iret rfl rfl rfl ⟨rfl, rfl, Or.inl ⟨⟨e1, e2, e3⟩, rfl⟩⟩
def nfl (f : Nat → Int64) (m : Nat) : Nat → Int64 := fun i => if i < m then 0 else f i
set_option maxHeartbeats 4000000 in
theorem l_filJ (hn : 82 ≤ n) (k41 : S 41 = .inl (1, 363, .inr (.inl ot))) : PM (j_SL L) (j_SV xs) j_EX mm_J7_fill_d0a16 [.ref 41, .long 0] S n (fun r S' n' => r = none ∧ S' = va_up S 41 (.inl (1, 363, .inr (.inl (nfl ot 363)))) ∧ n = n') := by
  change PQ (j_SL L) (j_SV xs) j_EX mm_J7_fill_d0a16 0 [.ref 41, .long 0, pm_un, pm_un, pm_un] [] S n 0 0 _
  refine q_iconst rfl rfl ?_
  refine q_ist3n rfl rfl rfl rfl ?_
  refine q_aload_n rfl rfl rfl ?_
  refine q_alen rfl rfl (by omega) k41 rfl ?_
  show PQ (j_SL L) (j_SV xs) j_EX mm_J7_fill_d0a16 4 [.ref 41, .long 0, pm_un, .int 0, pm_un] [.int (nI 363)] S n 0 0 _
  refine q_ist4 rfl rfl rfl rfl ?_
  have loop : ∀ m i : Nat, i + m = 363 → PQ (j_SL L) (j_SV xs) j_EX mm_J7_fill_d0a16 6 [.ref 41, .long 0, pm_un, .int (nI i), .int (nI 363)] [] (va_up S 41 (.inl (1, 363, .inr (.inl (nfl ot i))))) n 0 0 (fun r S' n' => r = none ∧ S' = va_up S 41 (.inl (1, 363, .inr (.inl (nfl ot 363)))) ∧ n = n') := by
    intro m
    induction m with
    | zero =>
      intro i hi
      have e : i = 363 := by omega
      subst e
      refine q_iload_n rfl rfl rfl ?_
      refine q_iload rfl rfl rfl ?_
      refine q_icge rfl rfl (fun _ => ?_) (fun c => absurd (Int32.le_refl _) c)
      exact q_ret rfl rfl ⟨rfl, rfl, rfl⟩
    | succ m ih =>
      intro i hi
      refine q_iload_n rfl rfl rfl ?_
      refine q_iload rfl rfl rfl ?_
      refine q_icge rfl rfl (fun c => absurd c (nI_ge (a := i) (b := 363) (by omega) (by decide))) (fun _ => ?_)
      refine q_aload_n rfl rfl rfl ?_
      refine q_iload_n rfl rfl rfl ?_
      refine q_lload_n rfl rfl rfl ?_
      refine q_last rfl rfl (by omega) u_eq (q_inN (by omega) (by decide)) ?_
      rw [nI_clamp (by omega)]
      refine q_icc3 rfl rfl rfl rfl (z := nI (i + 1)) (nI_add i 1) ?_
      refine q_goto rfl ?_
      have e9 : va_up (va_up S 41 (.inl (1, 363, .inr (.inl (nfl ot i))))) 41 (.inl (1, 363, .inr (.inl (vp_updL (nfl ot i) i 0)))) = va_up S 41 (.inl (1, 363, .inr (.inl (nfl ot (i + 1))))) := by
        have e8 : vp_updL (nfl ot i) i 0 = nfl ot (i + 1) := by
          funext j
          by_cases e : j = i
          · rw [e, vL_at]
            unfold nfl
            rw [if_pos (by omega)]
          · rw [vL_ot e]
            unfold nfl
            by_cases c : j < i
            · rw [if_pos c, if_pos (by omega)]
            · rw [if_neg c, if_neg (by omega)]
        rw [e8]
        funext j
        by_cases e : j = 41
        · subst e
          rw [u_eq, u_eq]
        · rw [u_ne e, u_ne e, u_ne e]
      rw [e9]
      exact ih (i + 1) (by omega)
  have h0 := loop 363 0 rfl
  have e0 : va_up S 41 (.inl (1, 363, .inr (.inl (nfl ot 0)))) = S := by
    have e8 : nfl ot 0 = ot := by
      funext j
      unfold nfl
      rw [if_neg (Nat.not_lt_zero j)]
    rw [e8, ← k41]
    funext j
    by_cases e : j = 41
    · subst e
      exact u_eq
    · exact u_ne e
  rw [e0] at h0
  exact h0
def RF9 (gs : List Value) : Prop := gs[2]? = some (.ref 1) ∧ gs[3]? = some (.ref 16) ∧ gs[4]? = some (.ref 33) ∧ gs[5]? = some (.ref 39) ∧ gs[6]? = some (.ref 40) ∧ gs[7]? = some (.ref 41)
/-- all but what the outcomes hold -/
def FX9 (P : PG) (gs : List Value) (ot : Nat → Int64) (S : Nat → pm_E) : Prop := JPc 1 P S ∧ S 32 = .inr (0, gs) ∧ RF9 gs ∧ D09 S ∧ JMc 39 33 0 S ∧ OAll 16 S ∧ S 41 = .inl (1, 363, .inr (.inl ot))
def OK9 (P : PG) (ot : Nat → Int64) : Prop := ∀ l q, l < 3 → q < 121 → ot (121 * l + q) = 0 ∨ okO9 (PGf P l (q / 11) (q % 11)) (ot (121 * l + q))
theorem fi_fx (h : FX9 P gs ot S) (h' : OK9 P ot) : FI9 P S := ⟨h.1, ⟨gs, h.2.1, h.2.2.1⟩, h.2.2.2.1, h.2.2.2.2.1, h.2.2.2.2.2.1, ot, h.2.2.2.2.2.2, h'⟩
theorem fx_fi (h : FI9 P S) (k : S 32 = .inr (0, gs)) : ∃ ot, FX9 P gs ot S ∧ OK9 P ot := by
  obtain ⟨hj, ⟨gs', k', hg⟩, hD, hM, hA, ot, k41, ho⟩ := h
  have ef := (Prod.mk.inj (Sum.inr.inj (k'.symm.trans k))).2
  subst ef
  exact ⟨ot, ⟨hj, k, hg, hD, hM, hA, k41⟩, ho⟩
theorem fx_W {gs' : List Value} {ot' : Nat → Int64} (h : FX9 P gs ot S) (e : ∀ j, j ≠ 32 → j ≠ 40 → j ≠ 41 → W j = S j) (k : W 32 = .inr (0, gs')) (hg : RF9 gs') (k41 : W 41 = .inl (1, 363, .inr (.inl ot'))) : FX9 P gs' ot' W := by
  obtain ⟨hj, -, -, hD, ⟨ms, k39, hm⟩, hA, -⟩ := h
  refine ⟨?_, k, hg, d0_fr hD (fun j h1 h2 => e j (by omega) (by omega) (by omega)), ⟨ms, (e 39 (by decide) (by decide) (by decide)).trans k39, hm⟩, ?_, k41⟩
  · obtain ⟨fs, fa, ln, l4, l5, l6, k0, h1, h2, h3, h4, h5, h6, k1, k2, k3, k4, k5, h7⟩ := hj
    exact ⟨fs, fa, ln, l4, l5, l6, (e 1 (by decide) (by decide) (by decide)).trans k0, h1, h2, h3, h4, h5, h6, (e 2 (by decide) (by decide) (by decide)).trans k1, (e 3 (by decide) (by decide) (by decide)).trans k2, (e 4 (by decide) (by decide) (by decide)).trans k3, (e 5 (by decide) (by decide) (by decide)).trans k4, (e 6 (by decide) (by decide) (by decide)).trans k5, h7⟩
  · obtain ⟨N, sp, sl, en, fo, og, mv, so, fw, tb, ce, hO, hN, hH⟩ := hA
    exact ⟨N, sp, sl, en, fo, og, mv, so, fw, tb, ce, OCo_same hO (fun j h1 h2 => e j (by omega) (by omega) (by omega)), hN, hH⟩
def frY (S S' : Nat → pm_E) : Prop := ∀ j, j < 16 ∨ (24 ≤ j ∧ j < 32) ∨ j = 39 ∨ 42 ≤ j → S' j = S j
theorem frY_X {S1 S2 S3 : Nat → pm_E} (h : frY S1 S2) (h' : frX S2 S3) : frY S1 S3 := fun j hj => (h' j (by omega)).trans (h j hj)
/-- what least leaves -/
def lsK (P : PG) (l p v : Nat) (su : Int32) (ch : Nat → Int32) (S : Nat → pm_E) (n : Nat) : q_K := fun r S' n' => n = n' ∧ frY S S' ∧ ∃ (gs' : List Value) (ot' : Nat → Int64), FX9 P gs' ot' S' ∧ OK9 P ot' ∧ gs'[1]? = some (.int 0) ∧ ∃ r9, fst9 (hit9 P l p v) r9 ∧ ((r9 = none ∧ r = some (.int (-2)) ∧ gs'[0]? = some (.int su) ∧ S' 40 = .inl (0, 2, .inl ch)) ∨ ∃ s q ch', r9 = some (s, q) ∧ r = some (.int (nI s)) ∧ gs'[0]? = some (.int 1) ∧ S' 40 = .inl (0, 2, .inl ch') ∧ ch' 0 = nI (q / 11) ∧ ch' 1 = nI (q % 11))
set_option maxHeartbeats 16000000 in
theorem c_least9 (hY : HY9 P) (hl : l < 3) (hp : p < 4) (hv : v < 10) (hn : 82 ≤ n) (H : FX9 P gs ot S) (g0 : gs[0]? = some (.int su)) (g1 : gs[1]? = some (.int st)) (k40 : S 40 = .inl (0, 2, .inl ch)) (hst : st = 0 → OK9 P ot) : PM (j_SL L) (j_SV xs) j_EX mm_X1_least [.ref 32, .int (nI l), .int (nI p), .int (nI v)] S n (lsK P l p v su ch S n) := by
  have H0 := H
  obtain ⟨-, k32, ⟨g2, g3, g4, g5, g6, g7⟩, -, -, -, k41⟩ := H
  change PQ (j_SL L) (j_SV xs) j_EX mm_X1_least 0 [.ref 32, .int (nI l), .int (nI p), .int (nI v), pm_un, pm_un] [] S n 0 0 _
  have main : ∀ (T : Nat → pm_E) (hs : List Value), frY S T → T 32 = .inr (0, hs) → hs[0]? = some (.int su) → hs[1]? = some (.int 0) → RF9 hs → T 40 = .inl (0, 2, .inl ch) → FI9 P T → PQ (j_SL L) (j_SV xs) j_EX mm_X1_least 20 [.ref 32, .int (nI l), .int (nI p), .int (nI v), pm_un, pm_un] [] T n 0 0 (lsK P l p v su ch S n) := by
    intro T hs eT t32 h0 h1 hR t40 hF
    obtain ⟨h2, h3, h4, h5, h6, h7⟩ := id hR
    have inner : ∀ s, s ≤ 8 → (∀ V : Nat → pm_E, frX T V → FI9 P V → (∀ s' q', s' ≤ 8 → q' < 121 → s' < s + 1 ∨ (s' = s + 1 ∧ q' < 0) → ¬ hit9 P l p v s' q') → PQ (j_SL L) (j_SV xs) j_EX mm_X1_least 23 [.ref 32, .int (nI l), .int (nI p), .int (nI v), .int (nI (s + 1)), .int (nI 121)] [] V n 0 0 (lsK P l p v su ch S n)) → ∀ m q : Nat, q + m = 121 → ∀ V : Nat → pm_E, frX T V → FI9 P V → (∀ s' q', s' ≤ 8 → q' < 121 → s' < s ∨ (s' = s ∧ q' < q) → ¬ hit9 P l p v s' q') → PQ (j_SL L) (j_SV xs) j_EX mm_X1_least 33 [.ref 32, .int (nI l), .int (nI p), .int (nI v), .int (nI s), .int (nI q)] [] V n 0 0 (lsK P l p v su ch S n) := by
      intro s hs8 next m
      induction m with
      | zero =>
        intro q hq V eV hV no
        have e : q = 121 := by omega
        subst e
        refine q_iload rfl rfl rfl ?_
        refine q_bipush rfl rfl ?_
        refine q_icge rfl rfl (fun _ => ?_) (fun c => absurd (Int32.le_refl _) c)
        refine q_icc4 rfl rfl rfl rfl (z := nI (s + 1)) (nI_add s 1) ?_
        refine q_goto rfl ?_
        exact next V eV hV (fun s' q' h1 h2 h3 => no s' q' h1 h2 (by omega))
      | succ m ih =>
        intro q hqm V eV hV no
        have hq : q < 121 := by omega
        have v32 := (eV 32 (by omega)).trans t32
        have jV := hV.1
        refine q_iload rfl rfl rfl ?_
        refine q_bipush rfl rfl ?_
        refine q_icge rfl rfl (fun c => absurd c (nI_ge (a := q) (b := 121) (by omega) (by decide))) (fun _ => ?_)
        have skip : ¬ hit9 P l p v s q → ∀ X9 : Nat → pm_E, frX T X9 → FI9 P X9 → PQ (j_SL L) (j_SV xs) j_EX mm_X1_least 96 [.ref 32, .int (nI l), .int (nI p), .int (nI v), .int (nI s), .int (nI q)] [] X9 n 0 0 (lsK P l p v su ch S n) := by
          intro nh X9 eX hX
          refine q_icc5 rfl rfl rfl rfl (z := nI (q + 1)) (nI_add q 1) ?_
          refine q_goto rfl ?_
          refine ih (q + 1) (by omega) X9 eX hX (fun s' q' h1 h2 h3 => ?_)
          by_cases e : s' = s ∧ q' = q
          · rw [e.1, e.2]
            exact nh
          · exact no s' q' h1 h2 (by omega)
        refine q_aload_n rfl rfl rfl ?_
        refine q_iload rfl rfl rfl ?_
        refine q_iload rfl rfl rfl ?_
        refine q_cV rfl rfl (Or.inl rfl) rfl rfl rfl rfl (by omega) v32 trivial rfl rfl rfl rfl rfl (c_pair9 hY.1 hY.2.2.1 hq (by omega) hn jV v32 h2) ?_
        rintro r _ _ ⟨rfl, rfl, hr⟩
        rcases hr with ⟨hpr, rfl⟩ | ⟨hpr, rfl⟩
        rotate_left
        · show PQ (j_SL L) (j_SV xs) j_EX mm_X1_least 48 [.ref 32, .int (nI l), .int (nI p), .int (nI v), .int (nI s), .int (nI q)] [.int 0] V n 0 0 _
          refine q_ifeq rfl rfl (fun _ => ?_) (fun c => absurd rfl c)
          exact skip (fun h => hpr h.1) V eV hV
        show PQ (j_SL L) (j_SV xs) j_EX mm_X1_least 48 [.ref 32, .int (nI l), .int (nI p), .int (nI v), .int (nI s), .int (nI q)] [.int 1] V n 0 0 _
        refine q_ifeq rfl rfl (fun c => absurd c (by decide)) (fun _ => ?_)
        refine q_aload_n rfl rfl rfl ?_
        refine q_iload_n rfl rfl rfl ?_
        refine q_iload rfl rfl rfl ?_
        refine q_cV rfl rfl (Or.inl rfl) rfl rfl rfl rfl (by omega) v32 trivial rfl rfl rfl rfl rfl (c_out9 hY hl hq hn hV) ?_
        rintro r X9 _ ⟨rfl, eX, hX, o9, rfl, hok⟩
        show PQ (j_SL L) (j_SV xs) j_EX mm_X1_least 58 [.ref 32, .int (nI l), .int (nI p), .int (nI v), .int (nI s), .int (nI q)] [.long o9] X9 n 0 0 _
        have eX9 : frX T X9 := frX_t eV eX
        have hWf := pgf_wf (l := l) (c := q / 11) (d := q % 11) hY.1 hY.2.1 hY.2.2.1 hY.2.2.2 hl
        refine q_iload_n rfl rfl rfl ?_
        refine q_iload_n rfl rfl rfl ?_
        refine q_cS rfl rfl (Or.inl rfl) rfl rfl trivial rfl rfl rfl rfl rfl (c_hold9 hp hv) ?_
        rintro r _ _ ⟨rfl, rfl, hr⟩
        rcases hr with ⟨hho, rfl⟩ | ⟨hho, rfl⟩
        rotate_left
        · show PQ (j_SL L) (j_SV xs) j_EX mm_X1_least 63 [.ref 32, .int (nI l), .int (nI p), .int (nI v), .int (nI s), .int (nI q)] [.int 0] X9 n 0 0 _
          refine q_ifeq rfl rfl (fun _ => ?_) (fun c => absurd rfl c)
          exact skip (fun h => hho ((hold_iff hWf hok hp hv).mpr h.2)) X9 eX9 hX
        show PQ (j_SL L) (j_SV xs) j_EX mm_X1_least 63 [.ref 32, .int (nI l), .int (nI p), .int (nI v), .int (nI s), .int (nI q)] [.int 1] X9 n 0 0 _
        refine q_ifeq rfl rfl (fun c => absurd c (by decide)) (fun _ => ?_)
        have hit : hit9 P l p v s q := ⟨hpr, (hold_iff hWf hok hp hv).mp hho⟩
        have z32 := (eX9 32 (by omega)).trans t32
        have z40 := (eX9 40 (by omega)).trans t40
        obtain ⟨ot9, hX9, hO9⟩ := fx_fi hX z32
        have z41 := hX9.2.2.2.2.2.2
        have fr : ∀ j, j ≠ 32 ∧ j ≠ 40 → X9 j = X9 j := fun _ _ => rfl
        refine q_aload_n rfl rfl rfl ?_
        refine q_getf rfl rfl (by omega) z32 h6 ?_
        refine q_iconst rfl rfl ?_
        show PQ (j_SL L) (j_SV xs) j_EX mm_X1_least 71 [.ref 32, .int (nI l), .int (nI p), .int (nI v), .int (nI s), .int (nI q)] [.int (nI 0), .ref 40] X9 n 0 0 _
        refine q_iload rfl rfl rfl ?_
        refine q_bipush rfl rfl ?_
        refine q_idiv rfl rfl (by decide) ?_
        refine q_tn (z := nI (q / 11)) ((dv11 ⟨q, hq⟩).1) ?_
        refine q_iast rfl rfl (by omega) z40 (q_inN (by omega) (by decide)) ?_
        rw [nI_clamp (by omega)]
        have e1 : ∀ j, j ≠ 40 → va_up X9 40 (.inl (0, 2, .inl (upd ch 0 (nI (q / 11))))) j = X9 j := fun j hj => u_ne hj
        have x1 : va_up X9 40 (.inl (0, 2, .inl (upd ch 0 (nI (q / 11))))) 40 = .inl (0, 2, .inl (upd ch 0 (nI (q / 11)))) := u_eq
        generalize va_up X9 40 (.inl (0, 2, .inl (upd ch 0 (nI (q / 11))))) = S1 at e1 x1 ⊢
        have z32 := (e1 32 (by decide)).trans z32
        have z41 := (e1 41 (by decide)).trans z41
        have fr : ∀ j, j ≠ 32 ∧ j ≠ 40 → S1 j = X9 j := fun j hj => (e1 j (by omega)).trans (fr j hj)
        refine q_aload_n rfl rfl rfl ?_
        refine q_getf rfl rfl (by omega) z32 h6 ?_
        refine q_iconst rfl rfl ?_
        show PQ (j_SL L) (j_SV xs) j_EX mm_X1_least 82 [.ref 32, .int (nI l), .int (nI p), .int (nI v), .int (nI s), .int (nI q)] [.int (nI 1), .ref 40] S1 n 0 0 _
        refine q_iload rfl rfl rfl ?_
        refine q_bipush rfl rfl ?_
        refine q_irem rfl rfl (by decide) ?_
        refine q_tn (z := nI (q % 11)) ((dv11 ⟨q, hq⟩).2) ?_
        refine q_iast rfl rfl (by omega) x1 (q_inN (by omega) (by decide)) ?_
        rw [nI_clamp (by omega)]
        have e2 : ∀ j, j ≠ 40 → va_up S1 40 (.inl (0, 2, .inl (upd (upd ch 0 (nI (q / 11))) 1 (nI (q % 11))))) j = S1 j := fun j hj => u_ne hj
        have x2 : va_up S1 40 (.inl (0, 2, .inl (upd (upd ch 0 (nI (q / 11))) 1 (nI (q % 11))))) 40 = .inl (0, 2, .inl (upd (upd ch 0 (nI (q / 11))) 1 (nI (q % 11)))) := u_eq
        generalize va_up S1 40 (.inl (0, 2, .inl (upd (upd ch 0 (nI (q / 11))) 1 (nI (q % 11))))) = S2 at e2 x2 ⊢
        have z32 := (e2 32 (by decide)).trans z32
        have z41 := (e2 41 (by decide)).trans z41
        have fr : ∀ j, j ≠ 32 ∧ j ≠ 40 → S2 j = X9 j := fun j hj => (e2 j (by omega)).trans (fr j hj)
        refine q_aload_n rfl rfl rfl ?_
        refine q_iconst rfl rfl ?_
        refine q_putf rfl rfl (by omega) z32 (List.getElem?_eq_some_iff.mp h0).1 rfl (show _ = true from rfl) ?_
        have e3 : ∀ j, j ≠ 32 → va_up S2 32 (.inr (0, (hs).set 0 (.int 1))) j = S2 j := fun j hj => u_ne hj
        have x3 : va_up S2 32 (.inr (0, (hs).set 0 (.int 1))) 32 = .inr (0, (hs).set 0 (.int 1)) := u_eq
        generalize va_up S2 32 (.inr (0, (hs).set 0 (.int 1))) = S3 at e3 x3 ⊢
        have x2 := (e3 40 (by decide)).trans x2
        have z41 := (e3 41 (by decide)).trans z41
        have fr : ∀ j, j ≠ 32 ∧ j ≠ 40 → S3 j = X9 j := fun j hj => (e3 j (by omega)).trans (fr j hj)
        refine q_iload rfl rfl rfl ?_
        have hg9 : RF9 (hs.set 0 (.int 1)) := ⟨(os_ne (by decide)).trans h2, (os_ne (by decide)).trans h3, (os_ne (by decide)).trans h4, (os_ne (by decide)).trans h5, (os_ne (by decide)).trans h6, (os_ne (by decide)).trans h7⟩
        refine q_iret rfl rfl trivial ⟨rfl, fun j hj => (fr j (by omega)).trans ((eX9 j (by omega)).trans (eT j hj)), hs.set 0 (.int 1), ot9, fx_W hX9 (fun j a1 a2 a3 => fr j ⟨a1, a2⟩) x3 hg9 z41, hO9, (os_ne (by decide)).trans h1, some (s, q), ⟨hs8, hq, hit, no⟩, Or.inr ⟨s, q, _, rfl, rfl, os_at h0, x2, ?_, ?_⟩⟩
        · rw [u32_ot (by decide), u32_at]
        · rw [u32_at]
    have outer : ∀ m s : Nat, s + m = 9 → ∀ (V : Nat → pm_E) (a5 : Value), pm_c2 a5 = false → frX T V → FI9 P V → (∀ s' q', s' ≤ 8 → q' < 121 → s' < s ∨ (s' = s ∧ q' < 0) → ¬ hit9 P l p v s' q') → PQ (j_SL L) (j_SV xs) j_EX mm_X1_least 23 [.ref 32, .int (nI l), .int (nI p), .int (nI v), .int (nI s), a5] [] V n 0 0 (lsK P l p v su ch S n) := by
      intro m
      induction m with
      | zero =>
        intro s hs9 V a5 b5 eV hV no
        have e : s = 9 := by omega
        subst e
        refine q_iload rfl rfl rfl ?_
        refine q_bipush rfl rfl ?_
        refine q_icgt rfl rfl (fun _ => ?_) (fun c => absurd (by decide) c)
        refine q_bipush rfl rfl ?_
        have v32 := (eV 32 (by omega)).trans t32
        obtain ⟨ot9, hV9, hO9⟩ := fx_fi hV v32
        exact q_iret rfl rfl trivial ⟨rfl, frY_X eT eV, hs, ot9, hV9, hO9, h1, none, fun s' q' c1 c2 => no s' q' c1 c2 (by omega), Or.inl ⟨rfl, rfl, h0, (eV 40 (by omega)).trans t40⟩⟩
      | succ m ih =>
        intro s hsm V a5 b5 eV hV no
        refine q_iload rfl rfl rfl ?_
        refine q_bipush rfl rfl ?_
        refine q_icgt rfl rfl (fun c => absurd ((m_lt (a := 8) (by decide) (by omega)).mp c) (by omega)) (fun _ => ?_)
        refine q_iconst rfl rfl ?_
        refine q_ist5 rfl rfl rfl rfl ?_
        exact inner s (by omega) (fun V9 e9 h9 n9 => ih (s + 1) (by omega) V9 _ rfl e9 h9 n9) 121 0 rfl V eV hV no
    refine q_iconst rfl rfl ?_
    refine q_ist4 rfl rfl rfl rfl ?_
    exact outer 9 0 rfl T _ rfl (fun _ _ => rfl) hF (fun s' q' _ _ h => by omega)
  refine q_aload_n rfl rfl rfl ?_
  refine q_getf rfl rfl (by omega) k32 g1 ?_
  by_cases s0 : st = 0
  · refine q_ifeq rfl rfl (fun _ => ?_) (fun c9 => absurd s0 c9)
    subst s0
    exact main S gs (fun _ _ => rfl) k32 g0 g1 H0.2.2.1 k40 (fi_fx H0 (hst rfl))
  refine q_ifeq rfl rfl (fun c9 => absurd c9 s0) (fun _ => ?_)
  refine q_aload_n rfl rfl rfl ?_
  refine q_getf rfl rfl (by omega) k32 g7 ?_
  refine q_lconst rfl rfl ?_
  refine q_cS rfl rfl (Or.inl rfl) rfl rfl trivial rfl rfl rfl rfl rfl (l_filJ hn k41) ?_
  rintro r _ _ ⟨rfl, rfl, rfl⟩
  show PQ (j_SL L) (j_SV xs) j_EX mm_X1_least 15 [.ref 32, .int (nI l), .int (nI p), .int (nI v), pm_un, pm_un] [] (va_up S 41 (.inl (1, 363, .inr (.inl (nfl ot 363))))) n 0 0 _
  have eZ : ∀ j, j ≠ 41 → va_up S 41 (.inl (1, 363, .inr (.inl (nfl ot 363)))) j = S j := fun j hj => u_ne hj
  have z41 : va_up S 41 (.inl (1, 363, .inr (.inl (nfl ot 363)))) 41 = .inl (1, 363, .inr (.inl (nfl ot 363))) := u_eq
  generalize va_up S 41 (.inl (1, 363, .inr (.inl (nfl ot 363)))) = Z at eZ z41 ⊢
  have z32 := (eZ 32 (by decide)).trans k32
  have fr : ∀ j, j ≠ 32 ∧ j ≠ 41 → Z j = S j := fun j hj => eZ j hj.2
  refine q_aload_n rfl rfl rfl ?_
  refine q_iconst rfl rfl ?_
  refine q_putf rfl rfl (by omega) z32 (List.getElem?_eq_some_iff.mp g1).1 rfl (show _ = true from rfl) ?_
  have e4 : ∀ j, j ≠ 32 → va_up Z 32 (.inr (0, (gs).set 1 (.int 0))) j = Z j := fun j hj => u_ne hj
  have x4 : va_up Z 32 (.inr (0, (gs).set 1 (.int 0))) 32 = .inr (0, (gs).set 1 (.int 0)) := u_eq
  generalize va_up Z 32 (.inr (0, (gs).set 1 (.int 0))) = S4 at e4 x4 ⊢
  have z41 := (e4 41 (by decide)).trans z41
  have fr : ∀ j, j ≠ 32 ∧ j ≠ 41 → S4 j = S j := fun j hj => (e4 j (by omega)).trans (fr j hj)
  have hg9 : RF9 (gs.set 1 (.int 0)) := ⟨(os_ne (by decide)).trans g2, (os_ne (by decide)).trans g3, (os_ne (by decide)).trans g4, (os_ne (by decide)).trans g5, (os_ne (by decide)).trans g6, (os_ne (by decide)).trans g7⟩
  have hF : FI9 P S4 := fi_fx (fx_W H0 (fun j a1 a2 a3 => fr j ⟨a1, a3⟩) x4 hg9 z41) (fun l' q' h1 h2 => Or.inl (by unfold nfl; rw [if_pos (by omega)]))
  exact main S4 _ (fun j hj => fr j (by omega)) x4 ((os_ne (by decide)).trans g0) (os_at g1) hg9 ((fr 40 (by decide)).trans k40) hF
theorem in2 {x : Int32} {b : Nat} (hb : b < 2 ^ 31) (h : 0 ≤ x ∧ x < nI b) : ∃ k : Nat, k < b ∧ x = nI k := by
  have h0 := h.1
  have h1 := h.2
  rw [Int32.le_iff_toInt_le] at h0
  rw [Int32.lt_iff_toInt_lt, nI_toInt hb] at h1
  have z : (0 : Int32).toInt = 0 := rfl
  exact ⟨x.toInt.toNat, by omega, nI_ofI (by omega) (by omega)⟩
set_option maxHeartbeats 4000000 in
theorem c_bound9 {w : Nat} (hx : x < 2) (hw : w < 2) (hc : c < 11) (hn : 82 ≤ n) (k32 : S 32 = .inr (0, gs)) (g6 : gs[6]? = some (.ref 40)) (k40 : S 40 = .inl (0, 2, .inl ch)) (hch : ch x = nI c) : PM (j_SL L) (j_SV xs) j_EX mm_X1_bound [.ref 32, .int (nI x), .int (nI w)] S n (fun r S' n' => S = S' ∧ n = n' ∧ r = some (.int (if w = 0 then fI9 c else tI9 c))) := by
  change PQ (j_SL L) (j_SV xs) j_EX mm_X1_bound 0 [.ref 32, .int (nI x), .int (nI w)] [] S n 0 0 _
  refine q_iload_n rfl rfl rfl ?_
  refine q_iconst rfl rfl ?_
  refine q_cS rfl rfl (Or.inr rfl) rfl rfl trivial rfl rfl rfl rfl rfl (c_wi) ?_
  rintro r _ _ ⟨rfl, rfl, hr⟩
  rcases hr with ⟨hr, rfl⟩ | ⟨-, rfl⟩
  · exfalso
    rw [Int32.lt_iff_toInt_lt, Int32.le_iff_toInt_le, nI_toInt (by omega)] at hr
    have z : (0 : Int32).toInt = 0 := rfl
    have z2 : (2 : Int32).toInt = 2 := rfl
    omega
  show PQ (j_SL L) (j_SV xs) j_EX mm_X1_bound 5 [.ref 32, .int (nI x), .int (nI w)] [.int 1] S n 0 0 _
  refine q_fne rfl rfl (fun _ => ?_) (fun c9 => absurd (by decide) c9)
  refine q_iload_n rfl rfl rfl ?_
  by_cases e : w = 0
  · subst e
    refine q_fne rfl rfl (fun c9 => absurd rfl c9) (fun _ => ?_)
    refine q_gets rfl rfl ?_
    refine q_aload_n rfl rfl rfl ?_
    refine q_getf rfl rfl (by omega) k32 g6 ?_
    refine q_iload_n rfl rfl rfl ?_
    refine q_iald rfl rfl (by omega) k40 (q_inN (by omega) (by decide)) (q_tn (z := nI c) (by rw [nI_clamp (by omega)]; exact hch) ?_)
    refine q_ialdX rfl rfl (in11_2 (by omega)) (x := fI9 c) (by rw [nI_clamp (by omega)]; rfl) ?_
    refine q_goto rfl ?_
    exact q_iret rfl rfl trivial ⟨rfl, rfl, by rw [if_pos rfl]⟩
  refine q_fne rfl rfl (fun _ => ?_) (fun c9 => absurd (fun h => e ((m_eq (b := 0) (by omega) (by decide)).mp h)) c9)
  refine q_gets rfl rfl ?_
  refine q_aload_n rfl rfl rfl ?_
  refine q_getf rfl rfl (by omega) k32 g6 ?_
  refine q_iload_n rfl rfl rfl ?_
  refine q_iald rfl rfl (by omega) k40 (q_inN (by omega) (by decide)) (q_tn (z := nI c) (by rw [nI_clamp (by omega)]; exact hch) ?_)
  refine q_ialdX rfl rfl (in11_3 (by omega)) (x := tI9 c) (by rw [nI_clamp (by omega)]; rfl) ?_
  exact q_iret rfl rfl trivial ⟨rfl, rfl, by rw [if_neg e]⟩
/-- what fixed answers -/
def fxR (su : Int32) (ch : Nat → Int32) (y z : Int32) : Int32 := if (0 ≤ y ∧ y < 2) ∧ (0 ≤ z ∧ z < 2) then (if su = 0 then -3 else if z = 0 then fI9 (ch y.toNatClampNeg).toNatClampNeg else tI9 (ch y.toNatClampNeg).toNatClampNeg) else -1
theorem wi_no {y b : Int32} (h : y < 0 ∨ b ≤ y) : ¬ (0 ≤ y ∧ y < b) := fun h9 => by
  rw [Int32.lt_iff_toInt_lt, Int32.le_iff_toInt_le] at h h9
  rcases h with h | h <;> omega
set_option maxHeartbeats 4000000 in
theorem c_fixed9 {fs : List Value} {y z : Int32} (hn : 82 ≤ n) (k0 : S 0 = .inr (9, fs)) (f5 : fs[5]? = some (.ref 32)) (k32 : S 32 = .inr (0, gs)) (g0 : gs[0]? = some (.int su)) (g6 : gs[6]? = some (.ref 40)) (k40 : S 40 = .inl (0, 2, .inl ch)) (hch : su ≠ 0 → ∃ c d, c < 11 ∧ d < 11 ∧ ch 0 = nI c ∧ ch 1 = nI d) : PM (j_SL L) (j_SV xs) j_EX mm_X11_fixed [.ref 0, .int y, .int z] S n (fun r S' n' => S = S' ∧ n = n' ∧ r = some (.int (fxR su ch y z))) := by
  change PQ (j_SL L) (j_SV xs) j_EX mm_X11_fixed 0 [.ref 0, .int y, .int z] [] S n 0 0 _
  have no : ¬ ((0 ≤ y ∧ y < 2) ∧ (0 ≤ z ∧ z < 2)) → PQ (j_SL L) (j_SV xs) j_EX mm_X11_fixed 16 [.ref 0, .int y, .int z] [] S n 0 0 (fun r S' n' => S = S' ∧ n = n' ∧ r = some (.int (fxR su ch y z))) := fun h => q_iconst rfl rfl (q_iret rfl rfl trivial ⟨rfl, rfl, by unfold fxR; rw [if_neg h]⟩)
  refine q_iload_n rfl rfl rfl ?_
  refine q_iconst rfl rfl ?_
  refine q_cS rfl rfl (Or.inl rfl) rfl rfl trivial rfl rfl rfl rfl rfl (c_wi) ?_
  rintro r _ _ ⟨rfl, rfl, hr⟩
  rcases hr with ⟨hr, rfl⟩ | ⟨hy, rfl⟩
  · show PQ (j_SL L) (j_SV xs) j_EX mm_X11_fixed 5 [.ref 0, .int y, .int z] [.int 0] S n 0 0 _
    refine q_ifeq rfl rfl (fun _ => ?_) (fun c => absurd rfl c)
    exact no (fun h => wi_no hr h.1)
  show PQ (j_SL L) (j_SV xs) j_EX mm_X11_fixed 5 [.ref 0, .int y, .int z] [.int 1] S n 0 0 _
  refine q_ifeq rfl rfl (fun c => absurd c (by decide)) (fun _ => ?_)
  refine q_iload_n rfl rfl rfl ?_
  refine q_iconst rfl rfl ?_
  refine q_cS rfl rfl (Or.inl rfl) rfl rfl trivial rfl rfl rfl rfl rfl (c_wi) ?_
  rintro r _ _ ⟨rfl, rfl, hr⟩
  rcases hr with ⟨hr, rfl⟩ | ⟨hz, rfl⟩
  · show PQ (j_SL L) (j_SV xs) j_EX mm_X11_fixed 13 [.ref 0, .int y, .int z] [.int 0] S n 0 0 _
    refine q_fne rfl rfl (fun c9 => absurd rfl c9) (fun _ => ?_)
    exact no (fun h => wi_no hr h.2)
  show PQ (j_SL L) (j_SV xs) j_EX mm_X11_fixed 13 [.ref 0, .int y, .int z] [.int 1] S n 0 0 _
  refine q_fne rfl rfl (fun _ => ?_) (fun c9 => absurd (by decide) c9)
  refine q_aload_n rfl rfl rfl ?_
  refine q_getf rfl rfl (by omega) k0 f5 ?_
  refine q_getf rfl rfl (by omega) k32 g0 ?_
  by_cases s0 : su = 0
  · refine q_ifeq rfl rfl (fun _ => ?_) (fun c9 => absurd s0 c9)
    refine q_bipush rfl rfl ?_
    exact q_iret rfl rfl trivial ⟨rfl, rfl, by unfold fxR; rw [if_pos ⟨hy, hz⟩, if_pos s0]⟩
  refine q_ifeq rfl rfl (fun c9 => absurd c9 s0) (fun _ => ?_)
  obtain ⟨c, d, hc, hd, h0, h1⟩ := hch s0
  obtain ⟨a, ha, rfl⟩ := in2 (b := 2) (by decide) hy
  obtain ⟨b, hb, rfl⟩ := in2 (b := 2) (by decide) hz
  refine q_aload_n rfl rfl rfl ?_
  refine q_getf rfl rfl (by omega) k0 f5 ?_
  refine q_iload_n rfl rfl rfl ?_
  refine q_iload_n rfl rfl rfl ?_
  have hcc : ∃ c : Nat, c < 11 ∧ ch a = nI c := by
    rcases (show a = 0 ∨ a = 1 by omega) with e | e
    · rw [e]
      exact ⟨c, hc, h0⟩
    · rw [e]
      exact ⟨d, hd, h1⟩
  obtain ⟨c9, hc9, e9⟩ := hcc
  refine q_cV rfl rfl (Or.inl rfl) rfl rfl rfl rfl (by omega) k32 trivial rfl rfl rfl rfl rfl (c_bound9 ha hb hc9 hn k32 g6 k40 e9) ?_
  rintro r _ _ ⟨rfl, rfl, rfl⟩
  show PQ (j_SL L) (j_SV xs) j_EX mm_X11_fixed 37 [.ref 0, .int (nI a), .int (nI b)] [.int (if b = 0 then fI9 c9 else tI9 c9)] S n 0 0 _
  refine q_goto rfl ?_
  refine q_iret rfl rfl trivial ⟨rfl, rfl, ?_⟩
  unfold fxR
  rw [if_pos (show (0 ≤ nI a ∧ nI a < 2) ∧ (0 ≤ nI b ∧ nI b < 2) from ⟨hy, hz⟩), if_neg s0, nI_clamp (by omega), e9, nI_clamp (by omega)]
  by_cases e : b = 0
  · subst e
    rw [if_pos rfl, if_pos (show nI 0 = 0 from rfl)]
  · rw [if_neg e, if_neg (fun h : nI b = 0 => e ((m_eq (b := 0) (by omega) (by decide)).mp h))]
theorem ls_int {r : Option Value} {n' : Nat} (h : lsK P l p v su ch S n r S' n') : ∃ z : Int32, r = some (.int z) := by
  obtain ⟨-, -, gs', ot', -, -, -, r9, -, h | ⟨s, q, ch', -, h, -⟩⟩ := h
  · exact ⟨_, h.2.1⟩
  · exact ⟨_, h⟩
/-- what fix leaves -/
def fixK (P : PG) (su : Int32) (ch : Nat → Int32) (a1 a2 a3 : Int32) (S : Nat → pm_E) (n : Nat) : q_K := fun r S' n' => (¬ ((0 ≤ a1 ∧ a1 < 3) ∧ (0 ≤ a2 ∧ a2 < 4) ∧ (0 ≤ a3 ∧ a3 < 10)) ∧ S = S' ∧ n = n' ∧ r = some (.int (-1))) ∨ (((0 ≤ a1 ∧ a1 < 3) ∧ (0 ≤ a2 ∧ a2 < 4) ∧ (0 ≤ a3 ∧ a3 < 10)) ∧ ¬ fit9 P ∧ S = S' ∧ n = n' ∧ r = some (.int (-3))) ∨ (fit9 P ∧ ∃ l p v : Nat, l < 3 ∧ p < 4 ∧ v < 10 ∧ a1 = nI l ∧ a2 = nI p ∧ a3 = nI v ∧ lsK P l p v su ch S n r S' n')
theorem fit_hy (hW : WFP P) (hJ : J8 P) (h : fit9 P) : HY9 P := ⟨hW, hJ, h.1, fun x hx => by
  rcases (show x = 0 ∨ x = 1 by omega) with e | e
  · rw [e]
    exact h.2.1
  · rw [e]
    exact h.2.2⟩
set_option maxHeartbeats 8000000 in
theorem c_fix9 {fs : List Value} {a1 a2 a3 : Int32} (hW : WFP P) (hJ8 : J8 P) (hn : 82 ≤ n) (k0 : S 0 = .inr (9, fs)) (f5 : fs[5]? = some (.ref 32)) (H : FX9 P gs ot S) (g0 : gs[0]? = some (.int su)) (g1 : gs[1]? = some (.int st)) (k40 : S 40 = .inl (0, 2, .inl ch)) (hst : fit9 P → st = 0 → OK9 P ot) : PM (j_SL L) (j_SV xs) j_EX mm_X11_fix [.ref 0, .int a1, .int a2, .int a3] S n (fixK P su ch a1 a2 a3 S n) := by
  obtain ⟨hj, k32, ⟨g2, -⟩, -⟩ := id H
  change PQ (j_SL L) (j_SV xs) j_EX mm_X11_fix 0 [.ref 0, .int a1, .int a2, .int a3] [] S n 0 0 _
  have no : ¬ ((0 ≤ a1 ∧ a1 < 3) ∧ (0 ≤ a2 ∧ a2 < 4) ∧ (0 ≤ a3 ∧ a3 < 10)) → PQ (j_SL L) (j_SV xs) j_EX mm_X11_fix 25 [.ref 0, .int a1, .int a2, .int a3] [] S n 0 0 (fixK P su ch a1 a2 a3 S n) := fun h => q_iconst rfl rfl (q_iret rfl rfl trivial (Or.inl ⟨h, rfl, rfl, rfl⟩))
  refine q_iload_n rfl rfl rfl ?_
  refine q_iconst rfl rfl ?_
  refine q_cS rfl rfl (Or.inl rfl) rfl rfl trivial rfl rfl rfl rfl rfl (c_wi) ?_
  rintro r _ _ ⟨rfl, rfl, hr⟩
  rcases hr with ⟨hr, rfl⟩ | ⟨h1, rfl⟩
  · show PQ (j_SL L) (j_SV xs) j_EX mm_X11_fix 5 [.ref 0, .int a1, .int a2, .int a3] [.int 0] S n 0 0 _
    refine q_ifeq rfl rfl (fun _ => ?_) (fun c => absurd rfl c)
    exact no (fun h => wi_no hr h.1)
  show PQ (j_SL L) (j_SV xs) j_EX mm_X11_fix 5 [.ref 0, .int a1, .int a2, .int a3] [.int 1] S n 0 0 _
  refine q_ifeq rfl rfl (fun c => absurd c (by decide)) (fun _ => ?_)
  refine q_iload_n rfl rfl rfl ?_
  refine q_iconst rfl rfl ?_
  refine q_cS rfl rfl (Or.inl rfl) rfl rfl trivial rfl rfl rfl rfl rfl (c_wi) ?_
  rintro r _ _ ⟨rfl, rfl, hr⟩
  rcases hr with ⟨hr, rfl⟩ | ⟨h2, rfl⟩
  · show PQ (j_SL L) (j_SV xs) j_EX mm_X11_fix 13 [.ref 0, .int a1, .int a2, .int a3] [.int 0] S n 0 0 _
    refine q_ifeq rfl rfl (fun _ => ?_) (fun c => absurd rfl c)
    exact no (fun h => wi_no hr h.2.1)
  show PQ (j_SL L) (j_SV xs) j_EX mm_X11_fix 13 [.ref 0, .int a1, .int a2, .int a3] [.int 1] S n 0 0 _
  refine q_ifeq rfl rfl (fun c => absurd c (by decide)) (fun _ => ?_)
  refine q_iload_n rfl rfl rfl ?_
  refine q_bipush rfl rfl ?_
  refine q_cS rfl rfl (Or.inl rfl) rfl rfl trivial rfl rfl rfl rfl rfl (c_wi) ?_
  rintro r _ _ ⟨rfl, rfl, hr⟩
  rcases hr with ⟨hr, rfl⟩ | ⟨h3, rfl⟩
  · show PQ (j_SL L) (j_SV xs) j_EX mm_X11_fix 22 [.ref 0, .int a1, .int a2, .int a3] [.int 0] S n 0 0 _
    refine q_fne rfl rfl (fun c9 => absurd rfl c9) (fun _ => ?_)
    exact no (fun h => wi_no hr h.2.2)
  show PQ (j_SL L) (j_SV xs) j_EX mm_X11_fix 22 [.ref 0, .int a1, .int a2, .int a3] [.int 1] S n 0 0 _
  refine q_fne rfl rfl (fun _ => ?_) (fun c9 => absurd (by decide) c9)
  refine q_aload_n rfl rfl rfl ?_
  refine q_getf rfl rfl (by omega) k0 f5 ?_
  refine q_cV rfl rfl (Or.inl rfl) rfl rfl rfl rfl (by omega) k32 trivial rfl rfl rfl rfl rfl (c_fits9 hW hn hj k32 g2) ?_
  rintro r _ _ ⟨rfl, rfl, hr⟩
  rcases hr with ⟨hf, rfl⟩ | ⟨hf, rfl⟩
  rotate_left
  · show PQ (j_SL L) (j_SV xs) j_EX mm_X11_fix 34 [.ref 0, .int a1, .int a2, .int a3] [.int 0] S n 0 0 _
    refine q_ifeq rfl rfl (fun _ => ?_) (fun c => absurd rfl c)
    refine q_bipush rfl rfl ?_
    exact q_iret rfl rfl trivial (Or.inr (Or.inl ⟨⟨h1, h2, h3⟩, hf, rfl, rfl, rfl⟩))
  show PQ (j_SL L) (j_SV xs) j_EX mm_X11_fix 34 [.ref 0, .int a1, .int a2, .int a3] [.int 1] S n 0 0 _
  refine q_ifeq rfl rfl (fun c => absurd c (by decide)) (fun _ => ?_)
  obtain ⟨l, hl, rfl⟩ := in2 (b := 3) (by decide) h1
  obtain ⟨p, hp, rfl⟩ := in2 (b := 4) (by decide) h2
  obtain ⟨v, hv, rfl⟩ := in2 (b := 10) (by decide) h3
  refine q_aload_n rfl rfl rfl ?_
  refine q_getf rfl rfl (by omega) k0 f5 ?_
  refine q_iload_n rfl rfl rfl ?_
  refine q_iload_n rfl rfl rfl ?_
  refine q_iload_n rfl rfl rfl ?_
  refine q_cV rfl rfl (Or.inl rfl) rfl rfl rfl rfl (by omega) k32 trivial rfl rfl rfl rfl rfl (pm_weak (c_least9 (fit_hy hW hJ8 hf) hl hp hv hn H g0 g1 k40 (hst hf)) (fun r T n9 h => (⟨h, ls_int h⟩ : lsK P l p v su ch S n r T n9 ∧ ∃ z : Int32, r = some (.int z)))) ?_
  rintro r T n9 ⟨hT, z, rfl⟩
  show PQ (j_SL L) (j_SV xs) j_EX mm_X11_fix 47 [.ref 0, .int (nI l), .int (nI p), .int (nI v)] [.int z] T n9 0 0 _
  refine q_goto rfl ?_
  exact q_iret rfl rfl trivial (Or.inr (Or.inr ⟨hf, l, p, v, hl, hp, hv, rfl, rfl, rfl, hT⟩))
end QD9
