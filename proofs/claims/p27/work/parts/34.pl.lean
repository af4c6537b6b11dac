variable {θ : Th}
/-! the reference's lay, putLock -/
def layS (S : Nat → pm_E) (T : Nat) (kk ka kn : Nat → Int32) (k p v : Int32) : Nat → pm_E := va_up (va_up (va_up S 48 (.inl (0, 48, .inl (upd kk T k)))) 49 (.inl (0, 48, .inl (upd ka T p)))) 50 (.inl (0, 48, .inl (upd kn T v)))
theorem xk_get {S : Nat → pm_E} {n : Nat} (hG : GS θ S n) : ∃ kk ka kn : Nat → Int32, S 48 = .inl (0, 48, .inl kk) ∧ S 49 = .inl (0, 48, .inl ka) ∧ S 50 = .inl (0, 48, .inl kn) ∧ ∀ j, j < 48 → xk (kk j) (ka j) (kn j) (if j < 24 then 8 else 10) := by
  have hn := gs_n hG
  obtain ⟨-, ⟨kk, ka, kn, h1, h2, h3, h4⟩, -⟩ := hG.2
  exact ⟨kk, ka, kn, (hp_some h1).2, (hp_some h2).2, (hp_some h3).2, h4⟩
theorem lay_ok {S : Nat → pm_E} {n T : Nat} {kk ka kn : Nat → Int32} {k p v : Int32} (hG : GS θ S n) (h48 : S 48 = .inl (0, 48, .inl kk)) (h49 : S 49 = .inl (0, 48, .inl ka)) (h50 : S 50 = .inl (0, 48, .inl kn)) (hT : T < 48) (hT2 : 24 ≤ T) (hx : xk k p v (if T < 24 then 8 else 10)) : GS θ (layS S T kk ka kn k p v) n ∧ fr1 [48, 49, 50] S (layS S T kk ka kn k p v) n := by
  have hn := gs_n hG
  have pne : ∀ j, j ≠ 48 → j ≠ 49 → j ≠ 50 → layS S T kk ka kn k p v j = S j := by
    intro j a1 a2 a3
    unfold layS
    rw [va_up_ne _ _ a3, va_up_ne _ _ a2, va_up_ne _ _ a1]
  have e2 : ∀ j, j ≠ 48 → j ≠ 49 → j ≠ 50 → (hp (layS S T kk ka kn k p v) n)[j]? = (hp S n)[j]? := by
    intro j a1 a2 a3
    rcases Nat.lt_or_ge j n with hl | hl
    · rw [hp_get hl, hp_get hl, pne j a1 a2 a3]
    · rw [List.getElem?_eq_none (by rw [hp_len]; exact hl), List.getElem?_eq_none (by rw [hp_len]; exact hl)]
  obtain ⟨kk', ka', kn', q1, q2, q3, q4⟩ := xk_get hG
  rw [h48] at q1
  rw [h49] at q2
  rw [h50] at q3
  cases q1
  cases q2
  cases q3
  refine ⟨gs_mk hG ?_ ⟨XC_same (e2 56 (by omega) (by omega) (by omega)) hG.2.1, ?_, XS_same (e2 43 (by omega) (by omega) (by omega)) (fun j hj => e2 j (by omega) (by omega) (by omega)) hG.2.2.2.1, ?_⟩, ?_⟩
  · intro j hj
    by_cases a1 : j = 48
    · subst a1
      exact Or.inr (cell_full (k := 48) rfl _)
    · by_cases a2 : j = 49
      · subst a2
        exact Or.inr (cell_full (k := 49) rfl _)
      · by_cases a3 : j = 50
        · subst a3
          exact Or.inr (cell_full (k := 50) rfl _)
        · exact Or.inl (pne j a1 a2 a3)
  · refine ⟨upd kk T k, upd ka T p, upd kn T v, by rw [hp_get (by omega)]; rfl, by rw [hp_get (by omega)]; rfl, by rw [hp_get (by omega)]; rfl, fun j hj => ?_⟩
    unfold upd
    by_cases e : j = T
    · rw [if_pos e, if_pos e, if_pos e, e]
      exact hx
    · rw [if_neg e, if_neg e, if_neg e]
      exact q4 j hj
  · obtain ⟨mn, fk, fa, fn, m1, m2, m3, m4, m5, m6, m7⟩ := hG.2.2.2.2
    rw [hp_get (by omega), h48] at m2
    rw [hp_get (by omega), h49] at m3
    rw [hp_get (by omega), h50] at m4
    cases m2
    cases m3
    cases m4
    refine ⟨mn, upd kk T k, upd ka T p, upd kn T v, by rw [e2 47 (by omega) (by omega) (by omega)]; exact m1, by rw [hp_get (by omega)]; rfl, by rw [hp_get (by omega)]; rfl, by rw [hp_get (by omega)]; rfl, m5, fun j hj => ?_, by rw [e2 46 (by omega) (by omega) (by omega)]; exact m7⟩
    unfold upd
    rw [if_neg (by omega), if_neg (by omega), if_neg (by omega)]
    exact m6 j hj
  · intro j hj hc
    refine pne j ?_ ?_ ?_ <;> intro e <;> subst e <;> cases hc
section PL
variable {SL : Nat → Nat} {SV : Nat → Nat → Int32} {EX : pm_M → pm_C → (pm_C → Prop) → Prop} {S : Nat → pm_E} {n : Nat} {K : q_K} {fs : List Value}
theorem l_lay {T : Nat} {kk ka kn : Nat → Int32} {k p v : Int32} (hn : 82 ≤ n) (hT : T < 48) (h46 : S 46 = .inr (10, fs)) (f3 : fs[3]? = some (.ref 48)) (f4 : fs[4]? = some (.ref 49)) (f5 : fs[5]? = some (.ref 50)) (h48 : S 48 = .inl (0, 48, .inl kk)) (h49 : S 49 = .inl (0, 48, .inl ka)) (h50 : S 50 = .inl (0, 48, .inl kn)) (hK : K none (layS S T kk ka kn k p v) n) : PM SL SV EX mm_X12_lay [.ref 46, .int (nI T), .int k, .int p, .int v] S n K := by
  change PQ SL SV EX mm_X12_lay 0 [.ref 46, .int (nI T), .int k, .int p, .int v] [] S n 0 0 K
  refine q_aload_n rfl rfl rfl ?_
  refine q_getf rfl rfl (by omega) h46 f3 ?_
  refine q_iload_n rfl rfl rfl ?_
  refine q_iload_n rfl rfl rfl ?_
  refine q_iast rfl rfl (by omega) h48 (q_inN (by omega) (by decide)) ?_
  rw [nI_clamp (by omega)]
  refine q_aload_n rfl rfl rfl ?_
  refine q_getf rfl rfl (by omega) (show va_up S 48 _ 46 = _ from h46) f4 ?_
  refine q_iload_n rfl rfl rfl ?_
  refine q_iload_n rfl rfl rfl ?_
  refine q_iast rfl rfl (by omega) (show va_up S 48 _ 49 = _ from h49) (q_inN (by omega) (by decide)) ?_
  rw [nI_clamp (by omega)]
  refine q_aload_n rfl rfl rfl ?_
  refine q_getf rfl rfl (by omega) (show va_up (va_up S 48 _) 49 _ 46 = _ from h46) f5 ?_
  refine q_iload_n rfl rfl rfl ?_
  refine q_iload rfl rfl rfl ?_
  refine q_iast rfl rfl (by omega) (show va_up (va_up S 48 _) 49 _ 50 = _ from h50) (q_inN (by omega) (by decide)) ?_
  rw [nI_clamp (by omega)]
  exact q_ret rfl rfl hK
/-- lay, where all that is wanted is that all stays as told -/
theorem l_lay2 {T : Nat} {k p v : Int32} (hG : GS θ S n) (hT : T < 48) (hT2 : 24 ≤ T) (h46 : S 46 = .inr (10, fs)) (f3 : fs[3]? = some (.ref 48)) (f4 : fs[4]? = some (.ref 49)) (f5 : fs[5]? = some (.ref 50)) (hx : xk k p v (if T < 24 then 8 else 10)) : PM SL SV EX mm_X12_lay [.ref 46, .int (nI T), .int k, .int p, .int v] S n (fun r S' n' => n' = n ∧ r = none ∧ GS θ S' n ∧ fr1 [48, 49, 50] S S' n) := by
  obtain ⟨kk, ka, kn, h48, h49, h50, -⟩ := xk_get hG
  obtain ⟨g1, g2⟩ := lay_ok (k := k) (p := p) (v := v) hG h48 h49 h50 hT hT2 hx
  exact l_lay (gs_n hG) hT h46 f3 f4 f5 h48 h49 h50 ⟨rfl, rfl, g1, g2⟩
theorem xk_add {k p v : Int32} {d : Nat} (h : xk k p v 8) (hd : d ≤ 2) : xk k p (v + nI d) 10 := by
  refine ⟨h.1, h.2.1, fun e => ?_⟩
  have h3 := h.2.2 e
  have e1 : (v + nI d).toInt = (v.toInt + (nI d).toInt).bmod 4294967296 := Int32.toInt_add _ _
  rw [e1, nI_toInt (by omega), ck_bm (by unfold ck_lo; omega) (by unfold ck_hi; omega)]
  omega
theorem xk_lk {k l : Int32} {m : Int} (hk : k.toInt = 8 ∨ k.toInt = 9) (h0 : 0 ≤ l.toInt) (h2 : l.toInt ≤ 2) : xk k l 0 m := ⟨fun e => by omega, fun _ => ⟨h0, h2⟩, fun e => by omega⟩
def eIn (i : Int32) (k : Nat) : Nat := if 0 ≤ i.toInt ∧ i.toInt < k then 1 else 0
theorem l_pl {X : Nat} (hX : X ≤ 1) {lock i j : Int32} (hl0 : 0 ≤ lock.toInt) (hl2 : lock.toInt ≤ 2) {S0 : Nat → pm_E} (hG0 : GS θ S0 n) (hK : ∀ S, GS θ S n → fr1 [47, 48, 49, 50] S0 S n → K none S n) : PM SL SV EX mm_X12_putLock [.ref 46, .int (nI X), .int lock, .int i, .int j] S0 n K := by
  have hn := gs_n hG0
  obtain ⟨fs, h46, hf⟩ := gs_obj hG0 (k := 46) rfl
  have f2 := fo_ref (hf 2 _ rfl) rfl
  have f3 := fo_ref (hf 3 _ rfl) rfl
  have f4 := fo_ref (hf 4 _ rfl) rfl
  have f5 := fo_ref (hf 5 _ rfl) rfl
  obtain ⟨mn, h47, b47⟩ := gs_arr hG0 (k := 47) rfl
  have mX : 0 ≤ (mn X).toInt ∧ (mn X).toInt ≤ 8 := by
    obtain ⟨q, q1, q2, q3⟩ := b47 X (by omega)
    rcases (show X = 0 ∨ X = 1 by omega) with rfl | rfl <;> (cases q1; exact ⟨q2, q3⟩)
  obtain ⟨M, hM, eM⟩ := nat_of (x := mn X) (b := 8) mX.1 mX.2
  change PQ SL SV EX mm_X12_putLock 0 [.ref 46, .int (nI X), .int lock, .int i, .int j, pm_un, pm_un, pm_un, pm_un, pm_un] [] S0 n 0 0 K
  refine q_bipush rfl rfl ?_
  refine q_iconst rfl rfl ?_
  refine q_iload_n rfl rfl rfl ?_
  refine q_iadd rfl rfl ?_
  refine q_imul rfl rfl (q_tn (z := nI (8 * (3 + X))) (by rw [show (3 : Int32) = nI 3 from rfl, show (8 : Int32) = nI 8 from rfl, nI_add, pk_mul]) ?_)
  refine q_ist5 rfl rfl rfl rfl ?_
  refine q_iconst rfl rfl ?_
  refine q_ist6 rfl rfl rfl rfl ?_
  have fin : ∀ (S : Nat → pm_E) (T k : Nat) (b7 b8 b9 : Value), GS θ S n → fr1 [48, 49, 50] S0 S n → 8 * (3 + X) ≤ T → T ≤ 8 * (3 + X) + 12 → PQ SL SV EX mm_X12_putLock 175 [.ref 46, .int (nI X), .int lock, .int i, .int j, .int (nI T), .int (nI k), b7, b8, b9] [] S n 0 0 K := by
    intro S T k b7 b8 b9 g1 g2 hT1 hT2
    have q46 : S 46 = .inr (10, fs) := (g2 46 (by omega) rfl).trans h46
    have q47 : S 47 = .inl (0, 6, .inl mn) := (g2 47 (by omega) rfl).trans h47
    refine q_aload_n rfl rfl rfl ?_
    refine q_getf rfl rfl (by omega) q46 f2 ?_
    refine q_iconst rfl rfl ?_
    refine q_iload_n rfl rfl rfl ?_
    refine q_iadd rfl rfl (q_tn (z := nI (3 + X)) (by rw [show (3 : Int32) = nI 3 from rfl, nI_add]) ?_)
    refine q_iload rfl rfl rfl ?_
    refine q_bipush rfl rfl ?_
    refine q_iconst rfl rfl ?_
    refine q_iload_n rfl rfl rfl ?_
    refine q_iadd rfl rfl ?_
    refine q_imul rfl rfl (q_tn (z := nI (8 * (3 + X))) (by rw [show (3 : Int32) = nI 3 from rfl, show (8 : Int32) = nI 8 from rfl, nI_add, pk_mul]) ?_)
    refine q_isub rfl rfl (q_tn (z := nI (T - 8 * (3 + X))) (pk_sub hT1) ?_)
    refine q_iast rfl rfl (by show 47 < n; omega) q47 (q_inN (by omega) (by decide)) ?_
    rw [nI_clamp (by omega)]
    refine q_ret rfl rfl (hK _ (gs_set (k := 47) g1 (by omega) ?_ ?_) ?_)
    · refine ⟨_, rfl, fun a ha => ?_⟩
      unfold upd
      by_cases e : a = 3 + X
      · rw [if_pos e, nI_toInt (by omega)]
        rcases (show X = 0 ∨ X = 1 by omega) with rfl | rfl
        · subst e
          exact ⟨(1, 0, 12), rfl, by dsimp only; omega, by dsimp only; omega⟩
        · subst e
          exact ⟨(1, 0, 12), rfl, by dsimp only; omega, by dsimp only; omega⟩
      · rw [if_neg e]
        exact b47 a ha
    · have e2 : ∀ y, y ≠ 47 → (hp (va_up S 47 (.inl (0, 6, .inl (upd mn (3 + X) (nI (T - 8 * (3 + X))))))) n)[y]? = (hp S n)[y]? := by
        intro y hy
        rw [← hp_set (by omega)]
        exact List.getElem?_set_ne (Ne.symm hy)
      obtain ⟨mn', fk, fa, fn, m1, m2, m3, m4, m5, m6, m7⟩ := g1.2.2.2.2
      rw [hp_get (by omega), q47] at m1
      cases m1
      refine ⟨XC_same (e2 56 (by omega)) g1.2.1, XK_same (e2 48 (by omega)) (e2 49 (by omega)) (e2 50 (by omega)) g1.2.2.1, XS_same (e2 43 (by omega)) (fun y hy => e2 y (by omega)) g1.2.2.2.1, ⟨upd mn (3 + X) (nI (T - 8 * (3 + X))), fk, fa, fn, by rw [hp_get (by omega)]; rfl, by rw [e2 48 (by omega)]; exact m2, by rw [e2 49 (by omega)]; exact m3, by rw [e2 50 (by omega)]; exact m4, fun x hx => ?_, m6, by rw [e2 46 (by omega)]; exact m7⟩⟩
      unfold upd
      rw [if_neg (by omega)]
      exact m5 x hx
    · intro a ha hc
      have e1 : a ≠ 47 := fun e => by subst e; cases hc
      refine (va_up_ne S (k := 47) _ e1).trans ?_
      refine g2 a ha ?_
      cases hb : [48, 49, 50].contains a
      · rfl
      · rw [List.contains_cons, hb, Bool.or_true] at hc
        cases hc
  have key : ∀ m k T : Nat, k + m = M → ∀ (S : Nat → pm_E) (b7 b8 b9 : Value), pm_c2 b7 = false → pm_c2 b8 = false → GS θ S n → fr1 [48, 49, 50] S0 S n → 8 * (3 + X) ≤ T → T ≤ 8 * (3 + X) + k + eIn i k + eIn j k → PQ SL SV EX mm_X12_putLock 11 [.ref 46, .int (nI X), .int lock, .int i, .int j, .int (nI T), .int (nI k), b7, b8, b9] [] S n 0 0 K := by
    intro m
    induction m with
    | zero =>
      intro k T hk S b7 b8 b9 hb7 hb8 g1 g2 hT1 hT2
      have e : k = M := by omega
      subst e
      have q46 : S 46 = .inr (10, fs) := (g2 46 (by omega) rfl).trans h46
      have q47 : S 47 = .inl (0, 6, .inl mn) := (g2 47 (by omega) rfl).trans h47
      refine q_iload rfl rfl rfl ?_
      refine q_aload_n rfl rfl rfl ?_
      refine q_getf rfl rfl (by omega) q46 f2 ?_
      refine q_iload_n rfl rfl rfl ?_
      refine q_iald rfl rfl (by show 47 < n; omega) q47 (q_inN (by omega) (by decide)) (q_tn (z := nI k) (by rw [nI_clamp (by omega)]; exact eM) ?_)
      refine q_icge rfl rfl (fun _ => fin S T k b7 b8 b9 g1 g2 hT1 ?_) (fun c => absurd (Int32.le_refl _) c)
      have a1 : eIn i k ≤ 1 := by unfold eIn; split <;> omega
      have a2 : eIn j k ≤ 1 := by unfold eIn; split <;> omega
      omega
    | succ m ih =>
      intro k T hk S b7 b8 b9 hb7 hb8 g1 g2 hT1 hT2
      have q46 : S 46 = .inr (10, fs) := (g2 46 (by omega) rfl).trans h46
      have q47 : S 47 = .inl (0, 6, .inl mn) := (g2 47 (by omega) rfl).trans h47
      refine q_iload rfl rfl rfl ?_
      refine q_aload_n rfl rfl rfl ?_
      refine q_getf rfl rfl (by omega) q46 f2 ?_
      refine q_iload_n rfl rfl rfl ?_
      refine q_iald rfl rfl (by show 47 < n; omega) q47 (q_inN (by omega) (by decide)) (q_tn (z := nI M) (by rw [nI_clamp (by omega)]; exact eM) ?_)
      refine q_icge rfl rfl (fun c => absurd c (nI_ge (by omega) (by omega))) (fun _ => ?_)
      have a1 : eIn i (k + 1) = eIn i k + (if i.toInt = k then 1 else 0) := by
        unfold eIn
        by_cases e : i.toInt = k
        · rw [if_pos (by omega), if_neg (by omega), if_pos e]
        · rw [if_neg e]
          by_cases e2 : 0 ≤ i.toInt ∧ i.toInt < k
          · rw [if_pos e2, if_pos (by omega)]
          · rw [if_neg e2, if_neg (by omega)]
      have a2 : eIn j (k + 1) = eIn j k + (if j.toInt = k then 1 else 0) := by
        unfold eIn
        by_cases e : j.toInt = k
        · rw [if_pos (by omega), if_neg (by omega), if_pos e]
        · rw [if_neg e]
          by_cases e2 : 0 ≤ j.toInt ∧ j.toInt < k
          · rw [if_pos e2, if_pos (by omega)]
          · rw [if_neg e2, if_neg (by omega)]
      have b1 : eIn i k ≤ 1 := by unfold eIn; split <;> omega
      have b2 : eIn j k ≤ 1 := by unfold eIn; split <;> omega
      have kI : (nI k).toInt = (k : Int) := nI_toInt (by omega)
      refine q_bipush rfl rfl ?_
      refine q_iload_n rfl rfl rfl ?_
      refine q_imul rfl rfl ?_
      refine q_iload rfl rfl rfl ?_
      refine q_iadd rfl rfl (q_tn (z := nI (8 * X + k)) (by rw [show (8 : Int32) = nI 8 from rfl, pk_mul, nI_add]) ?_)
      refine q_ist7 rfl rfl rfl rfl ?_
      refine q_iload rfl rfl rfl ?_
      refine q_iload_n rfl rfl rfl ?_
      -- the statement itself, from 50 on
      have mid : ∀ (S1 : Nat → pm_E) (T1 : Nat), GS θ S1 n → fr1 [48, 49, 50] S0 S1 n → 8 * (3 + X) ≤ T1 → T1 ≤ 8 * (3 + X) + k + eIn i (k + 1) + eIn j k → PQ SL SV EX mm_X12_putLock 50 [.ref 46, .int (nI X), .int lock, .int i, .int j, .int (nI T1), .int (nI k), .int (nI (8 * X + k)), b8, b9] [] S1 n 0 0 K := by
        intro S1 T1 g3 g4 hT3 hT4
        have c1 : eIn i (k + 1) ≤ 1 := by unfold eIn; split <;> omega
        have r46 : S1 46 = .inr (10, fs) := (g4 46 (by omega) rfl).trans h46
        obtain ⟨kk, ka, kn, r48, r49, r50, rx⟩ := xk_get g3
        have rxs := rx (8 * X + k) (by omega)
        rw [if_pos (by omega)] at rxs
        refine q_aload_n rfl rfl rfl ?_
        refine q_getf rfl rfl (by omega) r46 f3 ?_
        refine q_iload rfl rfl rfl ?_
        refine q_iald rfl rfl (by show 48 < n; omega) r48 (q_inN (by omega) (by decide)) ?_
        refine q_iconst rfl rfl ?_
        have tail : ∀ (d : Nat) (jm : Int32), d ≤ 2 → PQ SL SV EX mm_X12_putLock 121 [.ref 46, .int (nI X), .int lock, .int i, .int j, .int (nI T1), .int (nI k), .int (nI (8 * X + k)), .int jm, b9] [.int (nI d), .int (kn (nI (8 * X + k)).toNatClampNeg)] S1 n 0 0 K := by
          intro d jm hd
          refine q_iadd rfl rfl ?_
          refine q_ist9 rfl rfl rfl rfl ?_
          refine q_aload_n rfl rfl rfl ?_
          refine q_iload rfl rfl rfl ?_
          refine q_aload_n rfl rfl rfl ?_
          refine q_getf rfl rfl (by omega) r46 f3 ?_
          refine q_iload rfl rfl rfl ?_
          refine q_iald rfl rfl (by show 48 < n; omega) r48 (q_inN (by omega) (by decide)) ?_
          refine q_aload_n rfl rfl rfl ?_
          refine q_getf rfl rfl (by omega) r46 f4 ?_
          refine q_iload rfl rfl rfl ?_
          refine q_iald rfl rfl (by show 49 < n; omega) r49 (q_inN (by omega) (by decide)) ?_
          refine q_iload rfl rfl rfl ?_
          rw [nI_clamp (show 8 * X + k < 2 ^ 31 by omega)]
          refine q_cV rfl rfl (Or.inl rfl) rfl rfl rfl rfl (by omega) r46 trivial rfl rfl rfl rfl rfl (l_lay2 g3 (by omega) (by omega) r46 f3 f4 f5 (by rw [if_neg (by omega)]; exact xk_add rxs hd)) ?_
          rintro r S2 n2 ⟨rfl, rfl, g5, g6⟩
          have g7 := fr1_tr (l3 := [48, 49, 50]) g4 g6 rfl rfl
          have p46 : S2 46 = .inr (10, fs) := (g7 46 (by omega) rfl).trans h46
          show PQ SL SV EX mm_X12_putLock 146 _ [] S2 n2 0 0 K
          refine q_inc5 rfl rfl rfl rfl ?_
          rw [nI_1]
          refine q_iload rfl rfl rfl ?_
          refine q_iload rfl rfl rfl ?_
          have nx : ∀ (S3 : Nat → pm_E) (T3 : Nat), GS θ S3 n2 → fr1 [48, 49, 50] S0 S3 n2 → 8 * (3 + X) ≤ T3 → T3 ≤ 8 * (3 + X) + (k + 1) + eIn i (k + 1) + eIn j (k + 1) → PQ SL SV EX mm_X12_putLock 169 [.ref 46, .int (nI X), .int lock, .int i, .int j, .int (nI T3), .int (nI k), .int (nI (8 * X + k)), .int jm, .int (kn (8 * X + k) + nI d)] [] S3 n2 0 0 K := by
            intro S3 T3 g8 g9 u1 u2
            refine q_inc6 rfl rfl rfl rfl ?_
            rw [nI_1]
            refine q_goto rfl ?_
            exact ih (k + 1) T3 (by omega) S3 _ _ _ rfl rfl g8 g9 u1 u2
          refine q_icne rfl rfl (fun e => ?_) (fun e => ?_)
          · have e9 : j.toInt = k := by rw [← e, kI]
            rw [if_pos e9] at a2
            refine q_aload_n rfl rfl rfl ?_
            refine q_iload rfl rfl rfl ?_
            refine q_bipush rfl rfl ?_
            refine q_iload_n rfl rfl rfl ?_
            refine q_iconst rfl rfl ?_
            refine q_cV rfl rfl (Or.inl rfl) rfl rfl rfl rfl (by omega) p46 trivial rfl rfl rfl rfl rfl (l_lay2 g5 (by omega) (by omega) p46 f3 f4 f5 (xk_lk (Or.inr rfl) hl0 hl2)) ?_
            rintro r S4 n4 ⟨rfl, rfl, g10, g11⟩
            show PQ SL SV EX mm_X12_putLock 166 _ [] S4 n4 0 0 K
            refine q_inc5 rfl rfl rfl rfl ?_
            rw [nI_1]
            exact nx S4 _ g10 (fr1_tr (l3 := [48, 49, 50]) g7 g11 rfl rfl) (by omega) (by omega)
          · exact nx S2 _ g5 g7 (by omega) (by omega)
        have mid2 : ∀ jm : Int32, PQ SL SV EX mm_X12_putLock 72 [.ref 46, .int (nI X), .int lock, .int i, .int j, .int (nI T1), .int (nI k), .int (nI (8 * X + k)), .int jm, b9] [] S1 n 0 0 K := by
          intro jm
          have m3 : PQ SL SV EX mm_X12_putLock 100 [.ref 46, .int (nI X), .int lock, .int i, .int j, .int (nI T1), .int (nI k), .int (nI (8 * X + k)), .int jm, b9] [.int (kn (nI (8 * X + k)).toNatClampNeg)] S1 n 0 0 K := by
            refine q_iload rfl rfl rfl ?_
            refine q_ifeq rfl rfl (fun _ => ?_) (fun _ => ?_)
            · refine q_iconst rfl rfl ?_
              exact tail 0 jm (by omega)
            · refine q_aload_n rfl rfl rfl ?_
              refine q_getf rfl rfl (by omega) r46 f5 ?_
              refine q_iload rfl rfl rfl ?_
              refine q_iald rfl rfl (by show 50 < n; omega) r50 (q_inN (by omega) (by decide)) ?_
              refine q_iload_n rfl rfl rfl ?_
              refine q_icle rfl rfl (fun _ => ?_) (fun _ => ?_)
              · refine q_iconst rfl rfl ?_
                exact tail 0 jm (by omega)
              · refine q_iconst rfl rfl ?_
                refine q_goto rfl ?_
                exact tail 1 jm (by omega)
          refine q_aload_n rfl rfl rfl ?_
          refine q_getf rfl rfl (by omega) r46 f5 ?_
          refine q_iload rfl rfl rfl ?_
          refine q_iald rfl rfl (by show 50 < n; omega) r50 (q_inN (by omega) (by decide)) ?_
          refine q_iload rfl rfl rfl ?_
          refine q_ifeq rfl rfl (fun _ => m3) (fun _ => ?_)
          refine q_aload_n rfl rfl rfl ?_
          refine q_getf rfl rfl (by omega) r46 f5 ?_
          refine q_iload rfl rfl rfl ?_
          refine q_iald rfl rfl (by show 50 < n; omega) r50 (q_inN (by omega) (by decide)) ?_
          refine q_iload rfl rfl rfl ?_
          refine q_icle rfl rfl (fun _ => m3) (fun _ => ?_)
          refine q_iconst rfl rfl ?_
          refine q_goto rfl ?_
          exact tail 2 jm (by omega)
        refine q_icne rfl rfl (fun _ => ?_) (fun _ => ?_)
        · refine q_iload_n rfl rfl rfl ?_
          refine q_iflt rfl rfl (fun _ => ?_) (fun _ => ?_)
          · refine q_iconst rfl rfl ?_
            refine q_ist8 rfl rfl rfl rfl ?_
            exact mid2 _
          · refine q_iconst rfl rfl ?_
            refine q_goto rfl ?_
            refine q_ist8 rfl rfl rfl rfl ?_
            exact mid2 _
        · refine q_iconst rfl rfl ?_
          refine q_ist8 rfl rfl rfl rfl ?_
          exact mid2 _
      refine q_icne rfl rfl (fun e => ?_) (fun e => ?_)
      · have e9 : i.toInt = k := by rw [← e, kI]
        rw [if_pos e9] at a1
        refine q_aload_n rfl rfl rfl ?_
        refine q_iload rfl rfl rfl ?_
        refine q_bipush rfl rfl ?_
        refine q_iload_n rfl rfl rfl ?_
        refine q_iconst rfl rfl ?_
        refine q_cV rfl rfl (Or.inl rfl) rfl rfl rfl rfl (by omega) q46 trivial rfl rfl rfl rfl rfl (l_lay2 g1 (by omega) (by omega) q46 f3 f4 f5 (xk_lk (Or.inl rfl) hl0 hl2)) ?_
        rintro r S4 n4 ⟨rfl, rfl, g10, g11⟩
        show PQ SL SV EX mm_X12_putLock 47 _ [] S4 n4 0 0 K
        refine q_inc5 rfl rfl rfl rfl ?_
        rw [nI_1]
        exact mid S4 _ g10 (fr1_tr (l3 := [48, 49, 50]) g2 g11 rfl rfl) (by omega) (by omega)
      · exact mid S T g1 g2 hT1 (by omega)
  exact key M 0 (8 * (3 + X)) (by omega) S0 _ _ _ rfl rfl hG0 fr1_rf (Nat.le_refl _) (by omega)
end PL
section PLV
variable {L : Nat} {xs : Nat → Int32}
theorem w_putLock0 : ck_Val jga (XI θ) j_ft j_df (j_SL L) (j_SV xs) j_MT j_EX kh_putLock0 mm_X12_putLock := kc_of (fun r0 as S n ha hE hm hG => by
  obtain ⟨w1, as1, rfl, rfl, ha1⟩ := ck_al_c ha
  obtain ⟨w2, as2, rfl, ⟨x, rfl, ex⟩, ha2⟩ := ck_al_c ha1
  obtain ⟨w3, as3, rfl, ⟨l, rfl, el⟩, ha3⟩ := ck_al_c ha2
  obtain ⟨w4, as4, rfl, ⟨i, rfl, ei⟩, ha4⟩ := ck_al_c ha3
  obtain ⟨w5, as5, rfl, ⟨j, rfl, ej⟩, ha5⟩ := ck_al_c ha4
  cases ck_al_n ha5
  have e0 : x = nI 0 := nI_ofI (k := 0) (Option.some.inj ex).symm (by decide)
  subst e0
  have b := en_g hE (i := 0) rfl (ev_u el)
  exact l_pl (by omega) b.1 b.2 hG (fun S' q1 q2 => ⟨rfl, q1, q2, _, List.mem_cons_self, hE, rfl, fun x hx => by cases hx⟩))
theorem w_putLock1 : ck_Val jga (XI θ) j_ft j_df (j_SL L) (j_SV xs) j_MT j_EX kh_putLock1 mm_X12_putLock := kc_of (fun r0 as S n ha hE hm hG => by
  obtain ⟨w1, as1, rfl, rfl, ha1⟩ := ck_al_c ha
  obtain ⟨w2, as2, rfl, ⟨x, rfl, ex⟩, ha2⟩ := ck_al_c ha1
  obtain ⟨w3, as3, rfl, ⟨l, rfl, el⟩, ha3⟩ := ck_al_c ha2
  obtain ⟨w4, as4, rfl, ⟨i, rfl, ei⟩, ha4⟩ := ck_al_c ha3
  obtain ⟨w5, as5, rfl, ⟨j, rfl, ej⟩, ha5⟩ := ck_al_c ha4
  cases ck_al_n ha5
  have e0 : x = nI 1 := nI_ofI (k := 1) (Option.some.inj ex).symm (by decide)
  subst e0
  have b := en_g hE (i := 0) rfl (ev_u el)
  exact l_pl (by omega) b.1 b.2 hG (fun S' q1 q2 => ⟨rfl, q1, q2, _, List.mem_cons_self, hE, rfl, fun x hx => by cases hx⟩))
end PLV
