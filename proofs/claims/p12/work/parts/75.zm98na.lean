/-! Tarjan's search over the followers of all states: what class and reference both do -/
section NA
variable {X : XT} {k q h d i w : Nat} {cm lw tr pt sk lw' : Nat → Nat} {on bk on' bk' : Nat → Bool}
def un {α : Type} (f : Nat → α) (i : Nat) (v : α) : Nat → α := fun j => if j = i then v else f j
theorem un_eq {α : Type} {f : Nat → α} {i : Nat} {v : α} : un f i v i = v := if_pos rfl
theorem un_ne {α : Type} {f : Nat → α} {i j : Nat} {v : α} (h : j ≠ i) : un f i v j = f j := if_neg h
theorem un_cm {α : Type} {f : Nat → α} {i j : Nat} {v u : α} (h : i ≠ j) : un (un f i v) j u = un (un f j u) i v := by
  funext x
  by_cases e : x = j
  · subst e
    rw [un_eq, un_ne (fun e => h e.symm), un_eq]
  · rw [un_ne e]
    by_cases e2 : x = i
    · subst e2
      rw [un_eq, un_eq]
    · rw [un_ne e2, un_ne e2, un_ne e]
/-- came (0: not yet), lowest, tried, path, stack, on it, comes back; arrivals, the stack's height, the path's length -/
abbrev TS : Type := (Nat → Nat) × (Nat → Nat) × (Nat → Nat) × (Nat → Nat) × (Nat → Nat) × (Nat → Bool) × (Nat → Bool) × Nat × Nat × Nat
def tPush (T : TS) (w : Nat) : TS := match T with
  | (cm, lw, tr, pt, sk, on, bk, q, h, d) => (un cm w (q + 1), un lw w (q + 1), un tr w 0, un pt d w, un sk h w, un on w true, un bk w false, q + 1, h + 1, d + 1)
def tPop (i : Nat) (sv : Bool) (sk : Nat → Nat) : Nat → (Nat → Bool) → (Nat → Bool) → Nat × (Nat → Bool) × (Nat → Bool)
  | 0, on, bk => (0, on, bk)
  | h + 1, on, bk => if sk h = i then (h, un on (sk h) false, un bk (sk h) (bk (sk h) || sv)) else tPop i sv sk h (un on (sk h) false) (un bk (sk h) (bk (sk h) || sv))
def tLow (lw pt : Nat → Nat) (d i : Nat) : Nat → Nat := match d with
  | 0 => lw
  | e + 1 => un lw (pt e) (min (lw (pt e)) (lw i))
def tTurn (X : XT) (T : TS) : TS := match T with
  | (cm, lw, tr, pt, sk, on, bk, q, h, 0) => (cm, lw, tr, pt, sk, on, bk, q, h, 0)
  | (cm, lw, tr, pt, sk, on, bk, q, h, d + 1) =>
    if tr (pt d) < 3 then
      (if (xL X (3 * pt d + tr (pt d))).toInt < 0 then (cm, lw, un tr (pt d) (tr (pt d) + 1), pt, sk, on, bk, q, h, d + 1)
      else if (xL X (3 * pt d + tr (pt d))).toInt.toNat = pt d then (cm, lw, un tr (pt d) (tr (pt d) + 1), pt, sk, on, un bk (pt d) true, q, h, d + 1)
      else if cm (xL X (3 * pt d + tr (pt d))).toInt.toNat = 0 then tPush (cm, lw, un tr (pt d) (tr (pt d) + 1), pt, sk, on, bk, q, h, d + 1) (xL X (3 * pt d + tr (pt d))).toInt.toNat
      else if on (xL X (3 * pt d + tr (pt d))).toInt.toNat = true then (cm, un lw (pt d) (min (lw (pt d)) (cm (xL X (3 * pt d + tr (pt d))).toInt.toNat)), un tr (pt d) (tr (pt d) + 1), pt, sk, on, bk, q, h, d + 1)
      else (cm, lw, un tr (pt d) (tr (pt d) + 1), pt, sk, on, bk, q, h, d + 1))
    else if lw (pt d) = cm (pt d) then (cm, tLow lw pt d (pt d), tr, pt, sk, (tPop (pt d) (decide (sk (h - 1) ≠ pt d)) sk h on bk).2.1, (tPop (pt d) (decide (sk (h - 1) ≠ pt d)) sk h on bk).2.2, q, (tPop (pt d) (decide (sk (h - 1) ≠ pt d)) sk h on bk).1, d)
    else (cm, tLow lw pt d (pt d), tr, pt, sk, on, bk, q, h, d)
def tE : TS := (fun _ => 0, fun _ => 0, fun _ => 0, fun _ => 0, fun _ => 0, fun _ => false, fun _ => false, 0, 0, 0)
def tRun (X : XT) : Nat → TS
  | 0 => tPush tE 0
  | k + 1 => tTurn X (tRun X k)
theorem tr_stay (e : tRun X k = (cm, lw, tr, pt, sk, on, bk, q, h, 0)) : ∀ m, tRun X (k + m) = (cm, lw, tr, pt, sk, on, bk, q, h, 0)
  | 0 => e
  | m + 1 => by
    show tTurn X (tRun X (k + m)) = _
    rw [tr_stay e m]
    rfl
/-- what comes back, once the path is gone -/
def BKq (X : XT) (bk : Nat → Bool) : Prop := ∃ (k q h : Nat) (cm lw tr pt sk : Nat → Nat) (on : Nat → Bool), tRun X k = (cm, lw, tr, pt, sk, on, bk, q, h, 0)
noncomputable def bkE (X : XT) : Nat → Bool := @Classical.epsilon (Nat → Bool) ⟨fun _ => false⟩ (BKq X)
theorem bkq_fn (h1 : BKq X bk) (h2 : BKq X bk') : bk = bk' := by
  obtain ⟨k1, _, _, _, _, _, _, _, _, e1⟩ := h1
  obtain ⟨k2, _, _, _, _, _, _, _, _, e2⟩ := h2
  have a := tr_stay e1 k2
  have b := tr_stay e2 k1
  rw [Nat.add_comm k2 k1, a] at b
  cases b
  rfl
theorem bkE_is (h : BKq X bk) : bkE X = bk := bkq_fn (Classical.epsilon_spec (p := BKq X) ⟨bk, h⟩) h
def cwN (cm : Nat → Nat) (j : Nat) : Nat := if cm j = 0 then 0 else 1
def gwN (cm tr : Nat → Nat) (j : Nat) : Nat := if cm j = 0 then 5 else 3 - tr j
def TN (X : XT) (cm lw tr pt : Nat → Nat) (q d i : Nat) : Prop := i < xN X ∧ tr i ≤ 3 ∧ 1 ≤ lw i ∧ lw i ≤ cm i ∧ cm i ≤ q ∧ (∀ t, t < tr i → ∀ j, j < xN X → xL X (3 * i + t) = nI j → cm j ≠ 0) ∧ (tr i = 3 ∨ ∃ j, j < d ∧ pt j = i)
def TI (X : XT) (k : Nat) (cm lw tr pt sk : Nat → Nat) (bk : Nat → Bool) (q h d : Nat) : Prop := (q ≤ sm (cwN cm) 2000 ∧ h ≤ q ∧ d ≤ q) ∧ (∀ j, j < d → cm (pt j) ≠ 0) ∧ (∀ j, j < h → cm (sk j) ≠ 0) ∧
  (∃ pos : Nat → Nat, ∀ j, j < d → pos j < h ∧ sk (pos j) = pt j ∧ ∀ i, i < j → pos i < pos j) ∧ (∀ i, cm i ≠ 0 → TN X cm lw tr pt q d i) ∧ sm (gwN cm tr) 2000 + d + k ≤ 10000 ∧ (∀ i, cm i = 0 → bk i = false)
theorem cwN_le (cm : Nat → Nat) : sm (cwN cm) 2000 ≤ 2000 := by
  have := sm_le (w := cwN cm) (B := 1) (N := 2000) (fun j _ => by unfold cwN; split <;> omega)
  omega
theorem cwN_up (hw : w < 2000) (h0 : cm w = 0) : sm (cwN (un cm w (q + 1))) 2000 = sm (cwN cm) 2000 + 1 := by
  have e := sm_upd (w := cwN cm) (w' := cwN (un cm w (q + 1))) (i := w) (N := 2000) hw (fun j _ hj => by unfold cwN; rw [un_ne hj])
  have e1 : cwN cm w = 0 := if_pos h0
  have e2 : cwN (un cm w (q + 1)) w = 1 := by
    unfold cwN
    rw [un_eq, if_neg (by omega)]
  omega
theorem cwN_lt (hw : w < 2000) (h0 : cm w = 0) : sm (cwN cm) 2000 < 2000 := by
  have := cwN_up (q := 0) hw h0
  have := cwN_le (un cm w (0 + 1))
  omega
theorem ti_try {p : Nat} (hX : xN X ≤ 2000) (H : TI X k cm lw tr pt sk bk q h d) (hp : p < d) (ht : tr (pt p) < 3) (hf : ∀ j, j < xN X → xL X (3 * pt p + tr (pt p)) = nI j → cm j ≠ 0) (hl : ∀ i, cm i ≠ 0 → 1 ≤ lw' i ∧ lw' i ≤ cm i) (hb : ∀ i, cm i = 0 → bk' i = false) : TI X (k + 1) cm lw' (un tr (pt p) (tr (pt p) + 1)) pt sk bk' q h d := by
  obtain ⟨a, b, c, e, f, g, -⟩ := H
  have s := b p hp
  have hN := (f _ s).1
  refine ⟨a, b, c, e, fun i hi => ?_, ?_, hb⟩
  · obtain ⟨n1, n2, n3, n4, n5, n6, n7⟩ := f i hi
    by_cases ei : i = pt p
    · refine ⟨n1, by rw [ei, un_eq]; omega, (hl i hi).1, (hl i hi).2, n5, fun t ht' j hj hx => ?_, Or.inr ⟨p, hp, ei.symm⟩⟩
      rw [ei, un_eq] at ht'
      by_cases et : t = tr (pt p)
      · rw [ei, et] at hx
        exact hf j hj hx
      · exact n6 t (by rw [ei]; omega) j hj hx
    · refine ⟨n1, by rw [un_ne ei]; exact n2, (hl i hi).1, (hl i hi).2, n5, fun t ht' => ?_, by rw [un_ne ei]; exact n7⟩
      rw [un_ne ei] at ht'
      exact n6 t ht'
  · have e := sm_upd (w := gwN cm tr) (w' := gwN cm (un tr (pt p) (tr (pt p) + 1))) (i := pt p) (N := 2000) (by omega) (fun j _ hj => by unfold gwN; rw [un_ne hj])
    have e1 : gwN cm tr (pt p) = 3 - tr (pt p) := if_neg s
    have e2 : gwN cm (un tr (pt p) (tr (pt p) + 1)) (pt p) = 3 - (tr (pt p) + 1) := by
      unfold gwN
      rw [if_neg s, un_eq]
    omega
theorem ti_push (hX : xN X ≤ 2000) (H : TI X k cm lw tr pt sk bk q h d) (hw : w < xN X) (h0 : cm w = 0) : TI X k (un cm w (q + 1)) (un lw w (q + 1)) (un tr w 0) (un pt d w) (un sk h w) (un bk w false) (q + 1) (h + 1) (d + 1) := by
  obtain ⟨⟨a1, a2, a3⟩, b, c, ⟨pos, e⟩, f, g, z⟩ := H
  have mono : ∀ i, cm i ≠ 0 → un cm w (q + 1) i ≠ 0 := fun i hi => by
    by_cases ei : i = w
    · rw [ei, un_eq]
      omega
    · rw [un_ne ei]
      exact hi
  have ew : un cm w (q + 1) w ≠ 0 := by
    rw [un_eq]
    omega
  refine ⟨⟨?_, by omega, by omega⟩, fun j hj => ?_, fun j hj => ?_, ⟨fun j => if j < d then pos j else h, fun j hj => ?_⟩, fun i hi => ?_, ?_, fun i hi => ?_⟩
  · rw [cwN_up (by omega) h0]
    omega
  · by_cases ej : j = d
    · rw [ej, un_eq]
      exact ew
    · rw [un_ne ej]
      exact mono _ (b j (by omega))
  · by_cases ej : j = h
    · rw [ej, un_eq]
      exact ew
    · rw [un_ne ej]
      exact mono _ (c j (by omega))
  · dsimp only
    by_cases ej : j < d
    · rw [if_pos ej]
      obtain ⟨a, b, c⟩ := e j ej
      refine ⟨by omega, ?_, fun i2 hi2 => ?_⟩
      · rw [un_ne (show pos j ≠ h by omega), un_ne (show j ≠ d by omega)]
        exact b
      · rw [if_pos (by omega)]
        exact c i2 hi2
    · have ed : j = d := by omega
      rw [if_neg ej]
      refine ⟨by omega, ?_, fun i2 hi2 => ?_⟩
      · rw [un_eq, ed, un_eq]
      · rw [if_pos (by omega)]
        exact (e i2 (by omega)).1
  · by_cases ei : i = w
    · refine ⟨by rw [ei]; exact hw, by rw [ei, un_eq]; omega, by rw [ei, un_eq]; omega, by rw [ei, un_eq, un_eq]; exact Nat.le_refl _, by rw [ei, un_eq]; exact Nat.le_refl _, fun t ht => ?_, Or.inr ⟨d, by omega, by rw [un_eq, ei]⟩⟩
      rw [ei, un_eq] at ht
      omega
    · rw [un_ne ei] at hi
      obtain ⟨n1, n2, n3, n4, n5, n6, n7⟩ := f i hi
      refine ⟨n1, by rw [un_ne ei]; exact n2, by rw [un_ne ei]; exact n3, by rw [un_ne ei, un_ne ei]; exact n4, by rw [un_ne ei]; omega, fun t ht j hj hx => ?_, ?_⟩
      · rw [un_ne ei] at ht
        exact mono j (n6 t ht j hj hx)
      · rw [un_ne ei]
        rcases n7 with n7 | ⟨j, hj, ej⟩
        · exact Or.inl n7
        · exact Or.inr ⟨j, by omega, by rw [un_ne (show j ≠ d by omega)]; exact ej⟩
  · have e := sm_upd (w := gwN cm tr) (w' := gwN (un cm w (q + 1)) (un tr w 0)) (i := w) (N := 2000) (by omega) (fun j _ hj => by unfold gwN; rw [un_ne hj, un_ne hj])
    have e1 : gwN cm tr w = 5 := if_pos h0
    have e2 : gwN (un cm w (q + 1)) (un tr w 0) w = 3 := by
      unfold gwN
      rw [un_eq, un_eq, if_neg (by omega)]
    omega
  · by_cases ei : i = w
    · rw [ei, un_eq]
    · rw [un_ne ei] at hi ⊢
      exact z i hi
theorem ti_pop {h' : Nat} {pos : Nat → Nat} (H : TI X k cm lw tr pt sk bk q h (d + 1)) (ht : ¬ tr (pt d) < 3) (hh : h' ≤ h) (hpos : ∀ j, j < d → pos j < h' ∧ sk (pos j) = pt j ∧ ∀ i, i < j → pos i < pos j) (hl : ∀ i, cm i ≠ 0 → 1 ≤ lw' i ∧ lw' i ≤ cm i) (hb : ∀ i, cm i = 0 → bk' i = false) : TI X (k + 1) cm lw' tr pt sk bk' q h' d := by
  obtain ⟨⟨a1, a2, a3⟩, b, c, -, f, g, -⟩ := H
  refine ⟨⟨a1, by omega, by omega⟩, fun j hj => b j (by omega), fun j hj => c j (by omega), ⟨pos, hpos⟩, fun i hi => ?_, by omega, hb⟩
  obtain ⟨n1, n2, n3, n4, n5, n6, n7⟩ := f i hi
  refine ⟨n1, n2, (hl i hi).1, (hl i hi).2, n5, n6, ?_⟩
  rcases n7 with n7 | ⟨j, hj, ej⟩
  · exact Or.inl n7
  · by_cases e : j = d
    · left
      rw [e] at ej
      rw [ej] at ht
      omega
    · exact Or.inr ⟨j, by omega, ej⟩
theorem tpop_le {sv : Bool} : ∀ {h : Nat} {on bk : Nat → Bool} {h' : Nat} {on' bk' : Nat → Bool}, tPop i sv sk h on bk = (h', on', bk') → h' ≤ h ∧ (∀ p, p < h → sk p = i → p ≤ h') ∧ ∀ c : Nat → Nat, (∀ j, j < h → c (sk j) ≠ 0) → (∀ j, c j = 0 → bk j = false) → ∀ j, c j = 0 → bk' j = false
  | 0, on, bk, h', on', bk', e => by
    unfold tPop at e
    cases e
    exact ⟨Nat.le_refl _, fun p hp => by omega, fun c _ hb => hb⟩
  | h + 1, on, bk, h', on', bk', e => by
    unfold tPop at e
    have hbk : ∀ c : Nat → Nat, (∀ j, j < h + 1 → c (sk j) ≠ 0) → (∀ j, c j = 0 → bk j = false) → ∀ j, c j = 0 → un bk (sk h) (bk (sk h) || sv) j = false := fun c hc hb j hj => by
      by_cases ej : j = sk h
      · rw [ej] at hj
        exact absurd hj (hc h (by omega))
      · rw [un_ne ej]
        exact hb j hj
    by_cases eh : sk h = i
    · rw [if_pos eh] at e
      cases e
      exact ⟨by omega, fun p hp _ => by omega, hbk⟩
    · rw [if_neg eh] at e
      obtain ⟨a, b, c⟩ := tpop_le e
      refine ⟨by omega, fun p hp ep => ?_, fun cc hc hb => c cc (fun j hj => hc j (by omega)) (hbk cc hc hb)⟩
      by_cases e2 : p = h
      · rw [e2] at ep
        exact absurd ep eh
      · exact b p (by omega) ep
/-- behind k turns -/
def TK (X : XT) (k : Nat) (cm lw tr pt sk : Nat → Nat) (on bk : Nat → Bool) (q h d : Nat) : Prop := tRun X k = (cm, lw, tr, pt, sk, on, bk, q, h, d) ∧ TI X k cm lw tr pt sk bk q h d ∧ cm 0 ≠ 0
theorem ti_lw (H : TI X k cm lw tr pt sk bk q h d) : ∀ i, cm i ≠ 0 → 1 ≤ lw i ∧ lw i ≤ cm i := fun i hi => ⟨(H.2.2.2.2.1 i hi).2.2.1, (H.2.2.2.2.1 i hi).2.2.2.1⟩
theorem tk_run (H : TK X k cm lw tr pt sk on bk q h (d + 1)) : tRun X (k + 1) = tTurn X (cm, lw, tr, pt, sk, on, bk, q, h, d + 1) := by
  show tTurn X (tRun X k) = _
  rw [H.1]
theorem tk_none (hX : xN X ≤ 2000) (H : TK X k cm lw tr pt sk on bk q h (d + 1)) (ht : tr (pt d) < 3) (hx : xL X (3 * pt d + tr (pt d)) = -1) : TK X (k + 1) cm lw (un tr (pt d) (tr (pt d) + 1)) pt sk on bk q h (d + 1) := by
  refine ⟨?_, ti_try (p := d) hX H.2.1 (by omega) ht (fun j hj e => ?_) (ti_lw H.2.1) H.2.1.2.2.2.2.2.2, H.2.2⟩
  · rw [tk_run H]
    unfold tTurn
    dsimp only
    rw [if_pos ht, if_pos (by rw [hx]; decide)]
  · rw [hx] at e
    have h9 := congrArg Int32.toInt e
    rw [nI_toInt (by omega)] at h9
    have h8 : (-1 : Int32).toInt = -1 := rfl
    omega
theorem nI_nn {j : Nat} (hj : j < 2000) : ¬ (nI j).toInt < 0 ∧ (nI j).toInt.toNat = j := by
  rw [nI_toInt (by omega)]
  omega
theorem nI_ij {i j : Nat} (hi : i < 2000) (hj : j < 2000) (e : nI i = nI j) : i = j := by
  have h9 : (nI i).toInt.toNat = (nI j).toInt.toNat := congrArg (fun x => x.toInt.toNat) e
  rw [(nI_nn hi).2, (nI_nn hj).2] at h9
  exact h9
theorem tk_self (hX : xN X ≤ 2000) (H : TK X k cm lw tr pt sk on bk q h (d + 1)) (ht : tr (pt d) < 3) (hx : xL X (3 * pt d + tr (pt d)) = nI (pt d)) : TK X (k + 1) cm lw (un tr (pt d) (tr (pt d) + 1)) pt sk on (un bk (pt d) true) q h (d + 1) := by
  have s := H.2.1.2.1 d (by omega)
  have hN := (H.2.1.2.2.2.2.1 _ s).1
  refine ⟨?_, ti_try (p := d) hX H.2.1 (by omega) ht (fun j hj e => ?_) (ti_lw H.2.1) (fun i hi => ?_), H.2.2⟩
  · rw [tk_run H]
    unfold tTurn
    dsimp only
    rw [if_pos ht, hx, if_neg (nI_nn (by omega)).1, if_pos (nI_nn (by omega)).2]
  · rw [hx] at e
    rw [← nI_ij (by omega) (by omega) e]
    exact s
  · rw [un_ne (fun e => s (by rw [← e]; exact hi))]
    exact H.2.1.2.2.2.2.2.2 i hi
theorem tk_old (hX : xN X ≤ 2000) (H : TK X k cm lw tr pt sk on bk q h (d + 1)) (ht : tr (pt d) < 3) (hw : w < xN X) (hx : xL X (3 * pt d + tr (pt d)) = nI w) (hne : w ≠ pt d) (h0 : cm w ≠ 0) (ho : on w = false) : TK X (k + 1) cm lw (un tr (pt d) (tr (pt d) + 1)) pt sk on bk q h (d + 1) := by
  refine ⟨?_, ti_try (p := d) hX H.2.1 (by omega) ht (fun j hj e => ?_) (ti_lw H.2.1) H.2.1.2.2.2.2.2.2, H.2.2⟩
  · rw [tk_run H]
    unfold tTurn
    dsimp only
    rw [if_pos ht, hx, if_neg (nI_nn (by omega)).1, (nI_nn (j := w) (by omega)).2, if_neg hne, if_neg h0, ho, if_neg (by decide)]
  · rw [hx] at e
    rw [← nI_ij (by omega) (by omega) e]
    exact h0
theorem tk_low (hX : xN X ≤ 2000) (H : TK X k cm lw tr pt sk on bk q h (d + 1)) (ht : tr (pt d) < 3) (hw : w < xN X) (hx : xL X (3 * pt d + tr (pt d)) = nI w) (hne : w ≠ pt d) (h0 : cm w ≠ 0) (ho : on w = true) : TK X (k + 1) cm (un lw (pt d) (min (lw (pt d)) (cm w))) (un tr (pt d) (tr (pt d) + 1)) pt sk on bk q h (d + 1) := by
  refine ⟨?_, ti_try (p := d) hX H.2.1 (by omega) ht (fun j hj e => ?_) (fun i hi => ?_) H.2.1.2.2.2.2.2.2, H.2.2⟩
  · rw [tk_run H]
    unfold tTurn
    dsimp only
    rw [if_pos ht, hx, if_neg (nI_nn (by omega)).1, (nI_nn (j := w) (by omega)).2, if_neg hne, if_neg h0, if_pos ho]
  · rw [hx] at e
    rw [← nI_ij (by omega) (by omega) e]
    exact h0
  · have a := ti_lw H.2.1 i hi
    by_cases ei : i = pt d
    · rw [ei] at a ⊢
      rw [un_eq]
      omega
    · rw [un_ne ei]
      exact a
theorem tk_new (hX : xN X ≤ 2000) (H : TK X k cm lw tr pt sk on bk q h (d + 1)) (ht : tr (pt d) < 3) (hw : w < xN X) (hx : xL X (3 * pt d + tr (pt d)) = nI w) (h0 : cm w = 0) : TK X (k + 1) (un cm w (q + 1)) (un lw w (q + 1)) (un (un tr (pt d) (tr (pt d) + 1)) w 0) (un pt (d + 1) w) (un sk h w) (un on w true) (un bk w false) (q + 1) (h + 1) (d + 1 + 1) := by
  have s := H.2.1.2.1 d (by omega)
  have hne : w ≠ pt d := fun e => s (by rw [← e]; exact h0)
  have e1 : un pt (d + 1) w d = pt d := un_ne (by omega)
  have e2 : un tr w 0 (pt d) = tr (pt d) := un_ne (fun e => hne e.symm)
  have H1 := ti_push hX H.2.1 hw h0
  have H2 := ti_try (p := d) (lw' := un lw w (q + 1)) (bk' := un bk w false) hX H1 (by omega) (by rw [e1, e2]; exact ht) (fun j hj e => ?_) (ti_lw H1) H1.2.2.2.2.2.2
  · rw [e1, e2, un_cm hne] at H2
    refine ⟨?_, H2, fun e => ?_⟩
    · rw [tk_run H]
      unfold tTurn
      dsimp only
      rw [if_pos ht, hx, if_neg (nI_nn (by omega)).1, (nI_nn (j := w) (by omega)).2, if_neg hne, if_pos h0]
      rfl
    · by_cases ew : 0 = w
      · rw [ew, un_eq] at e
        omega
      · rw [un_ne ew] at e
        exact H.2.2 e
  · rw [e1, e2, hx] at e
    rw [← nI_ij (by omega) (by omega) e, un_eq]
    omega
theorem tlow_ok (H : TI X k cm lw tr pt sk bk q h (d + 1)) : ∀ i, cm i ≠ 0 → 1 ≤ tLow lw pt d (pt d) i ∧ tLow lw pt d (pt d) i ≤ cm i := fun i hi => by
  have a := ti_lw H i hi
  have s := ti_lw H _ (H.2.1 d (by omega))
  cases d with
  | zero => exact a
  | succ e =>
    show 1 ≤ un lw (pt e) (min (lw (pt e)) (lw (pt (e + 1)))) i ∧ _
    by_cases ei : i = pt e
    · rw [ei] at a
      have e9 : tLow lw pt (e + 1) (pt (e + 1)) i = min (lw (pt e)) (lw (pt (e + 1))) := by
        rw [ei]
        exact un_eq
      have e8 : un lw (pt e) (min (lw (pt e)) (lw (pt (e + 1)))) i = min (lw (pt e)) (lw (pt (e + 1))) := e9
      rw [e9, e8, ei]
      omega
    · have e9 : tLow lw pt (e + 1) (pt (e + 1)) i = lw i := un_ne ei
      have e8 : un lw (pt e) (min (lw (pt e)) (lw (pt (e + 1)))) i = lw i := e9
      rw [e9, e8]
      exact a
theorem tk_leave (H : TK X k cm lw tr pt sk on bk q h (d + 1)) (ht : ¬ tr (pt d) < 3) (hl : ¬ lw (pt d) = cm (pt d)) : TK X (k + 1) cm (tLow lw pt d (pt d)) tr pt sk on bk q h d := by
  obtain ⟨pos, hpos⟩ := H.2.1.2.2.2.1
  refine ⟨?_, ti_pop H.2.1 ht (Nat.le_refl h) (fun j hj => hpos j (by omega)) (tlow_ok H.2.1) H.2.1.2.2.2.2.2.2, H.2.2⟩
  rw [tk_run H]
  unfold tTurn
  dsimp only
  rw [if_neg ht, if_neg hl]
theorem tk_close {h' : Nat} (H : TK X k cm lw tr pt sk on bk q h (d + 1)) (ht : ¬ tr (pt d) < 3) (hl : lw (pt d) = cm (pt d)) (hp : tPop (pt d) (decide (sk (h - 1) ≠ pt d)) sk h on bk = (h', on', bk')) : TK X (k + 1) cm (tLow lw pt d (pt d)) tr pt sk on' bk' q h' d := by
  obtain ⟨pos, hpos⟩ := H.2.1.2.2.2.1
  obtain ⟨a, b, c⟩ := tpop_le hp
  have hd := hpos d (by omega)
  have h1 := b (pos d) hd.1 hd.2.1
  refine ⟨?_, ti_pop (pos := pos) H.2.1 ht a (fun j hj => ⟨?_, (hpos j (by omega)).2⟩) (tlow_ok H.2.1) (c cm H.2.1.2.2.1 H.2.1.2.2.2.2.2.2), H.2.2⟩
  · rw [tk_run H]
    unfold tTurn
    dsimp only
    rw [if_neg ht, if_pos hl, hp]
  · have := hd.2.2 j hj
    omega
theorem tk_0 (hX : 1 ≤ xN X ∧ xN X ≤ 2000) : TK X 0 (un (fun _ => 0) 0 1) (un (fun _ => 0) 0 1) (un (fun _ => 0) 0 0) (un (fun _ => 0) 0 0) (un (fun _ => 0) 0 0) (un (fun _ => false) 0 true) (un (fun _ => false) 0 false) 1 1 1 := by
  refine ⟨rfl, ti_push (cm := fun _ => 0) (lw := fun _ => 0) (tr := fun _ => 0) (pt := fun _ => 0) (sk := fun _ => 0) (bk := fun _ => false) (q := 0) (h := 0) (d := 0) (w := 0) hX.2 ⟨⟨Nat.zero_le _, Nat.le_refl _, Nat.le_refl _⟩, fun j hj => by omega, fun j hj => by omega, ⟨fun _ => 0, fun j hj => by omega⟩, fun i hi => absurd rfl hi, ?_, fun _ _ => rfl⟩ (by omega) rfl, by rw [un_eq]; decide⟩
  have := sm_le (w := gwN (fun _ => 0) (fun _ => 0)) (B := 5) (N := 2000) (fun j _ => by unfold gwN; rw [if_pos rfl]; exact Nat.le_refl _)
  omega
/-- the number of a follower -/
theorem tk_fl (hR : XR9 X (3 * xN X)) (H : TK X k cm lw tr pt sk on bk q h (d + 1)) (ht : tr (pt d) < 3) : xL X (3 * pt d + tr (pt d)) = -1 ∨ ∃ j, j < xN X ∧ xL X (3 * pt d + tr (pt d)) = nI j := by
  have hN := (H.2.1.2.2.2.2.1 _ (H.2.1.2.1 d (by omega))).1
  exact hR _ (by omega)
/-- once the path is gone every state has come -/
theorem tk_all (hE : XE9 X (3 * xN X)) (hX : xN X ≤ 2000) (H : TK X k cm lw tr pt sk on bk q h 0) : ∀ j, j < xN X → cm j ≠ 0 := by
  intro j
  induction j using Nat.strongRecOn with
  | ind j ih =>
    intro hj
    by_cases h0 : j = 0
    · rw [h0]
      exact H.2.2
    · obtain ⟨r, h1, h2, h3⟩ := hE j (by omega) hj
      have hi := ih (r / 3) (by omega) (by omega)
      obtain ⟨n1, n2, n3, n4, n5, n6, n7⟩ := H.2.1.2.2.2.2.1 _ hi
      have e3 : tr (r / 3) = 3 := by
        rcases n7 with n7 | ⟨j, hj, -⟩
        · exact n7
        · omega
      exact n6 (r % 3) (by omega) j hj (by rw [show 3 * (r / 3) + r % 3 = r by omega]; exact h3)
theorem tk_end (H : TK X k cm lw tr pt sk on bk q h 0) : bkE X = bk := bkE_is ⟨k, q, h, cm, lw, tr, pt, sk, on, H.1⟩
end NA
