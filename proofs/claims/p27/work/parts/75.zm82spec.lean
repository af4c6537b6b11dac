/-! what a step does, on the fields of a state -/
section SP
/-- a program: hands, lengths, kinds, operands, numbers, the places at first -/
abbrev PG : Type := Nat × (Nat → Nat) × (Nat → Nat → Nat) × (Nat → Nat → Int32) × (Nat → Nat → Int32) × (Nat → Nat)
def pH (P : PG) : Nat := P.1
def pL (P : PG) : Nat → Nat := P.2.1
def pK (P : PG) : Nat → Nat → Nat := P.2.2.1
def pO (P : PG) : Nat → Nat → Int32 := P.2.2.2.1
def pN (P : PG) : Nat → Nat → Int32 := P.2.2.2.2.1
def pV (P : PG) : Nat → Nat := P.2.2.2.2.2
def hasP (k : Nat) : Prop := k = 0 ∨ k = 1 ∨ k = 2 ∨ k = 5 ∨ k = 6 ∨ k = 7
def hasL (k : Nat) : Prop := k = 8 ∨ k = 9 ∨ k = 10 ∨ k = 11
def hasN (k : Nat) : Prop := k = 0 ∨ k = 3 ∨ k = 5 ∨ k = 6
def WFP (P : PG) : Prop := 1 ≤ pH P ∧ pH P ≤ 3 ∧ (∀ x, x < pH P → pL P x ≤ 8) ∧ (∀ p, p < 4 → pV P p ≤ 9) ∧ ∀ x i, x < pH P → i < pL P x → pK P x i ≤ 12 ∧ (hasP (pK P x i) → ∃ q, q < 4 ∧ pO P x i = nI q) ∧ (hasL (pK P x i) → ∃ q, q < 3 ∧ pO P x i = nI q) ∧ (hasN (pK P x i) → ∃ m, m ≤ 9 ∧ pN P x i = nI m) ∧ (pK P x i = 4 → ∃ m, m ≤ 10 ∧ pN P x i = nI m)
variable {P : PG} {D : Nat → Nat} {x pic : Nat}
def ovr (P : PG) (D : Nat → Nat) (x : Nat) : Prop := pL P x ≤ D (4 * x)
def kA (P : PG) (D : Nat → Nat) (x : Nat) : Nat := pK P x (D (4 * x))
def oA (P : PG) (D : Nat → Nat) (x : Nat) : Nat := (pO P x (D (4 * x))).toNatClampNeg
def nA (P : PG) (D : Nat → Nat) (x : Nat) : Nat := (pN P x (D (4 * x))).toNatClampNeg
theorem wfp_k (hP : WFP P) (hx : x < pH P) (ho : ¬ ovr P D x) : kA P D x ≤ 12 := (hP.2.2.2.2 x _ hx (by unfold ovr at ho; omega)).1
theorem wfp_o (hP : WFP P) (hx : x < pH P) (ho : ¬ ovr P D x) (hk : hasP (kA P D x)) : oA P D x < 4 ∧ pO P x (D (4 * x)) = nI (oA P D x) := by
  obtain ⟨q, hq, e⟩ := (hP.2.2.2.2 x _ hx (by unfold ovr at ho; omega)).2.1 hk
  unfold oA
  rw [e, nI_clamp (by omega)]
  exact ⟨hq, rfl⟩
theorem wfp_l (hP : WFP P) (hx : x < pH P) (ho : ¬ ovr P D x) (hk : hasL (kA P D x)) : oA P D x < 3 ∧ pO P x (D (4 * x)) = nI (oA P D x) := by
  obtain ⟨q, hq, e⟩ := (hP.2.2.2.2 x _ hx (by unfold ovr at ho; omega)).2.2.1 hk
  unfold oA
  rw [e, nI_clamp (by omega)]
  exact ⟨hq, rfl⟩
theorem wfp_n (hP : WFP P) (hx : x < pH P) (ho : ¬ ovr P D x) (hk : hasN (kA P D x)) : nA P D x ≤ 9 ∧ pN P x (D (4 * x)) = nI (nA P D x) := by
  obtain ⟨q, hq, e⟩ := (hP.2.2.2.2 x _ hx (by unfold ovr at ho; omega)).2.2.2.1 hk
  unfold nA
  rw [e, nI_clamp (by omega)]
  exact ⟨hq, rfl⟩
theorem wfp_j (hP : WFP P) (hx : x < pH P) (ho : ¬ ovr P D x) (hk : kA P D x = 4) : nA P D x ≤ 10 ∧ pN P x (D (4 * x)) = nI (nA P D x) := by
  obtain ⟨q, hq, e⟩ := (hP.2.2.2.2 x _ hx (by unfold ovr at ho; omega)).2.2.2.2 hk
  unfold nA
  rw [e, nI_clamp (by omega)]
  exact ⟨hq, rfl⟩
def meetP (P : PG) (D : Nat → Nat) : Prop := ∀ x, x < pH P → ovr P D x ∨ kA P D x = 12
def ableP (P : PG) (pic : Nat) (D : Nat → Nat) (x : Nat) : Prop := ¬ ovr P D x ∧ (kA P D x = 5 → D (12 + oA P D x) = nA P D x) ∧ (kA P D x = 8 → pic = 4 ∨ D (16 + oA P D x) = 0) ∧ (kA P D x = 10 → D (4 * x + 2) = 0 ∨ (D (4 * x + 3) = 2 ∧ (pic = 4 ∨ D (16 + oA P D x) = 0))) ∧ (kA P D x = 12 → meetP P D)
def atD (D : Nat → Nat) (x v : Nat) : Nat → Nat := e_up (e_up (e_up D (4 * x) v) (4 * x + 2) 0) (4 * x + 3) 0
def passD (D : Nat → Nat) (x : Nat) : Nat → Nat := atD D x (D (4 * x) + 1)
def calB (P : PG) (D : Nat → Nat) (q o : Nat) : Bool := decide (o < pH P) && (decide (D (4 * o + 3) = 1) && decide (oA P D o = q))
def metB (P : PG) (D : Nat → Nat) (o : Nat) : Bool := decide (o < pH P) && (decide (D (4 * o) < pL P o) && decide (kA P D o = 12))
def calD (P : PG) (D : Nat → Nat) (q : Nat) : Nat → Nat := if calB P D q 0 then e_up D 3 2 else if calB P D q 1 then e_up D 7 2 else if calB P D q 2 then e_up D 11 2 else D
/-- the hands below k that meet pass -/
def metD (P : PG) (D : Nat → Nat) : Nat → (Nat → Nat)
  | 0 => D
  | k + 1 => if metB P D k then passD (metD P D k) k else metD P D k
def aftD (P : PG) (pic : Nat) (D : Nat → Nat) (x : Nat) : Nat → Nat := match kA P D x with
  | 0 => passD (e_up D (12 + oA P D x) (nA P D x)) x
  | 1 => passD (e_up D (4 * x + 1) (D (12 + oA P D x))) x
  | 2 => passD (e_up D (12 + oA P D x) (D (4 * x + 1))) x
  | 3 => passD (e_up D (4 * x + 1) ((D (4 * x + 1) + nA P D x) % 10)) x
  | 4 => if D (4 * x + 1) = 0 then atD D x (min (nA P D x) (pL P x)) else passD D x
  | 5 => passD D x
  | 6 => if pic = 3 then passD (e_up (e_up D (4 * x + 1) ((D (12 + oA P D x) + nA P D x) % 10)) (12 + oA P D x) ((D (12 + oA P D x) + nA P D x) % 10)) x
    else if D (4 * x + 2) = 0 then e_up (e_up D (4 * x + 1) (D (12 + oA P D x))) (4 * x + 2) 1
    else if D (4 * x + 2) = 1 then e_up (e_up D (4 * x + 1) ((D (4 * x + 1) + nA P D x) % 10)) (4 * x + 2) 2
    else passD (e_up D (12 + oA P D x) (D (4 * x + 1))) x
  | 7 => passD (e_up (e_up D (4 * x + 1) (D (12 + oA P D x))) (12 + oA P D x) 1) x
  | 8 => passD (e_up D (16 + oA P D x) (x + 1)) x
  | 9 => if D (16 + oA P D x) = x + 1 then passD (e_up D (16 + oA P D x) 0) x else atD D x 15
  | 10 => if D (4 * x + 2) = 1 then passD (e_up D (16 + oA P D x) (x + 1)) x
    else if D (16 + oA P D x) = x + 1 then e_up (e_up (e_up D (16 + oA P D x) 0) (4 * x + 2) 1) (4 * x + 3) 1 else atD D x 15
  | 11 => passD (calD P D (oA P D x)) x
  | 12 => metD P D (pH P)
  | _ => D
def mkD (pic : Nat) (D : Nat → Nat) (x : Nat) : Nat → Nat := if pic = 1 ∨ pic = 2 then e_up D 19 (x + 1) else D
/-- what holds of a hand's own fields -/
def WFh (P : PG) (D : Nat → Nat) (x : Nat) : Prop := (D (4 * x) ≤ pL P x ∨ D (4 * x) = 15) ∧ D (4 * x + 1) ≤ 9 ∧ D (4 * x + 2) ≤ 2 ∧ D (4 * x + 3) ≤ 2 ∧ (D (4 * x + 3) ≠ 0 → D (4 * x) < pL P x ∧ kA P D x = 10 ∧ D (4 * x + 2) = 1) ∧ (D (4 * x + 2) ≠ 0 → D (4 * x) < pL P x ∧ (kA P D x = 6 ∨ (kA P D x = 10 ∧ D (4 * x + 2) = 1)))
def WFD (P : PG) (pic : Nat) (D : Nat → Nat) : Prop := (∀ x, x < pH P → WFh P D x) ∧ (∀ j, 4 * pH P ≤ j → j < 12 → D j = 0) ∧ (∀ p, p < 4 → D (12 + p) ≤ 9) ∧ (∀ l, l < 3 → D (16 + l) ≤ pH P) ∧ D 19 ≤ pH P ∧ (¬ (pic = 1 ∨ pic = 2) → D 19 = 0) ∧ D 20 = 0
theorem e_up_at {f : Nat → Nat} {i v : Nat} : e_up f i v i = v := if_pos rfl
theorem e_up_ot {f : Nat → Nat} {i j v : Nat} (h : j ≠ i) : e_up f i v j = f j := if_neg h
theorem wfh_same {D' : Nat → Nat} (h : WFh P D x) (e : ∀ j, j < 4 → D' (4 * x + j) = D (4 * x + j)) : WFh P D' x := by
  have e0 : D' (4 * x) = D (4 * x) := e 0 (by decide)
  have e1 := e 1 (by decide)
  have e2 := e 2 (by decide)
  have e3 := e 3 (by decide)
  have ek : kA P D' x = kA P D x := by unfold kA; rw [e0]
  unfold WFh at h ⊢
  rw [e0, e1, e2, e3, ek]
  exact h
theorem wf_hand {D' : Nat → Nat} (hP : pH P ≤ 3) (h : WFD P pic D) (hx : x < pH P) (ho : ∀ j, j < 21 → (j < 4 * x ∨ 4 * x + 4 ≤ j) → D' j = D j) (hw : WFh P D' x) : WFD P pic D' := by
  obtain ⟨a, b, c, d, e, f, g⟩ := h
  refine ⟨fun y hy => ?_, fun j h1 h2 => ?_, fun p hp => ?_, fun l hl => ?_, ?_, ?_, ?_⟩
  · by_cases e : y = x
    · rw [e]
      exact hw
    · exact wfh_same (a y hy) (fun j hj => ho _ (by omega) (by omega))
  · rw [ho j (by omega) (by omega)]
    exact b j h1 h2
  · rw [ho _ (by omega) (by omega)]
    exact c p hp
  · rw [ho _ (by omega) (by omega)]
    exact d l hl
  · rw [ho _ (by omega) (by omega)]
    exact e
  · rw [ho _ (by omega) (by omega)]
    exact f
  · rw [ho _ (by omega) (by omega)]
    exact g
/-- fields that aren't a hand's own, put -/
theorem wf_out {i v : Nat} (hP : pH P ≤ 3) (h : WFD P pic D) (hi : 12 ≤ i) (h4 : i < 20) (h1 : i < 16 → v ≤ 9) (h2 : 16 ≤ i → v ≤ pH P) (h3 : i = 19 → pic = 1 ∨ pic = 2) : WFD P pic (e_up D i v) := by
  obtain ⟨a, b, c, d, e, f, g⟩ := h
  refine ⟨fun x hx => wfh_same (a x hx) (fun j hj => e_up_ot (by omega)), fun j q1 q2 => ?_, fun p hp => ?_, fun l hl => ?_, ?_, fun q => ?_, ?_⟩
  · rw [e_up_ot (by omega)]
    exact b j q1 q2
  · unfold e_up
    split
    · exact h1 (by omega)
    · exact c p hp
  · unfold e_up
    split
    · exact h2 (by omega)
    · exact d l hl
  · unfold e_up
    split
    · exact h2 (by omega)
    · exact e
  · unfold e_up
    split
    · exact absurd (h3 (by omega)) q
    · exact f q
  · rw [e_up_ot (by omega)]
    exact g
theorem at_ot {v j : Nat} (h : j < 4 * x ∨ 4 * x + 4 ≤ j ∨ j = 4 * x + 1) : atD D x v j = D j := by
  unfold atD
  rw [e_up_ot (by omega), e_up_ot (by omega), e_up_ot (by omega)]
theorem at_0 {v : Nat} : atD D x v (4 * x) = v := by
  unfold atD
  rw [e_up_ot (by omega), e_up_ot (by omega), e_up_at]
theorem at_2 {v : Nat} : atD D x v (4 * x + 2) = 0 := by
  unfold atD
  rw [e_up_ot (by omega), e_up_at]
theorem at_3 {v : Nat} : atD D x v (4 * x + 3) = 0 := by
  unfold atD
  rw [e_up_at]
theorem wf_at {v : Nat} (hP : pH P ≤ 3) (h : WFD P pic D) (hx : x < pH P) (hv : v ≤ pL P x ∨ v = 15) : WFD P pic (atD D x v) := by
  refine wf_hand hP h hx (fun j _ hj => at_ot (by omega)) ?_
  have hr := (h.1 x hx).2.1
  unfold WFh
  rw [at_0, at_2, at_3, at_ot (by omega)]
  exact ⟨hv, hr, by decide, by decide, fun h => absurd rfl h, fun h => absurd rfl h⟩
theorem wf_pass (hP : pH P ≤ 3) (h : WFD P pic D) (hx : x < pH P) (ho : ¬ ovr P D x) : WFD P pic (passD D x) := wf_at hP h hx (Or.inl (by unfold ovr at ho; omega))
theorem ov_ot {i v : Nat} (hi : i ≠ 4 * x) : ovr P (e_up D i v) x ↔ ovr P D x := by
  unfold ovr
  rw [e_up_ot (fun h => hi h.symm)]
/-- the register put -/
theorem wf_reg {v : Nat} (hP : pH P ≤ 3) (h : WFD P pic D) (hx : x < pH P) (hv : v ≤ 9) : WFD P pic (e_up D (4 * x + 1) v) := by
  refine wf_hand hP h hx (fun j _ hj => e_up_ot (by omega)) ?_
  have hr := h.1 x hx
  have ek : kA P (e_up D (4 * x + 1) v) x = kA P D x := by unfold kA; rw [e_up_ot (by omega)]
  unfold WFh at hr ⊢
  rw [ek, e_up_at, e_up_ot (by omega), e_up_ot (by omega), e_up_ot (by omega)]
  exact ⟨hr.1, hv, hr.2.2⟩
/-- the steps made of a long one put -/
theorem wf_mad {v : Nat} (hP : pH P ≤ 3) (h : WFD P pic D) (hx : x < pH P) (ho : ¬ ovr P D x) (hk : kA P D x = 6) (hv : v ≤ 2) : WFD P pic (e_up D (4 * x + 2) v) := by
  refine wf_hand hP h hx (fun j _ hj => e_up_ot (by omega)) ?_
  have hr := h.1 x hx
  have ek : kA P (e_up D (4 * x + 2) v) x = kA P D x := by unfold kA; rw [e_up_ot (by omega)]
  unfold WFh at hr ⊢
  rw [ek, e_up_at, e_up_ot (by omega), e_up_ot (by omega), e_up_ot (by omega)]
  unfold ovr at ho
  refine ⟨hr.1, hr.2.1, hv, hr.2.2.2.1, fun h3 => ?_, fun _ => ⟨by omega, Or.inl hk⟩⟩
  have := (hr.2.2.2.2.1 h3).2.1
  omega
theorem wf_slp (hP : pH P ≤ 3) (h : WFD P pic D) (hx : x < pH P) (ho : ¬ ovr P D x) (hk : kA P D x = 10) : WFD P pic (e_up (e_up D (4 * x + 2) 1) (4 * x + 3) 1) := by
  refine wf_hand hP h hx (fun j _ hj => by rw [e_up_ot (by omega), e_up_ot (by omega)]) ?_
  have hr := h.1 x hx
  have ek : kA P (e_up (e_up D (4 * x + 2) 1) (4 * x + 3) 1) x = kA P D x := by unfold kA; rw [e_up_ot (by omega), e_up_ot (by omega)]
  unfold WFh at hr ⊢
  rw [ek]
  have q0 : e_up (e_up D (4 * x + 2) 1) (4 * x + 3) 1 (4 * x) = D (4 * x) := by rw [e_up_ot (by omega), e_up_ot (by omega)]
  have q1 : e_up (e_up D (4 * x + 2) 1) (4 * x + 3) 1 (4 * x + 1) = D (4 * x + 1) := by rw [e_up_ot (by omega), e_up_ot (by omega)]
  have q2 : e_up (e_up D (4 * x + 2) 1) (4 * x + 3) 1 (4 * x + 2) = 1 := by rw [e_up_ot (by omega), e_up_at]
  have q3 : e_up (e_up D (4 * x + 2) 1) (4 * x + 3) 1 (4 * x + 3) = 1 := e_up_at
  rw [q0, q1, q2, q3]
  unfold ovr at ho
  exact ⟨hr.1, hr.2.1, by decide, by decide, fun _ => ⟨by omega, hk, rfl⟩, fun _ => ⟨by omega, Or.inr ⟨hk, rfl⟩⟩⟩
theorem wf_wake {o : Nat} (hP : pH P ≤ 3) (h : WFD P pic D) (ho : o < pH P) (h1 : D (4 * o + 3) = 1) : WFD P pic (e_up D (4 * o + 3) 2) := by
  refine wf_hand hP h ho (fun j _ hj => e_up_ot (by omega)) ?_
  have hr := h.1 o ho
  have ek : kA P (e_up D (4 * o + 3) 2) o = kA P D o := by unfold kA; rw [e_up_ot (by omega)]
  unfold WFh at hr ⊢
  rw [ek, e_up_at, e_up_ot (by omega), e_up_ot (by omega), e_up_ot (by omega)]
  exact ⟨hr.1, hr.2.1, hr.2.2.1, by decide, fun _ => hr.2.2.2.2.1 (by omega), hr.2.2.2.2.2⟩
theorem cal_cs (q : Nat) : calD P D q = D ∨ ∃ o, o < pH P ∧ D (4 * o + 3) = 1 ∧ oA P D o = q ∧ calD P D q = e_up D (4 * o + 3) 2 := by
  unfold calD
  split
  · rename_i h
    unfold calB at h
    simp only [Bool.and_eq_true, decide_eq_true_eq] at h
    exact Or.inr ⟨0, h.1, h.2.1, h.2.2, rfl⟩
  · split
    · rename_i h
      unfold calB at h
      simp only [Bool.and_eq_true, decide_eq_true_eq] at h
      exact Or.inr ⟨1, h.1, h.2.1, h.2.2, rfl⟩
    · split
      · rename_i h
        unfold calB at h
        simp only [Bool.and_eq_true, decide_eq_true_eq] at h
        exact Or.inr ⟨2, h.1, h.2.1, h.2.2, rfl⟩
      · exact Or.inl rfl
theorem wf_cal {q : Nat} (hP : pH P ≤ 3) (h : WFD P pic D) : WFD P pic (calD P D q) := by
  rcases cal_cs (P := P) (D := D) q with e | ⟨o, h1, h2, -, e⟩
  · rw [e]
    exact h
  · rw [e]
    exact wf_wake hP h h1 h2
theorem cal_ot {q j : Nat} (hj : ∀ o, o < pH P → j ≠ 4 * o + 3) : calD P D q j = D j := by
  rcases cal_cs (P := P) (D := D) q with e | ⟨o, h1, h2, -, e⟩
  · rw [e]
  · rw [e, e_up_ot (hj o h1)]
theorem met_ot {j k : Nat} (hj : 4 * k ≤ j) : metD P D k j = D j := by
  induction k with
  | zero => rfl
  | succ k ih =>
    unfold metD
    split
    · unfold passD
      rw [at_ot (by omega), ih (by omega)]
    · exact ih (by omega)
theorem wf_met {k : Nat} (hP : pH P ≤ 3) (h : WFD P pic D) (hk : k ≤ pH P) : WFD P pic (metD P D k) := by
  induction k with
  | zero => exact h
  | succ k ih =>
    unfold metD
    split
    · rename_i hm
      unfold metB at hm
      simp only [Bool.and_eq_true, decide_eq_true_eq] at hm
      refine wf_pass hP (ih (by omega)) (by omega) ?_
      unfold ovr
      rw [met_ot (Nat.le_refl _)]
      omega
    · exact ih (by omega)
theorem md10 (a : Nat) : a % 10 ≤ 9 := by omega
set_option maxHeartbeats 1000000 in
theorem wf_aft (hW : WFP P) (h : WFD P pic D) (hx : x < pH P) (ha : ableP P pic D x) : WFD P pic (aftD P pic D x) := by
  have hP := hW.2.1
  have ho := ha.1
  have hr := h.1 x hx
  have hk12 := wfp_k hW hx ho
  have pl : ∀ p, p < 4 → D (12 + p) ≤ 9 := h.2.2.1
  unfold aftD
  split
  · rename_i ek
    have o1 := wfp_o hW hx ho (by unfold hasP; omega)
    have n1 := wfp_n hW hx ho (by unfold hasN; omega)
    exact wf_pass hP (wf_out hP h (by omega) (by omega) (fun _ => n1.1) (by omega) (by omega)) hx (fun h => ho ((ov_ot (by omega)).mp h))
  · rename_i ek
    have o1 := wfp_o hW hx ho (by unfold hasP; omega)
    exact wf_pass hP (wf_reg hP h hx (pl _ o1.1)) hx (fun h => ho ((ov_ot (by omega)).mp h))
  · rename_i ek
    have o1 := wfp_o hW hx ho (by unfold hasP; omega)
    exact wf_pass hP (wf_out hP h (by omega) (by omega) (fun _ => hr.2.1) (by omega) (by omega)) hx (fun h => ho ((ov_ot (by omega)).mp h))
  · exact wf_pass hP (wf_reg hP h hx (md10 _)) hx (fun h => ho ((ov_ot (by omega)).mp h))
  · split
    · exact wf_at hP h hx (Or.inl (Nat.min_le_right _ _))
    · exact wf_pass hP h hx ho
  · exact wf_pass hP h hx ho
  · rename_i ek
    have o1 := wfp_o hW hx ho (by unfold hasP; omega)
    split
    · exact wf_pass hP (wf_out hP (wf_reg hP h hx (md10 _)) (by omega) (by omega) (fun _ => md10 _) (by omega) (by omega)) hx (fun h => ho ((ov_ot (by omega)).mp ((ov_ot (by omega)).mp h)))
    · have ek' : ∀ v, kA P (e_up D (4 * x + 1) v) x = 6 := fun v => by unfold kA; rw [e_up_ot (by omega)]; exact ek
      split
      · exact wf_mad hP (wf_reg hP h hx (pl _ o1.1)) hx (fun h => ho ((ov_ot (by omega)).mp h)) (ek' _) (by decide)
      · split
        · exact wf_mad hP (wf_reg hP h hx (md10 _)) hx (fun h => ho ((ov_ot (by omega)).mp h)) (ek' _) (by decide)
        · exact wf_pass hP (wf_out hP h (by omega) (by omega) (fun _ => hr.2.1) (by omega) (by omega)) hx (fun h => ho ((ov_ot (by omega)).mp h))
  · rename_i ek
    have o1 := wfp_o hW hx ho (by unfold hasP; omega)
    exact wf_pass hP (wf_out hP (wf_reg hP h hx (pl _ o1.1)) (by omega) (by omega) (fun _ => by decide) (by omega) (by omega)) hx (fun h => ho ((ov_ot (by omega)).mp ((ov_ot (by omega)).mp h)))
  · rename_i ek
    have o1 := wfp_l hW hx ho (by unfold hasL; omega)
    exact wf_pass hP (wf_out hP h (by omega) (by omega) (by omega) (fun _ => by omega) (by omega)) hx (fun h => ho ((ov_ot (by omega)).mp h))
  · rename_i ek
    have o1 := wfp_l hW hx ho (by unfold hasL; omega)
    split
    · exact wf_pass hP (wf_out hP h (by omega) (by omega) (by omega) (fun _ => by omega) (by omega)) hx (fun h => ho ((ov_ot (by omega)).mp h))
    · exact wf_at hP h hx (Or.inr rfl)
  · rename_i ek
    have o1 := wfp_l hW hx ho (by unfold hasL; omega)
    split
    · exact wf_pass hP (wf_out hP h (by omega) (by omega) (by omega) (fun _ => by omega) (by omega)) hx (fun h => ho ((ov_ot (by omega)).mp h))
    · split
      · exact wf_slp hP (wf_out hP h (by omega) (by omega) (by omega) (fun _ => by omega) (by omega)) hx (fun h => ho ((ov_ot (by omega)).mp h)) (by unfold kA; rw [e_up_ot (by omega)]; exact ek)
      · exact wf_at hP h hx (Or.inr rfl)
  · refine wf_pass hP (wf_cal hP h) hx (fun h => ho ?_)
    unfold ovr at h ⊢
    rw [cal_ot (fun o _ => by omega)] at h
    exact h
  · exact wf_met hP h (Nat.le_refl _)
  · exact h
theorem wf_mk (hP : pH P ≤ 3) (h : WFD P pic D) (hx : x < pH P) : WFD P pic (mkD pic D x) := by
  unfold mkD
  split
  · rename_i q
    exact wf_out hP h (by omega) (by omega) (by omega) (fun _ => by omega) (fun _ => q)
  · exact h
/-- the first state -/
def firD (P : PG) : Nat → Nat := fun j => if 12 ≤ j ∧ j < 16 then pV P (j - 12) else 0
theorem wf_fir (hW : WFP P) : WFD P pic (firD P) := by
  have hP := hW.2.1
  have z : ∀ j, j < 12 ∨ 16 ≤ j → firD P j = 0 := fun j hj => if_neg (by omega)
  refine ⟨fun x hx => ?_, fun j _ h => z j (by omega), fun p hp => ?_, fun l _ => by rw [z _ (by omega)]; omega, by rw [z _ (by omega)]; omega, fun _ => z _ (by omega), z _ (by omega)⟩
  · unfold WFh
    rw [z (4 * x) (by omega), z (4 * x + 1) (by omega), z (4 * x + 2) (by omega), z (4 * x + 3) (by omega)]
    exact ⟨Or.inl (by omega), by omega, by omega, by omega, fun h => absurd rfl h, fun h => absurd rfl h⟩
  · unfold firD
    rw [if_pos (by omega), Nat.add_sub_cancel_left]
    exact hW.2.2.2.1 p hp
end SP
