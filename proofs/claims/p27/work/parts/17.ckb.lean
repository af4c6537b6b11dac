/-! THE CHECKER, ints: sums, products, rests -/
def ck_addc (x y : ck_V) : Option ck_V := match decide (y.2.2.1 = 0) with
  | true => some (0, x.2.1, x.2.2.1, x.2.2.2 + y.2.2.2)
  | false => match decide (x.2.2.1 = 0) with
    | true => some (0, y.2.1, y.2.2.1, x.2.2.2 + y.2.2.2)
    | false => match Nat.beq x.2.1 y.2.1 with
      | true => some (0, x.2.1, x.2.2.1 + y.2.2.1, x.2.2.2 + y.2.2.2)
      | false => none
theorem ck_ev_0 {r : List Int} {v : ck_V} (h : v.2.2.1 = 0) : ck_ev r v = some v.2.2.2 := by
  unfold ck_ev
  rw [decide_eq_true h]
theorem ck_ev_1 {r : List Int} {v : ck_V} {y : Int} (h : ¬ v.2.2.1 = 0) (hy : r[v.2.1]? = some y) : ck_ev r v = some (v.2.2.1 * y + v.2.2.2) := by
  unfold ck_ev
  rw [decide_eq_false h, hy]
theorem ck_ev_d {r : List Int} {v : ck_V} {a : Int} (h : ck_ev r v = some a) : (v.2.2.1 = 0 ∧ a = v.2.2.2) ∨ ∃ y, ¬ v.2.2.1 = 0 ∧ r[v.2.1]? = some y ∧ a = v.2.2.1 * y + v.2.2.2 := by
  by_cases h0 : v.2.2.1 = 0
  · rw [ck_ev_0 h0] at h
    exact Or.inl ⟨h0, (Option.some.inj h).symm⟩
  · cases hr : r[v.2.1]? with
    | none =>
      unfold ck_ev at h
      rw [decide_eq_false h0, hr] at h
      cases h
    | some y =>
      rw [ck_ev_1 h0 hr] at h
      exact Or.inr ⟨y, h0, rfl, (Option.some.inj h).symm⟩
/-- a form's value, whatever its factor -/
theorem ck_ev_g {r : List Int} {i : Nat} {k d y : Int} (n : Nat) (h : k = 0 ∨ r[i]? = some y) : ck_ev r (n, i, k, d) = some (k * y + d) := by
  by_cases h0 : k = 0
  · rw [ck_ev_0 (v := (n, i, k, d)) h0]
    subst h0
    congr 1
    show d = 0 * y + d
    omega
  · rcases h with h | h
    · exact absurd h h0
    · exact ck_ev_1 (v := (n, i, k, d)) h0 h
theorem ck_addc_ok {r : List Int} {x y c : ck_V} {a b : Int} (hx : ck_ev r x = some a) (hy : ck_ev r y = some b) (h : ck_addc x y = some c) : ck_ev r c = some (a + b) := by
  unfold ck_addc at h
  rcases ck_ev_d hy with ⟨h0, rfl⟩ | ⟨v, h0, hv, rfl⟩
  · rw [decide_eq_true h0] at h
    cases h
    rcases ck_ev_d hx with ⟨g0, rfl⟩ | ⟨u, g0, hu, rfl⟩
    · rw [ck_ev_0 (v := (0, x.2.1, x.2.2.1, x.2.2.2 + y.2.2.2)) g0]
    · rw [ck_ev_1 (v := (0, x.2.1, x.2.2.1, x.2.2.2 + y.2.2.2)) g0 hu]
      congr 1
      dsimp only
      omega
  · rw [decide_eq_false h0] at h
    rcases ck_ev_d hx with ⟨g0, rfl⟩ | ⟨u, g0, hu, rfl⟩
    · rw [decide_eq_true g0] at h
      cases h
      rw [ck_ev_1 (v := (0, y.2.1, y.2.2.1, x.2.2.2 + y.2.2.2)) h0 hv]
      congr 1
      dsimp only
      omega
    · rw [decide_eq_false g0] at h
      cases hb : Nat.beq x.2.1 y.2.1
      · rw [hb] at h; cases h
      · rw [hb] at h
        cases h
        have e : x.2.1 = y.2.1 := Nat.eq_of_beq_eq_true hb
        rw [e, hv] at hu
        cases hu
        rw [e, ck_ev_g 0 (Or.inr hv)]
        congr 1
        rw [Int.add_mul]
        omega
def ck_neg (y : ck_V) : ck_V := (0, y.2.1, - y.2.2.1, - y.2.2.2)
theorem ck_neg_ok {r : List Int} {y : ck_V} {b : Int} (hy : ck_ev r y = some b) : ck_ev r (ck_neg y) = some (-b) := by
  rcases ck_ev_d hy with ⟨h0, rfl⟩ | ⟨v, h0, hv, rfl⟩
  · rw [ck_ev_0 (v := ck_neg y) (show - y.2.2.1 = 0 by omega)]
    rfl
  · rw [ck_ev_1 (v := ck_neg y) (show ¬ - y.2.2.1 = 0 by omega) hv]
    congr 1
    show - y.2.2.1 * v + - y.2.2.2 = _
    rw [Int.neg_mul]
    omega
def ck_sc (x : ck_V) (k : Int) : ck_V := (0, x.2.1, x.2.2.1 * k, x.2.2.2 * k)
theorem ck_sc_ok {r : List Int} {x : ck_V} {a : Int} (k : Int) (hx : ck_ev r x = some a) : ck_ev r (ck_sc x k) = some (a * k) := by
  rcases ck_ev_d hx with ⟨h0, rfl⟩ | ⟨v, h0, hv, rfl⟩
  · rw [ck_ev_0 (v := ck_sc x k) (show x.2.2.1 * k = 0 by rw [h0, Int.zero_mul])]
    rfl
  · unfold ck_sc
    rw [ck_ev_g 0 (Or.inr hv)]
    congr 1
    rw [Int.add_mul, Int.mul_assoc, Int.mul_assoc, Int.mul_comm k v]
def ck_add (E : ck_N) (x y : ck_V) : ck_V × ck_N := match ck_addc x y with
  | some c => ck_ar E (some c) (ck_iv E c).1 (ck_iv E c).2
  | none => ck_ar E none ((ck_iv E x).1 + (ck_iv E y).1) ((ck_iv E x).2 + (ck_iv E y).2)
theorem ck_add_ok {r : List Int} {E : ck_N} {x y : ck_V} {a b : Int} {z : Int32} (hE : ck_en r E) (hx : ck_ev r x = some a) (hy : ck_ev r y = some b) (hz : z.toInt = (a + b).bmod 4294967296) :
    ∃ u : List Int, ck_en (r ++ u) (ck_add E x y).2 ∧ ck_ok (r ++ u) (ck_add E x y).1 (.int z) := by
  unfold ck_add
  cases hc : ck_addc x y with
  | none =>
    obtain ⟨h1, h2⟩ := ck_iv_ok hE hx
    obtain ⟨h3, h4⟩ := ck_iv_ok hE hy
    exact ck_ar_ok hE hz (Int.add_le_add h1 h3) (Int.add_le_add h2 h4) (fun c h => by cases h)
  | some c =>
    have e := ck_addc_ok hx hy hc
    obtain ⟨h1, h2⟩ := ck_iv_ok hE e
    exact ck_ar_ok hE hz h1 h2 (fun c' h => by cases h; exact e)
def ck_mul (E : ck_N) (x y : ck_V) : ck_V × ck_N := match decide (y.2.2.1 = 0) with
  | true => ck_ar E (some (ck_sc x y.2.2.2)) (ck_iv E (ck_sc x y.2.2.2)).1 (ck_iv E (ck_sc x y.2.2.2)).2
  | false => match decide (x.2.2.1 = 0) with
    | true => ck_ar E (some (ck_sc y x.2.2.2)) (ck_iv E (ck_sc y x.2.2.2)).1 (ck_iv E (ck_sc y x.2.2.2)).2
    | false => ck_any E ck_lo ck_hi
theorem ck_mul_ok {r : List Int} {E : ck_N} {x y : ck_V} {a b : Int} {z : Int32} (hE : ck_en r E) (hx : ck_ev r x = some a) (hy : ck_ev r y = some b) (hz : z.toInt = (a * b).bmod 4294967296) :
    ∃ u : List Int, ck_en (r ++ u) (ck_mul E x y).2 ∧ ck_ok (r ++ u) (ck_mul E x y).1 (.int z) := by
  unfold ck_mul
  cases h0 : decide (y.2.2.1 = 0)
  · cases g0 : decide (x.2.2.1 = 0)
    · exact ck_any_ok hE (ck_rg z).1 (ck_rg z).2
    · have e0 : x.2.2.1 = 0 := of_decide_eq_true g0
      rw [ck_ev_0 e0] at hx
      cases hx
      have e := ck_sc_ok x.2.2.2 hy
      obtain ⟨h1, h2⟩ := ck_iv_ok hE e
      exact ck_ar_ok hE (by rw [hz, Int.mul_comm]) h1 h2 (fun c' h => by cases h; exact e)
  · have e0 : y.2.2.1 = 0 := of_decide_eq_true h0
    rw [ck_ev_0 e0] at hy
    cases hy
    have e := ck_sc_ok y.2.2.2 hx
    obtain ⟨h1, h2⟩ := ck_iv_ok hE e
    exact ck_ar_ok hE hz h1 h2 (fun c' h => by cases h; exact e)
theorem ck_and_le {x y : Int32} (h : 0 ≤ y.toInt) : 0 ≤ (x &&& y).toInt ∧ (x &&& y).toInt ≤ y.toInt := by
  have e1 : (x &&& y).toInt = (x.toBitVec &&& y.toBitVec).toInt := rfl
  have e2 : y.toInt = y.toBitVec.toInt := rfl
  rw [e2] at h ⊢
  rw [e1]
  rw [BitVec.toInt_eq_toNat_cond] at h
  rw [BitVec.toInt_eq_toNat_cond, BitVec.toInt_eq_toNat_cond, BitVec.toNat_and]
  have h3 : x.toBitVec.toNat &&& y.toBitVec.toNat ≤ y.toBitVec.toNat := Nat.and_le_right
  have hb := y.toBitVec.isLt
  split at h
  · rename_i h5
    rw [if_pos h5, if_pos (by omega)]
    omega
  · omega
theorem ck_and_comm (x y : Int32) : x &&& y = y &&& x := Int32.and_comm x y
def ck_and (E : ck_N) (x y : ck_V) : ck_V × ck_N := match decide (0 ≤ (ck_iv E y).1) with
  | true => ck_any E 0 (ck_iv E y).2
  | false => match decide (0 ≤ (ck_iv E x).1) with
    | true => ck_any E 0 (ck_iv E x).2
    | false => ck_any E ck_lo ck_hi
theorem ck_and_ok {r : List Int} {E : ck_N} {x y : ck_V} {a b : Int32} (hE : ck_en r E) (hx : ck_ev r x = some a.toInt) (hy : ck_ev r y = some b.toInt) :
    ∃ u : List Int, ck_en (r ++ u) (ck_and E x y).2 ∧ ck_ok (r ++ u) (ck_and E x y).1 (.int (a &&& b)) := by
  unfold ck_and
  obtain ⟨h1, h2⟩ := ck_iv_ok hE hx
  obtain ⟨h3, h4⟩ := ck_iv_ok hE hy
  cases h0 : decide (0 ≤ (ck_iv E y).1)
  · cases g0 : decide (0 ≤ (ck_iv E x).1)
    · exact ck_any_ok hE (ck_rg _).1 (ck_rg _).2
    · obtain ⟨k1, k2⟩ := ck_and_le (x := b) (y := a) (Int.le_trans (of_decide_eq_true g0) h1)
      rw [ck_and_comm] at k1 k2
      exact ck_any_ok hE k1 (Int.le_trans k2 h2)
  · obtain ⟨k1, k2⟩ := ck_and_le (x := a) (y := b) (Int.le_trans (of_decide_eq_true h0) h3)
    exact ck_any_ok hE k1 (Int.le_trans k2 h4)
theorem ck_td0 {a b : Int} (hb : 1 ≤ b) (ha : 0 ≤ a) : 0 ≤ a.tdiv b ∧ a.tdiv b ≤ a ∧ 0 ≤ a.tmod b ∧ a.tmod b < b ∧ a.tmod b ≤ a ∧ a.tdiv b * b + a.tmod b = a := by
  have h1 : b * a.tdiv b + a.tmod b = a := Int.mul_tdiv_add_tmod a b
  have h2 : 0 ≤ a.tdiv b := Int.tdiv_nonneg ha (by omega)
  have h3 : 0 ≤ a.tmod b := Int.tmod_nonneg b ha
  have h4 : a.tmod b < b := Int.tmod_lt_of_pos a (by omega)
  have h5 : 1 * a.tdiv b ≤ b * a.tdiv b := Int.mul_le_mul_of_nonneg_right hb h2
  rw [Int.mul_comm b] at h1 h5
  refine ⟨h2, ?_, h3, h4, ?_, h1⟩ <;> omega
theorem ck_td {a b : Int} (hb : 1 ≤ b) : a.tdiv b * b + a.tmod b = a ∧ - b < a.tmod b ∧ a.tmod b < b ∧ ((0 ≤ a ∧ 0 ≤ a.tdiv b ∧ a.tdiv b ≤ a ∧ 0 ≤ a.tmod b ∧ a.tmod b ≤ a) ∨ (a ≤ 0 ∧ a.tdiv b ≤ 0 ∧ a ≤ a.tdiv b ∧ a.tmod b ≤ 0 ∧ a ≤ a.tmod b)) := by
  rcases Int.le_total 0 a with ha | ha
  · obtain ⟨h1, h2, h3, h4, h5, h6⟩ := ck_td0 hb ha
    exact ⟨h6, by omega, h4, Or.inl ⟨ha, h1, h2, h3, h5⟩⟩
  · obtain ⟨h1, h2, h3, h4, h5, h6⟩ := ck_td0 (a := -a) hb (by omega)
    rw [Int.neg_tdiv] at h1 h2 h6
    rw [Int.neg_tmod] at h3 h4 h5 h6
    rw [Int.neg_mul] at h6
    exact ⟨by omega, by omega, by omega, Or.inr ⟨ha, by omega, by omega, by omega, by omega⟩⟩
theorem ck_dv {x y : Int32} (hy : 1 ≤ y.toInt) : (x / y).toInt = x.toInt.tdiv y.toInt := by
  obtain ⟨g1, g2⟩ := ck_rg x
  obtain ⟨h1, h2, h3, h4⟩ := ck_td (a := x.toInt) hy
  have e : (x / y).toInt = (x.toInt.tdiv y.toInt).bmod 4294967296 := Int32.toInt_div x y
  rw [e]
  unfold ck_lo at g1
  unfold ck_hi at g2
  exact ck_bm (by unfold ck_lo; omega) (by unfold ck_hi; omega)
theorem ck_tm {x y : Int32} (hy : 1 ≤ y.toInt) : (x - x / y * y).toInt = x.toInt.tmod y.toInt := by
  obtain ⟨g1, g2⟩ := ck_rg x
  obtain ⟨h1, h2, h3, h4⟩ := ck_td (a := x.toInt) hy
  unfold ck_lo at g1
  unfold ck_hi at g2
  have e1 : (x / y * y).toInt = x.toInt.tdiv y.toInt * y.toInt := by
    have e : (x / y * y).toInt = ((x / y).toInt * y.toInt).bmod 4294967296 := Int32.toInt_mul (x / y) y
    rw [e, ck_dv hy]
    exact ck_bm (by unfold ck_lo; omega) (by unfold ck_hi; omega)
  have e2 : (x - x / y * y).toInt = (x.toInt - (x / y * y).toInt).bmod 4294967296 := Int32.toInt_sub x (x / y * y)
  rw [e2, e1]
  have e3 : x.toInt - x.toInt.tdiv y.toInt * y.toInt = x.toInt.tmod y.toInt := by omega
  rw [e3]
  exact ck_bm (by unfold ck_lo; omega) (by unfold ck_hi; omega)
def ck_rem (E : ck_N) (x y : ck_V) : Option (ck_V × ck_N) := match decide (1 ≤ (ck_iv E y).1) with
  | false => none
  | true => match decide (0 ≤ (ck_iv E x).1) with
    | true => some (ck_any E 0 (min ((ck_iv E y).2 - 1) (ck_iv E x).2))
    | false => some (ck_any E (1 - (ck_iv E y).2) ((ck_iv E y).2 - 1))
theorem ck_rem_ok {r : List Int} {E : ck_N} {x y : ck_V} {p : ck_V × ck_N} {a b : Int32} (hE : ck_en r E) (hx : ck_ev r x = some a.toInt) (hy : ck_ev r y = some b.toInt) (h : ck_rem E x y = some p) :
    b ≠ 0 ∧ ∃ u : List Int, ck_en (r ++ u) p.2 ∧ ck_ok (r ++ u) p.1 (.int (a - a / b * b)) := by
  unfold ck_rem at h
  obtain ⟨h1, h2⟩ := ck_iv_ok hE hx
  obtain ⟨h3, h4⟩ := ck_iv_ok hE hy
  cases h0 : decide (1 ≤ (ck_iv E y).1)
  · rw [h0] at h; cases h
  · rw [h0] at h
    have hb1 : 1 ≤ b.toInt := Int.le_trans (of_decide_eq_true h0) h3
    have ht := ck_tm (x := a) hb1
    obtain ⟨k1, k2, k3, k4⟩ := ck_td (a := a.toInt) hb1
    refine ⟨fun e => by rw [e] at hb1; exact absurd hb1 (by decide), ?_⟩
    cases g0 : decide (0 ≤ (ck_iv E x).1)
    · rw [g0] at h
      cases h
      exact ck_any_ok hE (by rw [ht]; omega) (by rw [ht]; omega)
    · rw [g0] at h
      cases h
      have ha : 0 ≤ a.toInt := Int.le_trans (of_decide_eq_true g0) h1
      exact ck_any_ok hE (by rw [ht]; omega) (by rw [ht]; omega)
def ck_div (E : ck_N) (x y : ck_V) : Option (ck_V × ck_N) := match decide (1 ≤ (ck_iv E y).1) with
  | false => none
  | true => match decide (0 ≤ (ck_iv E x).1) with
    | true => match decide (y.2.2.1 = 0) with
      | true => some (ck_any E 0 ((ck_iv E x).2 / y.2.2.2))
      | false => some (ck_any E 0 (ck_iv E x).2)
    | false => some (ck_any E ck_lo ck_hi)
theorem ck_div_ok {r : List Int} {E : ck_N} {x y : ck_V} {p : ck_V × ck_N} {a b : Int32} (hE : ck_en r E) (hx : ck_ev r x = some a.toInt) (hy : ck_ev r y = some b.toInt) (h : ck_div E x y = some p) :
    b ≠ 0 ∧ ∃ u : List Int, ck_en (r ++ u) p.2 ∧ ck_ok (r ++ u) p.1 (.int (a / b)) := by
  unfold ck_div at h
  obtain ⟨h1, h2⟩ := ck_iv_ok hE hx
  obtain ⟨h3, h4⟩ := ck_iv_ok hE hy
  cases h0 : decide (1 ≤ (ck_iv E y).1)
  · rw [h0] at h; cases h
  · rw [h0] at h
    have hb1 : 1 ≤ b.toInt := Int.le_trans (of_decide_eq_true h0) h3
    have ht := ck_dv (x := a) hb1
    obtain ⟨k1, k2, k3, k4⟩ := ck_td (a := a.toInt) hb1
    refine ⟨fun e => by rw [e] at hb1; exact absurd hb1 (by decide), ?_⟩
    cases g0 : decide (0 ≤ (ck_iv E x).1)
    · rw [g0] at h
      cases h
      exact ck_any_ok hE (ck_rg _).1 (ck_rg _).2
    · rw [g0] at h
      have ha : 0 ≤ a.toInt := Int.le_trans (of_decide_eq_true g0) h1
      cases f0 : decide (y.2.2.1 = 0)
      · rw [f0] at h
        cases h
        exact ck_any_ok hE (by rw [ht]; omega) (by rw [ht]; omega)
      · rw [f0] at h
        cases h
        rw [ck_ev_0 (of_decide_eq_true f0)] at hy
        have hyb : y.2.2.2 = b.toInt := Option.some.inj hy
        refine ck_any_ok hE (by rw [ht]; omega) ?_
        rw [ht, hyb]
        refine (Int.le_ediv_iff_mul_le (by omega)).mpr ?_
        omega
def ck_b01 (E : ck_N) (x : ck_V) : Bool := decide (0 ≤ (ck_iv E x).1) && decide ((ck_iv E x).2 ≤ 1)
def ck_or (E : ck_N) (x y : ck_V) : ck_V × ck_N := match ck_b01 E x && ck_b01 E y with
  | true => ck_any E 0 1
  | false => ck_any E ck_lo ck_hi
theorem ck_b01_ok {r : List Int} {E : ck_N} {x : ck_V} {a : Int32} (hE : ck_en r E) (hx : ck_ev r x = some a.toInt) (h : ck_b01 E x = true) : a = 0 ∨ a = 1 := by
  unfold ck_b01 at h
  rw [Bool.and_eq_true] at h
  have k1 := of_decide_eq_true h.1
  have k2 := of_decide_eq_true h.2
  obtain ⟨h1, h2⟩ := ck_iv_ok hE hx
  have : a.toInt = 0 ∨ a.toInt = 1 := by omega
  rcases this with e | e
  · exact Or.inl (Int32.toInt_inj.mp e)
  · exact Or.inr (Int32.toInt_inj.mp e)
theorem ck_or_ok {r : List Int} {E : ck_N} {x y : ck_V} {a b : Int32} (hE : ck_en r E) (hx : ck_ev r x = some a.toInt) (hy : ck_ev r y = some b.toInt) :
    ∃ u : List Int, ck_en (r ++ u) (ck_or E x y).2 ∧ ck_ok (r ++ u) (ck_or E x y).1 (.int (a ||| b)) := by
  unfold ck_or
  cases h : ck_b01 E x && ck_b01 E y
  · exact ck_any_ok hE (ck_rg _).1 (ck_rg _).2
  · rw [Bool.and_eq_true] at h
    rcases ck_b01_ok hE hx h.1 with rfl | rfl <;> rcases ck_b01_ok hE hy h.2 with rfl | rfl <;> exact ck_any_ok hE (by decide) (by decide)
