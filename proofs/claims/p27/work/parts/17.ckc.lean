/-! THE CHECKER: what a comparison tells; cells -/
def ck_le (E : ck_N) (d : Int) (x y : ck_V) : ck_N := ck_cap (ck_cap E x ck_lo ((ck_iv E y).2 - d)) y ((ck_iv (ck_cap E x ck_lo ((ck_iv E y).2 - d)) x).1 + d) ck_hi
theorem ck_le_ok {r : List Int} {E : ck_N} {d : Int} {x y : ck_V} {a b : Int32} (hE : ck_en r E) (hx : ck_ev r x = some a.toInt) (hy : ck_ev r y = some b.toInt) (h : a.toInt + d ≤ b.toInt) : ck_en r (ck_le E d x y) := by
  obtain ⟨h3, h4⟩ := ck_iv_ok hE hy
  have hE1 : ck_en r (ck_cap E x ck_lo ((ck_iv E y).2 - d)) := ck_cap_ok hE hx (ck_rg a).1 (by omega)
  obtain ⟨h5, h6⟩ := ck_iv_ok hE1 hx
  exact ck_cap_ok hE1 hy (by omega) (ck_rg b).2
def ck_eq (E : ck_N) (x y : ck_V) : ck_N := ck_cap (ck_cap E x (ck_iv E y).1 (ck_iv E y).2) y (ck_iv (ck_cap E x (ck_iv E y).1 (ck_iv E y).2) x).1 (ck_iv (ck_cap E x (ck_iv E y).1 (ck_iv E y).2) x).2
theorem ck_eq_ok {r : List Int} {E : ck_N} {x y : ck_V} {a : Int32} (hE : ck_en r E) (hx : ck_ev r x = some a.toInt) (hy : ck_ev r y = some a.toInt) : ck_en r (ck_eq E x y) := by
  obtain ⟨h3, h4⟩ := ck_iv_ok hE hy
  have hE1 : ck_en r (ck_cap E x (ck_iv E y).1 (ck_iv E y).2) := ck_cap_ok hE hx h3 h4
  obtain ⟨h5, h6⟩ := ck_iv_ok hE1 hx
  exact ck_cap_ok hE1 hy h5 h6
def ck_ne (E : ck_N) (x y : ck_V) : ck_N := match decide ((ck_iv E y).1 = (ck_iv E y).2) with
  | false => E
  | true => match decide ((ck_iv E x).1 = (ck_iv E y).1) with
    | true => ck_cap E x ((ck_iv E y).1 + 1) ck_hi
    | false => match decide ((ck_iv E x).2 = (ck_iv E y).1) with
      | true => ck_cap E x ck_lo ((ck_iv E y).1 - 1)
      | false => E
theorem ck_ne_ok {r : List Int} {E : ck_N} {x y : ck_V} {a b : Int32} (hE : ck_en r E) (hx : ck_ev r x = some a.toInt) (hy : ck_ev r y = some b.toInt) (h : a ≠ b) : ck_en r (ck_ne E x y) := by
  unfold ck_ne
  have hn : a.toInt ≠ b.toInt := fun e => h (Int32.toInt_inj.mp e)
  obtain ⟨h1, h2⟩ := ck_iv_ok hE hx
  obtain ⟨h3, h4⟩ := ck_iv_ok hE hy
  cases h0 : decide ((ck_iv E y).1 = (ck_iv E y).2)
  · exact hE
  · have e0 := of_decide_eq_true h0
    cases g0 : decide ((ck_iv E x).1 = (ck_iv E y).1)
    · cases f0 : decide ((ck_iv E x).2 = (ck_iv E y).1)
      · exact hE
      · have e1 := of_decide_eq_true f0
        exact ck_cap_ok hE hx (ck_rg a).1 (by omega)
    · have e1 := of_decide_eq_true g0
      exact ck_cap_ok hE hx (by omega) (ck_rg a).2
def ck_rf (cond : Jvm.ClassFile.Cond) (p : Bool) (E : ck_N) (x y : ck_V) : ck_N := match cond, p with
  | .lt, true => ck_le E 1 x y
  | .lt, false => ck_le E 0 y x
  | .ge, true => ck_le E 0 y x
  | .ge, false => ck_le E 1 x y
  | .gt, true => ck_le E 1 y x
  | .gt, false => ck_le E 0 x y
  | .le, true => ck_le E 0 x y
  | .le, false => ck_le E 1 y x
  | .eq, true => ck_eq E x y
  | .eq, false => ck_ne E x y
  | .ne, true => ck_eq E x y
  | .ne, false => ck_ne E x y
theorem ck_lt_i {a b : Int32} (h : a < b) : a.toInt + 1 ≤ b.toInt := by
  rw [Int32.lt_iff_toInt_lt] at h; omega
theorem ck_le_i {a b : Int32} (h : a ≤ b) : a.toInt + 0 ≤ b.toInt := by
  rw [Int32.le_iff_toInt_le] at h; omega
theorem ck_nlt_i {a b : Int32} (h : ¬ a < b) : b.toInt + 0 ≤ a.toInt := by
  rw [Int32.lt_iff_toInt_lt] at h; omega
theorem ck_nle_i {a b : Int32} (h : ¬ a ≤ b) : b.toInt + 1 ≤ a.toInt := by
  rw [Int32.le_iff_toInt_le] at h; omega
theorem ck_rf_ok {r : List Int} {E : ck_N} {x y : ck_V} {a b : Int32} {cond : Jvm.ClassFile.Cond} {p : Bool} (hE : ck_en r E) (hx : ck_ev r x = some a.toInt) (hy : ck_ev r y = some b.toInt) (h : pm_cnd cond a b = p) : ck_en r (ck_rf cond p E x y) := by
  unfold pm_cnd at h
  cases cond <;> cases p <;> dsimp only at h
  · exact ck_ne_ok hE hx hy (of_decide_eq_false h)
  · have e := of_decide_eq_true h
    subst e
    exact ck_eq_ok hE hx hy
  · exact ck_ne_ok hE hx hy (of_decide_eq_false h)
  · have e := of_decide_eq_true h
    subst e
    exact ck_eq_ok hE hx hy
  · exact ck_le_ok hE hy hx (ck_nlt_i (of_decide_eq_false h))
  · exact ck_le_ok hE hx hy (ck_lt_i (of_decide_eq_true h))
  · exact ck_le_ok hE hx hy (ck_nle_i (of_decide_eq_false h))
  · exact ck_le_ok hE hy hx (ck_le_i (of_decide_eq_true h))
  · exact ck_le_ok hE hx hy (ck_nlt_i (of_decide_eq_false h))
  · exact ck_le_ok hE hy hx (ck_lt_i (of_decide_eq_true h))
  · exact ck_le_ok hE hy hx (ck_nle_i (of_decide_eq_false h))
  · exact ck_le_ok hE hx hy (ck_le_i (of_decide_eq_true h))
def ck_fo (q : Nat × Int × Int) (w : Value) : Prop := match q.1 with
  | 0 => ∃ x : Int32, w = .int x ∧ q.2.1 ≤ x.toInt ∧ x.toInt ≤ q.2.2
  | 1 => w = .ref q.2.1.toNat
  | 3 => ∃ x : Int64, w = .long x
  | _ => True
def ck_cell (A : ck_A) (c : pm_E) : Prop := match A.1 with
  | 0 => ∃ f : Nat → Int32, c = .inl (A.2.1, A.2.2.1, .inl f) ∧ ∀ i, i < A.2.2.1 → ∃ q, A.2.2.2[i % A.2.2.2.length]? = some q ∧ q.2.1 ≤ (f i).toInt ∧ (f i).toInt ≤ q.2.2
  | 1 => ∃ fs : List Value, c = .inr (A.2.1, fs) ∧ ∀ (b : Nat) (q : Nat × Int × Int), A.2.2.2[b]? = some q → ∃ w, fs[b]? = some w ∧ ck_fo q w
  | 2 => ∃ f : Nat → Int64, c = .inl (1, A.2.2.1, .inr (.inl f))
  | _ => True
/-- every cell is as told; and what else holds of the cells that no step of the checker writes -/
def ck_gi (GA : Nat → ck_A) (XI : pm_H → Prop) (h : pm_H) : Prop := (∀ k, Nat.ble (GA k).1 2 = true → ∃ c, h[k]? = some c ∧ ck_cell (GA k) c) ∧ XI h
def ck_ro (A : ck_A) : Bool := (Nat.beq A.1 0 || Nat.beq A.1 2) && (match A.2.2.2 with
  | q :: _ => Nat.beq q.1 1
  | [] => false)
/-- fields that no checked step writes: of an object the third number, as bits -/
def ck_pk (A : ck_A) (c0 c : pm_E) : Prop := ∀ (p : Nat) (fs0 : List Value), A.2.2.1.testBit p = true → c0 = .inr (A.2.1, fs0) → ∃ fs, c = .inr (A.2.1, fs) ∧ fs[p]? = fs0[p]?
def ck_xs (GA : Nat → ck_A) (XI : pm_H → Prop) : Prop := ∀ (h : pm_H) (k : Nat) (c0 c : pm_E), Nat.ble (GA k).1 2 = true → ck_ro (GA k) = false → h[k]? = some c0 → ck_pk (GA k) c0 c → XI h → XI (h.set k c)
def ck_mo (r : List Int) (h : pm_H) (d : ck_D) : Prop := match d.1 with
  | 0 => ∃ (ci : Nat) (fs : List Value) (w : Value), h[d.2.1]? = some (.inr (ci, fs)) ∧ fs[d.2.2.1.2.1]? = some w ∧ ck_ok r d.2.2.2 w
  | _ => ∃ (t n : Nat) (f : Nat → Int32) (a : Int), h[d.2.1]? = some (.inl (t, n, .inl f)) ∧ ck_ev r d.2.2.1 = some a ∧ ck_ok r d.2.2.2 (.int (f a.toNat))
theorem ck_mo_x {r : List Int} {h : pm_H} {d : ck_D} (t : List Int) (hd : ck_mo r h d) : ck_mo (r ++ t) h d := by
  unfold ck_mo at hd ⊢
  split at hd
  · obtain ⟨ci, fs, w, h1, h2, h3⟩ := hd
    exact ⟨ci, fs, w, h1, h2, ck_ok_x t h3⟩
  · obtain ⟨t', n, f, a, h1, h2, h3⟩ := hd
    exact ⟨t', n, f, a, h1, ck_ev_x t h2, ck_ok_x t h3⟩
theorem ck_mo_h {r : List Int} {h h' : pm_H} {d : ck_D} (e : h'[d.2.1]? = h[d.2.1]?) (hd : ck_mo r h d) : ck_mo r h' d := by
  unfold ck_mo at hd ⊢
  rw [e]
  exact hd
def ck_fr (mo : List Nat) (h0 h : pm_H) : Prop := h.length = h0.length ∧ ∀ k, mo.contains k = false → h[k]? = h0[k]?
theorem ck_fr_s {mo : List Nat} {h0 h : pm_H} {k : Nat} {c : pm_E} (hf : ck_fr mo h0 h) (hk : mo.contains k = true) : ck_fr mo h0 (h.set k c) := by
  refine ⟨by rw [List.length_set]; exact hf.1, fun j hj => ?_⟩
  have e : k ≠ j := fun e => by rw [e, hj] at hk; cases hk
  rw [List.getElem?_set_ne e]
  exact hf.2 j hj
theorem ck_gi_s {GA : Nat → ck_A} {XI : pm_H → Prop} (hX : ck_xs GA XI) {h : pm_H} {k : Nat} {c c0 : pm_E} (hg : ck_gi GA XI h) (h0 : h[k]? = some c0) (hc : ck_cell (GA k) c) (hk : Nat.ble (GA k).1 2 = true) (hro : ck_ro (GA k) = false) (hpk : ck_pk (GA k) c0 c) : ck_gi GA XI (h.set k c) := by
  refine ⟨?_, hX h k c0 c hk hro h0 hpk hg.2⟩
  intro j hj
  by_cases e : k = j
  · subst e
    exact ⟨c, List.getElem?_set_self (List.getElem?_eq_some_iff.mp h0).1, hc⟩
  · rw [List.getElem?_set_ne e]
    exact hg.1 j hj
/-- what is known of a field, of an element -/
def ck_fd (m : List ck_D) (k b : Nat) : Option ck_V := match m with
  | [] => none
  | d :: ds => match Nat.beq d.1 0 && (Nat.beq d.2.1 k && Nat.beq d.2.2.1.2.1 b) with
    | true => some d.2.2.2
    | false => ck_fd ds k b
theorem ck_fd_ok {k b : Nat} {v : ck_V} : ∀ {m : List ck_D}, ck_fd m k b = some v → ∃ d ∈ m, d.1 = 0 ∧ d.2.1 = k ∧ d.2.2.1.2.1 = b ∧ d.2.2.2 = v
  | [], h => by cases h
  | d :: ds, h => by
    unfold ck_fd at h
    cases hb : Nat.beq d.1 0 && (Nat.beq d.2.1 k && Nat.beq d.2.2.1.2.1 b)
    · rw [hb] at h
      obtain ⟨e, h1, h2⟩ := ck_fd_ok h
      exact ⟨e, List.mem_cons_of_mem _ h1, h2⟩
    · rw [hb] at h
      cases h
      rw [Bool.and_eq_true, Bool.and_eq_true] at hb
      exact ⟨d, List.mem_cons_self, Nat.eq_of_beq_eq_true hb.1, Nat.eq_of_beq_eq_true hb.2.1, Nat.eq_of_beq_eq_true hb.2.2, rfl⟩
def ck_fe (m : List ck_D) (k : Nat) (i : ck_V) : Option ck_V := match m with
  | [] => none
  | d :: ds => match Nat.beq d.1 1 && (Nat.beq d.2.1 k && (Nat.beq d.2.2.1.2.1 i.2.1 && (decide (d.2.2.1.2.2.1 = i.2.2.1) && decide (d.2.2.1.2.2.2 = i.2.2.2)))) with
    | true => some d.2.2.2
    | false => ck_fe ds k i
theorem ck_fe_ok {k : Nat} {i v : ck_V} {r : List Int} : ∀ {m : List ck_D}, ck_fe m k i = some v → ∃ d ∈ m, d.1 = 1 ∧ d.2.1 = k ∧ ck_ev r d.2.2.1 = ck_ev r i ∧ d.2.2.2 = v
  | [], h => by cases h
  | d :: ds, h => by
    unfold ck_fe at h
    cases hb : Nat.beq d.1 1 && (Nat.beq d.2.1 k && (Nat.beq d.2.2.1.2.1 i.2.1 && (decide (d.2.2.1.2.2.1 = i.2.2.1) && decide (d.2.2.1.2.2.2 = i.2.2.2))))
    · rw [hb] at h
      obtain ⟨e, h1, h2⟩ := ck_fe_ok (r := r) h
      exact ⟨e, List.mem_cons_of_mem _ h1, h2⟩
    · rw [hb] at h
      cases h
      simp only [Bool.and_eq_true, decide_eq_true_eq] at hb
      obtain ⟨b1, b2, b3, b4, b5⟩ := hb
      have b3' := Nat.eq_of_beq_eq_true b3
      exact ⟨d, List.mem_cons_self, Nat.eq_of_beq_eq_true b1, Nat.eq_of_beq_eq_true b2, by unfold ck_ev; rw [b3', b4, b5], rfl⟩
/-- the index's rests -/
def ck_rs (E : ck_N) (i : ck_V) (m : Nat) : List Nat := match decide (i.2.2.1 = 0) with
  | true => [i.2.2.2.toNat % m]
  | false => match E[i.2.1]? with
    | none => []
    | some q => match decide (q.2 - q.1 < 64) with
      | true => (List.range (q.2 - q.1 + 1).toNat).map (fun (t : Nat) => (i.2.2.1 * (q.1 + (t : Int)) + i.2.2.2).toNat % m)
      | false => match decide (i.2.2.1 % m = 0) with
        | true => [(i.2.2.2 % m).toNat]
        | false => List.range m
theorem ck_rs_ok {r : List Int} {E : ck_N} {i : ck_V} {m : Nat} {a : Int} (hE : ck_en r E) (h : ck_ev r i = some a) (ha : 0 ≤ a) (hm : 0 < m) : a.toNat % m ∈ ck_rs E i m := by
  unfold ck_rs
  rcases ck_ev_d h with ⟨h0, rfl⟩ | ⟨y, h0, hy, rfl⟩
  · rw [decide_eq_true h0]
    exact List.mem_singleton.mpr rfl
  · rw [decide_eq_false h0]
    have hl := (List.getElem?_eq_some_iff.mp hy).1
    rw [hE.1] at hl
    have hq := List.getElem?_eq_getElem hl
    obtain ⟨g1, g2⟩ := hE.2 _ _ _ hq hy
    rw [hq]
    dsimp only
    cases hs : decide (E[i.2.1].2 - E[i.2.1].1 < 64)
    · dsimp only
      cases hz : decide (i.2.2.1 % m = 0)
      · exact List.mem_range.mpr (Nat.mod_lt _ hm)
      · have e := of_decide_eq_true hz
        have e2 : (i.2.2.1 * y + i.2.2.2) % m = i.2.2.2 % m := by
          rw [Int.add_emod, Int.mul_emod, e, Int.zero_mul, Int.zero_emod, Int.zero_add, Int.emod_emod_of_dvd _ (Int.dvd_refl _)]
        refine List.mem_singleton.mpr ?_
        rw [← e2]
        have e3 : ((i.2.2.1 * y + i.2.2.2).toNat : Int) = i.2.2.1 * y + i.2.2.2 := Int.toNat_of_nonneg ha
        have e4 : (((i.2.2.1 * y + i.2.2.2).toNat % m : Nat) : Int) = (i.2.2.1 * y + i.2.2.2) % m := by rw [Int.natCast_emod, e3]
        rw [← e4, Int.toNat_natCast]
    · refine List.mem_map.mpr ⟨(y - E[i.2.1].1).toNat, List.mem_range.mpr (by omega), ?_⟩
      have e : E[i.2.1].1 + ((y - E[i.2.1].1).toNat : Int) = y := by omega
      rw [e]
def ck_jn (cls : List (Nat × Int × Int)) : List Nat → Option (Int × Int)
  | [] => some (ck_hi, ck_lo)
  | r :: rs => match cls[r]?, ck_jn cls rs with
    | some q, some p => some (min q.2.1 p.1, max q.2.2 p.2)
    | _, _ => none
theorem ck_jn_ok {cls : List (Nat × Int × Int)} : ∀ {rs : List Nat} {p : Int × Int} {j : Nat}, ck_jn cls rs = some p → j ∈ rs → ∃ q, cls[j]? = some q ∧ p.1 ≤ q.2.1 ∧ q.2.2 ≤ p.2
  | [], _, _, _, h => by cases h
  | x :: xs, p, j, h, hj => by
    unfold ck_jn at h
    cases h1 : cls[x]? with
    | none => rw [h1] at h; cases h
    | some q =>
      cases h2 : ck_jn cls xs with
      | none => rw [h1, h2] at h; cases h
      | some p' =>
        rw [h1, h2] at h
        cases h
        rcases List.mem_cons.mp hj with e | e
        · subst e
          exact ⟨q, h1, Int.min_le_left _ _, Int.le_max_left _ _⟩
        · obtain ⟨q', g1, g2, g3⟩ := ck_jn_ok h2 e
          exact ⟨q', g1, Int.le_trans (Int.min_le_right _ _) g2, Int.le_trans g3 (Int.le_max_right _ _)⟩
def ck_fits (cls : List (Nat × Int × Int)) (rs : List Nat) (iv : Int × Int) : Bool := rs.all (fun j => match cls[j]? with
  | some q => decide (q.2.1 ≤ iv.1) && decide (iv.2 ≤ q.2.2)
  | none => false)
theorem ck_fits_ok {cls : List (Nat × Int × Int)} {rs : List Nat} {iv : Int × Int} {j : Nat} (h : ck_fits cls rs iv = true) (hj : j ∈ rs) : ∃ q, cls[j]? = some q ∧ q.2.1 ≤ iv.1 ∧ iv.2 ≤ q.2.2 := by
  have h1 := List.all_eq_true.mp h j hj
  cases h2 : cls[j]? with
  | none => rw [h2] at h1; cases h1
  | some q =>
    rw [h2] at h1
    dsimp only at h1
    rw [Bool.and_eq_true] at h1
    exact ⟨q, rfl, of_decide_eq_true h1.1, of_decide_eq_true h1.2⟩
