/-! THE CHECKER, its words: a symbolic value is (kind, id, mul, add): kind 0 an int, mul * (the id-th unknown) + add; 1 the reference id; 2 the array id that is only read; 3 a long; 4 null; 5 anything. Each unknown has its bounds. -/
abbrev ck_V : Type := Nat × Nat × Int × Int
abbrev ck_N : Type := List (Int × Int)
abbrev ck_D : Type := Nat × Nat × ck_V × ck_V
abbrev ck_S : Type := Nat × List ck_V × List ck_V × List ck_D × ck_N
/-- a cell: kind 0 an array of ints (its type, length, bounds by the index's rest), 1 an object (its kind, fields), 2 an array of longs; else nothing is known -/
abbrev ck_A : Type := Nat × Nat × Nat × List (Nat × Int × Int)
def ck_ev (r : List Int) (v : ck_V) : Option Int := match decide (v.2.2.1 = 0) with
  | true => some v.2.2.2
  | false => match r[v.2.1]? with
    | some y => some (v.2.2.1 * y + v.2.2.2)
    | none => none
def ck_ok (r : List Int) (v : ck_V) (w : Value) : Prop := match v.1 with
  | 0 => ∃ x : Int32, w = .int x ∧ ck_ev r v = some x.toInt
  | 1 => w = .ref v.2.1
  | 2 => w = .float (UInt32.ofNat v.2.1)
  | 3 => ∃ x : Int64, w = .long x
  | 4 => w = .null
  | _ => True
def ck_al (r : List Int) : List ck_V → List Value → Prop
  | [], [] => True
  | v :: vs, w :: ws => ck_ok r v w ∧ ck_al r vs ws
  | _, _ => False
def ck_en (r : List Int) (E : ck_N) : Prop := r.length = E.length ∧ ∀ (i : Nat) (q : Int × Int) (y : Int), E[i]? = some q → r[i]? = some y → q.1 ≤ y ∧ y ≤ q.2
theorem ck_ge {r : List Int} {t : List Int} {i : Nat} {y : Int} (h : r[i]? = some y) : (r ++ t)[i]? = some y := by
  rw [List.getElem?_append_left (List.getElem?_eq_some_iff.mp h).1]; exact h
theorem ck_ev_x {r : List Int} {v : ck_V} {a : Int} (t : List Int) (h : ck_ev r v = some a) : ck_ev (r ++ t) v = some a := by
  unfold ck_ev at h ⊢
  cases hm : decide (v.2.2.1 = 0)
  · rw [hm] at h
    dsimp only at h ⊢
    cases hr : r[v.2.1]? with
    | none => rw [hr] at h; cases h
    | some y => rw [hr] at h; rw [ck_ge hr]; exact h
  · rw [hm] at h; exact h
theorem ck_ok_x {r : List Int} {v : ck_V} {w : Value} (t : List Int) (h : ck_ok r v w) : ck_ok (r ++ t) v w := by
  unfold ck_ok at h ⊢
  split at h
  · obtain ⟨x, h1, h2⟩ := h
    exact ⟨x, h1, ck_ev_x t h2⟩
  all_goals exact h
theorem ck_al_x {r : List Int} (t : List Int) : ∀ {vs : List ck_V} {ws : List Value}, ck_al r vs ws → ck_al (r ++ t) vs ws
  | [], [], _ => trivial
  | v :: vs, w :: ws, h => ⟨ck_ok_x t h.1, ck_al_x t h.2⟩
  | [], _ :: _, h => h.elim
  | _ :: _, [], h => h.elim
theorem ck_al_c {r : List Int} {v : ck_V} {vs : List ck_V} {ws : List Value} (h : ck_al r (v :: vs) ws) : ∃ (w : Value) (ws' : List Value), ws = w :: ws' ∧ ck_ok r v w ∧ ck_al r vs ws' := by
  cases ws with
  | nil => exact h.elim
  | cons w ws' => exact ⟨w, ws', rfl, h.1, h.2⟩
theorem ck_al_n {r : List Int} {ws : List Value} (h : ck_al r [] ws) : ws = [] := by
  cases ws with
  | nil => rfl
  | cons w ws' => exact h.elim
theorem ck_al_g {r : List Int} : ∀ {vs : List ck_V} {ws : List Value} {i : Nat} {v : ck_V}, ck_al r vs ws → vs[i]? = some v → ∃ w, ws[i]? = some w ∧ ck_ok r v w
  | [], [], _, _, _, h => by simp at h
  | v :: vs, w :: ws, 0, u, h, e => ⟨w, rfl, by cases e; exact h.1⟩
  | v :: vs, w :: ws, i + 1, u, h, e => by
    rw [List.getElem?_cons_succ] at e ⊢
    exact ck_al_g h.2 e
  | [], _ :: _, _, _, h, _ => h.elim
  | _ :: _, [], _, _, h, _ => h.elim
theorem ck_al_s {r : List Int} : ∀ {vs : List ck_V} {ws : List Value} (i : Nat) {v : ck_V} {w : Value}, ck_al r vs ws → ck_ok r v w → ck_al r (vs.set i v) (ws.set i w)
  | [], [], _, _, _, h, _ => h
  | v :: vs, w :: ws, 0, u, z, h, e => ⟨e, h.2⟩
  | v :: vs, w :: ws, i + 1, u, z, h, e => ⟨h.1, ck_al_s i h.2 e⟩
  | [], _ :: _, _, _, _, h, _ => h.elim
  | _ :: _, [], _, _, _, h, _ => h.elim
theorem ck_al_l {r : List Int} : ∀ {vs : List ck_V} {ws : List Value}, ck_al r vs ws → vs.length = ws.length
  | [], [], _ => rfl
  | v :: vs, w :: ws, h => by rw [List.length_cons, List.length_cons, ck_al_l h.2]
  | [], _ :: _, h => h.elim
  | _ :: _, [], h => h.elim
theorem ck_al_a {r : List Int} : ∀ {vs us : List ck_V} {ws zs : List Value}, ck_al r vs ws → ck_al r us zs → ck_al r (vs ++ us) (ws ++ zs)
  | [], us, [], zs, _, h => h
  | v :: vs, us, w :: ws, zs, h, h2 => ⟨h.1, ck_al_a h.2 h2⟩
  | [], _, _ :: _, _, h, _ => h.elim
  | _ :: _, _, [], _, h, _ => h.elim
theorem ck_al_t {r : List Int} : ∀ {vs : List ck_V} {ws : List Value} (n : Nat), ck_al r vs ws → ck_al r (vs.take n) (ws.take n)
  | _, _, 0, _ => trivial
  | [], [], _ + 1, _ => trivial
  | v :: vs, w :: ws, n + 1, h => ⟨h.1, ck_al_t n h.2⟩
  | [], _ :: _, _ + 1, h => h.elim
  | _ :: _, [], _ + 1, h => h.elim
theorem ck_al_d {r : List Int} : ∀ {vs : List ck_V} {ws : List Value} (n : Nat), ck_al r vs ws → ck_al r (vs.drop n) (ws.drop n)
  | _, _, 0, h => h
  | [], [], _ + 1, _ => trivial
  | v :: vs, w :: ws, n + 1, h => ck_al_d n h.2
  | [], _ :: _, _ + 1, h => h.elim
  | _ :: _, [], _ + 1, h => h.elim
theorem ck_al_r {r : List Int} : ∀ {vs : List ck_V} {ws : List Value}, ck_al r vs ws → ck_al r vs.reverse ws.reverse
  | [], [], _ => trivial
  | v :: vs, w :: ws, h => by
    rw [List.reverse_cons, List.reverse_cons]
    exact ck_al_a (ck_al_r h.2) ⟨h.1, trivial⟩
  | [], _ :: _, h => h.elim
  | _ :: _, [], h => h.elim
def ck_iv (E : ck_N) (v : ck_V) : Int × Int := match decide (v.2.2.1 = 0) with
  | true => (v.2.2.2, v.2.2.2)
  | false => match E[v.2.1]? with
    | none => (0, 0)
    | some q => match decide (0 ≤ v.2.2.1) with
      | true => (v.2.2.1 * q.1 + v.2.2.2, v.2.2.1 * q.2 + v.2.2.2)
      | false => (v.2.2.1 * q.2 + v.2.2.2, v.2.2.1 * q.1 + v.2.2.2)
theorem ck_iv_ok {r : List Int} {E : ck_N} {v : ck_V} {a : Int} (hE : ck_en r E) (h : ck_ev r v = some a) : (ck_iv E v).1 ≤ a ∧ a ≤ (ck_iv E v).2 := by
  unfold ck_ev at h
  unfold ck_iv
  cases hm : decide (v.2.2.1 = 0)
  · rw [hm] at h
    dsimp only at h ⊢
    cases hr : r[v.2.1]? with
    | none => rw [hr] at h; cases h
    | some y =>
      rw [hr] at h
      dsimp only at h
      cases h
      cases hq : E[v.2.1]? with
      | none =>
        have h1 := (List.getElem?_eq_some_iff.mp hr).1
        have h2 := List.getElem?_eq_none_iff.mp hq
        rw [hE.1] at h1
        omega
      | some q =>
        obtain ⟨h1, h2⟩ := hE.2 _ _ _ hq hr
        cases hp : decide (0 ≤ v.2.2.1)
        · have hn : v.2.2.1 ≤ 0 := by
            have := of_decide_eq_false hp
            omega
          exact ⟨Int.add_le_add_right (Int.mul_le_mul_of_nonpos_left hn h2) _, Int.add_le_add_right (Int.mul_le_mul_of_nonpos_left hn h1) _⟩
        · have hn : 0 ≤ v.2.2.1 := of_decide_eq_true hp
          exact ⟨Int.add_le_add_right (Int.mul_le_mul_of_nonneg_left h1 hn) _, Int.add_le_add_right (Int.mul_le_mul_of_nonneg_left h2 hn) _⟩
  · rw [hm] at h
    cases h
    exact ⟨Int.le_refl _, Int.le_refl _⟩
def ck_cap (E : ck_N) (v : ck_V) (lo hi : Int) : ck_N := match decide (v.2.2.1 = 1) with
  | true => match E[v.2.1]? with
    | some q => E.set v.2.1 (max q.1 (lo - v.2.2.2), min q.2 (hi - v.2.2.2))
    | none => E
  | false => E
theorem ck_cap_ok {r : List Int} {E : ck_N} {v : ck_V} {a lo hi : Int} (hE : ck_en r E) (h : ck_ev r v = some a) (h1 : lo ≤ a) (h2 : a ≤ hi) : ck_en r (ck_cap E v lo hi) := by
  unfold ck_cap
  cases hm : decide (v.2.2.1 = 1)
  · exact hE
  · have hm1 : v.2.2.1 = 1 := of_decide_eq_true hm
    dsimp only
    cases hq : E[v.2.1]? with
    | none => exact hE
    | some q =>
      refine ⟨by rw [List.length_set]; exact hE.1, fun i q' y hi hy => ?_⟩
      by_cases e : v.2.1 = i
      · subst e
        rw [List.getElem?_set_self (List.getElem?_eq_some_iff.mp hq).1] at hi
        cases hi
        obtain ⟨g1, g2⟩ := hE.2 _ _ _ hq hy
        unfold ck_ev at h
        rw [hm1, hy] at h
        have h3 : 1 * y + v.2.2.2 = a := Option.some.inj h
        dsimp only
        constructor <;> omega
      · rw [List.getElem?_set_ne e] at hi
        exact hE.2 _ _ _ hi hy
def ck_bot (E : ck_N) : Bool := E.any (fun q => decide (q.2 < q.1))
theorem ck_bot_ok {r : List Int} {E : ck_N} (hE : ck_en r E) : ck_bot E = false := by
  cases hb : ck_bot E
  · rfl
  · obtain ⟨q, hq, h⟩ := List.any_eq_true.mp hb
    obtain ⟨i, hi⟩ := List.mem_iff_getElem?.mp hq
    have h1 : i < r.length := by rw [hE.1]; exact (List.getElem?_eq_some_iff.mp hi).1
    obtain ⟨g1, g2⟩ := hE.2 i q r[i] hi (List.getElem?_eq_getElem h1)
    have := of_decide_eq_true h
    omega
/-- a new unknown -/
theorem ck_new {r : List Int} {E : ck_N} {y lo hi : Int} (hE : ck_en r E) (h1 : lo ≤ y) (h2 : y ≤ hi) : ck_en (r ++ [y]) (E ++ [(lo, hi)]) ∧ ck_ev (r ++ [y]) (0, E.length, 1, 0) = some y := by
  have e : (r ++ [y])[E.length]? = some y := by rw [← hE.1]; simp
  refine ⟨⟨by simp [hE.1], fun i q z g1 hz => ?_⟩, ?_⟩
  · rcases Nat.lt_trichotomy i E.length with hlt | heq | hgt
    · rw [List.getElem?_append_left hlt] at g1
      rw [List.getElem?_append_left (by rw [hE.1]; exact hlt)] at hz
      exact hE.2 _ _ _ g1 hz
    · subst heq
      rw [e] at hz
      cases hz
      have : (E ++ [(lo, hi)])[E.length]? = some (lo, hi) := by simp
      rw [this] at g1
      cases g1
      exact ⟨h1, h2⟩
    · rw [List.getElem?_eq_none (by simp; omega)] at g1
      cases g1
  · unfold ck_ev
    dsimp only
    rw [e]
    show some (1 * y + 0) = some y
    congr 1
    omega
def ck_lo : Int := -2147483648
def ck_hi : Int := 2147483647
theorem ck_rg (x : Int32) : ck_lo ≤ x.toInt ∧ x.toInt ≤ ck_hi := by
  have h1 := Int32.le_toInt x
  have h2 := Int32.toInt_lt x
  unfold ck_lo ck_hi
  constructor <;> omega
theorem ck_bm {w : Int} (h1 : ck_lo ≤ w) (h2 : w ≤ ck_hi) : w.bmod 4294967296 = w := by
  unfold ck_lo at h1
  unfold ck_hi at h2
  unfold Int.bmod
  simp only
  split <;> omega
/-- the answer of an operation whose exact value lies between the bounds: the form, if there is one and nothing overflows; else a new unknown -/
def ck_ar (E : ck_N) (cand : Option ck_V) (lo hi : Int) : ck_V × ck_N := match decide (ck_lo ≤ lo) && decide (hi ≤ ck_hi) with
  | true => match cand with
    | some c => ((0, c.2), E)
    | none => ((0, E.length, 1, 0), E ++ [(lo, hi)])
  | false => ((0, E.length, 1, 0), E ++ [(ck_lo, ck_hi)])
theorem ck_ar_ok {r : List Int} {E : ck_N} {cand : Option ck_V} {lo hi w : Int} {z : Int32} (hE : ck_en r E) (hz : z.toInt = w.bmod 4294967296) (h1 : lo ≤ w) (h2 : w ≤ hi) (hc : ∀ c, cand = some c → ck_ev r c = some w) :
    ∃ u : List Int, ck_en (r ++ u) (ck_ar E cand lo hi).2 ∧ ck_ok (r ++ u) (ck_ar E cand lo hi).1 (.int z) := by
  unfold ck_ar
  cases hb : decide (ck_lo ≤ lo) && decide (hi ≤ ck_hi)
  · obtain ⟨g1, g2⟩ := ck_rg z
    obtain ⟨e1, e2⟩ := ck_new hE g1 g2
    exact ⟨[z.toInt], e1, z, rfl, e2⟩
  · rw [Bool.and_eq_true] at hb
    have b1 := of_decide_eq_true hb.1
    have b2 := of_decide_eq_true hb.2
    have hzw : z.toInt = w := by rw [hz]; exact ck_bm (Int.le_trans b1 h1) (Int.le_trans h2 b2)
    cases cand with
    | none =>
      obtain ⟨e1, e2⟩ := ck_new hE h1 h2
      exact ⟨[w], e1, z, rfl, by rw [hzw]; exact e2⟩
    | some c =>
      refine ⟨[], by rw [List.append_nil]; exact hE, z, rfl, ?_⟩
      rw [List.append_nil, hzw]
      exact hc c rfl
/-- any int -/
def ck_any (E : ck_N) (lo hi : Int) : ck_V × ck_N := ((0, E.length, 1, 0), E ++ [(lo, hi)])
theorem ck_any_ok {r : List Int} {E : ck_N} {lo hi : Int} {z : Int32} (hE : ck_en r E) (h1 : lo ≤ z.toInt) (h2 : z.toInt ≤ hi) : ∃ u : List Int, ck_en (r ++ u) (ck_any E lo hi).2 ∧ ck_ok (r ++ u) (ck_any E lo hi).1 (.int z) := by
  obtain ⟨e1, e2⟩ := ck_new hE h1 h2
  exact ⟨[z.toInt], e1, z, rfl, e2⟩
