/-! THE CHECKER: a step; what every state that comes of it is good for, the state before is good for -/
def ck_un : ck_V := (5, 0, 0, 0)
def ck_lg : ck_V := (3, 0, 0, 0)
def ck_ct (x : Int) : ck_V := (0, 0, 0, x)
theorem ck_ct_ok {r : List Int} (x : Int32) : ck_ok r (ck_ct x.toInt) (.int x) := ⟨x, rfl, ck_ev_0 rfl⟩
theorem ck_lg_ok {r : List Int} (x : Int64) : ck_ok r ck_lg (.long x) := ⟨x, rfl⟩
theorem ck_un_ok {r : List Int} (w : Value) : ck_ok r ck_un w := trivial
theorem ck_i {r : List Int} {v : ck_V} {w : Value} (h0 : v.1 = 0) (h : ck_ok r v w) : ∃ x : Int32, w = .int x ∧ ck_ev r v = some x.toInt := by
  unfold ck_ok at h
  rw [h0] at h
  exact h
theorem ck_l {r : List Int} {v : ck_V} {w : Value} (h0 : v.1 = 3) (h : ck_ok r v w) : ∃ x : Int64, w = .long x := by
  unfold ck_ok at h
  rw [h0] at h
  exact h
theorem ck_rr {r : List Int} {v : ck_V} {w : Value} (h0 : v.1 = 1) (h : ck_ok r v w) : w = .ref v.2.1 := by
  unfold ck_ok at h
  rw [h0] at h
  exact h
theorem ck_ff {r : List Int} {v : ck_V} {w : Value} (h0 : v.1 = 2) (h : ck_ok r v w) : w = .float (UInt32.ofNat v.2.1) := by
  unfold ck_ok at h
  rw [h0] at h
  exact h
/-- of one slot, surely -/
def ck_c1 (v : ck_V) : Bool := Nat.beq v.1 0 || (Nat.beq v.1 1 || (Nat.beq v.1 2 || Nat.beq v.1 4))
theorem ck_c1_ok {r : List Int} {v : ck_V} {w : Value} (h0 : ck_c1 v = true) (h : ck_ok r v w) : pm_c2 w = false := by
  unfold ck_c1 at h0
  simp only [Bool.or_eq_true] at h0
  unfold ck_ok at h
  rcases h0 with h0 | h0 | h0 | h0
  · rw [Nat.eq_of_beq_eq_true h0] at h
    obtain ⟨x, rfl, -⟩ := h
    rfl
  · rw [Nat.eq_of_beq_eq_true h0] at h
    subst h
    rfl
  · rw [Nat.eq_of_beq_eq_true h0] at h
    subst h
    rfl
  · rw [Nat.eq_of_beq_eq_true h0] at h
    subst h
    rfl
/-- a reference, a read-only array, null -/
def ck_ca (v : ck_V) : Bool := Nat.beq v.1 1 || (Nat.beq v.1 2 || Nat.beq v.1 4)
theorem ck_ca_ok {r : List Int} {v : ck_V} {w : Value} (h0 : ck_ca v = true) (h : ck_ok r v w) : (∃ k, w = .ref k) ∨ (∃ j, w = .float j) ∨ w = .null := by
  unfold ck_ca at h0
  simp only [Bool.or_eq_true] at h0
  unfold ck_ok at h
  rcases h0 with h0 | h0 | h0
  · rw [Nat.eq_of_beq_eq_true h0] at h
    exact Or.inl ⟨_, h⟩
  · rw [Nat.eq_of_beq_eq_true h0] at h
    exact Or.inr (Or.inl ⟨_, h⟩)
  · rw [Nat.eq_of_beq_eq_true h0] at h
    exact Or.inr (Or.inr h)
def ck_bk (L : List ck_V) (i : Nat) : List ck_V := match i with
  | 0 => L
  | j + 1 => match L[j]? with
    | some w => match Nat.beq w.1 3 with
      | true => L.set j ck_un
      | false => L
    | none => L
theorem ck_al_u {r : List Int} : ∀ {vs : List ck_V} {ws : List Value} (i : Nat) (w : Value), ck_al r vs ws → (∀ v, vs[i]? = some v → ck_ok r v w) → ck_al r vs (ws.set i w)
  | [], [], _, _, h, _ => h
  | v :: vs, _ :: ws, 0, u, h, e => ⟨e v rfl, h.2⟩
  | v :: vs, _ :: ws, i + 1, u, h, e => ⟨h.1, ck_al_u i u h.2 (fun v' h' => e v' (by rw [List.getElem?_cons_succ]; exact h'))⟩
  | [], _ :: _, _, _, h, _ => h.elim
  | _ :: _, [], _, _, h, _ => h.elim
theorem ck_bk_ok {r : List Int} {L : List ck_V} {Lc : List Value} (i : Nat) (h : ck_al r L Lc) : ck_al r (ck_bk L i) (pm_bk Lc i) := by
  unfold ck_bk pm_bk
  cases i with
  | zero => exact h
  | succ j =>
    dsimp only
    cases hv : L[j]? with
    | none =>
      have e : Lc[j]? = none := List.getElem?_eq_none_iff.mpr (by rw [← ck_al_l h]; exact List.getElem?_eq_none_iff.mp hv)
      rw [e]
      exact h
    | some v =>
      obtain ⟨w, hw, hok⟩ := ck_al_g h hv
      rw [hw]
      dsimp only
      cases hb : Nat.beq v.1 3
      · cases hc : pm_c2 w
        · exact h
        · refine ck_al_u j pm_un h (fun v' hv' => ?_)
          rw [hv] at hv'
          cases hv'
          unfold ck_ok at hok ⊢
          split at hok
          · obtain ⟨x, rfl, -⟩ := hok
            cases hc
          · subst hok
            cases hc
          · subst hok
            cases hc
          · rename_i h3
            rw [h3] at hb
            cases hb
          · subst hok
            cases hc
          · trivial
      · have h3 := Nat.eq_of_beq_eq_true hb
        obtain ⟨x, rfl⟩ := ck_l h3 hok
        exact ck_al_s j h trivial
def ck_s1 (L : List ck_V) (i : Nat) (v : ck_V) : List ck_V := (ck_bk L i).set i v
def ck_s2 (L : List ck_V) (i : Nat) (v : ck_V) : List ck_V := ((ck_bk L i).set i v).set (i + 1) ck_un
theorem ck_s1_ok {r : List Int} {L : List ck_V} {Lc : List Value} {v : ck_V} {w : Value} (i : Nat) (h : ck_al r L Lc) (hv : ck_ok r v w) : ck_al r (ck_s1 L i v) (pm_s1 Lc i w) := ck_al_s i (ck_bk_ok i h) hv
theorem ck_s2_ok {r : List Int} {L : List ck_V} {Lc : List Value} {v : ck_V} {w : Value} (i : Nat) (h : ck_al r L Lc) (hv : ck_ok r v w) : ck_al r (ck_s2 L i v) (pm_s2 Lc i w) := ck_al_s (i + 1) (ck_al_s i (ck_bk_ok i h) hv) trivial
/-- can the comparison come out so? -/
def ck_pl (E : ck_N) (d : Int) (x y : ck_V) : Bool := decide ((ck_iv E x).1 + d ≤ (ck_iv E y).2)
def ck_ps (cond : Jvm.ClassFile.Cond) (p : Bool) (E : ck_N) (x y : ck_V) : Bool := match cond, p with
  | .lt, true => ck_pl E 1 x y
  | .lt, false => ck_pl E 0 y x
  | .ge, true => ck_pl E 0 y x
  | .ge, false => ck_pl E 1 x y
  | .gt, true => ck_pl E 1 y x
  | .gt, false => ck_pl E 0 x y
  | .le, true => ck_pl E 0 x y
  | .le, false => ck_pl E 1 y x
  | .eq, true => ck_pl E 0 x y && ck_pl E 0 y x
  | .ne, true => ck_pl E 0 x y && ck_pl E 0 y x
  | _, _ => !(decide ((ck_iv E x).1 = (ck_iv E x).2) && (decide ((ck_iv E y).1 = (ck_iv E y).2) && decide ((ck_iv E x).1 = (ck_iv E y).1)))
theorem ck_pl_ok {r : List Int} {E : ck_N} {d : Int} {x y : ck_V} {a b : Int} (hE : ck_en r E) (hx : ck_ev r x = some a) (hy : ck_ev r y = some b) (h : a + d ≤ b) : ck_pl E d x y = true := by
  obtain ⟨h1, h2⟩ := ck_iv_ok hE hx
  obtain ⟨h3, h4⟩ := ck_iv_ok hE hy
  exact decide_eq_true (by omega)
theorem ck_pn_ok {r : List Int} {E : ck_N} {x y : ck_V} {a b : Int32} (hE : ck_en r E) (hx : ck_ev r x = some a.toInt) (hy : ck_ev r y = some b.toInt) (h : a ≠ b) : (!(decide ((ck_iv E x).1 = (ck_iv E x).2) && (decide ((ck_iv E y).1 = (ck_iv E y).2) && decide ((ck_iv E x).1 = (ck_iv E y).1)))) = true := by
  have hn : a.toInt ≠ b.toInt := fun e => h (Int32.toInt_inj.mp e)
  obtain ⟨h1, h2⟩ := ck_iv_ok hE hx
  obtain ⟨h3, h4⟩ := ck_iv_ok hE hy
  cases hb : decide ((ck_iv E x).1 = (ck_iv E x).2) && (decide ((ck_iv E y).1 = (ck_iv E y).2) && decide ((ck_iv E x).1 = (ck_iv E y).1))
  · rfl
  · simp only [Bool.and_eq_true, decide_eq_true_eq] at hb
    omega
theorem ck_ps_ok {r : List Int} {E : ck_N} {x y : ck_V} {a b : Int32} {cond : Jvm.ClassFile.Cond} {p : Bool} (hE : ck_en r E) (hx : ck_ev r x = some a.toInt) (hy : ck_ev r y = some b.toInt) (h : pm_cnd cond a b = p) : ck_ps cond p E x y = true := by
  unfold pm_cnd at h
  cases cond <;> cases p <;> dsimp only at h
  · exact ck_pn_ok hE hx hy (of_decide_eq_false h)
  · have e := of_decide_eq_true h
    subst e
    show (ck_pl E 0 x y && ck_pl E 0 y x) = true
    rw [ck_pl_ok hE hx hy (by omega), ck_pl_ok hE hy hx (by omega)]
    rfl
  · exact ck_pn_ok hE hx hy (of_decide_eq_false h)
  · have e := of_decide_eq_true h
    subst e
    show (ck_pl E 0 x y && ck_pl E 0 y x) = true
    rw [ck_pl_ok hE hx hy (by omega), ck_pl_ok hE hy hx (by omega)]
    rfl
  · exact ck_pl_ok hE hy hx (ck_nlt_i (of_decide_eq_false h))
  · exact ck_pl_ok hE hx hy (ck_lt_i (of_decide_eq_true h))
  · exact ck_pl_ok hE hx hy (ck_nle_i (of_decide_eq_false h))
  · exact ck_pl_ok hE hy hx (ck_le_i (of_decide_eq_true h))
  · exact ck_pl_ok hE hx hy (ck_nlt_i (of_decide_eq_false h))
  · exact ck_pl_ok hE hy hx (ck_lt_i (of_decide_eq_true h))
  · exact ck_pl_ok hE hy hx (ck_nle_i (of_decide_eq_false h))
  · exact ck_pl_ok hE hx hy (ck_le_i (of_decide_eq_true h))
def ck_br (cond : Jvm.ClassFile.Cond) (x y : ck_V) (a pc : Nat) (L st : List ck_V) (m : List ck_D) (E : ck_N) : List ck_S :=
  (match ck_ps cond true E x y with
  | true => [((match pm_sw cond with | true => pc + 3 | false => a), L, st, m, ck_rf cond true E x y)]
  | false => []) ++
  (match ck_ps cond false E x y with
  | true => [((match pm_sw cond with | true => a | false => pc + 3), L, st, m, ck_rf cond false E x y)]
  | false => [])
def ck_sc1 (pc : Nat) (dflt lo hi : Int) (offs : Array Int) (x : ck_V) (L st : List ck_V) (m : List ck_D) (E : ck_N) : List ck_S :=
  (match decide ((ck_iv E x).1 < lo) || decide (hi < (ck_iv E x).2) with
  | true => [(((pc : Int) + dflt).toNat, L, st, m, E)]
  | false => []) ++
  (((List.range (hi - lo + 1).toNat).filter (fun (j : Nat) => decide ((ck_iv E x).1 ≤ lo + j) && decide (lo + j ≤ (ck_iv E x).2))).map (fun (j : Nat) => (((pc : Int) + (offs[j]?).getD dflt).toNat, L, st, m, ck_cap E x (lo + j) (lo + j))))
