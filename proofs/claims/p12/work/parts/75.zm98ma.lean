/-! every state is a follower of an earlier one -/
section MA
variable {P : PG} {pic : Nat}
def XE9 (X : XT) (q : Nat) : Prop := ∀ j, 0 < j → j < xN X → ∃ r, r < q ∧ r < 3 * j ∧ xL X r = nI j
theorem xe9_le {X : XT} {q q' : Nat} (h : XE9 X q) (hq : q ≤ q') : XE9 X q' := fun j h0 h1 => by
  obtain ⟨r, a, b, c⟩ := h j h0 h1
  exact ⟨r, by omega, b, c⟩
theorem xe9_up {X : XT} {q : Nat} {v : Int32} {b : Bool} (h : XE9 X q) : XE9 (xN X, xS X, xF X, xB X, upd (xL X) q v, b) (q + 1) := fun j h0 h1 => by
  obtain ⟨r, a, d, c⟩ := h j h0 h1
  refine ⟨r, by omega, d, ?_⟩
  show upd (xL X) q v r = nI j
  unfold upd
  rw [if_neg (by omega)]
  exact c
theorem xe9_st {X : XT} {i x : Nat} (h : WX P pic X) (hi : i < xN X) (hx : x < 3) (ho : XE9 X (3 * i + x)) : XE9 (xStep P pic X i x) (3 * i + x + 1) := by
  cases hp : xP X
  rotate_left
  · rw [xS_t hp]
    exact xe9_le ho (by omega)
  by_cases hm : x < pH P ∧ mayP P pic (xS X i) x
  rotate_left
  · rw [xS_n hp hm]
    exact xe9_up ho
  rw [xS_y hp hm]
  by_cases hj : ∃ j, j < xN X ∧ xS X j = nxD P pic (xS X i) x
  · obtain ⟨j, h1, h2⟩ := hj
    rw [xP_o h.2.2.2 h1 h2]
    exact xe9_up ho
  · have hn : ∀ j, j < xN X → xS X j ≠ nxD P pic (xS X i) x := fun j h1 h2 => hj ⟨j, h1, h2⟩
    by_cases hN : xN X < 2000
    · rw [xP_n hn hN]
      intro j j0 hj1
      have hj' : j < xN X + 1 := hj1
      by_cases e : j = xN X
      · refine ⟨3 * i + x, by omega, by omega, ?_⟩
        show upd (xL X) (3 * i + x) (nI (xN X)) (3 * i + x) = nI j
        unfold upd
        rw [if_pos rfl, e]
      · obtain ⟨r, a, d, c⟩ := ho j j0 (by omega)
        refine ⟨r, by omega, d, ?_⟩
        show upd (xL X) (3 * i + x) (nI (xN X)) r = nI j
        unfold upd
        rw [if_neg (by omega)]
        exact c
    · have h2000 : xN X = 2000 := by have := h.2.1; omega
      rw [xP_f hn h2000]
      exact xe9_le ho (by omega)
theorem xe9_all (hW : WFP P) : ∀ k, XE9 (xAll P pic k) (3 * k) := by
  intro k
  induction k with
  | zero =>
    intro j j0 hj
    have hj' : j < 1 := hj
    omega
  | succ k ih =>
    unfold xAll
    split
    · exact xe9_le ih (by omega)
    · rename_i h
      have hk : k < xN (xAll P pic k) := Classical.byContradiction (fun h9 => h (Or.inl (by omega)))
      have w0 := (wx_all (pic := pic) hW k).1
      unfold xRow
      have a0 := wx_st (x := 0) hW w0 hk
      have k1 : k < xN (xStep P pic (xAll P pic k) k 0) := Nat.lt_of_lt_of_le hk a0.2.1
      have a1 := wx_st (x := 1) hW a0.1 k1
      have k2 : k < xN (xStep P pic (xStep P pic (xAll P pic k) k 0) k 1) := Nat.lt_of_lt_of_le k1 a1.2.1
      exact xe9_st a1.1 k2 (by decide) (xe9_st a0.1 k1 (by decide) (xe9_st w0 hk (by decide) ih))
/-- followers are -1 or numbers of states -/
def XR9 (X : XT) (q : Nat) : Prop := ∀ r, r < q → xL X r = -1 ∨ ∃ j, j < xN X ∧ xL X r = nI j
end MA
