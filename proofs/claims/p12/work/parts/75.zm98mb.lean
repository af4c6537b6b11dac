/-! followers of what was gone through are -1 or numbers of states -/
section MB
variable {P : PG} {pic : Nat} {X : XT} {i x q : Nat} {v : Int32} {b : Bool}
theorem xr9_up (h : XR9 X q) (hv : v = -1 ∨ ∃ j, j < xN X ∧ v = nI j) : XR9 (xN X, xS X, xF X, xB X, upd (xL X) q v, b) (q + 1) := fun r hr => by
  by_cases e : r = q
  · show upd (xL X) q v r = -1 ∨ ∃ j, j < xN X ∧ upd (xL X) q v r = nI j
    unfold upd
    rw [if_pos e]
    exact hv
  · show upd (xL X) q v r = -1 ∨ ∃ j, j < xN X ∧ upd (xL X) q v r = nI j
    unfold upd
    rw [if_neg e]
    exact h r (by omega)
theorem xP_bk (h : xP (xStep P pic X i x) = false) : xP X = false := by
  cases hp : xP X
  · rfl
  · rw [xS_t hp, hp] at h
    cases h
theorem xr9_st (h : WX P pic X) (ho : XR9 X (3 * i + x)) (hq : xP (xStep P pic X i x) = false) : XR9 (xStep P pic X i x) (3 * i + x + 1) := by
  have hp := xP_bk hq
  by_cases hm : x < pH P ∧ mayP P pic (xS X i) x
  rotate_left
  · rw [xS_n hp hm]
    exact xr9_up ho (Or.inl rfl)
  rw [xS_y hp hm] at hq ⊢
  by_cases hj : ∃ j, j < xN X ∧ xS X j = nxD P pic (xS X i) x
  · obtain ⟨j, h1, h2⟩ := hj
    rw [xP_o h.2.2.2 h1 h2]
    exact xr9_up ho (Or.inr ⟨j, h1, rfl⟩)
  · have hn : ∀ j, j < xN X → xS X j ≠ nxD P pic (xS X i) x := fun j h1 h2 => hj ⟨j, h1, h2⟩
    by_cases hN : xN X < 2000
    · rw [xP_n hn hN]
      intro r hr
      show upd (xL X) (3 * i + x) (nI (xN X)) r = -1 ∨ ∃ j, j < xN X + 1 ∧ upd (xL X) (3 * i + x) (nI (xN X)) r = nI j
      unfold upd
      by_cases e : r = 3 * i + x
      · rw [if_pos e]
        exact Or.inr ⟨xN X, by omega, rfl⟩
      · rw [if_neg e]
        rcases ho r (by omega) with c | ⟨j, c, d⟩
        · exact Or.inl c
        · exact Or.inr ⟨j, by omega, d⟩
    · have h2000 : xN X = 2000 := by have := h.2.1; omega
      rw [xP_f hn h2000] at hq
      cases hq
theorem xr9_all (hW : WFP P) : ∀ k, xP (xAll P pic k) = false → XR9 (xAll P pic k) (3 * min k (xN (xAll P pic k))) := by
  intro k
  induction k with
  | zero =>
    intro _ r hr
    omega
  | succ k ih =>
    unfold xAll
    split
    · rename_i h
      intro hp
      rcases h with h | h
      · exact fun r hr => ih hp r (by omega)
      · rw [hp] at h
        cases h
    · rename_i h
      intro hp
      have hk : k < xN (xAll P pic k) := Classical.byContradiction (fun h9 => h (Or.inl (by omega)))
      have w0 := (wx_all (pic := pic) hW k).1
      unfold xRow at hp ⊢
      have a0 := wx_st (x := 0) hW w0 hk
      have k1 : k < xN (xStep P pic (xAll P pic k) k 0) := Nat.lt_of_lt_of_le hk a0.2.1
      have a1 := wx_st (x := 1) hW a0.1 k1
      have p1 := xP_bk hp
      have p0 := xP_bk p1
      have pp := xP_bk p0
      have b0 := xr9_st (x := 0) w0 (fun r hr => ih pp r (by omega)) p0
      have b1 := xr9_st (x := 1) a0.1 b0 p1
      have b2 := xr9_st (x := 2) a1.1 b1 hp
      exact fun r hr => b2 r (by omega)
theorem xe_r9 (hW : WFP P) (hp : xP (xE P 0) = false) : XE9 (xE P 0) (3 * xN (xE P 0)) ∧ XR9 (xE P 0) (3 * xN (xE P 0)) := by
  have h1 := (wx_all (pic := 0) hW 2000).1.2.1
  have h2 := xe9_all (pic := 0) hW 2000
  have h3 := xr9_all (pic := 0) hW 2000
  rw [xE_d] at hp ⊢
  refine ⟨fun j a b => ?_, fun r hr => h3 hp r (by omega)⟩
  obtain ⟨r, -, d, c⟩ := h2 j a b
  exact ⟨r, by omega, d, c⟩
end MB
