/-! fixes: the program with a lock put in -/
section QA9
variable {P : PG} {l c d x i m k : Nat} {p v : Nat}
def fr9 (c : Nat) : Nat := [9, 0, 0, 0, 0, 1, 1, 1, 2, 2, 3].getD c 9
def to9 (c : Nat) : Nat := [9, 0, 1, 2, 3, 1, 2, 3, 2, 3, 3].getD c 9
def wi9 (c : Nat) : Nat := [0, 1, 2, 3, 4, 1, 2, 3, 1, 2, 1].getD c 0
theorem ft9 : ∀ c : Fin 11, fr9 c.val ≤ to9 c.val ∧ (c.val = 0 ∨ to9 c.val ≤ 3) := by decide
theorem ft_le (hc : c < 11) : fr9 c ≤ to9 c := (ft9 ⟨c, hc⟩).1
theorem ft_3 (hc : c < 11) (h0 : c ≠ 0) : to9 c ≤ 3 := (ft9 ⟨c, hc⟩).2.resolve_left h0
abbrev ST9 : Type := Nat × Int32 × Int32
/-- where a jump leads now -/
def led9 (c m : Nat) : Nat := m + ((if fr9 c < m then 1 else 0) + (if to9 c < m then 1 else 0))
def num9 (P : PG) (c x i : Nat) : Int32 := if pK P x i = 4 ∧ c ≠ 0 then nI (led9 c (pN P x i).toNatClampNeg) else pN P x i
def ent9 (l c i : Nat) : List ST9 := if c ≠ 0 ∧ i = fr9 c then [(8, nI l, 0)] else []
def lev9 (l c i : Nat) : List ST9 := if c ≠ 0 ∧ i = to9 c then [(9, nI l, 0)] else []
def ds9 (P : PG) (l c x : Nat) : Nat → List ST9
  | 0 => []
  | i + 1 => ds9 P l c x i ++ ent9 l c i ++ [(pK P x i, pO P x i, num9 P c x i)] ++ lev9 l c i
theorem ent_len : (ent9 l c i).length = if c ≠ 0 ∧ i = fr9 c then 1 else 0 := by
  unfold ent9
  split <;> rfl
theorem lev_len : (lev9 l c i).length = if c ≠ 0 ∧ i = to9 c then 1 else 0 := by
  unfold lev9
  split <;> rfl
theorem ds_len : ∀ m, (ds9 P l c x m).length = m + (if c ≠ 0 ∧ fr9 c < m then 1 else 0) + (if c ≠ 0 ∧ to9 c < m then 1 else 0)
  | 0 => by
    show 0 = _
    rw [if_neg (by omega), if_neg (by omega)]
  | m + 1 => by
    show (ds9 P l c x m ++ ent9 l c m ++ [(pK P x m, pO P x m, num9 P c x m)] ++ lev9 l c m).length = _
    rw [List.length_append, List.length_append, List.length_append, ds_len m, ent_len, lev_len]
    by_cases c0 : c = 0
    · simp [c0]
    · simp only [ne_eq, c0, not_false_eq_true, true_and, List.length_singleton]
      by_cases h1 : fr9 c < m <;> by_cases h2 : to9 c < m <;> by_cases h3 : m = fr9 c <;> by_cases h4 : m = to9 c <;> simp only [h1, h2, h3, h4, if_true, if_false] <;> (repeat' split) <;> omega
theorem ds_le (hm : m ≤ 4) : (ds9 P l c x m).length ≤ 6 := by
  rw [ds_len]
  split <;> split <;> omega
theorem ds_sub (hm : m ≤ 4) (hk : k ≤ m) : (ds9 P l c x k).length ≤ (ds9 P l c x m).length := by
  rw [ds_len, ds_len]
  by_cases c0 : c = 0
  · simp [c0]
    exact hk
  · simp only [ne_eq, c0, not_false_eq_true, true_and]
    (repeat' split) <;> omega
/-- a statement as it must be -/
def ok9 (s : ST9) : Prop := s.1 ≤ 12 ∧ (hasP s.1 → ∃ q, q < 4 ∧ s.2.1 = nI q) ∧ (hasL s.1 → ∃ q, q < 3 ∧ s.2.1 = nI q) ∧ (hasN s.1 → ∃ m, m ≤ 9 ∧ s.2.2 = nI m) ∧ (s.1 = 4 → ∃ m, m ≤ 10 ∧ s.2.2 = nI m)
/-- jumps of the given program lead to 8 at most -/
def J8 (P : PG) : Prop := ∀ x i, x < pH P → i < pL P x → pK P x i = 4 → ∃ m, m ≤ 8 ∧ pN P x i = nI m
theorem ok_el (hl : l < 3) : ok9 (8, nI l, 0) ∧ ok9 (9, nI l, 0) := by
  refine ⟨⟨(show (8 : Nat) ≤ 12 by decide), fun h => ?_, fun _ => ⟨l, hl, rfl⟩, fun h => ?_, fun h => absurd h (show ¬ (8 : Nat) = 4 by decide)⟩, ⟨(show (9 : Nat) ≤ 12 by decide), fun h => ?_, fun _ => ⟨l, hl, rfl⟩, fun h => ?_, fun h => absurd h (show ¬ (9 : Nat) = 4 by decide)⟩⟩
  · unfold hasP at h
    have h' : (8 : Nat) = 0 ∨ (8 : Nat) = 1 ∨ (8 : Nat) = 2 ∨ (8 : Nat) = 5 ∨ (8 : Nat) = 6 ∨ (8 : Nat) = 7 := h
    omega
  · unfold hasN at h
    have h' : (8 : Nat) = 0 ∨ (8 : Nat) = 3 ∨ (8 : Nat) = 5 ∨ (8 : Nat) = 6 := h
    omega
  · unfold hasP at h
    have h' : (9 : Nat) = 0 ∨ (9 : Nat) = 1 ∨ (9 : Nat) = 2 ∨ (9 : Nat) = 5 ∨ (9 : Nat) = 6 ∨ (9 : Nat) = 7 := h
    omega
  · unfold hasN at h
    have h' : (9 : Nat) = 0 ∨ (9 : Nat) = 3 ∨ (9 : Nat) = 5 ∨ (9 : Nat) = 6 := h
    omega
theorem led_le (hm : m ≤ 8) : led9 c m ≤ 10 := by
  unfold led9
  (repeat' split) <;> omega
theorem ok_st (hW : WFP P) (hJ : J8 P) (hx : x < pH P) (hi : i < pL P x) : ok9 (pK P x i, pO P x i, num9 P c x i) := by
  obtain ⟨h1, h2, h3, h4, h5⟩ := hW.2.2.2.2 x i hx hi
  refine ⟨h1, h2, h3, fun h => ?_, fun h => ?_⟩
  · have h' : hasN (pK P x i) := h
    have e : num9 P c x i = pN P x i := by
      unfold num9
      rw [if_neg (fun h9 => by unfold hasN at h'; omega)]
    obtain ⟨m, a, b⟩ := h4 h'
    exact ⟨m, a, e.trans b⟩
  · have h' : pK P x i = 4 := h
    obtain ⟨m, a, b⟩ := hJ x i hx hi h'
    show ∃ m, m ≤ 10 ∧ num9 P c x i = nI m
    unfold num9
    by_cases c0 : c = 0
    · rw [if_neg (fun h9 => h9.2 c0)]
      exact ⟨m, by omega, b⟩
    · rw [if_pos ⟨h', c0⟩, b, nI_clamp (by omega)]
      exact ⟨_, led_le a, rfl⟩
theorem ds_ok (hW : WFP P) (hJ : J8 P) (hl : l < 3) (hx : x < pH P) : ∀ m, m ≤ pL P x → ∀ s, s ∈ ds9 P l c x m → ok9 s
  | 0, _, s, h => absurd h List.not_mem_nil
  | m + 1, hm, s, h => by
    have h' : s ∈ ds9 P l c x m ++ ent9 l c m ++ [(pK P x m, pO P x m, num9 P c x m)] ++ lev9 l c m := h
    rw [List.mem_append, List.mem_append, List.mem_append] at h'
    rcases h' with ((h | h) | h) | h
    · exact ds_ok hW hJ hl hx m (by omega) s h
    · unfold ent9 at h
      split at h
      · rw [List.mem_singleton] at h
        rw [h]
        exact (ok_el hl).1
      · exact absurd h List.not_mem_nil
    · rw [List.mem_singleton] at h
      rw [h]
      exact ok_st hW hJ hx (by omega)
    · unfold lev9 at h
      split at h
      · rw [List.mem_singleton] at h
        rw [h]
        exact (ok_el hl).2
      · exact absurd h List.not_mem_nil
def cx9 (c d x : Nat) : Nat := if x = 0 then c else d
/-- the program with lock l: range c of hand 0, d of hand 1 -/
def dl9 (P : PG) (l c d x : Nat) : List ST9 := ds9 P l (cx9 c d x) x (pL P x)
def PGf (P : PG) (l c d : Nat) : PG := (2, fun x => (dl9 P l c d x).length, fun x i => ((dl9 P l c d x).getD i (0, 0, 0)).1, fun x i => ((dl9 P l c d x).getD i (0, 0, 0)).2.1, fun x i => ((dl9 P l c d x).getD i (0, 0, 0)).2.2, pV P)
theorem pgf_wf (hW : WFP P) (hJ : J8 P) (h2 : pH P = 2) (h4 : ∀ x, x < 2 → pL P x ≤ 4) (hl : l < 3) : WFP (PGf P l c d) := by
  refine ⟨by show 1 ≤ 2; decide, by show 2 ≤ 3; decide, fun x hx => ?_, hW.2.2.2.1, fun x i hx hi => ?_⟩
  · have hx' : x < 2 := hx
    have := ds_le (P := P) (l := l) (c := cx9 c d x) (x := x) (h4 x hx')
    show (ds9 P l (cx9 c d x) x (pL P x)).length ≤ 8
    omega
  · have hx' : x < 2 := hx
    have hi' : i < (dl9 P l c d x).length := hi
    have hm : (dl9 P l c d x).getD i (0, 0, 0) ∈ dl9 P l c d x := by
      rw [List.getD_eq_getElem?_getD, List.getElem?_eq_getElem hi']
      exact List.getElem_mem hi'
    exact ds_ok hW hJ hl (by omega) _ (Nat.le_refl _) _ hm
theorem pgf_e {s : ST9} (h : (dl9 P l c d x)[i]? = some s) : pK (PGf P l c d) x i = s.1 ∧ pO (PGf P l c d) x i = s.2.1 ∧ pN (PGf P l c d) x i = s.2.2 := by
  have e : (dl9 P l c d x).getD i (0, 0, 0) = s := by
    rw [List.getD_eq_getElem?_getD, h]
    rfl
  exact ⟨congrArg (fun s : ST9 => s.1) e, congrArg (fun s : ST9 => s.2.1) e, congrArg (fun s : ST9 => s.2.2) e⟩
/-- such that all is well -/
def good9 (P' : PG) (p v : Nat) : Prop := xP (xE P' 0) = false ∧ (∀ j, j < xN (xE P' 0) → ¬ spb P' 0 (xS (xE P' 0) j)) ∧ ∀ j, j < xN (xE P' 0) → srt P' 0 (xS (xE P' 0) j) = 1 → xS (xE P' 0) j (12 + p) = v
def pr9 (P : PG) (s c d : Nat) : Prop := wi9 c + wi9 d = s ∧ (c = 0 ∨ to9 c < pL P 0) ∧ (d = 0 ∨ to9 d < pL P 1)
def hit9 (P : PG) (l p v s q : Nat) : Prop := pr9 P s (q / 11) (q % 11) ∧ good9 (PGf P l (q / 11) (q % 11)) p v
/-- the first s and q with A -/
def fst9 (A : Nat → Nat → Prop) (r : Option (Nat × Nat)) : Prop := match r with
  | some (s, q) => s ≤ 8 ∧ q < 121 ∧ A s q ∧ (∀ s' q', s' ≤ 8 → q' < 121 → s' < s ∨ (s' = s ∧ q' < q) → ¬ A s' q')
  | none => ∀ s q, s ≤ 8 → q < 121 → ¬ A s q
theorem fst_fn {A : Nat → Nat → Prop} {r r' : Option (Nat × Nat)} (h : fst9 A r) (h' : fst9 A r') : r = r' := by
  cases r with
  | none =>
    cases r' with
    | none => rfl
    | some t =>
      obtain ⟨s, q⟩ := t
      obtain ⟨a, b, e, -⟩ := h'
      exact absurd e (h s q a b)
  | some t =>
    obtain ⟨s, q⟩ := t
    obtain ⟨a, b, e, g⟩ := h
    cases r' with
    | none => exact absurd e (h' s q a b)
    | some t' =>
      obtain ⟨s', q'⟩ := t'
      obtain ⟨a', b', e', g'⟩ := h'
      by_cases c1 : s < s' ∨ (s = s' ∧ q < q')
      · exact absurd e (g' s q a b c1)
      · by_cases c2 : s' < s ∨ (s' = s ∧ q' < q)
        · exact absurd e' (g s' q' a' b' c2)
        · have e1 : s = s' := by omega
          have e2 : q = q' := by omega
          rw [e1, e2]
end QA9
