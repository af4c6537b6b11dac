/-! the class's table of states -/
section HT
theorem pig : ∀ (m : Nat) (g : Nat → Nat), (∀ c, c < m + 1 → g c < m) → ∃ a b, a < b ∧ b < m + 1 ∧ g a = g b := by
  intro m
  induction m with
  | zero =>
    intro g h
    exact absurd (h 0 (by omega)) (by omega)
  | succ m ih =>
    intro g h
    by_cases hv : ∃ a, a < m + 1 ∧ g a = g (m + 1)
    · obtain ⟨a, h1, h2⟩ := hv
      exact ⟨a, m + 1, h1, by omega, h2⟩
    · have hne : ∀ a, a < m + 1 → g a ≠ g (m + 1) := fun a h1 h2 => hv ⟨a, h1, h2⟩
      obtain ⟨a, b, h1, h2, h3⟩ := ih (fun c => if g c = m then g (m + 1) else g c) (fun c hc => by
        have q1 := h c (by omega)
        have q2 := h (m + 1) (by omega)
        have q3 := hne c hc
        show (if g c = m then g (m + 1) else g c) < m
        split
        · rename_i e
          rw [e] at q3
          omega
        · omega)
      have na := hne a (by omega)
      have nb := hne b (by omega)
      refine ⟨a, b, h1, by omega, ?_⟩
      have h3' : (if g a = m then g (m + 1) else g a) = (if g b = m then g (m + 1) else g b) := h3
      split at h3' <;> split at h3'
      · rename_i e1 e2
        rw [e1, e2]
      · exact absurd h3'.symm nb
      · exact absurd h3' na
      · exact h3'
def hC : Int64 := -7046029254386353131
def hsh (t : Int64) : Nat := e_fld (t * hC) 52 12
theorem hsh_lt (t : Int64) : hsh t < 4096 := e_fld_lt _ _ _
def HTb (N : Nat) (fo : Nat → Int64) (tb ce : Nat → Int32) : Prop := (∀ j, j < N → ∃ c, c < 4096 ∧ ce j = nI c ∧ tb c = nI (j + 1)) ∧ (∀ c, c < 4096 → tb c = 0 ∨ ∃ j, j < N ∧ tb c = nI (j + 1) ∧ ce j = nI c) ∧ (∀ j, j < N → ∃ r, r < 4096 ∧ ce j = nI ((hsh (fo j) + r) % 4096) ∧ ∀ r', r' < r → tb ((hsh (fo j) + r') % 4096) ≠ 0) ∧ ∀ j k, j < N → k < N → fo j = fo k → j = k
theorem ht_free {N : Nat} {fo : Nat → Int64} {tb ce : Nat → Int32} (h : HTb N fo tb ce) (hN : N ≤ 2000) : ∃ c, c < 4096 ∧ tb c = 0 := by
  refine Classical.byContradiction (fun hno => ?_)
  have hx : ∀ c, ∃ j, c < 4096 → j < N ∧ ce j = nI c := fun c => by
    by_cases hc : c < 4096
    · rcases h.2.1 c hc with e | ⟨j, h1, -, h2⟩
      · exact absurd ⟨c, hc, e⟩ hno
      · exact ⟨j, fun _ => ⟨h1, h2⟩⟩
    · exact ⟨0, fun h => absurd h hc⟩
  obtain ⟨a, b, h1, h2, h3⟩ := pig 4095 (fun c => Classical.choose (hx c)) (fun c hc => by
    have := (Classical.choose_spec (hx c) (by omega)).1
    show Classical.choose (hx c) < 4095
    omega)
  have ea := (Classical.choose_spec (hx a) (by omega)).2
  have eb := (Classical.choose_spec (hx b) (by omega)).2
  have h3' : Classical.choose (hx a) = Classical.choose (hx b) := h3
  rw [h3', eb] at ea
  have := nI_inj (by omega) (by omega) ea
  omega
/-- a free cell at the end of a way through full ones: the state isn't there -/
theorem ht_new {N q : Nat} {fo : Nat → Int64} {tb ce : Nat → Int32} {t : Int64} (h : HTb N fo tb ce) (hN : N ≤ 2000) (h0 : tb ((hsh t + q) % 4096) = 0) (hq : ∀ q', q' < q → ∃ j, j < N ∧ tb ((hsh t + q') % 4096) = nI (j + 1) ∧ fo j ≠ t) : ∀ j, j < N → fo j ≠ t := by
  rintro j hj rfl
  obtain ⟨r, hr, e1, e2⟩ := h.2.2.1 j hj
  obtain ⟨c, hc, e3, e4⟩ := h.1 j hj
  have ec : c = (hsh (fo j) + r) % 4096 := nI_inj (by omega) (by omega) (e3.symm.trans e1)
  rcases Nat.lt_trichotomy q r with g | g | g
  · exact e2 q g h0
  · rw [g, ← ec, e4] at h0
    exact absurd ((m_eq (b := 0) (by omega) (by decide)).mp h0) (by omega)
  · obtain ⟨k, hk, e5, e6⟩ := hq r g
    rw [← ec, e4] at e5
    have := nI_inj (by omega) (by omega) e5
    have : j = k := by omega
    subst this
    exact e6 rfl
theorem ht_ins {N q : Nat} {fo : Nat → Int64} {tb ce : Nat → Int32} {t : Int64} (h : HTb N fo tb ce) (hN : N < 2000) (hq : q < 4096) (h0 : tb ((hsh t + q) % 4096) = 0) (hqn : ∀ q', q' < q → tb ((hsh t + q') % 4096) ≠ 0) (hnew : ∀ j, j < N → fo j ≠ t) {fo' : Nat → Int64} (f1 : fo' N = t) (f2 : ∀ j, j < N → fo' j = fo j) : HTb (N + 1) fo' (upd tb ((hsh t + q) % 4096) (nI (N + 1))) (upd ce N (nI ((hsh t + q) % 4096))) := by
  obtain ⟨a, b, c, d⟩ := h
  have hm : (hsh t + q) % 4096 < 4096 := Nat.mod_lt _ (by decide)
  have nz : nI (N + 1) ≠ 0 := fun e => absurd ((m_eq (b := 0) (by omega) (by decide)).mp e) (by omega)
  have old : ∀ c', tb c' ≠ 0 → upd tb ((hsh t + q) % 4096) (nI (N + 1)) c' = tb c' := fun c' hc' => u32_ot (fun e => hc' (by rw [e]; exact h0))
  refine ⟨fun j hj => ?_, fun c' hc' => ?_, fun j hj => ?_, fun j k hj hk e => ?_⟩
  · by_cases e : j = N
    · subst e
      exact ⟨_, hm, u32_at, u32_at⟩
    · obtain ⟨c1, h1, h2, h3⟩ := a j (by omega)
      refine ⟨c1, h1, (u32_ot e).trans h2, (old c1 ?_).trans h3⟩
      rw [h3]
      exact fun e9 => absurd ((m_eq (b := 0) (by omega) (by decide)).mp e9) (by omega)
  · by_cases e : c' = (hsh t + q) % 4096
    · subst e
      exact Or.inr ⟨N, by omega, u32_at, u32_at⟩
    · rw [u32_ot e]
      rcases b c' hc' with h1 | ⟨j, h1, h2, h3⟩
      · exact Or.inl h1
      · exact Or.inr ⟨j, by omega, h2, (u32_ot (by omega)).trans h3⟩
  · by_cases e : j = N
    · subst e
      refine ⟨q, hq, by rw [f1]; exact u32_at, fun r' hr' => ?_⟩
      rw [f1, old _ (hqn r' hr')]
      exact hqn r' hr'
    · obtain ⟨r, h1, h2, h3⟩ := c j (by omega)
      refine ⟨r, h1, by rw [f2 j (by omega)]; exact (u32_ot e).trans h2, fun r' hr' => ?_⟩
      rw [f2 j (by omega), old _ (h3 r' hr')]
      exact h3 r' hr'
  · by_cases e1 : j = N
    · by_cases e2 : k = N
      · omega
      · rw [e1, f1, f2 k (by omega)] at e
        exact absurd e.symm (hnew k (by omega))
    · by_cases e2 : k = N
      · rw [e2, f1, f2 j (by omega)] at e
        exact absurd e (hnew j (by omega))
      · rw [f2 j (by omega), f2 k (by omega)] at e
        exact d j k (by omega) (by omega) e
theorem ht_0 {fo : Nat → Int64} {tb ce : Nat → Int32} (h : ∀ c, c < 4096 → tb c = 0) : HTb 0 fo tb ce := ⟨fun j hj => absurd hj (by omega), fun c hc => Or.inl (h c hc), fun j hj => absurd hj (by omega), fun j k hj => absurd hj (by omega)⟩
end HT
