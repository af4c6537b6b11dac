/-! what stands between calls, for the checker -/
section HC
variable {θ : Th} {P : PG} {S S' : Nat → pm_E} {n k : Nat} {L : Nat} {xs : Nat → Int32}
def tie (θ : Th) (P : PG) : Prop := θ.2.2.2.2 = nI (pH P) ∧ (∀ x, x < pH P → θ.1 x = nI (pL P x)) ∧ ∀ x i, x < pH P → i < pL P x → θ.2.1 (8 * x + i) = nI (pK P x i) ∧ θ.2.2.1 (8 * x + i) = pO P x i ∧ θ.2.2.2.1 (8 * x + i) = pN P x i
def JZ (P : PG) (S : Nat → pm_E) : Prop := WFP P ∧ CJ P S ∧ RJ P S
def jzl : List Nat := [2, 3, 4, 5, 6, 9, 10, 11, 12, 13, 14, 15, 17, 22, 23, 44, 45, 51, 55, 56, 57, 59, 60, 62, 63, 64]
/-- the first m fields of an object stay -/
def pinO (ci m : Nat) (c c' : pm_E) : Prop := ∀ fs : List Value, c = .inr (ci, fs) → ∃ fs' : List Value, c' = .inr (ci, fs') ∧ ∀ p, p < m → fs'[p]? = fs[p]?
theorem pin_rf {ci m : Nat} {c c' : pm_E} (e : c' = c) : pinO ci m c c' := fun fs h => ⟨fs, e.trans h, fun _ _ => rfl⟩
theorem jz_pin (h : JZ P S) (e : ∀ j, j ∈ jzl → S' j = S j) (p1 : pinO 6 6 (S 1) (S' 1)) (p7 : pinO 4 2 (S 7) (S' 7)) (p8 : pinO 5 11 (S 8) (S' 8)) (p16 : pinO 5 1 (S 16) (S' 16)) : JZ P S' := by
  have f : ∀ j, jzl.contains j = true → S' j = S j := fun j hj => e j (List.contains_iff_mem.mp hj)
  obtain ⟨hW, ⟨h1, h2, h3, h4, sz, en, a44, a45, hS, hT⟩, ⟨vl, a51, hv⟩, kn, so, ed, b62, b63, b64, hK, hRT⟩ := h
  refine ⟨hW, ⟨?_, ?_, ?_, ?_, sz, en, (f 44 rfl).trans a44, (f 45 rfl).trans a45, hS, fun q1 q2 => ?_⟩, ⟨vl, (f 51 rfl).trans a51, hv⟩, kn, so, ed, (f 62 rfl).trans b62, (f 63 rfl).trans b63, (f 64 rfl).trans b64, hK, fun q1 q2 => ?_⟩
  · obtain ⟨fs, fa, ln, l4, l5, l6, c0, f0, f1, f2, f3, f4, f5, c1, c2, c3, c4, c5, g1, g2, g3⟩ := h1
    obtain ⟨fs', e0, e1⟩ := p1 fs c0
    exact ⟨fs', fa, ln, l4, l5, l6, e0, (e1 0 (by decide)).trans f0, (e1 1 (by decide)).trans f1, (e1 2 (by decide)).trans f2, (e1 3 (by decide)).trans f3, (e1 4 (by decide)).trans f4, (e1 5 (by decide)).trans f5, (f 2 rfl).trans c1, (f 3 rfl).trans c2, (f 4 rfl).trans c3, (f 5 rfl).trans c4, (f 6 rfl).trans c5, g1, g2, g3⟩
  · obtain ⟨gs, c0, g0, g1⟩ := h2
    obtain ⟨gs', e0, e1⟩ := p7 gs c0
    exact ⟨gs', e0, (e1 0 (by decide)).trans g0, (e1 1 (by decide)).trans g1⟩
  · obtain ⟨os, N, fo, tb, ce, k0, o0, hN, k1, k6, k7, hH⟩ := h3
    obtain ⟨os', e0, e1⟩ := p8 os k0
    exact ⟨os', N, fo, tb, ce, e0, (e1 0 (by decide)).trans o0, hN, (f 9 rfl).trans k1, (f 14 rfl).trans k6, (f 15 rfl).trans k7, hH⟩
  · obtain ⟨os, N, fo, tb, ce, k0, o0, hN, k1, k6, k7, hH⟩ := h4
    obtain ⟨os', e0, e1⟩ := p16 os k0
    exact ⟨os', N, fo, tb, ce, e0, (e1 0 (by decide)).trans o0, hN, (f 17 rfl).trans k1, (f 22 rfl).trans k6, (f 23 rfl).trans k7, hH⟩
  · obtain ⟨sl, en, so, ⟨fo, og, mv, fw, tb, ce, ⟨os, k0, o0, o1, o2, o3, o4, o5, o6, o7, o8, o9, o10, k1, k2, k3, k4, k5, k6, k7⟩, hr⟩, hw⟩ := hT q1 q2
    obtain ⟨os', e0, e1⟩ := p8 os k0
    exact ⟨sl, en, so, ⟨fo, og, mv, fw, tb, ce, ⟨os', e0, (e1 0 (by decide)).trans o0, (e1 1 (by decide)).trans o1, (e1 2 (by decide)).trans o2, (e1 3 (by decide)).trans o3, (e1 4 (by decide)).trans o4, (e1 5 (by decide)).trans o5, (e1 6 (by decide)).trans o6, (e1 7 (by decide)).trans o7, (e1 8 (by decide)).trans o8, (e1 9 (by decide)).trans o9, (e1 10 (by decide)).trans o10, (f 9 rfl).trans k1, (f 10 rfl).trans k2, (f 11 rfl).trans k3, (f 12 rfl).trans k4, (f 13 rfl).trans k5, (f 14 rfl).trans k6, (f 15 rfl).trans k7⟩, hr⟩, hw⟩
  · obtain ⟨st, cf, cb, sp, ct, c55, c56, c57, c59, c60, hr⟩ := hRT q1 q2
    exact ⟨st, cf, cb, sp, ct, (f 55 rfl).trans c55, (f 56 rfl).trans c56, (f 57 rfl).trans c57, (f 59 rfl).trans c59, (f 60 rfl).trans c60, hr⟩
def jcb (k : Nat) : Bool := jzl.contains k || (Nat.beq k 1 || (Nat.beq k 7 || (Nat.beq k 8 || Nat.beq k 16)))
theorem jz_fr (h : JZ P S) (e : ∀ j, jcb j = true → S' j = S j) : JZ P S' := jz_pin h (fun j hj => e j (by unfold jcb; rw [List.contains_iff_mem.mpr hj]; rfl)) (pin_rf (e 1 rfl)) (pin_rf (e 7 rfl)) (pin_rf (e 8 rfl)) (pin_rf (e 16 rfl))
theorem jcb_lt (h : jcb k = true) : k < 82 := by
  have t : (List.range 200).all (fun k => !(jcb k) || Nat.blt k 82) = true := by decide +kernel
  unfold jcb at h
  simp only [Bool.or_eq_true] at h
  rcases h with h | h | h | h | h
  · have h9 := List.contains_iff_mem.mp h
    have t2 : jzl.all (fun k => Nat.blt k 82) = true := by decide +kernel
    exact Nat.le_of_ble_eq_true (List.all_eq_true.mp t2 k h9)
  · rw [Nat.eq_of_beq_eq_true h]; decide
  · rw [Nat.eq_of_beq_eq_true h]; decide
  · rw [Nat.eq_of_beq_eq_true h]; decide
  · rw [Nat.eq_of_beq_eq_true h]; decide
/-! the cells once more: those that stand between calls are not written -/
def ckr (A : ck_A) : ck_A := (A.1, A.2.1, A.2.2.1, match A.2.2.2 with
  | q :: l => (1, q.2.1, q.2.2) :: l
  | [] => [(1, 0, 0)])
def jbr (k : Nat) : Bool := (Nat.ble 2 k && Nat.ble k 6) || ((Nat.ble 9 k && Nat.ble k 15) || (Nat.beq k 17 || ((Nat.ble 22 k && Nat.ble k 23) || ((Nat.ble 44 k && Nat.ble k 45) || (Nat.beq k 51 || (Nat.beq k 55 || (Nat.beq k 57 || (Nat.beq k 59 || (Nat.ble 62 k && Nat.ble k 64)))))))))
def jbp (k : Nat) : Nat := cond (Nat.beq k 1) 63 (cond (Nat.beq k 7) 3 (cond (Nat.beq k 8) 2047 (cond (Nat.beq k 16) 1 0)))
def jgb (k : Nat) : ck_A := cond (jbr k) (ckr (jga k)) (cond (Nat.beq (jbp k) 0) (jga k) ((jga k).1, (jga k).2.1, jbp k, (jga k).2.2.2))
theorem ckr_cell {A : ck_A} {c : pm_E} (h : A.1 = 2 ∨ (A.1 = 0 ∧ A.2.2.2 ≠ [])) : ck_cell (ckr A) c ↔ ck_cell A c := by
  obtain ⟨t, u, m, l⟩ := A
  rcases h with h | ⟨h, hl⟩
  · have h' : t = 2 := h
    subst h'
    exact Iff.rfl
  · have h' : t = 0 := h
    subst h'
    cases l with
    | nil => exact absurd rfl hl
    | cons q l =>
      have aux : ∀ (j : Nat) (x : Int), (∃ q', ((1, q.2.1, q.2.2) :: l : List (Nat × Int × Int))[j]? = some q' ∧ q'.2.1 ≤ x ∧ x ≤ q'.2.2) ↔ (∃ q', (q :: l)[j]? = some q' ∧ q'.2.1 ≤ x ∧ x ≤ q'.2.2) := by
        intro j x
        cases j with
        | zero =>
          constructor
          · rintro ⟨q', h1, h2⟩
            cases h1
            exact ⟨q, rfl, h2⟩
          · rintro ⟨q', h1, h2⟩
            cases h1
            exact ⟨_, rfl, h2⟩
        | succ j =>
          rw [List.getElem?_cons_succ, List.getElem?_cons_succ]
      exact ⟨fun ⟨f, e, hf⟩ => ⟨f, e, fun i hi => (aux _ _).mp (hf i hi)⟩, fun ⟨f, e, hf⟩ => ⟨f, e, fun i hi => (aux _ _).mpr (hf i hi)⟩⟩
theorem jb_82 (h : 82 ≤ k) : jgb k = jga k := by
  have b : ∀ j, j < 82 → Nat.beq k j = false := fun j hj => by
    cases hb : Nat.beq k j
    · rfl
    · have := Nat.eq_of_beq_eq_true hb
      omega
  have l : ∀ j, j < 82 → Nat.ble k j = false := fun j hj => by
    cases hb : Nat.ble k j
    · rfl
    · have := Nat.le_of_ble_eq_true hb
      omega
  have e1 : jbr k = false := by
    unfold jbr
    rw [l 6 (by decide), l 15 (by decide), b 17 (by decide), l 23 (by decide), l 45 (by decide), b 51 (by decide), b 55 (by decide), b 57 (by decide), b 59 (by decide), l 64 (by decide)]
    simp
  have e2 : jbp k = 0 := by
    unfold jbp
    rw [b 1 (by decide), b 7 (by decide), b 8 (by decide), b 16 (by decide)]
    rfl
  unfold jgb
  rw [e1, e2]
  rfl
theorem jb_tab : ((List.range 82).all (fun k => (Nat.beq (jgb k).1 (jga k).1 && (!(jbr k) || (Nat.beq (jga k).1 2 || (Nat.beq (jga k).1 0 && !((jga k).2.2.2.isEmpty))))) && ((!(jbr k) || ck_ro (jgb k)) && ((ck_ro (jgb k) || !(ck_ro (jga k))) && (Nat.beq (jbp k) 0 || Nat.beq (jga k).2.2.1 0))))) = true := by decide +kernel
theorem jb_cases (k : Nat) : (jbr k = true ∧ jgb k = ckr (jga k)) ∨ (jbr k = false ∧ jbp k = 0 ∧ jgb k = jga k) ∨ (jbr k = false ∧ jbp k ≠ 0 ∧ jgb k = ((jga k).1, (jga k).2.1, jbp k, (jga k).2.2.2)) := by
  unfold jgb
  cases h : jbr k
  · refine Or.inr ?_
    cases h2 : Nat.beq (jbp k) 0
    · refine Or.inr ⟨rfl, fun e => ?_, rfl⟩
      rw [e] at h2
      cases h2
    · exact Or.inl ⟨rfl, Nat.eq_of_beq_eq_true h2, rfl⟩
  · exact Or.inl ⟨rfl, rfl⟩
theorem jb_t (hk : k < 82) : (jgb k).1 = (jga k).1 ∧ (jbr k = true → (jga k).1 = 2 ∨ ((jga k).1 = 0 ∧ (jga k).2.2.2 ≠ [])) ∧ (jbr k = true → ck_ro (jgb k) = true) ∧ (ck_ro (jgb k) = false → ck_ro (jga k) = false) ∧ (jbp k ≠ 0 → (jga k).2.2.1 = 0) := by
  have h := List.all_eq_true.mp jb_tab k (List.mem_range.mpr hk)
  simp only [Bool.and_eq_true] at h
  obtain ⟨⟨h1, h2⟩, h3, h4, h5⟩ := h
  refine ⟨Nat.eq_of_beq_eq_true h1, fun e => ?_, fun e => ?_, fun e => ?_, fun e => ?_⟩
  · rw [e] at h2
    simp only [Bool.not_true, Bool.false_or, Bool.or_eq_true, Bool.and_eq_true] at h2
    rcases h2 with h2 | ⟨h2, h6⟩
    · exact Or.inl (Nat.eq_of_beq_eq_true h2)
    · refine Or.inr ⟨Nat.eq_of_beq_eq_true h2, fun e9 => ?_⟩
      rw [e9] at h6
      cases h6
  · rw [e] at h3
    exact h3
  · rw [e] at h4
    cases h9 : ck_ro (jga k)
    · rfl
    · rw [h9] at h4
      cases h4
  · rw [Bool.or_eq_true] at h5
    rcases h5 with h5 | h5
    · exact absurd (Nat.eq_of_beq_eq_true h5) e
    · exact Nat.eq_of_beq_eq_true h5
theorem jb_1 : (jgb k).1 = (jga k).1 := by
  rcases Nat.lt_or_ge k 82 with h | h
  · exact (jb_t h).1
  · rw [jb_82 h]
theorem ck_cell_p {A : ck_A} {m : Nat} {c : pm_E} (h : A.1 = 1) : ck_cell (A.1, A.2.1, m, A.2.2.2) c ↔ ck_cell A c := by
  obtain ⟨t, u, m0, l⟩ := A
  have h' : t = 1 := h
  subst h'
  exact Iff.rfl
theorem jb_p1 (h : jbp k ≠ 0) : k = 1 ∨ k = 7 ∨ k = 8 ∨ k = 16 := by
  unfold jbp at h
  cases h1 : Nat.beq k 1
  · cases h2 : Nat.beq k 7
    · cases h3 : Nat.beq k 8
      · cases h4 : Nat.beq k 16
        · rw [h1, h2, h3, h4] at h
          exact absurd rfl h
        · exact Or.inr (Or.inr (Or.inr (Nat.eq_of_beq_eq_true h4)))
      · exact Or.inr (Or.inr (Or.inl (Nat.eq_of_beq_eq_true h3)))
    · exact Or.inr (Or.inl (Nat.eq_of_beq_eq_true h2))
  · exact Or.inl (Nat.eq_of_beq_eq_true h1)
theorem jb_cell {c : pm_E} : ck_cell (jgb k) c ↔ ck_cell (jga k) c := by
  rcases Nat.lt_or_ge k 82 with h | h
  · obtain ⟨-, t2, -⟩ := jb_t h
    rcases jb_cases k with ⟨a, e⟩ | ⟨-, -, e⟩ | ⟨-, a, e⟩
    · rw [e]
      exact ckr_cell (t2 a)
    · rw [e]
    · rw [e]
      refine ck_cell_p ?_
      rcases jb_p1 a with rfl | rfl | rfl | rfl <;> rfl
  · rw [jb_82 h]
def XJ (θ : Th) (P : PG) (h : pm_H) : Prop := XI θ h ∧ tie θ P ∧ ∃ S : Nat → pm_E, (∀ k, k < 82 → h[k]? = some (S k)) ∧ JZ P S
theorem jb_lt {c : pm_E} (h1 : Nat.ble (jgb k).1 2 = true) : k < 82 := by
  rcases Nat.lt_or_ge k 82 with h | h
  · exact h
  · rw [jb_82 h, xi_82 h] at h1
    cases h1
theorem pin_of {A : ck_A} {ci m mask : Nat} {l : List (Nat × Int × Int)} {c0 c : pm_E} (e : A = (1, ci, mask, l)) (h : ck_pk A c0 c) (hm : ∀ p, p < m → mask.testBit p = true) (h0 : 0 < m) : pinO ci m c0 c := by
  subst e
  intro fs0 e0
  obtain ⟨fs, e1, -⟩ := h 0 fs0 (hm 0 h0) e0
  refine ⟨fs, e1, fun p hp => ?_⟩
  obtain ⟨fs2, e2, e3⟩ := h p fs0 (hm p hp) e0
  rw [e1] at e2
  cases e2
  exact e3
theorem jb_ro {j : Nat} (h : j ∈ jzl) : ck_ro (jgb j) = true := List.all_eq_true.mp (show jzl.all (fun j => ck_ro (jgb j)) = true by decide +kernel) j h
theorem jb_xs : ck_xs jgb (XJ θ P) := by
  intro h k c0 c h1 h2 hk hpk hX
  obtain ⟨hX, hT, S, hS, hJ⟩ := hX
  have hk82 : k < 82 := jb_lt (c := c) h1
  obtain ⟨t1, t2, t3, t4, t5⟩ := jb_t hk82
  have e0 : S k = c0 := by
    have := hS k hk82
    rw [hk] at this
    exact (Option.some.inj this).symm
  have hpk' : ck_pk (jga k) c0 c := by
    rcases jb_cases k with ⟨a, e⟩ | ⟨-, -, e⟩ | ⟨-, a, e⟩
    · rw [t3 a] at h2
      cases h2
    · rw [e] at hpk
      exact hpk
    · intro p fs0 hb
      rw [t5 a, Nat.zero_testBit] at hb
      cases hb
  refine ⟨j_xs h k c0 c (by rw [← t1]; exact h1) (t4 h2) hk hpk' hX, hT, va_up S k c, fun j hj => ?_, ?_⟩
  · by_cases e : j = k
    · rw [e, List.getElem?_set_self (List.getElem?_eq_some_iff.mp hk).1, u_eq]
    · rw [List.getElem?_set_ne (fun h => e h.symm), u_ne e]
      exact hS j hj
  · have pk : ∀ j ci m, (k = j → pinO ci m c0 c) → pinO ci m (S j) (va_up S k c j) := fun j ci m hp => by
      by_cases e : j = k
      · subst e
        rw [u_eq, e0]
        exact hp rfl
      · exact pin_rf (u_ne e)
    refine jz_pin hJ (fun j hj => u_ne (fun e => ?_)) (pk 1 6 6 (fun e => ?_)) (pk 7 4 2 (fun e => ?_)) (pk 8 5 11 (fun e => ?_)) (pk 16 5 1 (fun e => ?_))
    · rw [← e, jb_ro hj] at h2
      cases h2
    · subst e
      exact pin_of (mask := 63) rfl hpk (by decide) (by decide)
    · subst e
      exact pin_of (mask := 3) rfl hpk (by decide) (by decide)
    · subst e
      exact pin_of (mask := 2047) rfl hpk (by decide) (by decide)
    · subst e
      exact pin_of (mask := 1) rfl hpk (by decide) (by decide)
theorem jb_RL : ck_RL (XJ θ P) jrl := fun h hX => j_RL h hX.1
theorem gi_ab {h : pm_H} (g : ck_gi jgb (XJ θ P) h) : ck_gi jga (XI θ) h ∧ tie θ P ∧ ∃ S : Nat → pm_E, (∀ k, k < 82 → h[k]? = some (S k)) ∧ JZ P S := by
  refine ⟨⟨fun k hk => ?_, g.2.1⟩, g.2.2⟩
  obtain ⟨c, h1, h2⟩ := g.1 k (by rw [jb_1]; exact hk)
  exact ⟨c, h1, jb_cell.mp h2⟩
theorem gi_ba {h : pm_H} (g : ck_gi jga (XI θ) h) (hT : tie θ P) (hS : ∀ k, k < 82 → h[k]? = some (S k)) (hJ : JZ P S) : ck_gi jgb (XJ θ P) h := by
  refine ⟨fun k hk => ?_, g.2, hT, S, hS, hJ⟩
  obtain ⟨c, h1, h2⟩ := g.1 k (by rw [← jb_1]; exact hk)
  exact ⟨c, h1, jb_cell.mpr h2⟩
def GJ (θ : Th) (P : PG) (S : Nat → pm_E) (n : Nat) : Prop := ck_gi jgb (XJ θ P) (hp S n)
theorem gj_ab (g : GJ θ P S n) : GS θ S n ∧ tie θ P ∧ JZ P S := by
  obtain ⟨g1, hT, S0, hS, hJ⟩ := gi_ab g
  have hn := gs_n (S := S) (n := n) g1
  refine ⟨g1, hT, jz_fr hJ (fun j hj => ?_)⟩
  have h82 := jcb_lt hj
  have := hS j h82
  rw [hp_get (by omega)] at this
  exact Option.some.inj this
theorem gj_ba (g : GS θ S n) (hT : tie θ P) (hJ : JZ P S) : GJ θ P S n := gi_ba g hT (fun k hk => hp_get (by have := gs_n g; omega)) hJ
theorem wc_of {C : ck_Ct} {Y : pm_M} (V : ck_Val jga (XI θ) j_ft j_df (j_SL L) (j_SV xs) j_MT j_EX C Y) (hm : C.2.2.2.2.all (fun k => !(jcb k)) = true) : ck_Val jgb (XJ θ P) j_ft j_df (j_SL L) (j_SV xs) j_MT j_EX C Y := by
  intro r0 as h a1 a2 a3 a4
  obtain ⟨g1, hT, S, hS, hJ⟩ := gi_ab a4
  refine pm_W_mono _ _ _ _ _ _ (V r0 as h a1 a2 a3 g1) ?_
  rintro r h' ⟨k1, ⟨kl, k2⟩, k3⟩
  obtain ⟨S', e⟩ := hp_of h'
  have h82 : 82 ≤ h.length := (List.getElem?_eq_some_iff.mp (hS 81 (by decide))).1
  have hS' : ∀ k, k < 82 → h'[k]? = some (S' k) := fun k hk => by
    rw [e]
    exact hp_get (by rw [kl]; omega)
  refine ⟨gi_ba k1 hT hS' (jz_fr hJ (fun j hj => ?_)), ⟨kl, k2⟩, k3⟩
  have hj82 := jcb_lt hj
  have hc : C.2.2.2.2.contains j = false := by
    cases hc : C.2.2.2.2.contains j
    · rfl
    · have := List.all_eq_true.mp hm j (List.contains_iff_mem.mp hc)
      rw [hj] at this
      cases this
  have := k2 j hc
  rw [hS' j hj82, hS j hj82] at this
  exact Option.some.inj this
theorem kj_of {C : ck_Ct} {Y : pm_M} (V : ck_Val jga (XI θ) j_ft j_df (j_SL L) (j_SV xs) j_MT j_EX C Y) (h : ∀ (r0 : List Int) (as : List Value) (S : Nat → pm_E) (n : Nat), ck_al r0 C.1 as → ck_en r0 C.2.2.1 → (∀ d ∈ C.2.1, ck_mo r0 (hp S n) d) → GS θ S n → tie θ P → JZ P S → PM (j_SL L) (j_SV xs) j_EX Y as S n (fun r S' n' => JZ P S')) : ck_Val jgb (XJ θ P) j_ft j_df (j_SL L) (j_SV xs) j_MT j_EX C Y := by
  intro r0 as h0 a1 a2 a3 a4
  obtain ⟨S, e⟩ := hp_of h0
  generalize h0.length = n at e
  subst e
  obtain ⟨g1, hT, hJ⟩ := gj_ab (S := S) (n := n) a4
  have w := pm_and (q_kc V r0 g1 a1 a2 a3) (h r0 as S n a1 a2 a3 g1 hT hJ)
  unfold PM PQ at w
  refine pm_W_mono _ _ _ _ _ _ w ?_
  rintro r h' ⟨S', n', rfl, ⟨rfl, k1, k2, k3⟩, S2, e2, j2⟩
  have hn := gs_n k1
  refine ⟨gi_ba k1 hT (S := S2) (fun k hk => ?_) j2, ⟨by rw [hp_len, hp_len], fun k hk => ?_⟩, k3⟩
  · rw [← e2]
    exact hp_get (by omega)
  · rcases Nat.lt_or_ge k n' with hl | hl
    · rw [hp_get hl, hp_get hl, k2 k hl hk]
    · rw [List.getElem?_eq_none (by rw [hp_len]; exact hl), List.getElem?_eq_none (by rw [hp_len]; exact hl)]
def KJ (θ : Th) (P : PG) (C : ck_Ct) (r0 : List Int) (S : Nat → pm_E) (n : Nat) : q_K := fun r S' n' => n' = n ∧ GJ θ P S' n ∧ (∀ k, k < n → C.2.2.2.2.contains k = false → S' k = S k) ∧ ∃ Q ∈ C.2.2.2.1, ck_post r0 Q r (hp S' n)
theorem q_kj {C : ck_Ct} {Y : pm_M} {as : List Value} (V : ck_Val jgb (XJ θ P) j_ft j_df (j_SL L) (j_SV xs) j_MT j_EX C Y) (r0 : List Int) (hG : GJ θ P S n) (ha : ck_al r0 C.1 as) (hE : ck_en r0 C.2.2.1) (hm : ∀ d ∈ C.2.1, ck_mo r0 (hp S n) d) : PM (j_SL L) (j_SV xs) j_EX Y as S n (KJ θ P C r0 S n) := by
  unfold PM PQ
  refine pm_W_mono _ _ _ _ _ _ (V r0 as (hp S n) ha hE hm hG) ?_
  rintro r h' ⟨h1, ⟨h2, h3⟩, h4⟩
  obtain ⟨S', e⟩ := hp_of h'
  rw [h2, hp_len] at e
  subst e
  refine ⟨S', n, rfl, rfl, h1, fun k hk hc => ?_, h4⟩
  have := h3 k hc
  rw [hp_get hk, hp_get hk] at this
  exact Option.some.inj this
end HC
