/-! the run: what stands between calls, for the checker once more -/
section KA
variable {θ : Th} {P : PG} {S S' : Nat → pm_E} {n k : Nat} {L : Nat} {xs : Nat → Int32}
/-- the run is the same in class and reference -/
def JRun (P : PG) (S : Nat → pm_E) : Prop := ∃ (fs : List Value) (x : Int64) (rn : Nat → Int32), S 0 = .inr (9, fs) ∧ fs[11]? = some (.long x) ∧ WFD P 0 (e_D x) ∧ S 54 = .inl (0, 20, .inl rn) ∧ ∀ i, i < 20 → rn i = ra P (e_D x) i
def pin1 (ci p : Nat) (c c' : pm_E) : Prop := ∀ fs : List Value, c = .inr (ci, fs) → ∃ fs' : List Value, c' = .inr (ci, fs') ∧ fs'[p]? = fs[p]?
theorem jrun_pin (h : JRun P S) (p0 : pin1 9 11 (S 0) (S' 0)) (e54 : S' 54 = S 54) : JRun P S' := by
  obtain ⟨fs, x, rn, k0, f11, hw, k54, hr⟩ := h
  obtain ⟨fs', k0', e⟩ := p0 fs k0
  exact ⟨fs', x, rn, k0', e.trans f11, hw, e54.trans k54, hr⟩
theorem jrun_fr (h : JRun P S) (e0 : S' 0 = S 0) (e54 : S' 54 = S 54) : JRun P S' := jrun_pin h (fun fs hfs => ⟨fs, e0.trans hfs, rfl⟩) e54
def jgc (k : Nat) : ck_A := cond (Nat.beq k 54) (ckr (jgb k)) (cond (Nat.beq k 0) ((jgb k).1, (jgb k).2.1, 2048, (jgb k).2.2.2) (jgb k))
theorem jc_ot (h0 : k ≠ 0) (h54 : k ≠ 54) : jgc k = jgb k := by
  have a : Nat.beq k 54 = false := by
    cases h : Nat.beq k 54
    · rfl
    · exact absurd (Nat.eq_of_beq_eq_true h) h54
  have b : Nat.beq k 0 = false := by
    cases h : Nat.beq k 0
    · rfl
    · exact absurd (Nat.eq_of_beq_eq_true h) h0
  unfold jgc
  rw [a, b]
  rfl
theorem jc_1 : (jgc k).1 = (jgb k).1 := by
  by_cases h54 : k = 54
  · subst h54
    rfl
  · by_cases h0 : k = 0
    · subst h0
      rfl
    · rw [jc_ot h0 h54]
theorem jc_54 : ck_ro (jgc 54) = true := by decide +kernel
theorem jc_00 : ck_ro (jgb 0) = false := by decide +kernel
theorem jc_m0 : (jgb 0).2.2.1 = 0 := by decide +kernel
theorem jc_l54 : (jgb 54).1 = 0 ∧ (jgb 54).2.2.2.isEmpty = false := by decide +kernel
theorem jc_cell {c : pm_E} : ck_cell (jgc k) c ↔ ck_cell (jgb k) c := by
  by_cases h54 : k = 54
  · subst h54
    show ck_cell (ckr (jgb 54)) c ↔ _
    exact ckr_cell (Or.inr ⟨jc_l54.1, fun e => by have h := jc_l54.2; rw [e] at h; cases h⟩)
  · by_cases h0 : k = 0
    · subst h0
      exact ck_cell_p rfl
    · rw [jc_ot h0 h54]
def XY (θ : Th) (P : PG) (h : pm_H) : Prop := XJ θ P h ∧ ∃ S : Nat → pm_E, (∀ k, k < 82 → h[k]? = some (S k)) ∧ JRun P S
theorem jc_xs : ck_xs jgc (XY θ P) := by
  intro h k c0 c h1 h2 hk hpk hX
  obtain ⟨hX, S, hS, hJ⟩ := hX
  have h1' : Nat.ble (jgb k).1 2 = true := by
    rw [← jc_1]
    exact h1
  have hk82 : k < 82 := jb_lt (c := c) h1'
  have n54 : k ≠ 54 := fun e => by
    rw [e, jc_54] at h2
    cases h2
  have e0 : S k = c0 := by
    have := hS k hk82
    rw [hk] at this
    exact (Option.some.inj this).symm
  have ro : ck_ro (jgb k) = false := by
    by_cases h0 : k = 0
    · rw [h0]
      exact jc_00
    · rw [← jc_ot h0 n54]
      exact h2
  have hpk' : ck_pk (jgb k) c0 c := by
    by_cases h0 : k = 0
    · intro p fs0 hb
      rw [h0, jc_m0, Nat.zero_testBit] at hb
      cases hb
    · rw [← jc_ot h0 n54]
      exact hpk
  refine ⟨jb_xs h k c0 c h1' ro hk hpk' hX, va_up S k c, fun j hj => ?_, ?_⟩
  · by_cases e : j = k
    · rw [e, List.getElem?_set_self (List.getElem?_eq_some_iff.mp hk).1, u_eq]
    · rw [List.getElem?_set_ne (fun h => e h.symm), u_ne e]
      exact hS j hj
  · refine jrun_pin hJ ?_ (u_ne (fun e => n54 e.symm))
    by_cases h0 : k = 0
    · subst h0
      intro fs hfs
      rw [u_eq]
      exact hpk 11 fs (by decide +kernel) (e0.symm.trans hfs)
    · intro fs hfs
      exact ⟨fs, (u_ne (fun e => h0 e.symm)).trans hfs, rfl⟩
theorem jc_RL : ck_RL (XY θ P) jrl := fun h hX => jb_RL h hX.1
theorem gic_ab {h : pm_H} (g : ck_gi jgc (XY θ P) h) : ck_gi jgb (XJ θ P) h ∧ ∃ S : Nat → pm_E, (∀ k, k < 82 → h[k]? = some (S k)) ∧ JRun P S := by
  refine ⟨⟨fun k hk => ?_, g.2.1⟩, g.2.2⟩
  obtain ⟨c, h1, h2⟩ := g.1 k (by rw [jc_1]; exact hk)
  exact ⟨c, h1, jc_cell.mp h2⟩
theorem gic_ba {h : pm_H} (g : ck_gi jgb (XJ θ P) h) (hS : ∀ k, k < 82 → h[k]? = some (S k)) (hJ : JRun P S) : ck_gi jgc (XY θ P) h := by
  refine ⟨fun k hk => ?_, g.2, S, hS, hJ⟩
  obtain ⟨c, h1, h2⟩ := g.1 k (by rw [← jc_1]; exact hk)
  exact ⟨c, h1, jc_cell.mpr h2⟩
def GY (θ : Th) (P : PG) (S : Nat → pm_E) (n : Nat) : Prop := ck_gi jgc (XY θ P) (hp S n)
theorem gy_ab (g : GY θ P S n) : GJ θ P S n ∧ JRun P S := by
  obtain ⟨g1, S0, hS, hJ⟩ := gic_ab g
  have hn := gs_n (gj_ab (S := S) (n := n) g1).1
  have e : ∀ j, j < 82 → S j = S0 j := fun j h82 => by
    have := hS j h82
    rw [hp_get (by omega)] at this
    exact Option.some.inj this
  exact ⟨g1, jrun_fr hJ (e 0 (by decide)) (e 54 (by decide))⟩
theorem gy_ba (g : GJ θ P S n) (hJ : JRun P S) : GY θ P S n := gic_ba g (fun k hk => hp_get (by have := gs_n (gj_ab g).1; omega)) hJ
theorem wd_of {C : ck_Ct} {Y : pm_M} (V : ck_Val jgb (XJ θ P) j_ft j_df (j_SL L) (j_SV xs) j_MT j_EX C Y) (hm : C.2.2.2.2.all (fun k => !(Nat.beq k 0 || Nat.beq k 54)) = true) : ck_Val jgc (XY θ P) j_ft j_df (j_SL L) (j_SV xs) j_MT j_EX C Y := by
  intro r0 as h a1 a2 a3 a4
  obtain ⟨g1, S, hS, hJ⟩ := gic_ab a4
  refine pm_W_mono _ _ _ _ _ _ (V r0 as h a1 a2 a3 g1) ?_
  rintro r h' ⟨k1, ⟨kl, k2⟩, k3⟩
  obtain ⟨S', e⟩ := hp_of h'
  have h82 : 82 ≤ h.length := (List.getElem?_eq_some_iff.mp (hS 81 (by decide))).1
  have hS' : ∀ k, k < 82 → h'[k]? = some (S' k) := fun k hk => by
    rw [e]
    exact hp_get (by rw [kl]; omega)
  have f : ∀ j, j < 82 → (Nat.beq j 0 || Nat.beq j 54) = true → S' j = S j := fun j hj82 hj => by
    have hc : C.2.2.2.2.contains j = false := by
      cases hc : C.2.2.2.2.contains j
      · rfl
      · have := List.all_eq_true.mp hm j (List.contains_iff_mem.mp hc)
        rw [hj] at this
        cases this
    have := k2 j hc
    rw [hS' j hj82, hS j hj82] at this
    exact Option.some.inj this
  exact ⟨gic_ba k1 hS' (jrun_fr hJ (f 0 (by decide) rfl) (f 54 (by decide) rfl)), ⟨kl, k2⟩, k3⟩
def KY (θ : Th) (P : PG) (C : ck_Ct) (r0 : List Int) (S : Nat → pm_E) (n : Nat) : q_K := fun r S' n' => n' = n ∧ GY θ P S' n ∧ (∀ k, k < n → C.2.2.2.2.contains k = false → S' k = S k) ∧ ∃ Q ∈ C.2.2.2.1, ck_post r0 Q r (hp S' n)
theorem q_ky {C : ck_Ct} {Y : pm_M} {as : List Value} (V : ck_Val jgc (XY θ P) j_ft j_df (j_SL L) (j_SV xs) j_MT j_EX C Y) (r0 : List Int) (hG : GY θ P S n) (ha : ck_al r0 C.1 as) (hE : ck_en r0 C.2.2.1) (hm : ∀ d ∈ C.2.1, ck_mo r0 (hp S n) d) : PM (j_SL L) (j_SV xs) j_EX Y as S n (KY θ P C r0 S n) := by
  unfold PM PQ
  refine pm_W_mono _ _ _ _ _ _ (V r0 as (hp S n) ha hE hm hG) ?_
  rintro r h' ⟨h1, ⟨h2, h3⟩, h4⟩
  obtain ⟨S', e⟩ := hp_of h'
  rw [h2, hp_len] at e
  subst e
  refine ⟨S', n, rfl, rfl, h1, fun k hk hc => ?_, h4⟩
  have := h3 k hc
  rw [hp_get hk, hp_get hk] at this
  exact Option.some.inj this
def RIY (θ : Th) (P : PG) (l : List Nat) (S : Nat → pm_E) (n : Nat) : q_K := fun r S' n' => n = n' ∧ (∃ z : Int32, r = some (.int z)) ∧ GY θ P S' n ∧ fr1 l S S' n
theorem ry_of {C : ck_Ct} {r0 : List Int} {r : Option Value} {n' : Nat} (hP : C.2.2.2.1.all (fun P => Nat.beq P.2.1.1 0) = true) (h : KY θ P C r0 S n r S' n') : RIY θ P C.2.2.2.2 S n r S' n' := by
  obtain ⟨h1, h2, h3, P, hp, h4, h5, -⟩ := h
  have e := Nat.eq_of_beq_eq_true (List.all_eq_true.mp hP P hp)
  unfold ck_rv at h5
  rw [e] at h5
  obtain ⟨x, hx, -⟩ := h5
  exact ⟨h1.symm, ⟨x, hx⟩, h2, h3⟩
end KA
