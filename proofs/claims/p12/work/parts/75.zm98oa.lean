/-! count and nth: what stands between calls, for the checker once more -/
section OA
variable {θ : Th} {P : PG} {S S' : Nat → pm_E} {n k : Nat} {L : Nat} {xs : Nat → Int32}
/-- while loopsKnown, what comes back is known -/
def JLp (P : PG) (S : Nat → pm_E) : Prop := ∃ (fs : List Value) (x : Int32) (bf : Nat → Int32), S 0 = .inr (9, fs) ∧ fs[10]? = some (.int x) ∧ S 31 = .inl (2, 2000, .inl bf) ∧ (x ≠ 0 → xP (xE P 0) = false ∧ ∀ j, j < xN (xE P 0) → bf j = b2 (bkE (xE P 0) j))
def pin1o (ci p : Nat) (c c' : pm_E) : Prop := ∀ fs : List Value, c = .inr (ci, fs) → ∃ fs' : List Value, c' = .inr (ci, fs') ∧ fs'[p]? = fs[p]?
theorem jlp_pin (h : JLp P S) (p0 : pin1o 9 10 (S 0) (S' 0)) (e31 : S' 31 = S 31) : JLp P S' := by
  obtain ⟨fs, x, bf, k0, f10, k31, hb⟩ := h
  obtain ⟨fs', k0', e⟩ := p0 fs k0
  exact ⟨fs', x, bf, k0', e.trans f10, e31.trans k31, hb⟩
theorem jlp_fr (h : JLp P S) (e0 : S' 0 = S 0) (e31 : S' 31 = S 31) : JLp P S' := jlp_pin h (fun fs hfs => ⟨fs, e0.trans hfs, rfl⟩) e31
def jgd (k : Nat) : ck_A := cond (Nat.beq k 31) (ckr (jgb k)) (cond (Nat.beq k 0) ((jgb k).1, (jgb k).2.1, 1024, (jgb k).2.2.2) (jgb k))
theorem jd_ot (h0 : k ≠ 0) (h31 : k ≠ 31) : jgd k = jgb k := by
  have a : Nat.beq k 31 = false := by
    cases h : Nat.beq k 31
    · rfl
    · exact absurd (Nat.eq_of_beq_eq_true h) h31
  have b : Nat.beq k 0 = false := by
    cases h : Nat.beq k 0
    · rfl
    · exact absurd (Nat.eq_of_beq_eq_true h) h0
  unfold jgd
  rw [a, b]
  rfl
theorem jd_1 : (jgd k).1 = (jgb k).1 := by
  by_cases h31 : k = 31
  · subst h31
    rfl
  · by_cases h0 : k = 0
    · subst h0
      rfl
    · rw [jd_ot h0 h31]
theorem jd_31 : ck_ro (jgd 31) = true := by decide +kernel
theorem jd_00 : ck_ro (jgb 0) = false := by decide +kernel
theorem jd_m0 : (jgb 0).2.2.1 = 0 := by decide +kernel
theorem jd_l31 : (jgb 31).1 = 0 ∧ (jgb 31).2.2.2.isEmpty = false := by decide +kernel
theorem jd_cell {c : pm_E} : ck_cell (jgd k) c ↔ ck_cell (jgb k) c := by
  by_cases h31 : k = 31
  · subst h31
    show ck_cell (ckr (jgb 31)) c ↔ _
    exact ckr_cell (Or.inr ⟨jd_l31.1, fun e => by have h := jd_l31.2; rw [e] at h; cases h⟩)
  · by_cases h0 : k = 0
    · subst h0
      exact ck_cell_p rfl
    · rw [jd_ot h0 h31]
def XZ (θ : Th) (P : PG) (h : pm_H) : Prop := XJ θ P h ∧ ∃ S : Nat → pm_E, (∀ k, k < 82 → h[k]? = some (S k)) ∧ JLp P S
theorem jd_xs : ck_xs jgd (XZ θ P) := by
  intro h k c0 c h1 h2 hk hpk hX
  obtain ⟨hX, S, hS, hJ⟩ := hX
  have h1' : Nat.ble (jgb k).1 2 = true := by
    rw [← jd_1]
    exact h1
  have hk82 : k < 82 := jb_lt (c := c) h1'
  have n31 : k ≠ 31 := fun e => by
    rw [e, jd_31] at h2
    cases h2
  have e0 : S k = c0 := by
    have := hS k hk82
    rw [hk] at this
    exact (Option.some.inj this).symm
  have ro : ck_ro (jgb k) = false := by
    by_cases h0 : k = 0
    · rw [h0]
      exact jd_00
    · rw [← jd_ot h0 n31]
      exact h2
  have hpk' : ck_pk (jgb k) c0 c := by
    by_cases h0 : k = 0
    · intro p fs0 hb
      rw [h0, jd_m0, Nat.zero_testBit] at hb
      cases hb
    · rw [← jd_ot h0 n31]
      exact hpk
  refine ⟨jb_xs h k c0 c h1' ro hk hpk' hX, va_up S k c, fun j hj => ?_, ?_⟩
  · by_cases e : j = k
    · rw [e, List.getElem?_set_self (List.getElem?_eq_some_iff.mp hk).1, u_eq]
    · rw [List.getElem?_set_ne (fun h => e h.symm), u_ne e]
      exact hS j hj
  · refine jlp_pin hJ ?_ (u_ne (fun e => n31 e.symm))
    by_cases h0 : k = 0
    · subst h0
      intro fs hfs
      rw [u_eq]
      exact hpk 10 fs (by decide +kernel) (e0.symm.trans hfs)
    · intro fs hfs
      exact ⟨fs, (u_ne (fun e => h0 e.symm)).trans hfs, rfl⟩
theorem jd_RL : ck_RL (XZ θ P) jrl := fun h hX => jb_RL h hX.1
theorem gid_ab {h : pm_H} (g : ck_gi jgd (XZ θ P) h) : ck_gi jgb (XJ θ P) h ∧ ∃ S : Nat → pm_E, (∀ k, k < 82 → h[k]? = some (S k)) ∧ JLp P S := by
  refine ⟨⟨fun k hk => ?_, g.2.1⟩, g.2.2⟩
  obtain ⟨c, h1, h2⟩ := g.1 k (by rw [jd_1]; exact hk)
  exact ⟨c, h1, jd_cell.mp h2⟩
theorem gid_ba {h : pm_H} (g : ck_gi jgb (XJ θ P) h) (hS : ∀ k, k < 82 → h[k]? = some (S k)) (hJ : JLp P S) : ck_gi jgd (XZ θ P) h := by
  refine ⟨fun k hk => ?_, g.2, S, hS, hJ⟩
  obtain ⟨c, h1, h2⟩ := g.1 k (by rw [← jd_1]; exact hk)
  exact ⟨c, h1, jd_cell.mpr h2⟩
def GZ (θ : Th) (P : PG) (S : Nat → pm_E) (n : Nat) : Prop := ck_gi jgd (XZ θ P) (hp S n)
theorem gz_ab (g : GZ θ P S n) : GJ θ P S n ∧ JLp P S := by
  obtain ⟨g1, S0, hS, hJ⟩ := gid_ab g
  have hn := gs_n (gj_ab (S := S) (n := n) g1).1
  have e : ∀ j, j < 82 → S j = S0 j := fun j h82 => by
    have := hS j h82
    rw [hp_get (by omega)] at this
    exact Option.some.inj this
  exact ⟨g1, jlp_fr hJ (e 0 (by decide)) (e 31 (by decide))⟩
theorem gz_ba (g : GJ θ P S n) (hJ : JLp P S) : GZ θ P S n := gid_ba g (fun k hk => hp_get (by have := gs_n (gj_ab g).1; omega)) hJ
theorem we_of {C : ck_Ct} {Y : pm_M} (V : ck_Val jgb (XJ θ P) j_ft j_df (j_SL L) (j_SV xs) j_MT j_EX C Y) (hm : C.2.2.2.2.all (fun k => !(Nat.beq k 0 || Nat.beq k 31)) = true) : ck_Val jgd (XZ θ P) j_ft j_df (j_SL L) (j_SV xs) j_MT j_EX C Y := by
  intro r0 as h a1 a2 a3 a4
  obtain ⟨g1, S, hS, hJ⟩ := gid_ab a4
  refine pm_W_mono _ _ _ _ _ _ (V r0 as h a1 a2 a3 g1) ?_
  rintro r h' ⟨k1, ⟨kl, k2⟩, k3⟩
  obtain ⟨S', e⟩ := hp_of h'
  have h82 : 82 ≤ h.length := (List.getElem?_eq_some_iff.mp (hS 81 (by decide))).1
  have hS' : ∀ k, k < 82 → h'[k]? = some (S' k) := fun k hk => by
    rw [e]
    exact hp_get (by rw [kl]; omega)
  have f : ∀ j, j < 82 → (Nat.beq j 0 || Nat.beq j 31) = true → S' j = S j := fun j hj82 hj => by
    have hc : C.2.2.2.2.contains j = false := by
      cases hc : C.2.2.2.2.contains j
      · rfl
      · have := List.all_eq_true.mp hm j (List.contains_iff_mem.mp hc)
        rw [hj] at this
        cases this
    have := k2 j hc
    rw [hS' j hj82, hS j hj82] at this
    exact Option.some.inj this
  exact ⟨gid_ba k1 hS' (jlp_fr hJ (f 0 (by decide) rfl) (f 31 (by decide) rfl)), ⟨kl, k2⟩, k3⟩
def KZ (θ : Th) (P : PG) (C : ck_Ct) (r0 : List Int) (S : Nat → pm_E) (n : Nat) : q_K := fun r S' n' => n' = n ∧ GZ θ P S' n ∧ (∀ k, k < n → C.2.2.2.2.contains k = false → S' k = S k) ∧ ∃ Q ∈ C.2.2.2.1, ck_post r0 Q r (hp S' n)
theorem q_kz {C : ck_Ct} {Y : pm_M} {as : List Value} (V : ck_Val jgd (XZ θ P) j_ft j_df (j_SL L) (j_SV xs) j_MT j_EX C Y) (r0 : List Int) (hG : GZ θ P S n) (ha : ck_al r0 C.1 as) (hE : ck_en r0 C.2.2.1) (hm : ∀ d ∈ C.2.1, ck_mo r0 (hp S n) d) : PM (j_SL L) (j_SV xs) j_EX Y as S n (KZ θ P C r0 S n) := by
  unfold PM PQ
  refine pm_W_mono _ _ _ _ _ _ (V r0 as (hp S n) ha hE hm hG) ?_
  rintro r h' ⟨h1, ⟨h2, h3⟩, h4⟩
  obtain ⟨S', e⟩ := hp_of h'
  rw [h2, hp_len] at e
  subst e
  refine ⟨S', n, rfl, rfl, h1, fun k hk hc => ?_, h4⟩
  have := h3 k hc
  rw [hp_get hk, hp_get hk] at this
  exact Option.some.inj this
def RIZ (θ : Th) (P : PG) (l : List Nat) (S : Nat → pm_E) (n : Nat) : q_K := fun r S' n' => n = n' ∧ (∃ z : Int32, r = some (.int z)) ∧ GZ θ P S' n ∧ fr1 l S S' n
theorem rz_of {C : ck_Ct} {r0 : List Int} {r : Option Value} {n' : Nat} (hP : C.2.2.2.1.all (fun P => Nat.beq P.2.1.1 0) = true) (h : KZ θ P C r0 S n r S' n') : RIZ θ P C.2.2.2.2 S n r S' n' := by
  obtain ⟨h1, h2, h3, P, hp, h4, h5, -⟩ := h
  have e := Nat.eq_of_beq_eq_true (List.all_eq_true.mp hP P hp)
  unfold ck_rv at h5
  rw [e] at h5
  obtain ⟨x, hx, -⟩ := h5
  exact ⟨h1.symm, ⟨x, hx⟩, h2, h3⟩
end OA
