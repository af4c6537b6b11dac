/-! the learner: what stands between calls, for the checker once more -/
section LB
variable {θ : Th} {P : PG} {S S' : Nat → pm_E} {n k : Nat} {L : Nat} {xs : Nat → Int32}
/-- the answers are the same in class and reference -/
def JLn (P : PG) (S : Nat → pm_E) : Prop := ∃ (lr fs : List Value) (ak ag : Int64) (tl : Nat → Int32), S 42 = .inr (1, lr) ∧ lr[0]? = some (.long ak) ∧ lr[1]? = some (.long ag) ∧ S 46 = .inr (10, fs) ∧ fs[34]? = some (.int (nI (cntB (e_bt ak) 64))) ∧ S 74 = .inl (0, 40, .inl tl) ∧ (∀ k, 40 ≤ k → e_bt ak k = false) ∧ ∀ k, k < 40 → (tl k = -2 ∧ e_bt ak k = false) ∨ (tl k = 1 ∧ e_bt ak k = true ∧ e_bt ag k = true) ∨ (tl k = 0 ∧ e_bt ak k = true ∧ e_bt ag k = false)
def pin1 (ci p : Nat) (c c' : pm_E) : Prop := ∀ fs : List Value, c = .inr (ci, fs) → ∃ fs' : List Value, c' = .inr (ci, fs') ∧ fs'[p]? = fs[p]?
theorem jln_pin (h : JLn P S) (p42 : pinO 1 2 (S 42) (S' 42)) (p46 : pin1 10 34 (S 46) (S' 46)) (e74 : S' 74 = S 74) : JLn P S' := by
  obtain ⟨lr, fs, ak, ag, tl, k42, l0, l1, k46, f34, k74, h1, h2⟩ := h
  obtain ⟨lr', k42', e⟩ := p42 lr k42
  obtain ⟨fs', k46', e'⟩ := p46 fs k46
  exact ⟨lr', fs', ak, ag, tl, k42', (e 0 (by decide)).trans l0, (e 1 (by decide)).trans l1, k46', e'.trans f34, e74.trans k74, h1, h2⟩
theorem pin1_rf {ci p : Nat} {c c' : pm_E} (e : c' = c) : pin1 ci p c c' := fun fs h => ⟨fs, e.trans h, rfl⟩
theorem jln_fr (h : JLn P S) (e42 : S' 42 = S 42) (e46 : S' 46 = S 46) (e74 : S' 74 = S 74) : JLn P S' := jln_pin h (pin_rf e42) (pin1_rf e46) e74
def jgd (k : Nat) : ck_A := cond (Nat.beq k 74) (ckr (jgb k)) (cond (Nat.beq k 42) ((jgb k).1, (jgb k).2.1, 3, (jgb k).2.2.2) (cond (Nat.beq k 46) ((jgb k).1, (jgb k).2.1, 17179869186, (jgb k).2.2.2) (jgb k)))
theorem nb_f {a b : Nat} (h : a ≠ b) : Nat.beq a b = false := by
  cases h9 : Nat.beq a b
  · rfl
  · exact absurd (Nat.eq_of_beq_eq_true h9) h
theorem jd_ot (h42 : k ≠ 42) (h46 : k ≠ 46) (h74 : k ≠ 74) : jgd k = jgb k := by
  unfold jgd
  rw [nb_f h74, nb_f h42, nb_f h46]
  rfl
theorem jd_cs : k = 42 ∨ k = 46 ∨ k = 74 ∨ (k ≠ 42 ∧ k ≠ 46 ∧ k ≠ 74) := by omega
theorem jd_1 : (jgd k).1 = (jgb k).1 := by
  rcases jd_cs (k := k) with rfl | rfl | rfl | ⟨a, b, c⟩
  · rfl
  · rfl
  · rfl
  · rw [jd_ot a b c]
theorem jd_74 : ck_ro (jgd 74) = true := by decide +kernel
theorem jd_ro : ck_ro (jgb 42) = false ∧ ck_ro (jgb 46) = false := by decide +kernel
theorem jd_m : (jgb 42).2.2.1 = 0 ∧ (jgb 46).2.2.1 = 2 ∧ (jgb 42).1 = 1 ∧ (jgb 46).1 = 1 := by decide +kernel
theorem jd_l74 : (jgb 74).1 = 0 ∧ (jgb 74).2.2.2.isEmpty = false := by decide +kernel
theorem jd_cell {c : pm_E} : ck_cell (jgd k) c ↔ ck_cell (jgb k) c := by
  rcases jd_cs (k := k) with rfl | rfl | rfl | ⟨a, b, e⟩
  · exact ck_cell_p jd_m.2.2.1
  · exact ck_cell_p jd_m.2.2.2
  · show ck_cell (ckr (jgb 74)) c ↔ _
    exact ckr_cell (Or.inr ⟨jd_l74.1, fun e => by have h := jd_l74.2; rw [e] at h; cases h⟩)
  · rw [jd_ot a b e]
def XL9 (θ : Th) (P : PG) (h : pm_H) : Prop := XJ θ P h ∧ ∃ S : Nat → pm_E, (∀ k, k < 82 → h[k]? = some (S k)) ∧ JLn P S
theorem jd_xs : ck_xs jgd (XL9 θ P) := by
  intro h k c0 c h1 h2 hk hpk hX
  obtain ⟨hX, S, hS, hJ⟩ := hX
  have h1' : Nat.ble (jgb k).1 2 = true := by
    rw [← jd_1]
    exact h1
  have hk82 : k < 82 := jb_lt (c := c) h1'
  have n74 : k ≠ 74 := fun e => by
    rw [e, jd_74] at h2
    cases h2
  have e0 : S k = c0 := by
    have := hS k hk82
    rw [hk] at this
    exact (Option.some.inj this).symm
  have ro : ck_ro (jgb k) = false := by
    rcases jd_cs (k := k) with rfl | rfl | rfl | ⟨a, b, e⟩
    · exact jd_ro.1
    · exact jd_ro.2
    · exact absurd rfl n74
    · rw [← jd_ot a b e]
      exact h2
  have hpk' : ck_pk (jgb k) c0 c := by
    rcases jd_cs (k := k) with rfl | rfl | rfl | ⟨a, b, e⟩
    · intro p fs0 hb
      rw [jd_m.1, Nat.zero_testBit] at hb
      cases hb
    · intro p fs0 hb e9
      rw [jd_m.2.1] at hb
      have ep : p = 1 := by
        rw [show (2 : Nat) = 2 ^ 1 from rfl, Nat.testBit_two_pow] at hb
        exact (of_decide_eq_true hb).symm
      subst ep
      exact hpk 1 fs0 (by decide +kernel) e9
    · exact absurd rfl n74
    · rw [← jd_ot a b e]
      exact hpk
  refine ⟨jb_xs h k c0 c h1' ro hk hpk' hX, va_up S k c, fun j hj => ?_, ?_⟩
  · by_cases e : j = k
    · rw [e, List.getElem?_set_self (List.getElem?_eq_some_iff.mp hk).1, u_eq]
    · rw [List.getElem?_set_ne (fun h => e h.symm), u_ne e]
      exact hS j hj
  · refine jln_pin hJ ?_ ?_ (u_ne (fun e => n74 e.symm))
    · by_cases h0 : k = 42
      · subst h0
        rw [u_eq, e0]
        exact pin_of (mask := 3) rfl hpk (by decide) (by decide)
      · exact pin_rf (u_ne (fun e => h0 e.symm))
    · by_cases h0 : k = 46
      · subst h0
        intro fs hfs
        rw [u_eq]
        exact hpk 34 fs (by decide +kernel) (e0.symm.trans hfs)
      · exact pin1_rf (u_ne (fun e => h0 e.symm))
theorem jd_RL : ck_RL (XL9 θ P) jrl := fun h hX => jb_RL h hX.1
theorem gid_ab {h : pm_H} (g : ck_gi jgd (XL9 θ P) h) : ck_gi jgb (XJ θ P) h ∧ ∃ S : Nat → pm_E, (∀ k, k < 82 → h[k]? = some (S k)) ∧ JLn P S := by
  refine ⟨⟨fun k hk => ?_, g.2.1⟩, g.2.2⟩
  obtain ⟨c, h1, h2⟩ := g.1 k (by rw [jd_1]; exact hk)
  exact ⟨c, h1, jd_cell.mp h2⟩
theorem gid_ba {h : pm_H} (g : ck_gi jgb (XJ θ P) h) (hS : ∀ k, k < 82 → h[k]? = some (S k)) (hJ : JLn P S) : ck_gi jgd (XL9 θ P) h := by
  refine ⟨fun k hk => ?_, g.2, S, hS, hJ⟩
  obtain ⟨c, h1, h2⟩ := g.1 k (by rw [← jd_1]; exact hk)
  exact ⟨c, h1, jd_cell.mpr h2⟩
def GL (θ : Th) (P : PG) (S : Nat → pm_E) (n : Nat) : Prop := ck_gi jgd (XL9 θ P) (hp S n)
theorem gl_ab (g : GL θ P S n) : GJ θ P S n ∧ JLn P S := by
  obtain ⟨g1, S0, hS, hJ⟩ := gid_ab g
  have hn := gs_n (gj_ab (S := S) (n := n) g1).1
  have e : ∀ j, j < 82 → S j = S0 j := fun j h82 => by
    have := hS j h82
    rw [hp_get (by omega)] at this
    exact Option.some.inj this
  exact ⟨g1, jln_fr hJ (e 42 (by decide)) (e 46 (by decide)) (e 74 (by decide))⟩
theorem gl_ba (g : GJ θ P S n) (hJ : JLn P S) : GL θ P S n := gid_ba g (fun k hk => hp_get (by have := gs_n (gj_ab g).1; omega)) hJ
theorem wl_of {C : ck_Ct} {Y : pm_M} (V : ck_Val jgb (XJ θ P) j_ft j_df (j_SL L) (j_SV xs) j_MT j_EX C Y) (hm : C.2.2.2.2.all (fun k => !(Nat.beq k 42 || (Nat.beq k 46 || Nat.beq k 74))) = true) : ck_Val jgd (XL9 θ P) j_ft j_df (j_SL L) (j_SV xs) j_MT j_EX C Y := by
  intro r0 as h a1 a2 a3 a4
  obtain ⟨g1, S, hS, hJ⟩ := gid_ab a4
  refine pm_W_mono _ _ _ _ _ _ (V r0 as h a1 a2 a3 g1) ?_
  rintro r h' ⟨k1, ⟨kl, k2⟩, k3⟩
  obtain ⟨S', e⟩ := hp_of h'
  have h82 : 82 ≤ h.length := (List.getElem?_eq_some_iff.mp (hS 81 (by decide))).1
  have hS' : ∀ k, k < 82 → h'[k]? = some (S' k) := fun k hk => by
    rw [e]
    exact hp_get (by rw [kl]; omega)
  have f : ∀ j, j < 82 → (Nat.beq j 42 || (Nat.beq j 46 || Nat.beq j 74)) = true → S' j = S j := fun j hj82 hj => by
    have hc : C.2.2.2.2.contains j = false := by
      cases hc : C.2.2.2.2.contains j
      · rfl
      · have := List.all_eq_true.mp hm j (List.contains_iff_mem.mp hc)
        rw [hj] at this
        cases this
    have := k2 j hc
    rw [hS' j hj82, hS j hj82] at this
    exact Option.some.inj this
  exact ⟨gid_ba k1 hS' (jln_fr hJ (f 42 (by decide) rfl) (f 46 (by decide) rfl) (f 74 (by decide) rfl)), ⟨kl, k2⟩, k3⟩
theorem kl_of {C : ck_Ct} {Y : pm_M} (V : ck_Val jgb (XJ θ P) j_ft j_df (j_SL L) (j_SV xs) j_MT j_EX C Y) (h : ∀ (r0 : List Int) (as : List Value) (S : Nat → pm_E) (n : Nat), ck_al r0 C.1 as → ck_en r0 C.2.2.1 → (∀ d ∈ C.2.1, ck_mo r0 (hp S n) d) → GJ θ P S n → JLn P S → PM (j_SL L) (j_SV xs) j_EX Y as S n (fun r S' n' => JLn P S')) : ck_Val jgd (XL9 θ P) j_ft j_df (j_SL L) (j_SV xs) j_MT j_EX C Y := by
  intro r0 as h0 a1 a2 a3 a4
  obtain ⟨S, e⟩ := hp_of h0
  generalize h0.length = n at e
  subst e
  obtain ⟨g1, hJ⟩ := gl_ab (S := S) (n := n) a4
  have w := pm_and (q_kj V r0 g1 a1 a2 a3) (h r0 as S n a1 a2 a3 g1 hJ)
  unfold PM PQ at w
  refine pm_W_mono _ _ _ _ _ _ w ?_
  rintro r h' ⟨S', n', rfl, ⟨rfl, k1, k2, k3⟩, S2, e2, j2⟩
  have hn := gs_n (gj_ab k1).1
  refine ⟨gid_ba k1 (S := S2) (fun k hk => ?_) j2, ⟨by rw [hp_len, hp_len], fun k hk => ?_⟩, k3⟩
  · rw [← e2]
    exact hp_get (by omega)
  · rcases Nat.lt_or_ge k n' with hl | hl
    · rw [hp_get hl, hp_get hl, k2 k hl hk]
    · rw [List.getElem?_eq_none (by rw [hp_len]; exact hl), List.getElem?_eq_none (by rw [hp_len]; exact hl)]
theorem wl201 : ck_Val jgd (XL9 θ P) j_ft j_df (j_SL L) (j_SV xs) j_MT j_EX kc201 mm_X12_isSpent := kl_of wb201 (fun r0 as S n ha hE hm hGJ hL => by
  obtain ⟨hG, hT, hJ⟩ := gj_ab hGJ
  obtain ⟨w1, as1, rfl, rfl, ha1⟩ := ck_al_c ha
  obtain ⟨w2, as2, rfl, ⟨x, rfl, ex⟩, ha2⟩ := ck_al_c ha1
  cases ck_al_n ha2
  have b := en_g hE (i := 0) rfl (ev_u ex)
  obtain ⟨k, hk, rfl⟩ := nI_rg (m := 4) b.1 b.2
  obtain ⟨fs, hp⟩ := gs_jrp hG hT hJ.1 hJ.2.2
  have hp' := hp
  obtain ⟨_, _, _, _, _, _, _, k46, -⟩ := hp'
  refine pm_weak (l_spent (P := P) hJ.1 (gs_n hG) (by omega) hp (gs_rws hG (by split <;> omega)) hJ.2.2) (fun r S' n' h => ?_)
  obtain ⟨-, -, -, h2, ⟨z, t46⟩, -⟩ := h
  refine jln_pin hL (pin_rf (h2 42 (by omega) (by omega) (by omega) (by omega))) (fun fs9 e9 => ?_) (h2 74 (by omega) (by omega) (by omega) (by omega))
  rw [k46] at e9
  cases e9
  exact ⟨_, t46, (os_ne (by decide)).trans (os_ne (by decide))⟩)
def KL (θ : Th) (P : PG) (C : ck_Ct) (r0 : List Int) (S : Nat → pm_E) (n : Nat) : q_K := fun r S' n' => n' = n ∧ GL θ P S' n ∧ (∀ k, k < n → C.2.2.2.2.contains k = false → S' k = S k) ∧ ∃ Q ∈ C.2.2.2.1, ck_post r0 Q r (hp S' n)
theorem q_kl {C : ck_Ct} {Y : pm_M} {as : List Value} (V : ck_Val jgd (XL9 θ P) j_ft j_df (j_SL L) (j_SV xs) j_MT j_EX C Y) (r0 : List Int) (hG : GL θ P S n) (ha : ck_al r0 C.1 as) (hE : ck_en r0 C.2.2.1) (hm : ∀ d ∈ C.2.1, ck_mo r0 (hp S n) d) : PM (j_SL L) (j_SV xs) j_EX Y as S n (KL θ P C r0 S n) := by
  unfold PM PQ
  refine pm_W_mono _ _ _ _ _ _ (V r0 as (hp S n) ha hE hm hG) ?_
  rintro r h' ⟨h1, ⟨h2, h3⟩, h4⟩
  obtain ⟨S', e⟩ := hp_of h'
  rw [h2, hp_len] at e
  subst e
  refine ⟨S', n, rfl, rfl, h1, fun k hk hc => ?_, h4⟩
  have := h3 k hc
  rw [hp_get hk, hp_get hk] at this
  exact Option.some.inj this
def RIL (θ : Th) (P : PG) (l : List Nat) (S : Nat → pm_E) (n : Nat) : q_K := fun r S' n' => n = n' ∧ (∃ z : Int32, r = some (.int z)) ∧ GL θ P S' n ∧ fr1 l S S' n
theorem rlq_of {C : ck_Ct} {r0 : List Int} {r : Option Value} {n' : Nat} (hP : C.2.2.2.1.all (fun P => Nat.beq P.2.1.1 0) = true) (h : KL θ P C r0 S n r S' n') : RIL θ P C.2.2.2.2 S n r S' n' := by
  obtain ⟨h1, h2, h3, P, hp, h4, h5, -⟩ := h
  have e := Nat.eq_of_beq_eq_true (List.all_eq_true.mp hP P hp)
  unfold ck_rv at h5
  rw [e] at h5
  obtain ⟨x, hx, -⟩ := h5
  exact ⟨h1.symm, ⟨x, hx⟩, h2, h3⟩
end LB
