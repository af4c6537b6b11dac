/-! what else holds of the heap, and what the checker's contracts say of heaps as functions -/
def XC (h : pm_H) : Prop := ∃ f : Nat → Int32, h[56]? = some (.inl (0, 4000, .inl f)) ∧ ∀ i : Nat, 0 < i → i < 2000 → (f i).toInt < (i : Int)
def xk (k a n : Int32) (m : Int) : Prop := ((k.toInt = 0 ∨ k.toInt = 1 ∨ k.toInt = 2 ∨ k.toInt = 5 ∨ k.toInt = 6 ∨ k.toInt = 7) → 0 ≤ a.toInt ∧ a.toInt ≤ 3) ∧ ((8 ≤ k.toInt ∧ k.toInt ≤ 11) → 0 ≤ a.toInt ∧ a.toInt ≤ 2) ∧ (k.toInt = 4 → 0 ≤ n.toInt ∧ n.toInt ≤ m)
def XK (h : pm_H) : Prop := ∃ fk fa fn : Nat → Int32, h[48]? = some (.inl (0, 48, .inl fk)) ∧ h[49]? = some (.inl (0, 48, .inl fa)) ∧ h[50]? = some (.inl (0, 48, .inl fn)) ∧ ∀ j, j < 48 → xk (fk j) (fa j) (fn j) (if j < 24 then 8 else 10)
def xh (h : pm_H) (y : Nat) : Prop := (∃ a b : Int32, h[y]? = some (.inr (8, [.int a, .int b]))) ∨ (∃ (z len : Nat) (g : Nat → Int64), h[y]? = some (.inr (2, [.ref z])) ∧ 82 ≤ z ∧ len ≤ 60 ∧ h[z]? = some (.inl (1, len, .inr (.inl g)))) ∨ (∃ (z len : Nat) (g : Nat → Int32), h[y]? = some (.inr (7, [.ref z])) ∧ 82 ≤ z ∧ len ≤ 60 ∧ h[z]? = some (.inl (3, len, .inl g)) ∧ ∀ j, j < len → fits .short (.int (g j)) = true)
def XS (h : pm_H) : Prop := ∃ f : Nat → Option Nat, h[43]? = some (.inl (4, 8, .inr (.inr (.inr (.inr f))))) ∧ ∀ d, d < 8 → ∀ y, f d = some y → 82 ≤ y ∧ xh h y
/-- what stands fast: the statements' numbers by hands, kinds, operands, numbers of the first 24 -/
abbrev Th : Type := (Nat → Int32) × (Nat → Int32) × (Nat → Int32) × (Nat → Int32) × Int32
def XM (θ : Th) (h : pm_H) : Prop := ∃ mn fk fa fn : Nat → Int32, h[47]? = some (.inl (0, 6, .inl mn)) ∧ h[48]? = some (.inl (0, 48, .inl fk)) ∧ h[49]? = some (.inl (0, 48, .inl fa)) ∧ h[50]? = some (.inl (0, 48, .inl fn)) ∧ (∀ x, x < 3 → mn x = θ.1 x) ∧ (∀ j, j < 24 → fk j = θ.2.1 j ∧ fa j = θ.2.2.1 j ∧ fn j = θ.2.2.2.1 j) ∧ ∃ fs : List Value, h[46]? = some (.inr (10, fs)) ∧ fs[1]? = some (.int θ.2.2.2.2)
def XI (θ : Th) (h : pm_H) : Prop := XC h ∧ XK h ∧ XS h ∧ XM θ h
/-- the number of hands is the same in both -/
def sHd (h h' : pm_H) : Prop := ∀ fs, h[46]? = some (.inr (10, fs)) → ∃ fs', h'[46]? = some (.inr (10, fs')) ∧ fs'[1]? = fs[1]?
theorem sHd_of {h h' : pm_H} (e : h'[46]? = h[46]?) : sHd h h' := fun fs hf => ⟨fs, by rw [e]; exact hf, rfl⟩
theorem XM_same {θ : Th} {h h' : pm_H} (e0 : h'[47]? = h[47]?) (e1 : h'[48]? = h[48]?) (e2 : h'[49]? = h[49]?) (e3 : h'[50]? = h[50]?) (e4 : sHd h h') (hX : XM θ h) : XM θ h' := by
  obtain ⟨m, f, g, k, h0, h1, h2, h3, h4, h5, fs, h6, h7⟩ := hX
  obtain ⟨fs', g1, g2⟩ := e4 fs h6
  exact ⟨m, f, g, k, by rw [e0]; exact h0, by rw [e1]; exact h1, by rw [e2]; exact h2, by rw [e3]; exact h3, h4, h5, fs', g1, by rw [g2]; exact h7⟩
variable {θ : Th}
theorem xi_82 {k : Nat} (h : 82 ≤ k) : jga k = (9, 0, 0, []) := by
  unfold jga
  have e : Nat.ble k 81 = false := by
    cases hb : Nat.ble k 81
    · rfl
    · have := Nat.le_of_ble_eq_true hb
      omega
  rw [e]
  rfl
theorem xi_tab : ((List.range 82).all (fun k => !(Nat.ble (jga k).1 2 && !(ck_ro (jga k))) || !(Nat.beq k 43 || (Nat.beq k 47 || (Nat.beq k 48 || (Nat.beq k 49 || (Nat.beq k 50 || (Nat.beq k 56 || Nat.beq k 60)))))))) = true := by decide +kernel
theorem xi_ne {k : Nat} (h1 : Nat.ble (jga k).1 2 = true) (h2 : ck_ro (jga k) = false) : k < 82 ∧ k ≠ 43 ∧ k ≠ 47 ∧ k ≠ 48 ∧ k ≠ 49 ∧ k ≠ 50 ∧ k ≠ 56 ∧ k ≠ 60 := by
  rcases Nat.lt_or_ge k 82 with hk | hk
  · have := List.all_eq_true.mp xi_tab k (List.mem_range.mpr hk)
    rw [h1, h2] at this
    have h3 : (Nat.beq k 43 || (Nat.beq k 47 || (Nat.beq k 48 || (Nat.beq k 49 || (Nat.beq k 50 || (Nat.beq k 56 || Nat.beq k 60)))))) = false := by
      cases hb : (Nat.beq k 43 || (Nat.beq k 47 || (Nat.beq k 48 || (Nat.beq k 49 || (Nat.beq k 50 || (Nat.beq k 56 || Nat.beq k 60))))))
      · rfl
      · rw [hb] at this
        cases this
    simp only [Bool.or_eq_false_iff] at h3
    have f : ∀ j, Nat.beq k j = false → k ≠ j := fun j hj e => by
      subst e
      rw [Nat.beq_refl] at hj
      cases hj
    exact ⟨hk, f _ h3.1, f _ h3.2.1, f _ h3.2.2.1, f _ h3.2.2.2.1, f _ h3.2.2.2.2.1, f _ h3.2.2.2.2.2.1, f _ h3.2.2.2.2.2.2⟩
  · rw [xi_82 hk] at h1
    cases h1
theorem xh_same {h h' : pm_H} {y : Nat} (e : ∀ k, 82 ≤ k → h'[k]? = h[k]?) (hy : 82 ≤ y) (hh : xh h y) : xh h' y := by
  rcases hh with ⟨a, b, h1⟩ | ⟨z, len, g, h1, h2, h3, h4⟩ | ⟨z, len, g, h1, h2, h3, h4, h5⟩
  · exact Or.inl ⟨a, b, by rw [e y hy]; exact h1⟩
  · exact Or.inr (Or.inl ⟨z, len, g, by rw [e y hy]; exact h1, h2, h3, by rw [e z h2]; exact h4⟩)
  · exact Or.inr (Or.inr ⟨z, len, g, by rw [e y hy]; exact h1, h2, h3, by rw [e z h2]; exact h4, h5⟩)
theorem XC_same {h h' : pm_H} (e1 : h'[56]? = h[56]?) (hX : XC h) : XC h' := by
  obtain ⟨f, h1, h3⟩ := hX
  exact ⟨f, by rw [e1]; exact h1, h3⟩
theorem XK_same {h h' : pm_H} (e1 : h'[48]? = h[48]?) (e2 : h'[49]? = h[49]?) (e3 : h'[50]? = h[50]?) (hX : XK h) : XK h' := by
  obtain ⟨f, g, k, h1, h2, h3, h4⟩ := hX
  exact ⟨f, g, k, by rw [e1]; exact h1, by rw [e2]; exact h2, by rw [e3]; exact h3, h4⟩
theorem XS_same {h h' : pm_H} (e1 : h'[43]? = h[43]?) (e : ∀ k, 82 ≤ k → h'[k]? = h[k]?) (hX : XS h) : XS h' := by
  obtain ⟨f, h1, h2⟩ := hX
  exact ⟨f, by rw [e1]; exact h1, fun d hd y hy => ⟨(h2 d hd y hy).1, xh_same e (h2 d hd y hy).1 (h2 d hd y hy).2⟩⟩
theorem j_xs : ck_xs jga (XI θ) := by
  intro h k c0 c h1 h2 hk hpk hX
  obtain ⟨g1, g2, g0, g3, g4, g5, g6, g7⟩ := xi_ne h1 h2
  exact ⟨XC_same (List.getElem?_set_ne g6) hX.1, XK_same (List.getElem?_set_ne g3) (List.getElem?_set_ne g4) (List.getElem?_set_ne g5) hX.2.1, XS_same (List.getElem?_set_ne g2) (fun j hj => List.getElem?_set_ne (by omega)) hX.2.2.1, XM_same (List.getElem?_set_ne g0) (List.getElem?_set_ne g3) (List.getElem?_set_ne g4) (List.getElem?_set_ne g5) (fun fs hf => by
    by_cases e : k = 46
    · subst e
      rw [hk] at hf
      cases hf
      obtain ⟨fs', q1, q2⟩ := hpk 1 fs rfl rfl
      exact ⟨fs', by rw [List.getElem?_set_self (List.getElem?_eq_some_iff.mp hk).1, q1]; rfl, q2⟩
    · exact ⟨fs, by rw [List.getElem?_set_ne e]; exact hf, rfl⟩) hX.2.2.2⟩
theorem j_rlk (k : Nat) : jrl k = [] ∨ (k = 49 ∧ jrl k = [(48, 0, 0, 3), (48, 1, 0, 3), (48, 2, 0, 3), (48, 5, 0, 3), (48, 6, 0, 3), (48, 7, 0, 3), (48, 8, 0, 2), (48, 9, 0, 2), (48, 10, 0, 2), (48, 11, 0, 2)]) ∨ (k = 50 ∧ jrl k = [(48, 4, 0, 10)]) := by
  by_cases e1 : k = 49
  · subst e1
    exact Or.inr (Or.inl ⟨rfl, rfl⟩)
  · by_cases e2 : k = 50
    · subst e2
      exact Or.inr (Or.inr ⟨rfl, rfl⟩)
    · refine Or.inl ?_
      unfold jrl
      have b : ∀ j, k ≠ j → Nat.beq k j = false := fun j hj => by
        cases hb : Nat.beq k j
        · rfl
        · exact absurd (Nat.eq_of_beq_eq_true hb) hj
      rw [b 49 e1, b 50 e2]
      rfl
theorem j_RL : ck_RL (XI θ) jrl := by
  intro h hX k e he t n t' n' f f' h1 h2 j hj hf
  obtain ⟨-, ⟨fk, fa, fn, k1, k2, k3, k4⟩, -⟩ := hX
  rcases j_rlk k with e0 | ⟨rfl, e0⟩ | ⟨rfl, e0⟩
  · rw [e0] at he
    cases he
  · rw [e0] at he
    rw [k2] at h1
    cases h1
    have hk48 : e.1 = 48 ∧ ((e.2.1 = 0 ∨ e.2.1 = 1 ∨ e.2.1 = 2 ∨ e.2.1 = 5 ∨ e.2.1 = 6 ∨ e.2.1 = 7) ∧ e.2.2.1 = 0 ∧ e.2.2.2 = 3 ∨ (8 ≤ e.2.1 ∧ e.2.1 ≤ 11) ∧ e.2.2.1 = 0 ∧ e.2.2.2 = 2) := by
      simp only [List.mem_cons, List.not_mem_nil, or_false] at he
      rcases he with rfl | rfl | rfl | rfl | rfl | rfl | rfl | rfl | rfl | rfl <;> exact ⟨rfl, by simp⟩
    rw [hk48.1, k1] at h2
    cases h2
    obtain ⟨q1, q2, -⟩ := k4 j hj
    rcases hk48.2 with ⟨g1, g2, g3⟩ | ⟨g1, g2, g3⟩
    · rw [g2, g3]
      exact q1 (by rw [hf]; exact g1)
    · rw [g2, g3]
      exact q2 (by rw [hf]; exact g1)
  · rw [e0] at he
    rw [k3] at h1
    cases h1
    rw [List.mem_singleton] at he
    subst he
    rw [k1] at h2
    cases h2
    obtain ⟨-, -, q3⟩ := k4 j hj
    have q4 := q3 hf
    dsimp only
    split at q4 <;> omega
/-! heaps as functions -/
def GS (θ : Th) (S : Nat → pm_E) (n : Nat) : Prop := ck_gi jga (XI θ) (hp S n)
theorem hp_some {S : Nat → pm_E} {n k : Nat} {c : pm_E} (h : (hp S n)[k]? = some c) : k < n ∧ S k = c := by
  have h1 : k < n := by
    have := (List.getElem?_eq_some_iff.mp h).1
    rw [hp_len] at this
    exact this
  rw [hp_get h1] at h
  exact ⟨h1, Option.some.inj h⟩
theorem gs_get {S : Nat → pm_E} {n : Nat} (hG : GS θ S n) (k : Nat) (hk : Nat.ble (jga k).1 2 = true) : k < n ∧ ck_cell (jga k) (S k) := by
  obtain ⟨c, h1, h2⟩ := hG.1 k hk
  obtain ⟨h3, rfl⟩ := hp_some h1
  exact ⟨h3, h2⟩
theorem gs_n {S : Nat → pm_E} {n : Nat} (hG : GS θ S n) : 82 ≤ n := (gs_get hG 81 rfl).1
theorem gs_arr {S : Nat → pm_E} {n : Nat} (hG : GS θ S n) {k t m0 : Nat} {cls : List (Nat × Int × Int)} (e : jga k = (0, t, m0, cls)) : ∃ f : Nat → Int32, S k = .inl (t, m0, .inl f) ∧ ∀ i, i < m0 → ∃ q, cls[i % cls.length]? = some q ∧ q.2.1 ≤ (f i).toInt ∧ (f i).toInt ≤ q.2.2 := by
  obtain ⟨-, h2⟩ := gs_get hG k (by rw [e]; rfl)
  rw [e] at h2
  exact h2
theorem gs_a1 {S : Nat → pm_E} {n : Nat} (hG : GS θ S n) {k t m0 : Nat} {q : Nat × Int × Int} (e : jga k = (0, t, m0, [q])) : ∃ f : Nat → Int32, S k = .inl (t, m0, .inl f) ∧ ∀ i, i < m0 → q.2.1 ≤ (f i).toInt ∧ (f i).toInt ≤ q.2.2 := by
  obtain ⟨f, h1, h2⟩ := gs_arr hG e
  refine ⟨f, h1, fun i hi => ?_⟩
  obtain ⟨q', h3, h4⟩ := h2 i hi
  rw [List.length_singleton, Nat.mod_one] at h3
  cases h3
  exact h4
theorem gs_lng {S : Nat → pm_E} {n : Nat} (hG : GS θ S n) {k t m0 : Nat} (e : jga k = (2, t, m0, [])) : ∃ f : Nat → Int64, S k = .inl (1, m0, .inr (.inl f)) := by
  obtain ⟨-, h2⟩ := gs_get hG k (by rw [e]; rfl)
  rw [e] at h2
  exact h2
theorem gs_obj {S : Nat → pm_E} {n : Nat} (hG : GS θ S n) {k ci m0 : Nat} {l : List (Nat × Int × Int)} (e : jga k = (1, ci, m0, l)) : ∃ fs : List Value, S k = .inr (ci, fs) ∧ ∀ (b : Nat) (q : Nat × Int × Int), l[b]? = some q → ∃ w, fs[b]? = some w ∧ ck_fo q w := by
  obtain ⟨-, h2⟩ := gs_get hG k (by rw [e]; rfl)
  rw [e] at h2
  exact h2
theorem gs_set {S : Nat → pm_E} {n k : Nat} {c : pm_E} (hG : GS θ S n) (hk : k < n) (hc : ck_cell (jga k) c) (hX : XI θ (hp (va_up S k c) n)) : GS θ (va_up S k c) n := by
  refine ⟨fun j hj => ?_, hX⟩
  obtain ⟨h1, h2⟩ := gs_get hG j hj
  rw [hp_get h1]
  refine ⟨_, rfl, ?_⟩
  unfold va_up
  by_cases e : j = k
  · subst e
    rw [if_pos rfl]
    exact hc
  · rw [if_neg e]
    exact h2
theorem gs_xi {S : Nat → pm_E} {n k : Nat} {c : pm_E} (hG : GS θ S n) (hk : k < n) (h1 : Nat.ble (jga k).1 2 = true) (h2 : ck_ro (jga k) = false) (h3 : ck_pk (jga k) (S k) c) : XI θ (hp (va_up S k c) n) := by
  rw [← hp_set hk]
  exact j_xs _ k (S k) c h1 h2 (hp_get hk) h3 hG.2
theorem gs_st {S : Nat → pm_E} {n k : Nat} {c : pm_E} (hG : GS θ S n) (h1 : Nat.ble (jga k).1 2 = true) (h2 : ck_ro (jga k) = false) (hc : ck_cell (jga k) c) (h3 : ck_pk (jga k) (S k) c) : GS θ (va_up S k c) n := gs_set hG (gs_get hG k h1).1 hc (gs_xi hG (gs_get hG k h1).1 h1 h2 h3)
theorem pk_arr {k t : Nat} {S : Nat → pm_E} {c : pm_E} {x : vp_A} (hS : S k = .inl (t, x)) : ck_pk (jga k) (S k) c := fun p fs0 _ e => by rw [hS] at e; cases e
theorem ck_en_n : ck_en [] [] := ⟨rfl, fun i q y h _ => by simp at h⟩
theorem ck_en_c {y : Int} {r : List Int} {q : Int × Int} {E : ck_N} (h1 : q.1 ≤ y) (h2 : y ≤ q.2) (h : ck_en r E) : ck_en (y :: r) (q :: E) := by
  refine ⟨by rw [List.length_cons, List.length_cons, h.1], fun i q' y' g1 g2 => ?_⟩
  cases i with
  | zero => cases g1; cases g2; exact ⟨h1, h2⟩
  | succ i => exact h.2 i q' y' (by rw [List.getElem?_cons_succ] at g1; exact g1) (by rw [List.getElem?_cons_succ] at g2; exact g2)
theorem ck_en_h {y : Int} {r : List Int} {q : Int × Int} {E : ck_N} (h : ck_en (y :: r) (q :: E)) : (q.1 ≤ y ∧ y ≤ q.2) ∧ ck_en r E := by
  refine ⟨h.2 0 q y rfl rfl, by have := h.1; rw [List.length_cons, List.length_cons] at this; omega, fun i q' y' g1 g2 => h.2 (i + 1) q' y' (by rw [List.getElem?_cons_succ]; exact g1) (by rw [List.getElem?_cons_succ]; exact g2)⟩
theorem ck_okc {r : List Int} {i : Nat} {d : Int} {x : Int32} (e : x.toInt = d) : ck_ok r (0, i, 0, d) (.int x) := ⟨x, rfl, by rw [ck_ev_0 (v := (0, i, 0, d)) rfl, e]⟩
theorem ck_oku {r : List Int} {i : Nat} {y : Int} {x : Int32} (h : r[i]? = some y) (e : x.toInt = y) : ck_ok r (0, i, 1, 0) (.int x) := ⟨x, rfl, by
  rw [ck_ev_1 (v := (0, i, 1, 0)) (show ¬ (1 : Int) = 0 by decide) h, e]
  congr 1
  show 1 * y + 0 = y
  omega⟩
section KC
variable {SL : Nat → Nat} {SV : Nat → Nat → Int32} {EX : pm_M → pm_C → (pm_C → Prop) → Prop} {S : Nat → pm_E} {n : Nat}
theorem hp_of (h : pm_H) : ∃ S : Nat → pm_E, h = hp S h.length := by
  refine ⟨fun i => h.getD i (.inr (0, [])), List.ext_getElem? fun i => ?_⟩
  rcases Nat.lt_or_ge i h.length with hi | hi
  · rw [hp_get hi]
    simp [List.getD_eq_getElem?_getD, List.getElem?_eq_getElem hi]
  · rw [List.getElem?_eq_none hi, List.getElem?_eq_none (by rw [hp_len]; exact hi)]
/-- what a contract says, for heaps as functions -/
def KC (θ : Th) (C : ck_Ct) (r0 : List Int) (S : Nat → pm_E) (n : Nat) : q_K := fun r S' n' => n' = n ∧ GS θ S' n ∧ (∀ k, k < n → C.2.2.2.2.contains k = false → S' k = S k) ∧ ∃ P ∈ C.2.2.2.1, ck_post r0 P r (hp S' n)
theorem q_kc {C : ck_Ct} {Y : pm_M} {as : List Value} (V : ck_Val jga (XI θ) j_ft j_df SL SV j_MT EX C Y) (r0 : List Int) (hG : GS θ S n) (ha : ck_al r0 C.1 as) (hE : ck_en r0 C.2.2.1) (hm : ∀ d ∈ C.2.1, ck_mo r0 (hp S n) d) : PM SL SV EX Y as S n (KC θ C r0 S n) := by
  unfold PM PQ
  refine pm_W_mono _ _ _ _ _ _ (V r0 as (hp S n) ha hE hm hG) ?_
  rintro r h' ⟨h1, ⟨h2, h3⟩, h4⟩
  obtain ⟨S', e⟩ := hp_of h'
  rw [h2, hp_len] at e
  subst e
  refine ⟨S', n, rfl, rfl, h1, fun k hk hc => ?_, h4⟩
  have := h3 k hc
  rw [hp_get hk, hp_get hk] at this
  exact Option.some.inj this
/-- a contract, out of a run over heaps as functions -/
theorem kc_of {C : ck_Ct} {Y : pm_M} (h : ∀ (r0 : List Int) (as : List Value) (S : Nat → pm_E) (n : Nat), ck_al r0 C.1 as → ck_en r0 C.2.2.1 → (∀ d ∈ C.2.1, ck_mo r0 (hp S n) d) → GS θ S n → PM SL SV EX Y as S n (KC θ C r0 S n)) : ck_Val jga (XI θ) j_ft j_df SL SV j_MT EX C Y := by
  intro r0 as h0 a1 a2 a3 a4
  obtain ⟨S, e⟩ := hp_of h0
  have hlen : h0.length = h0.length := rfl
  generalize h0.length = n at e
  subst e
  have := h r0 as S n a1 a2 a3 a4
  unfold PM PQ at this
  refine pm_W_mono _ _ _ _ _ _ this ?_
  rintro r h' ⟨S', n', rfl, rfl, k1, k2, k3⟩
  refine ⟨k1, ⟨by rw [hp_len, hp_len], fun k hk => ?_⟩, k3⟩
  rcases Nat.lt_or_ge k n' with hl | hl
  · rw [hp_get hl, hp_get hl, k2 k hl hk]
  · rw [List.getElem?_eq_none (by rw [hp_len]; exact hl), List.getElem?_eq_none (by rw [hp_len]; exact hl)]
end KC
