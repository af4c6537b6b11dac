/-! a field that no row of a method, nor of those it calls, writes, stays -/
section SA9
variable {z ci p : Nat}
def kf9 (z ci p : Nat) (h h' : pm_H) : Prop := ∀ fs : List Value, h[z]? = some (.inr (ci, fs)) → ∃ fs' : List Value, h'[z]? = some (.inr (ci, fs')) ∧ fs'[p]? = fs[p]?
theorem kf_rf {h : pm_H} : kf9 z ci p h h := fun fs e => ⟨fs, e, rfl⟩
theorem kf_tr {h1 h2 h3 : pm_H} (a : kf9 z ci p h1 h2) (b : kf9 z ci p h2 h3) : kf9 z ci p h1 h3 := fun fs e => by
  obtain ⟨fs1, e1, q1⟩ := a fs e
  obtain ⟨fs2, e2, q2⟩ := b fs1 e1
  exact ⟨fs2, e2, q2.trans q1⟩
theorem kf_set {h : pm_H} {j : Nat} {x y : Nat × vp_A} (e : h[j]? = some (.inl x)) : kf9 z ci p h (h.set j (.inl y)) := fun fs ef => by
  have hne : j ≠ z := fun e9 => by
    rw [e9, ef] at e
    cases e
  exact ⟨fs, (List.getElem?_set_ne hne).trans ef, rfl⟩
theorem ar_at {h : pm_H} {t j : Nat} {x : vp_A} (e : pm_ar h t j = some x) : ∃ y, h[j]? = some (.inl y) := by
  unfold pm_ar at e
  split at e
  · rename_i q
    exact ⟨_, q⟩
  · cases e
theorem kf_ar {h : pm_H} {t j : Nat} {x : vp_A} {y : Nat × vp_A} (e : pm_ar h t j = some x) : kf9 z ci p h (h.set j (.inl y)) := by
  obtain ⟨y', e'⟩ := ar_at e
  exact kf_set e'
theorem ob_at {h : pm_H} {a j : Nat} {fs : List Value} (e : pm_ob h a j = some fs) : h[j]? = some (.inr (a, fs)) := by
  unfold pm_ob at e
  split at e
  · rename_i ci' fs' q
    split at e
    · rename_i q2
      have e1 := Nat.eq_of_beq_eq_true q2
      have e2 := Option.some.inj e
      rw [q, e1, e2]
    · cases e
  · cases e
theorem kf_put {h : pm_H} {a b j : Nat} {fs : List Value} {w : Value} (e : pm_ob h a j = some fs) (hn : (Nat.beq a ci && Nat.beq b p) = false) : kf9 z ci p h (h.set j (.inr (a, fs.set b w))) := fun fs0 e0 => by
  have ej := ob_at e
  by_cases hj : j = z
  · subst hj
    rw [e0] at ej
    cases ej
    refine ⟨fs.set b w, List.getElem?_set_self (List.getElem?_eq_some_iff.mp e0).1, List.getElem?_set_ne (fun h9 => ?_)⟩
    rw [h9, show Nat.beq ci ci = true from Nat.beq_refl ci, show Nat.beq p p = true from Nat.beq_refl p] at hn
    cases hn
  · exact ⟨fs0, (List.getElem?_set_ne hj).trans e0, rfl⟩
theorem kf_app {h l : pm_H} : kf9 z ci p h (h ++ l) := fun fs e => ⟨fs, (List.getElem?_append_left (List.getElem?_eq_some_iff.mp e).1).trans e, rfl⟩
/-- what a row may be -/
def rok9 (FL : List Nat) (ci p : Nat) (q : pm_I) : Bool := match q.1 with
  | .putfield _ => !(Nat.beq q.2.2.1 ci && Nat.beq q.2.2.2.1 p)
  | .invokevirtual _ => FL.contains q.2.2.1
  | .invokestatic _ => FL.contains q.2.2.1
  | .invokespecial _ => Nat.beq q.2.2.2.1 6 || FL.contains q.2.2.1
  | _ => true
def kfO (FL : List Nat) (z ci p : Nat) (h : pm_H) (o : pm_O) : Prop := match o with
  | .inl q => kf9 z ci p h q.2.2.2.2.1
  | .inr (.inl q) => kf9 z ci p h q.2.1.2.2.2.1 ∧ kf9 z ci p h q.2.2.2.2.2.1
  | .inr (.inr (.inl _)) => True
  | .inr (.inr (.inr q)) => FL.contains q.2.1 = true
section EXK
variable {FL : List Nat} {ft : Nat → Nat → FieldType} {df : Nat → List Value} {SL : Nat → Nat} {SV : Nat → Nat → Int32} {MT : Nat → Option pm_M} {M : pm_M} {pc len a b c s k t : Nat} {v : Value} {L st : List Value} {h : pm_H} {o : pm_O}
theorem nx_kf {r : Option (List Value)} (e : pm_nx pc len L h c s r = some o) : kfO FL z ci p h o := by
  unfold pm_nx at e
  split at e
  · cases e
    exact kf_rf
  · cases e
theorem sto_kf (e : pm_sto M pc len L st h c s k = some o) : kfO FL z ci p h o := by
  unfold pm_sto at e
  repeat' split at e
  all_goals cases e
  exact kf_rf
theorem stl_kf (e : pm_stl M pc len L st h c s k = some o) : kfO FL z ci p h o := by
  unfold pm_stl at e
  repeat' split at e
  all_goals cases e
  exact kf_rf
theorem lda_kf (e : pm_lda pc len L st h c s k = some o) : kfO FL z ci p h o := by
  unfold pm_lda at e
  repeat' split at e
  all_goals cases e
  all_goals exact kf_rf
theorem ldi_kf (e : pm_ldi pc len L st h c s k = some o) : kfO FL z ci p h o := by
  unfold pm_ldi at e
  repeat' split at e
  all_goals cases e
  exact kf_rf
theorem ldl_kf (e : pm_ldl pc len L st h c s k = some o) : kfO FL z ci p h o := by
  unfold pm_ldl at e
  repeat' split at e
  all_goals cases e
  exact kf_rf
theorem sti_kf (e : pm_sti M pc len L st h c s k = some o) : kfO FL z ci p h o := by
  unfold pm_sti at e
  split at e
  · exact sto_kf e
  · cases e
theorem sta_kf (e : pm_sta M pc len L st h c s k = some o) : kfO FL z ci p h o := by
  unfold pm_sta at e
  split at e
  · exact sto_kf e
  · exact sto_kf e
  · exact sto_kf e
  · cases e
theorem br_kf {b1 b2 : Bool} (e : pm_br b1 b2 t pc L st h c s = some o) : kfO FL z ci p h o := by
  unfold pm_br at e
  split at e
  · cases e
    exact ⟨kf_rf, kf_rf⟩
  · cases e
    exact ⟨kf_rf, kf_rf⟩
theorem call_kf {y kind nargs : Nat} (hy : FL.contains y = true) (e : pm_call MT M y kind nargs st h c s = some o) : kfO FL z ci p h o := by
  unfold pm_call at e
  repeat' split at e
  all_goals cases e
  all_goals exact hy
theorem nt_f9 {x : Bool} (h : (!x) = true) : x = false := by
  cases x
  · rfl
  · cases h
theorem or_r9 {x : Bool} {b : Nat} (h : (Nat.beq b 6 || x) = true) (hb : b = 6 → False) : x = true := by
  cases h9 : Nat.beq b 6
  · rw [h9] at h
    exact h
  · exact absurd (Nat.eq_of_beq_eq_true h9) hb
set_option maxHeartbeats 8000000 in
theorem ex_kf {i : Instr} (hr : rok9 FL ci p (i, len, a, b, v) = true) (e : pm_ex ft df SL SV MT M i len a b v pc L st h c s = some o) : kfO FL z ci p h o := by
  cases i
  all_goals dsimp only [pm_ex] at e
  all_goals first
    | exact nx_kf e
    | exact ldi_kf e
    | exact ldl_kf e
    | exact lda_kf e
    | exact sti_kf e
    | exact sta_kf e
    | exact stl_kf e
    | exact call_kf hr e
    | skip
  all_goals repeat' split at e
  all_goals first
    | (cases e; done)
    | exact nx_kf e
    | exact br_kf e
    | exact call_kf hr e
    | exact call_kf (or_r9 hr (by assumption)) e
    | (cases e; exact kf_rf)
    | (cases e; exact kf_app)
    | (cases e; exact True.intro)
    | (cases e; exact kf_ar (by assumption))
    | (cases e; exact kf_put (by assumption) (nt_f9 hr))
    | skip
end EXK
/-- a method all of whose rows are such -/
def mok9 (FL : List Nat) (ci p : Nat) (M : pm_M) : Bool := Nat.ble (pm_bd M) 1000 && (List.range (pm_bd M)).all (fun pc => match pm_look M pc with
  | none => true
  | some q => rok9 FL ci p q)
def aok9 (FL : List Nat) (ci p : Nat) : Bool := FL.all (fun y => match j_MT y with
  | none => true
  | some M => mok9 FL ci p M)
def FM9 (FL : List Nat) (M : pm_M) : Prop := ∃ y, FL.contains y = true ∧ j_MT y = some M
theorem lk_bd {M : pm_M} {pc : Nat} {q : pm_I} (h : pm_look M pc = some q) : pc < pm_bd M := by
  unfold pm_look at h
  cases hb : Nat.ble (pc + 1) (pm_bd M)
  · rw [hb] at h
    cases h
  · exact Nat.le_of_ble_eq_true hb
theorem fm_row {FL : List Nat} (hF : aok9 FL ci p = true) {M : pm_M} (hM : FM9 FL M) : Nat.ble (pm_bd M) 1000 = true ∧ ∀ pc q, pm_look M pc = some q → rok9 FL ci p q = true := by
  obtain ⟨y, hy, e⟩ := hM
  unfold aok9 at hF
  have h1 := List.all_eq_true.mp hF y (List.contains_iff_mem.mp hy)
  rw [e] at h1
  have h2 : mok9 FL ci p M = true := h1
  unfold mok9 at h2
  rw [Bool.and_eq_true] at h2
  refine ⟨h2.1, fun pc q hq => ?_⟩
  have h3 := List.all_eq_true.mp h2.2 pc (List.mem_range.mpr (lk_bd hq))
  rw [hq] at h3
  exact h3
theorem ex_fr {M : pm_M} {c c' : pm_C} {R : pm_C → Prop} (hb : Nat.ble (pm_bd M) 1000 = true) (h : j_EX M c R) (hR : R c') : kf9 z ci p c.2.2.2.1 c'.2.2.2.1 := by
  rcases h with h | h | h | h | h | h | h
  · obtain ⟨idx, x, y, st, -, -, -, -, rfl⟩ := h
    have e : c' = _ := hR
    rw [e]
    exact kf_rf
  · obtain ⟨idx, x, y, st, -, -, -, -, rfl⟩ := h
    have e : c' = _ := hR
    rw [e]
    exact kf_rf
  · obtain ⟨idx, k, ci', T, st, fs, -, -, -, -, -, -, rfl⟩ := h
    have e : c' = _ := hR
    rw [e]
    exact kf_rf
  · obtain ⟨idx, k, T, st, fs, -, -, -, -, -, rfl⟩ := h
    have e : c' = _ := hR
    rw [e]
    exact kf_rf
  · obtain ⟨idx, a0, a, n0, n1, sp, dp, m, st, -, -, -, -, -, ⟨f, g, -, e9, rfl⟩ | ⟨f, g, -, e9, -, rfl⟩⟩ := h
    · have e : c' = _ := hR
      rw [e]
      exact kf_set e9
    · have e : c' = _ := hR
      rw [e]
      exact kf_set e9
  · obtain ⟨-, -, y, a, k, -, -, -, -, rfl⟩ := h
    have e : (if 8 ≤ k ∧ k ≤ 11 then ∃ g : List Value, c' = (41, c.2.1, [.int a], c.2.2.2.1 ++ [.inr (99, g)], 1, 6) else c' = (41, c.2.1, [.int (-15)], c.2.2.2.1, 1, 6)) := hR
    split at e
    · obtain ⟨g, e⟩ := e
      rw [e]
      exact kf_app
    · rw [e]
      exact kf_rf
  · obtain ⟨rfl, -⟩ := h
    have e : Nat.ble (pm_bd mm_L_law) 1000 = false := rfl
    rw [e] at hb
    cases hb
theorem W_kf {FL : List Nat} (hF : aok9 FL ci p = true) {SL : Nat → Nat} {SV : Nat → Nat → Int32} {M : pm_M} {c : pm_C} {K : pm_K} (h : pm_W j_ft j_df SL SV j_MT j_EX M c K) (hM : FM9 FL M) : pm_W j_ft j_df SL SV j_MT j_EX M c (fun r h' => K r h' ∧ kf9 z ci p c.2.2.2.1 h') := by
  refine h (fun M c K => FM9 FL M → pm_W j_ft j_df SL SV j_MT j_EX M c (fun r h' => K r h' ∧ kf9 z ci p c.2.2.2.1 h')) ?_ hM
  intro M c K hP hM
  obtain ⟨hb, hrow⟩ := fm_row hF hM
  refine pm_in j_ft j_df SL SV j_MT j_EX ?_
  unfold pm_F at hP ⊢
  cases hs : pm_step j_ft j_df SL SV j_MT M c with
  | none =>
    rw [hs] at hP
    obtain ⟨R, e1, k1⟩ := hP
    refine ⟨R, e1, fun c' hc' => ?_⟩
    have hk := ex_fr (z := z) (ci := ci) (p := p) hb e1 hc'
    exact pm_W_mono _ _ _ _ _ _ (k1 c' hc' hM) (fun r h' q => ⟨q.1, kf_tr hk q.2⟩)
  | some o =>
    rw [hs] at hP
    have ho : kfO FL z ci p c.2.2.2.1 o := by
      unfold pm_step at hs
      split at hs
      · cases hs
      · rename_i q hq
        exact ex_kf (hrow _ _ hq) hs
    rcases o with q | q | q | q
    · exact ⟨hP.1, pm_W_mono _ _ _ _ _ _ (hP.2 hM) (fun r h' e => ⟨e.1, kf_tr ho e.2⟩)⟩
    · exact ⟨fun a => pm_W_mono _ _ _ _ _ _ (hP.1 a hM) (fun r h' e => ⟨e.1, kf_tr ho.1 e.2⟩), fun a => pm_W_mono _ _ _ _ _ _ (hP.2 a hM) (fun r h' e => ⟨e.1, kf_tr ho.2 e.2⟩)⟩
    · exact ⟨hP.1, hP.2, kf_rf⟩
    · obtain ⟨h1, Y, K', e, x, k⟩ := hP
      exact ⟨h1, Y, fun r h' => K' r h' ∧ kf9 z ci p c.2.2.2.1 h', e, x ⟨_, ho, e⟩, fun r h' hr => pm_W_mono _ _ _ _ _ _ (k r h' hr.1 hM) (fun r2 h2 e2 => ⟨e2.1, kf_tr hr.2 e2.2⟩)⟩
/-- on the heap as a function -/
def pnF (z ci p : Nat) (S S' : Nat → pm_E) : Prop := ∀ fs : List Value, S z = .inr (ci, fs) → ∃ fs' : List Value, S' z = .inr (ci, fs') ∧ fs'[p]? = fs[p]?
theorem pn_of {FL : List Nat} (hF : aok9 FL ci p = true) {L : Nat} {xs : Nat → Int32} {Y : pm_M} {as : List Value} {S : Nat → pm_E} {n : Nat} {K : q_K} (hz : z < n) (hY : FM9 FL Y) (h : PM (j_SL L) (j_SV xs) j_EX Y as S n K) : PM (j_SL L) (j_SV xs) j_EX Y as S n (fun r S' n' => K r S' n' ∧ pnF z ci p S S') := by
  unfold PM PQ at h ⊢
  refine pm_W_mono _ _ _ _ _ _ (W_kf (z := z) hF h hY) ?_
  rintro r h' ⟨⟨S', n', rfl, hK⟩, hk⟩
  refine ⟨S', n', rfl, hK, fun fs e => ?_⟩
  obtain ⟨fs', e1, e2⟩ := hk fs (by rw [hp_get hz, e])
  exact ⟨fs', (hp_some e1).2, e2⟩
end SA9
