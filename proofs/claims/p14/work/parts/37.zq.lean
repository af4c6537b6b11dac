/-! two walks of one run: both ends hold -/
section AN
theorem pm_out {ft : Nat → Nat → FieldType} {df : Nat → List Value} {SL : Nat → Nat} {SV : Nat → Nat → Int32} {MT : Nat → Option pm_M} {EX : pm_M → pm_C → (pm_C → Prop) → Prop} {M : pm_M} {c : pm_C} {K : pm_K} (h : pm_W ft df SL SV MT EX M c K) : pm_F ft df SL SV MT EX (pm_W ft df SL SV MT EX) M c K :=
  h (fun M c K => pm_F ft df SL SV MT EX (pm_W ft df SL SV MT EX) M c K) (fun M c K hF => pm_F_mono ft df SL SV MT EX (fun M c K h => pm_in ft df SL SV MT EX h) hF)
theorem pm_W_and {ft : Nat → Nat → FieldType} {df : Nat → List Value} {SL : Nat → Nat} {SV : Nat → Nat → Int32} {MT : Nat → Option pm_M} {EX : pm_M → pm_C → (pm_C → Prop) → Prop} (hEX : ∀ M c R1 R2, EX M c R1 → EX M c R2 → ∀ c', R1 c' → R2 c') {M : pm_M} {c : pm_C} {K1 K2 : pm_K} (h1 : pm_W ft df SL SV MT EX M c K1) (h2 : pm_W ft df SL SV MT EX M c K2) : pm_W ft df SL SV MT EX M c (fun r h => K1 r h ∧ K2 r h) := by
  refine h1 (fun M c K => ∀ K2, pm_W ft df SL SV MT EX M c K2 → pm_W ft df SL SV MT EX M c (fun r h => K r h ∧ K2 r h)) ?_ K2 h2
  intro M c K hF K2 h2
  have hF2 := pm_out h2
  refine pm_in ft df SL SV MT EX ?_
  unfold pm_F at hF hF2 ⊢
  cases hs : pm_step ft df SL SV MT M c with
  | none =>
    rw [hs] at hF hF2
    obtain ⟨R, e1, k1⟩ := hF
    obtain ⟨R2, e2, k2⟩ := hF2
    exact ⟨R, e1, fun c' hc' => k1 c' hc' K2 (k2 c' (hEX M c R R2 e1 e2 c' hc'))⟩
  | some o =>
    rw [hs] at hF hF2
    rcases o with q | q | q | q
    · exact ⟨hF.1, hF.2 K2 hF2.2⟩
    · exact ⟨fun a => hF.1 a K2 (hF2.1 a), fun a => hF.2 a K2 (hF2.2 a)⟩
    · exact ⟨hF.1, hF.2, hF2.2⟩
    · obtain ⟨h1, Z, K', e, x, k⟩ := hF
      obtain ⟨-, Z', K2', e', x', k'⟩ := hF2
      rw [e] at e'
      cases e'
      exact ⟨h1, Z, fun r h => K' r h ∧ K2' r h, e, x K2' x', fun r h' hr => k r h' hr.1 K2 (k' r h' hr.2)⟩
theorem j_mem_eq {i : Nat} {w w' : Cond} (h : j_mem i w = true) (h' : j_mem i w' = true) : w = w' := by
  simp only [j_mem, Bool.and_eq_true, decide_eq_true_eq] at h h'
  have := h.1.symm.trans h'.1
  exact Option.some.inj this
end AN
/-! the oracle has one answer -/
section FN
theorem zx_d1091 : decode (pm_cd mm_L_law) 1091 = .ok (.invokestatic 127, 3) := by decide +kernel
theorem zx_t38 : decode (pm_cd mm_X11_toss) 38 = .ok (.invokestatic 322, 3) := by decide +kernel
theorem zc_out {d b : Int32} (q : d < 0 ∨ b ≤ d) (h : 0 ≤ d ∧ d < b) : False := by
  simp only [Int32.lt_iff_toInt_lt, Int32.le_iff_toInt_le] at q h
  omega
theorem dc_is {M : pm_M} {pc i i' : Nat} (h : decode (pm_cd M) pc = .ok (.invokestatic i, 3)) (h' : decode (pm_cd M) pc = .ok (.invokestatic i', 3)) : i = i' := by
  have := h.symm.trans h'
  cases this
  rfl
theorem lk_eq {M : pm_M} {i : Nat} {nm nm' : MethodName} (h : j_mem (pm_hn M i) (.methodLink (pm_nm M).cls i nm) = true) (h' : j_mem (pm_hn M i) (.methodLink (pm_nm M).cls i nm') = true) : nm = nm' := by
  have := j_mem_eq h h'
  cases this
  rfl
theorem nm_1 : Lib.Math.max.name ≠ Lib.Math.min.name := by decide
theorem nm_2 : Lib.Math.max.name ≠ arraycopyName := by decide
theorem nm_3 : Lib.Math.min.name ≠ arraycopyName := by decide
theorem oM_fn {nm nm' : MethodName} {f : Int32 → Int32 → Int32} {g : Int32 → Int32 → Int32} {M : pm_M} {c : pm_C} {R1 R2 : pm_C → Prop} (h1 : o_M nm f M c R1) (h2 : o_M nm' g M c R2) : nm = nm' ∧ (f = g → ∀ c', R1 c' → R2 c') := by
  obtain ⟨i, x, y, st, s1, d1, m1, -, rfl⟩ := h1
  obtain ⟨i', x', y', st', s2, d2, m2, -, rfl⟩ := h2
  have := dc_is d1 d2
  subst this
  rw [s1] at s2
  cases s2
  refine ⟨lk_eq m1 m2, fun e c' hc' => ?_⟩
  subst e
  exact hc'
theorem oMA {nm : MethodName} {f : Int32 → Int32 → Int32} {M : pm_M} {c : pm_C} {R1 R2 : pm_C → Prop} (h1 : o_M nm f M c R1) (h2 : o_A M c R2) : nm = arraycopyName := by
  obtain ⟨i, x, y, st, s1, d1, m1, -, rfl⟩ := h1
  obtain ⟨i', a0, a, n0, n1, sp, dp, m, st', s2, d2, m2, -⟩ := h2
  have := dc_is d1 d2
  subst this
  exact lk_eq m1 m2
theorem o_cn_inj {T T' : Nat} (h : o_is T = true) (h' : o_is T' = true) (e : o_cn T = o_cn T') : T = T' := by
  have k : ∀ T, o_is T = true → T = 2 ∨ T = 7 ∨ T = 8 := fun T h => by
    unfold o_is at h
    simp only [Bool.or_eq_true] at h
    rcases h with h | h | h
    · exact Or.inl (Nat.eq_of_beq_eq_true h)
    · exact Or.inr (Or.inl (Nat.eq_of_beq_eq_true h))
    · exact Or.inr (Or.inr (Nat.eq_of_beq_eq_true h))
  rcases k T h with rfl | rfl | rfl <;> rcases k T' h' with rfl | rfl | rfl <;> first | rfl | exact absurd e (by decide)
theorem no_T (nm : MethodName) (h : nm = Lib.Math.max.name ∨ nm = Lib.Math.min.name ∨ nm = arraycopyName) : j_mem (pm_hn mm_X11_toss 322) (.methodLink (pm_nm mm_X11_toss).cls 322 nm) = false := by
  rcases h with rfl | rfl | rfl <;> decide +kernel
theorem no_E (nm : MethodName) (h : nm = Lib.Math.max.name ∨ nm = Lib.Math.min.name ∨ nm = arraycopyName) : j_mem (pm_hn mm_L_law 127) (.methodLink (pm_nm mm_L_law).cls 127 nm) = false := by
  rcases h with rfl | rfl | rfl <;> decide +kernel
/-- where an invokestatic stands, that is one of these -/
def o_st (M : pm_M) (c : pm_C) : Prop := ∃ (i : Nat) (nm : MethodName), (nm = Lib.Math.max.name ∨ nm = Lib.Math.min.name ∨ nm = arraycopyName) ∧ decode (pm_cd M) c.1 = .ok (.invokestatic i, 3) ∧ j_mem (pm_hn M i) (.methodLink (pm_nm M).cls i nm) = true
theorem st_T {M : pm_M} {c : pm_C} {R : pm_C → Prop} (h : o_st M c) (h' : o_T M c R) : False := by
  obtain ⟨i, nm, hn, d, m⟩ := h
  obtain ⟨rfl, e, -⟩ := h'
  rw [e] at d
  have := dc_is d zx_t38
  subst this
  rw [no_T nm hn] at m
  cases m
theorem st_E {M : pm_M} {c : pm_C} {R : pm_C → Prop} (h : o_st M c) (h' : o_E M c R) : False := by
  obtain ⟨i, nm, hn, d, m⟩ := h
  obtain ⟨rfl, e, -⟩ := h'
  rw [e] at d
  have := dc_is d zx_d1091
  subst this
  rw [no_E nm hn] at m
  cases m
/-- an instanceof or a checkcast stands there -/
def o_ic (M : pm_M) (c : pm_C) : Prop := ∃ i : Nat, decode (pm_cd M) c.1 = .ok (.instanceof i, 3) ∨ decode (pm_cd M) c.1 = .ok (.checkcast i, 3)
theorem ic_s {M : pm_M} {c : pm_C} {i : Nat} (h : o_ic M c) (d : decode (pm_cd M) c.1 = .ok (.invokestatic i, 3)) : False := by
  obtain ⟨k, h | h⟩ := h
  · rw [h] at d
    cases d
  · rw [h] at d
    cases d
theorem ic_T {M : pm_M} {c : pm_C} {R : pm_C → Prop} (h : o_ic M c) (h' : o_T M c R) : False := by
  obtain ⟨rfl, e, -⟩ := h'
  exact ic_s (i := 322) h (by rw [e]; exact zx_t38)
theorem ic_E {M : pm_M} {c : pm_C} {R : pm_C → Prop} (h : o_ic M c) (h' : o_E M c R) : False := by
  obtain ⟨rfl, e, -⟩ := h'
  exact ic_s (i := 127) h (by rw [e]; exact zx_d1091)
theorem st_M {nm : MethodName} {f : Int32 → Int32 → Int32} {M : pm_M} {c : pm_C} {R : pm_C → Prop} (hn : nm = Lib.Math.max.name ∨ nm = Lib.Math.min.name ∨ nm = arraycopyName) (h : o_M nm f M c R) : o_st M c := by
  obtain ⟨i, x, y, st, s1, d1, m1, -⟩ := h
  exact ⟨i, nm, hn, d1, m1⟩
theorem st_A {M : pm_M} {c : pm_C} {R : pm_C → Prop} (h : o_A M c R) : o_st M c := by
  obtain ⟨i, a0, a, n0, n1, sp, dp, m, st, s2, d2, m2, -⟩ := h
  exact ⟨i, _, Or.inr (Or.inr rfl), d2, m2⟩
theorem ic_I {M : pm_M} {c : pm_C} {R : pm_C → Prop} (h : o_I M c R) : o_ic M c := by
  obtain ⟨i, k, ci, T, st, fs, s1, d1, -⟩ := h
  exact ⟨i, Or.inl d1⟩
theorem ic_C {M : pm_M} {c : pm_C} {R : pm_C → Prop} (h : o_C M c R) : o_ic M c := by
  obtain ⟨i, k, T, st, fs, s1, d1, -⟩ := h
  exact ⟨i, Or.inr d1⟩
theorem st_ic {M : pm_M} {c : pm_C} (h : o_st M c) (h' : o_ic M c) : False := by
  obtain ⟨i, nm, hn, d, m⟩ := h
  exact ic_s h' d
theorem oA_fn {M : pm_M} {c : pm_C} {R1 R2 : pm_C → Prop} (h1 : o_A M c R1) (h2 : o_A M c R2) : ∀ c', R1 c' → R2 c' := by
  obtain ⟨i, a0, a, n0, n1, sp, dp, m, st, s1, -, -, -, -, h1⟩ := h1
  obtain ⟨i', a0', a', n0', n1', sp', dp', m', st', s2, -, -, -, -, h2⟩ := h2
  rw [s1] at s2
  cases s2
  rcases h1 with ⟨f, g, e1, e2, rfl⟩ | ⟨f, g, e1, e2, -, rfl⟩ <;> rcases h2 with ⟨f', g', e1', e2', rfl⟩ | ⟨f', g', e1', e2', -, rfl⟩
  · rw [e1] at e1'
    rw [e2] at e2'
    cases e1'
    cases e2'
    exact fun _ h => h
  · rw [e1] at e1'
    cases e1'
  · rw [e1] at e1'
    cases e1'
  · rw [e1] at e1'
    rw [e2] at e2'
    cases e1'
    cases e2'
    exact fun _ h => h
theorem oI_fn {M : pm_M} {c : pm_C} {R1 R2 : pm_C → Prop} (h1 : o_I M c R1) (h2 : o_I M c R2) : ∀ c', R1 c' → R2 c' := by
  obtain ⟨i, k, ci, T, st, fs, s1, d1, m1, e1, q1, q2, rfl⟩ := h1
  obtain ⟨i', k', ci', T', st', fs', s2, d2, m2, e2, q3, q4, rfl⟩ := h2
  rw [s1] at s2
  cases s2
  rw [e1] at e2
  cases e2
  have := d1.symm.trans d2
  cases this
  have := j_mem_eq m1 m2
  injection this with _ _ e
  have := o_cn_inj q2 q4 e
  subst this
  exact fun _ h => h
theorem oC_fn {M : pm_M} {c : pm_C} {R1 R2 : pm_C → Prop} (h1 : o_C M c R1) (h2 : o_C M c R2) : ∀ c', R1 c' → R2 c' := by
  obtain ⟨i, k, T, st, fs, s1, d1, m1, e1, q1, rfl⟩ := h1
  obtain ⟨i', k', T', st', fs', s2, d2, m2, e2, q3, rfl⟩ := h2
  rw [s1] at s2
  cases s2
  exact fun _ h => h
theorem oIC {M : pm_M} {c : pm_C} {R1 R2 : pm_C → Prop} (h1 : o_I M c R1) (h2 : o_C M c R2) : False := by
  obtain ⟨i, k, ci, T, st, fs, s1, d1, -⟩ := h1
  obtain ⟨i', k', T', st', fs', s2, d2, -⟩ := h2
  rw [d1] at d2
  cases d2
theorem oT_fn {M : pm_M} {c : pm_C} {R1 R2 : pm_C → Prop} (h1 : o_T M c R1) (h2 : o_T M c R2) : ∀ c', R1 c' → R2 c' := by
  obtain ⟨-, -, y, a, k, s1, e1, -, -, rfl⟩ := h1
  obtain ⟨-, -, y', a', k', s2, e2, -, -, rfl⟩ := h2
  rw [s1] at s2
  cases s2
  rw [e1] at e2
  cases e2
  exact fun _ h => h
theorem oTE {M : pm_M} {c : pm_C} {R1 R2 : pm_C → Prop} (h1 : o_T M c R1) (h2 : o_E M c R2) : False := by
  have a := h1.2.1
  have b := h2.2.1
  rw [a] at b
  cases b
theorem o_el_fn {h : pm_H} {f : Nat → Option Nat} {p0 p1 k k' : Int32} {v v' : Int64} (h1 : o_el h f p0 p1 k v) (h2 : o_el h f p0 p1 k' v') : k = k' ∧ (k = 0 → v = v') := by
  have io : (p0 < 0 ∨ 8 ≤ p0) → (0 ≤ p0 ∧ p0 < 8) → False := fun a b => zc_out a b
  rcases h1 with ⟨a, rfl⟩ | ⟨a, ⟨b, rfl⟩ | ⟨y, b, h1⟩⟩ <;> rcases h2 with ⟨a', rfl⟩ | ⟨a', ⟨b', rfl⟩ | ⟨y', b', h2⟩⟩
  · exact ⟨rfl, fun h => absurd h (by decide)⟩
  · exact (io a a').elim
  · exact (io a a').elim
  · exact (io a' a).elim
  · exact ⟨rfl, fun h => absurd h (by decide)⟩
  · rw [b] at b'
    cases b'
  · exact (io a' a).elim
  · rw [b] at b'
    cases b'
  · rw [b] at b'
    cases b'
    rcases h1 with ⟨_, _, e, rfl⟩ | ⟨z, len, g, e, e2, -, h1⟩ | ⟨z, len, g, e, e2, -, h1⟩ <;> rcases h2 with ⟨_, _, e', rfl⟩ | ⟨z', len', g', e', e2', -, h2⟩ | ⟨z', len', g', e', e2', -, h2⟩
    · exact ⟨rfl, fun h => absurd h (by decide)⟩
    · rw [e] at e'
      cases e'
    · rw [e] at e'
      cases e'
    · rw [e] at e'
      cases e'
    · rw [e] at e'
      cases e'
      rw [e2] at e2'
      cases e2'
      rcases h1 with ⟨p, rfl⟩ | ⟨p, rfl, rfl⟩ <;> rcases h2 with ⟨p', rfl⟩ | ⟨p', rfl, rfl⟩
      · exact ⟨rfl, fun h => absurd h (by decide)⟩
      · exact absurd p' p
      · exact absurd p p'
      · exact ⟨rfl, fun _ => rfl⟩
    · rw [e] at e'
      cases e'
    · rw [e] at e'
      cases e'
    · rw [e] at e'
      cases e'
    · rw [e] at e'
      cases e'
      rw [e2] at e2'
      cases e2'
      rcases h1 with ⟨p, rfl⟩ | ⟨p, rfl, rfl⟩ <;> rcases h2 with ⟨p', rfl⟩ | ⟨p', rfl, rfl⟩
      · exact ⟨rfl, fun h => absurd h (by decide)⟩
      · exact absurd p' p
      · exact absurd p p'
      · exact ⟨rfl, fun _ => rfl⟩
theorem oE_fn {M : pm_M} {c : pm_C} {R1 R2 : pm_C → Prop} (h1 : o_E M c R1) (h2 : o_E M c R2) : ∀ c', R1 c' → R2 c' := by
  obtain ⟨-, -, p0, p1, k, v, fs, f, o, s1, e0, e7, e43, e81, h1, -, -, rfl⟩ := h1
  obtain ⟨-, -, p0', p1', k', v', fs', f', o', s2, e0', e7', e43', e81', h2, -, -, rfl⟩ := h2
  rw [s1] at s2
  cases s2
  rw [e43] at e43'
  cases e43'
  rw [e81] at e81'
  cases e81'
  obtain ⟨rfl, hv⟩ := o_el_fn h1 h2
  intro c' hc'

  by_cases h0 : k = 0
  · rw [if_pos h0] at hc' ⊢
    rw [← hv h0]
    exact hc'
  · rw [if_neg h0] at hc' ⊢
    exact hc'
theorem j_fun (M : pm_M) (c : pm_C) (R1 R2 : pm_C → Prop) (h1 : j_EX M c R1) (h2 : j_EX M c R2) : ∀ c', R1 c' → R2 c' := by
  have n1 : Lib.Math.max.name = Lib.Math.max.name ∨ Lib.Math.max.name = Lib.Math.min.name ∨ Lib.Math.max.name = arraycopyName := Or.inl rfl
  have n2 : Lib.Math.min.name = Lib.Math.max.name ∨ Lib.Math.min.name = Lib.Math.min.name ∨ Lib.Math.min.name = arraycopyName := Or.inr (Or.inl rfl)
  rcases h1 with h1 | h1 | h1 | h1 | h1 | h1 | h1 <;> rcases h2 with h2 | h2 | h2 | h2 | h2 | h2 | h2
  · exact (oM_fn h1 h2).2 rfl
  · exact absurd (oM_fn h1 h2).1 nm_1
  · exact (st_ic (st_M n1 h1) (ic_I h2)).elim
  · exact (st_ic (st_M n1 h1) (ic_C h2)).elim
  · exact absurd (oMA h1 h2) nm_2
  · exact (st_T (st_M n1 h1) h2).elim
  · exact (st_E (st_M n1 h1) h2).elim
  · exact absurd (oM_fn h2 h1).1 nm_1
  · exact (oM_fn h1 h2).2 rfl
  · exact (st_ic (st_M n2 h1) (ic_I h2)).elim
  · exact (st_ic (st_M n2 h1) (ic_C h2)).elim
  · exact absurd (oMA h1 h2) nm_3
  · exact (st_T (st_M n2 h1) h2).elim
  · exact (st_E (st_M n2 h1) h2).elim
  · exact (st_ic (st_M n1 h2) (ic_I h1)).elim
  · exact (st_ic (st_M n2 h2) (ic_I h1)).elim
  · exact oI_fn h1 h2
  · exact (oIC h1 h2).elim
  · exact (st_ic (st_A h2) (ic_I h1)).elim
  · exact (ic_T (ic_I h1) h2).elim
  · exact (ic_E (ic_I h1) h2).elim
  · exact (st_ic (st_M n1 h2) (ic_C h1)).elim
  · exact (st_ic (st_M n2 h2) (ic_C h1)).elim
  · exact (oIC h2 h1).elim
  · exact oC_fn h1 h2
  · exact (st_ic (st_A h2) (ic_C h1)).elim
  · exact (ic_T (ic_C h1) h2).elim
  · exact (ic_E (ic_C h1) h2).elim
  · exact absurd (oMA h2 h1) nm_2
  · exact absurd (oMA h2 h1) nm_3
  · exact (st_ic (st_A h1) (ic_I h2)).elim
  · exact (st_ic (st_A h1) (ic_C h2)).elim
  · exact oA_fn h1 h2
  · exact (st_T (st_A h1) h2).elim
  · exact (st_E (st_A h1) h2).elim
  · exact (st_T (st_M n1 h2) h1).elim
  · exact (st_T (st_M n2 h2) h1).elim
  · exact (ic_T (ic_I h2) h1).elim
  · exact (ic_T (ic_C h2) h1).elim
  · exact (st_T (st_A h2) h1).elim
  · exact oT_fn h1 h2
  · exact (oTE h1 h2).elim
  · exact (st_E (st_M n1 h2) h1).elim
  · exact (st_E (st_M n2 h2) h1).elim
  · exact (ic_E (ic_I h2) h1).elim
  · exact (ic_E (ic_C h2) h1).elim
  · exact (st_E (st_A h2) h1).elim
  · exact (oTE h2 h1).elim
  · exact oE_fn h1 h2
/-- a precise walk and a contract, of one call -/
theorem pm_and {SL : Nat → Nat} {SV : Nat → Nat → Int32} {Y : pm_M} {as : List Value} {S : Nat → pm_E} {n : Nat} {K1 K2 : q_K} (h1 : PM SL SV j_EX Y as S n K1) (h2 : PM SL SV j_EX Y as S n K2) : PM SL SV j_EX Y as S n (fun r S' n' => K1 r S' n' ∧ ∃ S2, hp S2 n' = hp S' n' ∧ K2 r S2 n') := by
  unfold PM PQ at h1 h2 ⊢
  refine pm_W_mono _ _ _ _ _ _ (pm_W_and j_fun h1 h2) ?_
  rintro r h ⟨⟨S1, n1, e1, k1⟩, ⟨S2, n2, e2, k2⟩⟩
  have hl := congrArg List.length (e1.symm.trans e2)
  rw [hp_len, hp_len] at hl
  subst hl
  exact ⟨S1, n1, e1, k1, S2, e2.symm.trans e1, k2⟩
end FN
variable {θ : Th}
section ZQ
variable {L : Nat} {xs : Nat → Int32} {S : Nat → pm_E} {n : Nat}
theorem zu_eq {S : Nat → pm_E} {k : Nat} {c : pm_E} : va_up S k c k = c := if_pos rfl
theorem zu_ne {S : Nat → pm_E} {k j : Nat} {c : pm_E} (h : j ≠ k) : va_up S k c j = S j := if_neg h
/-- five zeros at c -/
def zr (c : Nat) (S' : Nat → pm_E) : Prop := ∃ f : Nat → Int32, S' c = .inl (0, 5, .inl f) ∧ ∀ k, k < 5 → f k = 0
def ZQ (c : Nat) (S S' : Nat → pm_E) : Prop := S = S' ∨ zr c S'
theorem zr_hp {c m : Nat} {S S2 : Nat → pm_E} (hc : c < m) (e : hp S2 m = hp S m) (h : zr c S2) : zr c S := by
  obtain ⟨f, h1, h2⟩ := h
  have := congrArg (fun l => l[c]?) e
  rw [hp_get hc, hp_get hc] at this
  exact ⟨f, (Option.some.inj this).symm.trans h1, h2⟩
theorem l_chz (hG : GS θ S n) : PM (j_SL L) (j_SV xs) j_EX mm_X12_changed [.ref 46] S n (fun r S' n' => zr 62 S') := by
  have hn := gs_n hG
  obtain ⟨fs, k46, hf⟩ := gs_obj hG (k := 46) rfl
  change PQ (j_SL L) (j_SV xs) j_EX mm_X12_changed 0 [.ref 46, pm_un] [] S n 0 0 _
  refine q_aload_n rfl rfl rfl ?_
  refine q_cV rfl rfl (Or.inl rfl) rfl rfl rfl rfl (by omega) k46 trivial rfl rfl rfl rfl rfl (pm_weak (q_kc w165 [] hG ⟨rfl, trivial⟩ ck_en_n (fun d hd => by cases hd)) (fun r S9 n9 h => kc_void rfl h)) ?_
  rintro r S1 n1 ⟨rfl, rfl, hG1, -⟩
  obtain ⟨fs1, h461, hf1⟩ := gs_obj hG1 (k := 46) rfl
  obtain ⟨f74, k74, -⟩ := gs_arr hG1 (k := 74) rfl
  obtain ⟨f62, k62, -⟩ := gs_arr hG1 (k := 62) rfl
  have g33 : fs1[33]? = some (.ref 74) := fo_ref (hf1 33 _ rfl) rfl
  have g19 : fs1[19]? = some (.ref 62) := fo_ref (hf1 19 _ rfl) rfl
  obtain ⟨v34, g34, -⟩ := fo_int (hf1 34 _ rfl) rfl
  obtain ⟨v18, g18, -⟩ := fo_int (hf1 18 _ rfl) rfl
  show PQ (j_SL L) (j_SV xs) j_EX mm_X12_changed 4 [.ref 46, pm_un] [] S1 n1 0 0 _
  have loop2 : ∀ q k : Nat, k + q = 5 → ∀ (T : Nat → pm_E) (gs : List Value) (g : Nat → Int32) (v : Value), T 46 = .inr (10, gs) → gs[19]? = some (.ref 62) → gs[18]? = some v → T 62 = .inl (0, 5, .inl g) → (∀ j, j < k → g j = 0) → PQ (j_SL L) (j_SV xs) j_EX mm_X12_changed 33 [.ref 46, .int (nI k)] [] T n1 0 0 (fun r S' n' => zr 62 S') := by
    intro q
    induction q with
    | zero =>
      intro k hk T gs g v t46 e19 e18 t62 hz
      have e : k = 5 := by omega
      subst e
      refine q_iload_n rfl rfl rfl ?_
      refine q_iconst rfl rfl ?_
      refine q_icge rfl rfl (fun _ => ?_) (fun h => absurd (by decide) h)
      refine q_aload_n rfl rfl rfl ?_
      refine q_iconst rfl rfl ?_
      refine q_putf rfl rfl (by omega) t46 (List.getElem?_eq_some_iff.mp e18).1 rfl rfl ?_
      exact q_ret rfl rfl ⟨g, (zu_ne (by decide)).trans t62, hz⟩
    | succ q ih =>
      intro k hkq T gs g v t46 e19 e18 t62 hz
      refine q_iload_n rfl rfl rfl ?_
      refine q_iconst rfl rfl ?_
      refine q_icge rfl rfl (fun h => absurd h (nI_ge (a := k) (b := 5) (by omega) (by decide))) (fun _ => ?_)
      refine q_aload_n rfl rfl rfl ?_
      refine q_getf rfl rfl (by omega) t46 e19 ?_
      refine q_iload_n rfl rfl rfl ?_
      refine q_iconst rfl rfl ?_
      refine q_iast rfl rfl (by omega) t62 (q_inN (by omega) (by decide)) ?_
      refine q_inc1 rfl rfl rfl rfl ?_
      refine q_goto rfl ?_
      rw [nI_clamp (by omega), show nI k + 1 = nI (k + 1) from nI_add k 1]
      refine ih (k + 1) (by omega) _ gs _ v ((zu_ne (by decide)).trans t46) e19 e18 (zu_eq) (fun j hj => ?_)
      unfold upd
      split
      · rfl
      · exact hz j (by omega)
  have loop1 : ∀ q k : Nat, k + q = 40 → ∀ (T : Nat → pm_E) (g : Nat → Int32), T 46 = .inr (10, fs1) → T 74 = .inl (0, 40, .inl g) → T 62 = .inl (0, 5, .inl f62) → PQ (j_SL L) (j_SV xs) j_EX mm_X12_changed 6 [.ref 46, .int (nI k)] [] T n1 0 0 (fun r S' n' => zr 62 S') := by
    intro q
    induction q with
    | zero =>
      intro k hk T g t46 t74 t62
      have e : k = 40 := by omega
      subst e
      refine q_iload_n rfl rfl rfl ?_
      refine q_bipush rfl rfl ?_
      refine q_icge rfl rfl (fun _ => ?_) (fun h => absurd (by decide) h)
      refine q_aload_n rfl rfl rfl ?_
      refine q_iconst rfl rfl ?_
      refine q_putf rfl rfl (by omega) t46 (List.getElem?_eq_some_iff.mp g34).1 rfl trivial ?_
      refine q_iconst rfl rfl ?_
      refine q_ist1n rfl rfl rfl rfl ?_
      exact loop2 5 0 rfl _ _ f62 (.int v18) (zu_eq) ((List.getElem?_set_ne (by decide)).trans g19) ((List.getElem?_set_ne (by decide)).trans g18) ((zu_ne (by decide)).trans t62) (fun j hj => absurd hj (by omega))
    | succ q ih =>
      intro k hkq T g t46 t74 t62
      refine q_iload_n rfl rfl rfl ?_
      refine q_bipush rfl rfl ?_
      refine q_icge rfl rfl (fun h => absurd h (nI_ge (a := k) (b := 40) (by omega) (by decide))) (fun _ => ?_)
      refine q_aload_n rfl rfl rfl ?_
      refine q_getf rfl rfl (by omega) t46 g33 ?_
      refine q_iload_n rfl rfl rfl ?_
      refine q_bipush rfl rfl ?_
      refine q_iast rfl rfl (by omega) t74 (q_inN (by omega) (by decide)) ?_
      refine q_inc1 rfl rfl rfl rfl ?_
      refine q_goto rfl ?_
      rw [show nI k + 1 = nI (k + 1) from nI_add k 1]
      exact ih (k + 1) (by omega) _ _ ((zu_ne (by decide)).trans t46) (zu_eq) ((zu_ne (by decide)).trans t62)
  refine q_iconst rfl rfl ?_
  refine q_ist1n rfl rfl rfl rfl ?_
  exact loop1 40 0 rfl S1 f74 h461 k74 k62
end ZQ
