/-! two walks of one run: both ends hold -/
section AN
theorem pm_out {ft : Nat → Nat → FieldType} {df : Nat → List Value} {SL : Nat → Nat} {SV : Nat → Nat → Int32} {MT : Nat → Option pm_M} {EX : pm_M → pm_C → (pm_C → Prop) → Prop} {M : pm_M} {c : pm_C} {K : pm_K} (h : pm_W ft df SL SV MT EX M c K) : pm_F ft df SL SV MT EX (pm_W ft df SL SV MT EX) M c K :=
  h (fun M c K => pm_F ft df SL SV MT EX (pm_W ft df SL SV MT EX) M c K) (fun M c K hF => pm_F_mono ft df SL SV MT EX (fun M c K h => pm_in ft df SL SV MT EX h) hF)
theorem pm_W_and {ft : Nat → Nat → FieldType} {df : Nat → List Value} {SL : Nat → Nat} {SV : Nat → Nat → Int32} {MT : Nat → Option pm_M} {EX : pm_M → pm_C → (pm_C → Prop) → Prop} (hEX : ∀ M c R1 R2, EX M c R1 → EX M c R2 → ∀ c', R1 c' → R2 c') {M : pm_M} {c : pm_C} {K1 K2 : pm_K} (h1 : pm_W ft df SL SV MT EX M c K1) (h2 : pm_W ft df SL SV MT EX M c K2) : pm_W ft df SL SV MT EX M c (fun r h => K1 r h ∧ K2 r h) := by
  refine h1 (fun M c K => ∀ K2, pm_W ft df SL SV MT EX M c K2 → pm_W ft df SL SV MT EX M c (fun r h => K r h ∧ K2 r h)) ?_ K2 h2
  intro M c K hF K2 h2
  have hF2 := pm_out h2
  refine pm_in ft df SL SV MT EX ?_
  unfold pm_F at hF hF2 ⊢
  cases hs : pm_step ft df SL SV MT M c with
  | none =>
    rw [hs] at hF hF2
    obtain ⟨R, e1, k1⟩ := hF
    obtain ⟨R2, e2, k2⟩ := hF2
    exact ⟨R, e1, fun c' hc' => k1 c' hc' K2 (k2 c' (hEX M c R R2 e1 e2 c' hc'))⟩
  | some o =>
    rw [hs] at hF hF2
    rcases o with q | q | q | q
    · exact ⟨hF.1, hF.2 K2 hF2.2⟩
    · exact ⟨fun a => hF.1 a K2 (hF2.1 a), fun a => hF.2 a K2 (hF2.2 a)⟩
    · exact ⟨hF.1, hF.2, hF2.2⟩
    · obtain ⟨h1, Z, K', e, x, k⟩ := hF
      obtain ⟨-, Z', K2', e', x', k'⟩ := hF2
      rw [e] at e'
      cases e'
      exact ⟨h1, Z, fun r h => K' r h ∧ K2' r h, e, x K2' x', fun r h' hr => k r h' hr.1 K2 (k' r h' hr.2)⟩
theorem j_mem_eq {i : Nat} {w w' : Cond} (h : j_mem i w = true) (h' : j_mem i w' = true) : w = w' := by
  simp only [j_mem, Bool.and_eq_true, decide_eq_true_eq] at h h'
  have := h.1.symm.trans h'.1
  exact Option.some.inj this
end AN
/-! the oracle has one answer -/
section FN
theorem zx_d1091 : decode (pm_cd mm_L_law) 1091 = .ok (.invokestatic 127, 3) := by decide +kernel
theorem zx_t38 : decode (pm_cd mm_X11_toss) 38 = .ok (.invokestatic 322, 3) := by decide +kernel
theorem zc_out {d b : Int32} (q : d < 0 ∨ b ≤ d) (h : 0 ≤ d ∧ d < b) : False := by
  simp only [Int32.lt_iff_toInt_lt, Int32.le_iff_toInt_le] at q h
  omega
theorem dc_is {M : pm_M} {pc i i' : Nat} (h : decode (pm_cd M) pc = .ok (.invokestatic i, 3)) (h' : decode (pm_cd M) pc = .ok (.invokestatic i', 3)) : i = i' := by
  have := h.symm.trans h'
  cases this
  rfl
theorem lk_eq {M : pm_M} {i : Nat} {nm nm' : MethodName} (h : j_mem (pm_hn M i) (.methodLink (pm_nm M).cls i nm) = true) (h' : j_mem (pm_hn M i) (.methodLink (pm_nm M).cls i nm') = true) : nm = nm' := by
  have := j_mem_eq h h'
  cases this
  rfl
theorem nm_1 : Lib.Math.max.name ≠ Lib.Math.min.name := by decide
theorem nm_2 : Lib.Math.max.name ≠ arraycopyName := by decide
theorem nm_3 : Lib.Math.min.name ≠ arraycopyName := by decide
theorem oM_fn {nm nm' : MethodName} {f : Int32 → Int32 → Int32} {g : Int32 → Int32 → Int32} {M : pm_M} {c : pm_C} {R1 R2 : pm_C → Prop} (h1 : o_M nm f M c R1) (h2 : o_M nm' g M c R2) : nm = nm' ∧ (f = g → ∀ c', R1 c' → R2 c') := by
  obtain ⟨i, x, y, st, s1, d1, m1, -, rfl⟩ := h1
  obtain ⟨i', x', y', st', s2, d2, m2, -, rfl⟩ := h2
  have := dc_is d1 d2
  subst this
  rw [s1] at s2
  cases s2
  refine ⟨lk_eq m1 m2, fun e c' hc' => ?_⟩
  subst e
  exact hc'
theorem oMA {nm : MethodName} {f : Int32 → Int32 → Int32} {M : pm_M} {c : pm_C} {R1 R2 : pm_C → Prop} (h1 : o_M nm f M c R1) (h2 : o_A M c R2) : nm = arraycopyName := by
  obtain ⟨i, x, y, st, s1, d1, m1, -, rfl⟩ := h1
  obtain ⟨i', a0, a, n0, n1, sp, dp, m, st', s2, d2, m2, -⟩ := h2
  have := dc_is d1 d2
  subst this
  exact lk_eq m1 m2
theorem o_cn_inj {T T' : Nat} (h : o_is T = true) (h' : o_is T' = true) (e : o_cn T = o_cn T') : T = T' := by
  have k : ∀ T, o_is T = true → T = 2 ∨ T = 7 ∨ T = 8 := fun T h => by
    unfold o_is at h
    simp only [Bool.or_eq_true] at h
    rcases h with h | h | h
    · exact Or.inl (Nat.eq_of_beq_eq_true h)
    · exact Or.inr (Or.inl (Nat.eq_of_beq_eq_true h))
    · exact Or.inr (Or.inr (Nat.eq_of_beq_eq_true h))
  rcases k T h with rfl | rfl | rfl <;> rcases k T' h' with rfl | rfl | rfl <;> first | rfl | exact absurd e (by decide)
theorem no_T (nm : MethodName) (h : nm = Lib.Math.max.name ∨ nm = Lib.Math.min.name ∨ nm = arraycopyName) : j_mem (pm_hn mm_X11_toss 322) (.methodLink (pm_nm mm_X11_toss).cls 322 nm) = false := by
  rcases h with rfl | rfl | rfl <;> decide +kernel
theorem no_E (nm : MethodName) (h : nm = Lib.Math.max.name ∨ nm = Lib.Math.min.name ∨ nm = arraycopyName) : j_mem (pm_hn mm_L_law 127) (.methodLink (pm_nm mm_L_law).cls 127 nm) = false := by
  rcases h with rfl | rfl | rfl <;> decide +kernel
/-- where an invokestatic stands, that is one of these -/
def o_st (M : pm_M) (c : pm_C) : Prop := ∃ (i : Nat) (nm : MethodName), (nm = Lib.Math.max.name ∨ nm = Lib.Math.min.name ∨ nm = arraycopyName) ∧ decode (pm_cd M) c.1 = .ok (.invokestatic i, 3) ∧ j_mem (pm_hn M i) (.methodLink (pm_nm M).cls i nm) = true
theorem st_T {M : pm_M} {c : pm_C} {R : pm_C → Prop} (h : o_st M c) (h' : o_T M c R) : False := by
  obtain ⟨i, nm, hn, d, m⟩ := h
  obtain ⟨rfl, e, -⟩ := h'
  rw [e] at d
  have := dc_is d zx_t38
  subst this
  rw [no_T nm hn] at m
  cases m
theorem st_E {M : pm_M} {c : pm_C} {R : pm_C → Prop} (h : o_st M c) (h' : o_E M c R) : False := by
  obtain ⟨i, nm, hn, d, m⟩ := h
  obtain ⟨rfl, e, -⟩ := h'
  rw [e] at d
  have := dc_is d zx_d1091
  subst this
  rw [no_E nm hn] at m
  cases m
/-- an instanceof or a checkcast stands there -/
def o_ic (M : pm_M) (c : pm_C) : Prop := ∃ i : Nat, decode (pm_cd M) c.1 = .ok (.instanceof i, 3) ∨ decode (pm_cd M) c.1 = .ok (.checkcast i, 3)
theorem ic_s {M : pm_M} {c : pm_C} {i : Nat} (h : o_ic M c) (d : decode (pm_cd M) c.1 = .ok (.invokestatic i, 3)) : False := by
  obtain ⟨k, h | h⟩ := h
  · rw [h] at d
    cases d
  · rw [h] at d
    cases d
theorem ic_T {M : pm_M} {c : pm_C} {R : pm_C → Prop} (h : o_ic M c) (h' : o_T M c R) : False := by
  obtain ⟨rfl, e, -⟩ := h'
  exact ic_s (i := 322) h (by rw [e]; exact zx_t38)
theorem ic_E {M : pm_M} {c : pm_C} {R : pm_C → Prop} (h : o_ic M c) (h' : o_E M c R) : False := by
  obtain ⟨rfl, e, -⟩ := h'
  exact ic_s (i := 127) h (by rw [e]; exact zx_d1091)
theorem st_M {nm : MethodName} {f : Int32 → Int32 → Int32} {M : pm_M} {c : pm_C} {R : pm_C → Prop} (hn : nm = Lib.Math.max.name ∨ nm = Lib.Math.min.name ∨ nm = arraycopyName) (h : o_M nm f M c R) : o_st M c := by
  obtain ⟨i, x, y, st, s1, d1, m1, -⟩ := h
  exact ⟨i, nm, hn, d1, m1⟩
theorem st_A {M : pm_M} {c : pm_C} {R : pm_C → Prop} (h : o_A M c R) : o_st M c := by
  obtain ⟨i, a0, a, n0, n1, sp, dp, m, st, s2, d2, m2, -⟩ := h
  exact ⟨i, _, Or.inr (Or.inr rfl), d2, m2⟩
theorem ic_I {M : pm_M} {c : pm_C} {R : pm_C → Prop} (h : o_I M c R) : o_ic M c := by
  obtain ⟨i, k, ci, T, st, fs, s1, d1, -⟩ := h
  exact ⟨i, Or.inl d1⟩
theorem ic_C {M : pm_M} {c : pm_C} {R : pm_C → Prop} (h : o_C M c R) : o_ic M c := by
  obtain ⟨i, k, T, st, fs, s1, d1, -⟩ := h
  exact ⟨i, Or.inr d1⟩
theorem st_ic {M : pm_M} {c : pm_C} (h : o_st M c) (h' : o_ic M c) : False := by
  obtain ⟨i, nm, hn, d, m⟩ := h
  exact ic_s h' d
theorem oA_fn {M : pm_M} {c : pm_C} {R1 R2 : pm_C → Prop} (h1 : o_A M c R1) (h2 : o_A M c R2) : ∀ c', R1 c' → R2 c' := by
  obtain ⟨i, a0, a, n0, n1, sp, dp, m, st, s1, -, -, -, -, h1⟩ := h1
  obtain ⟨i', a0', a', n0', n1', sp', dp', m', st', s2, -, -, -, -, h2⟩ := h2
  rw [s1] at s2
  cases s2
  rcases h1 with ⟨f, g, e1, e2, rfl⟩ | ⟨f, g, e1, e2, -, rfl⟩ <;> rcases h2 with ⟨f', g', e1', e2', rfl⟩ | ⟨f', g', e1', e2', -, rfl⟩
  · rw [e1] at e1'
    rw [e2] at e2'
    cases e1'
    cases e2'
    exact fun _ h => h
  · rw [e1] at e1'
    cases e1'
  · rw [e1] at e1'
    cases e1'
  · rw [e1] at e1'
    rw [e2] at e2'
    cases e1'
    cases e2'
    exact fun _ h => h
theorem oI_fn {M : pm_M} {c : pm_C} {R1 R2 : pm_C → Prop} (h1 : o_I M c R1) (h2 : o_I M c R2) : ∀ c', R1 c' → R2 c' := by
  obtain ⟨i, k, ci, T, st, fs, s1, d1, m1, e1, q1, q2, rfl⟩ := h1
  obtain ⟨i', k', ci', T', st', fs', s2, d2, m2, e2, q3, q4, rfl⟩ := h2
  rw [s1] at s2
  cases s2
  rw [e1] at e2
  cases e2
  have := d1.symm.trans d2
  cases this
  have := j_mem_eq m1 m2
  injection this with _ _ e
  have := o_cn_inj q2 q4 e
  subst this
  exact fun _ h => h
theorem oC_fn {M : pm_M} {c : pm_C} {R1 R2 : pm_C → Prop} (h1 : o_C M c R1) (h2 : o_C M c R2) : ∀ c', R1 c' → R2 c' := by
  obtain ⟨i, k, T, st, fs, s1, d1, m1, e1, q1, rfl⟩ := h1
  obtain ⟨i', k', T', st', fs', s2, d2, m2, e2, q3, rfl⟩ := h2
  rw [s1] at s2
  cases s2
  exact fun _ h => h
theorem oIC {M : pm_M} {c : pm_C} {R1 R2 : pm_C → Prop} (h1 : o_I M c R1) (h2 : o_C M c R2) : False := by
  obtain ⟨i, k, ci, T, st, fs, s1, d1, -⟩ := h1
  obtain ⟨i', k', T', st', fs', s2, d2, -⟩ := h2
  rw [d1] at d2
  cases d2
theorem oT_fn {M : pm_M} {c : pm_C} {R1 R2 : pm_C → Prop} (h1 : o_T M c R1) (h2 : o_T M c R2) : ∀ c', R1 c' → R2 c' := by
  obtain ⟨-, -, y, a, k, s1, e1, -, -, rfl⟩ := h1
  obtain ⟨-, -, y', a', k', s2, e2, -, -, rfl⟩ := h2
  rw [s1] at s2
  cases s2
  rw [e1] at e2
  cases e2
  exact fun _ h => h
theorem oTE {M : pm_M} {c : pm_C} {R1 R2 : pm_C → Prop} (h1 : o_T M c R1) (h2 : o_E M c R2) : False := by
  have a := h1.2.1
  have b := h2.2.1
  rw [a] at b
  cases b
theorem o_el_fn {h : pm_H} {f : Nat → Option Nat} {p0 p1 k k' : Int32} {v v' : Int64} (h1 : o_el h f p0 p1 k v) (h2 : o_el h f p0 p1 k' v') : k = k' ∧ (k = 0 → v = v') := by
  have io : (p0 < 0 ∨ 8 ≤ p0) → (0 ≤ p0 ∧ p0 < 8) → False := fun a b => zc_out a b
  rcases h1 with ⟨a, rfl⟩ | ⟨a, ⟨b, rfl⟩ | ⟨y, b, h1⟩⟩ <;> rcases h2 with ⟨a', rfl⟩ | ⟨a', ⟨b', rfl⟩ | ⟨y', b', h2⟩⟩
  · exact ⟨rfl, fun h => absurd h (by decide)⟩
  · exact (io a a').elim
  · exact (io a a').elim
  · exact (io a' a).elim
  · exact ⟨rfl, fun h => absurd h (by decide)⟩
  · rw [b] at b'
    cases b'
  · exact (io a' a).elim
  · rw [b] at b'
    cases b'
  · rw [b] at b'
    cases b'
    rcases h1 with ⟨_, _, e, rfl⟩ | ⟨z, len, g, e, e2, -, h1⟩ | ⟨z, len, g, e, e2, -, h1⟩ <;> rcases h2 with ⟨_, _, e', rfl⟩ | ⟨z', len', g', e', e2', -, h2⟩ | ⟨z', len', g', e', e2', -, h2⟩
    · exact ⟨rfl, fun h => absurd h (by decide)⟩
    · rw [e] at e'
      cases e'
    · rw [e] at e'
      cases e'
    · rw [e] at e'
      cases e'
    · rw [e] at e'
      cases e'
      rw [e2] at e2'
      cases e2'
      rcases h1 with ⟨p, rfl⟩ | ⟨p, rfl, rfl⟩ <;> rcases h2 with ⟨p', rfl⟩ | ⟨p', rfl, rfl⟩
      · exact ⟨rfl, fun h => absurd h (by decide)⟩
      · exact absurd p' p
      · exact absurd p p'
      · exact ⟨rfl, fun _ => rfl⟩
    · rw [e] at e'
      cases e'
    · rw [e] at e'
      cases e'
    · rw [e] at e'
      cases e'
    · rw [e] at e'
      cases e'
      rw [e2] at e2'
      cases e2'
      rcases h1 with ⟨p, rfl⟩ | ⟨p, rfl, rfl⟩ <;> rcases h2 with ⟨p', rfl⟩ | ⟨p', rfl, rfl⟩
      · exact ⟨rfl, fun h => absurd h (by decide)⟩
      · exact absurd p' p
      · exact absurd p p'
      · exact ⟨rfl, fun _ => rfl⟩
theorem oE_fn {M : pm_M} {c : pm_C} {R1 R2 : pm_C → Prop} (h1 : o_E M c R1) (h2 : o_E M c R2) : ∀ c', R1 c' → R2 c' := by
  obtain ⟨-, -, p0, p1, k, v, fs, f, o, s1, e0, e7, e43, e81, h1, -, -, rfl⟩ := h1
  obtain ⟨-, -, p0', p1', k', v', fs', f', o', s2, e0', e7', e43', e81', h2, -, -, rfl⟩ := h2
  rw [s1] at s2
  cases s2
  rw [e43] at e43'
  cases e43'
  rw [e81] at e81'
  cases e81'
  obtain ⟨rfl, hv⟩ := o_el_fn h1 h2
  intro c' hc'

  by_cases h0 : k = 0
  · rw [if_pos h0] at hc' ⊢
    rw [← hv h0]
    exact hc'
  · rw [if_neg h0] at hc' ⊢
    exact hc'
theorem j_fun (M : pm_M) (c : pm_C) (R1 R2 : pm_C → Prop) (h1 : j_EX M c R1) (h2 : j_EX M c R2) : ∀ c', R1 c' → R2 c' := by
  have n1 : Lib.Math.max.name = Lib.Math.max.name ∨ Lib.Math.max.name = Lib.Math.min.name ∨ Lib.Math.max.name = arraycopyName := Or.inl rfl
  have n2 : Lib.Math.min.name = Lib.Math.max.name ∨ Lib.Math.min.name = Lib.Math.min.name ∨ Lib.Math.min.name = arraycopyName := Or.inr (Or.inl rfl)
  rcases h1 with h1 | h1 | h1 | h1 | h1 | h1 | h1 <;> rcases h2 with h2 | h2 | h2 | h2 | h2 | h2 | h2
  · exact (oM_fn h1 h2).2 rfl
  · exact absurd (oM_fn h1 h2).1 nm_1
  · exact (st_ic (st_M n1 h1) (ic_I h2)).elim
  · exact (st_ic (st_M n1 h1) (ic_C h2)).elim
  · exact absurd (oMA h1 h2) nm_2
  · exact (st_T (st_M n1 h1) h2).elim
  · exact (st_E (st_M n1 h1) h2).elim
  · exact absurd (oM_fn h2 h1).1 nm_1
  · exact (oM_fn h1 h2).2 rfl
  · exact (st_ic (st_M n2 h1) (ic_I h2)).elim
  · exact (st_ic (st_M n2 h1) (ic_C h2)).elim
  · exact absurd (oMA h1 h2) nm_3
  · exact (st_T (st_M n2 h1) h2).elim
  · exact (st_E (st_M n2 h1) h2).elim
  · exact (st_ic (st_M n1 h2) (ic_I h1)).elim
  · exact (st_ic (st_M n2 h2) (ic_I h1)).elim
  · exact oI_fn h1 h2
  · exact (oIC h1 h2).elim
  · exact (st_ic (st_A h2) (ic_I h1)).elim
  · exact (ic_T (ic_I h1) h2).elim
  · exact (ic_E (ic_I h1) h2).elim
  · exact (st_ic (st_M n1 h2) (ic_C h1)).elim
  · exact (st_ic (st_M n2 h2) (ic_C h1)).elim
  · exact (oIC h2 h1).elim
  · exact oC_fn h1 h2
  · exact (st_ic (st_A h2) (ic_C h1)).elim
  · exact (ic_T (ic_C h1) h2).elim
  · exact (ic_E (ic_C h1) h2).elim
  · exact absurd (oMA h2 h1) nm_2
  · exact absurd (oMA h2 h1) nm_3
  · exact (st_ic (st_A h1) (ic_I h2)).elim
  · exact (st_ic (st_A h1) (ic_C h2)).elim
  · exact oA_fn h1 h2
  · exact (st_T (st_A h1) h2).elim
  · exact (st_E (st_A h1) h2).elim
  · exact (st_T (st_M n1 h2) h1).elim
  · exact (st_T (st_M n2 h2) h1).elim
  · exact (ic_T (ic_I h2) h1).elim
  · exact (ic_T (ic_C h2) h1).elim
  · exact (st_T (st_A h2) h1).elim
  · exact oT_fn h1 h2
  · exact (oTE h1 h2).elim
  · exact (st_E (st_M n1 h2) h1).elim
  · exact (st_E (st_M n2 h2) h1).elim
  · exact (ic_E (ic_I h2) h1).elim
  · exact (ic_E (ic_C h2) h1).elim
  · exact (st_E (st_A h2) h1).elim
  · exact (oTE h2 h1).elim
  · exact oE_fn h1 h2
/-- a precise walk and a contract, of one call -/
theorem pm_and {SL : Nat → Nat} {SV : Nat → Nat → Int32} {Y : pm_M} {as : List Value} {S : Nat → pm_E} {n : Nat} {K1 K2 : q_K} (h1 : PM SL SV j_EX Y as S n K1) (h2 : PM SL SV j_EX Y as S n K2) : PM SL SV j_EX Y as S n (fun r S' n' => K1 r S' n' ∧ ∃ S2, hp S2 n' = hp S' n' ∧ K2 r S2 n') := by
  unfold PM PQ at h1 h2 ⊢
  refine pm_W_mono _ _ _ _ _ _ (pm_W_and j_fun h1 h2) ?_
  rintro r h ⟨⟨S1, n1, e1, k1⟩, ⟨S2, n2, e2, k2⟩⟩
  have hl := congrArg List.length (e1.symm.trans e2)
  rw [hp_len, hp_len] at hl
  subst hl
  exact ⟨S1, n1, e1, k1, S2, e2.symm.trans e1, k2⟩
end FN
variable {θ : Th}
section ZQ
variable {L : Nat} {xs : Nat → Int32} {S : Nat → pm_E} {n : Nat}
theorem zu_eq {S : Nat → pm_E} {k : Nat} {c : pm_E} : va_up S k c k = c := if_pos rfl
theorem zu_ne {S : Nat → pm_E} {k j : Nat} {c : pm_E} (h : j ≠ k) : va_up S k c j = S j := if_neg h
theorem zd_eq {f : Nat → Int32} {k : Nat} {v : Int32} : upd f k v k = v := if_pos rfl
theorem zd_ne {f : Nat → Int32} {k j : Nat} {v : Int32} (h : j ≠ k) : upd f k v j = f j := if_neg h
/-- five zeros at c -/
def zr0 (c : Nat) (S' : Nat → pm_E) : Prop := ∃ f : Nat → Int32, S' c = .inl (0, 5, .inl f) ∧ ∀ k, k < 5 → f k = 0
/-- the first row -/
def frw (hd : Int32) (mn vl : Nat → Int32) (j : Nat) : Int32 := if j < 4 * hd.toInt.toNat ∧ j % 4 = 0 then (if mn (j / 4) = 0 then 10 else 0) else if 12 ≤ j ∧ j < 16 then vl (j - 12) else 0
def rwA (S' : Nat → pm_E) (fs : List Value) : Prop := ∃ (hd : Int32) (mn vl rn : Nat → Int32), fs[1]? = some (.int hd) ∧ S' 47 = .inl (0, 6, .inl mn) ∧ S' 51 = .inl (0, 4, .inl vl) ∧ S' 54 = .inl (0, 20, .inl rn) ∧ ∀ k, k < 20 → rn k = frw hd mn vl k
def zx62 (S' : Nat → pm_E) : Prop := ∃ (fs : List Value) (tl : Nat → Int32), S' 46 = .inr (10, fs) ∧ fs[34]? = some (.int 0) ∧ rwA S' fs ∧ S' 74 = .inl (0, 40, .inl tl) ∧ ∀ k, k < 40 → tl k = -2
def firV (f : Nat → Int32) : Nat → Nat := fun j => if 12 ≤ j ∧ j < 16 then (f (j - 12)).toInt.toNat else 0
def zx44 (S' : Nat → pm_E) : Prop := ∃ (fs lr : List Value) (f : Nat → Int32) (x : Int64), S' 0 = .inr (9, fs) ∧ fs[11]? = some (.long x) ∧ S' 2 = .inl (0, 4, .inl f) ∧ S' 42 = .inr (1, lr) ∧ lr[0]? = some (.long 0) ∧ lr[1]? = some (.long 0) ∧ ((∀ p, p < 4 → 0 ≤ (f p).toInt ∧ (f p).toInt ≤ 9) → e_is x (firV f)) ∧ fs[10]? = some (.int 0) ∧ ∃ gx : List Value, S' 32 = .inr (0, gx) ∧ gx[1]? = some (.int 1)
def zr (c : Nat) (S' : Nat → pm_E) : Prop := zr0 c S' ∧ (c = 62 → zx62 S') ∧ (c = 44 → zx44 S')
/-- an array differs at one of its first m -/
def cdf (c l m : Nat) (S S' : Nat → pm_E) : Prop := ∃ f g : Nat → Int32, S c = .inl (0, l, .inl f) ∧ S' c = .inl (0, l, .inl g) ∧ ∃ X, X < m ∧ g X ≠ f X
def DF (c : Nat) (S S' : Nat → pm_E) : Prop := (c = 62 ∧ (cdf 47 6 3 S S' ∨ cdf 51 4 4 S S')) ∨ (c = 44 ∧ (cdf 3 3 3 S S' ∨ cdf 2 4 4 S S'))
def ZP (c : Nat) (S S' : Nat → pm_E) : Prop := S = S' ∨ zr c S'
def ZQ (c : Nat) (S S' : Nat → pm_E) : Prop := S = S' ∨ (zr c S' ∧ DF c S S')
theorem hp_cell {m k : Nat} {S S2 : Nat → pm_E} (hk : k < m) (e : hp S2 m = hp S m) : S k = S2 k := by
  have := congrArg (fun l => l[k]?) e
  rw [hp_get hk, hp_get hk] at this
  exact (Option.some.inj this).symm
theorem rwA_c {S S2 : Nat → pm_E} {fs : List Value} (h : rwA S2 fs) (e47 : S 47 = S2 47) (e51 : S 51 = S2 51) (e54 : S 54 = S2 54) : rwA S fs := by
  obtain ⟨hd, mn, vl, rn, f1, h47, h51, h54, hr⟩ := h
  exact ⟨hd, mn, vl, rn, f1, e47.trans h47, e51.trans h51, e54.trans h54, hr⟩
theorem zr_hp {c m : Nat} {S S2 : Nat → pm_E} (hc : c < m ∧ 82 ≤ m) (e : hp S2 m = hp S m) (h : zr c S2) : zr c S := by
  have g : ∀ k, k < 82 → S k = S2 k := fun k hk => hp_cell (by omega) e
  obtain ⟨⟨f, h1, h2⟩, h3, h4⟩ := h
  refine ⟨⟨f, (hp_cell hc.1 e).trans h1, h2⟩, fun ec => ?_, fun ec => ?_⟩
  · obtain ⟨fs, tl, a1, a2, a3, a4, a5⟩ := h3 ec
    exact ⟨fs, tl, (g 46 (by decide)).trans a1, a2, rwA_c a3 (g 47 (by decide)) (g 51 (by decide)) (g 54 (by decide)), (g 74 (by decide)).trans a4, a5⟩
  · obtain ⟨fs, lr, f, x, a1, a2, a3, a4, a5, a6, a7⟩ := h4 ec
    obtain ⟨a7, a8, gx, a9, a10⟩ := a7
    exact ⟨fs, lr, f, x, (g 0 (by decide)).trans a1, a2, (g 2 (by decide)).trans a3, (g 42 (by decide)).trans a4, a5, a6, a7, a8, gx, (g 32 (by decide)).trans a9, a10⟩
set_option maxHeartbeats 4000000 in
theorem l_frs {fs : List Value} {H : Nat} {mn vl nw : Nat → Int32} (hn : 82 ≤ n) (k46 : S 46 = .inr (10, fs)) (f1 : fs[1]? = some (.int (nI H))) (f2 : fs[2]? = some (.ref 47)) (f6 : fs[6]? = some (.ref 51)) (f7 : fs[7]? = some (.int 0)) (f8 : fs[8]? = some (.ref 52)) (k47 : S 47 = .inl (0, 6, .inl mn)) (k51 : S 51 = .inl (0, 4, .inl vl)) (k52 : S 52 = .inl (0, 20, .inl nw)) (hH3 : H ≤ 3) : PM (j_SL L) (j_SV xs) j_EX mm_X12_firstState [.ref 46] S n (fun r S' n' => r = none ∧ n = n' ∧ (∀ k, k ≠ 52 → S' k = S k) ∧ ∃ nw' : Nat → Int32, S' 52 = .inl (0, 20, .inl nw') ∧ ∀ k, k < 20 → nw' k = frw (nI H) mn vl k) := by
  have hHH : (nI H).toInt.toNat = H := by rw [nI_toInt (by omega), Int.toNat_natCast]
  have F1 : ∀ j, 12 ≤ j → j < 16 → frw (nI H) mn vl j = vl (j - 12) := fun j h1 h2 => by
    unfold frw
    rw [hHH, if_neg (by omega), if_pos ⟨h1, h2⟩]
  have F2 : ∀ j, 4 * H ≤ j → ¬ (12 ≤ j ∧ j < 16) → frw (nI H) mn vl j = 0 := fun j h1 h2 => by
    unfold frw
    rw [hHH, if_neg (by omega), if_neg h2]
  have F3 : ∀ x, x < H → frw (nI H) mn vl (4 * x) = if mn x = 0 then 10 else 0 := fun x hx => by
    unfold frw
    rw [hHH, if_pos (by omega), show 4 * x / 4 = x by omega]
  have F4 : ∀ j, j < 4 * H → ¬ j % 4 = 0 → frw (nI H) mn vl j = 0 := fun j h1 h2 => by
    unfold frw
    rw [hHH, if_neg (fun h => h2 h.2), if_neg (by omega)]
  change PQ (j_SL L) (j_SV xs) j_EX mm_X12_firstState 0 [.ref 46, pm_un] [] S n 0 0 _
  have l3 : ∀ q p : Nat, p + q = 4 → ∀ (T : Nat → pm_E) (nw1 : Nat → Int32), (∀ j, j ≠ 52 → T j = S j) → T 52 = .inl (0, 20, .inl nw1) → (∀ j, j < 20 → (j < 12 + p ∨ 16 ≤ j) → nw1 j = frw (nI H) mn vl j) → PQ (j_SL L) (j_SV xs) j_EX mm_X12_firstState 67 [.ref 46, .int (nI p)] [] T n 0 0 (fun r S' n' => r = none ∧ n = n' ∧ (∀ k, k ≠ 52 → S' k = S k) ∧ ∃ nw' : Nat → Int32, S' 52 = .inl (0, 20, .inl nw') ∧ ∀ k, k < 20 → nw' k = frw (nI H) mn vl k) := by
    intro q
    induction q with
    | zero =>
      intro p hp T nw1 eT t52 hs
      have e : p = 4 := by omega
      subst e
      refine q_iload_n rfl rfl rfl ?_
      refine q_iconst rfl rfl ?_
      refine q_icge rfl rfl (fun _ => ?_) (fun h => absurd (by decide) h)
      exact q_ret rfl rfl ⟨rfl, rfl, eT, nw1, t52, fun j hj => hs j hj (by omega)⟩
    | succ q ih =>
      intro p hpq T nw1 eT t52 hs
      have hp4 : p < 4 := by omega
      have t46 := (eT 46 (by decide)).trans k46
      refine q_iload_n rfl rfl rfl ?_
      refine q_iconst rfl rfl ?_
      refine q_icge rfl rfl (fun h => absurd h (nI_ge (a := p) (b := 4) hp4 (by decide))) (fun _ => ?_)
      refine q_aload_n rfl rfl rfl ?_
      refine q_getf rfl rfl (by omega) t46 f8 ?_
      refine q_bipush rfl rfl ?_
      refine q_iload_n rfl rfl rfl ?_
      refine q_iadd rfl rfl (q_tn (z := nI (12 + p)) (nI_add 12 p) ?_)
      refine q_aload_n rfl rfl rfl ?_
      refine q_getf rfl rfl (by omega) t46 f6 ?_
      refine q_iload_n rfl rfl rfl ?_
      refine q_iald rfl rfl (by omega) ((eT 51 (by decide)).trans k51) (q_inN (by omega) (by decide)) (q_tn (z := vl p) (by rw [nI_clamp (by omega)]) ?_)
      refine q_iast rfl rfl (by omega) t52 (q_inN (by omega) (by decide)) ?_
      refine q_inc1 rfl rfl rfl rfl ?_
      refine q_goto rfl ?_
      rw [nI_clamp (by omega), show nI p + 1 = nI (p + 1) from nI_add p 1]
      refine ih (p + 1) (by omega) _ _ (fun j hj => (zu_ne hj).trans (eT j hj)) zu_eq (fun j hj hc => ?_)
      by_cases e : j = 12 + p
      · rw [e, zd_eq, F1 _ (by omega) (by omega), Nat.add_sub_cancel_left]
      · rw [zd_ne e]
        exact hs j hj (by omega)
  have l2 : ∀ q x : Nat, x + q = H → ∀ (T : Nat → pm_E) (nw1 : Nat → Int32), (∀ j, j ≠ 52 → T j = S j) → T 52 = .inl (0, 20, .inl nw1) → (∀ j, j < 20 → (4 * x ≤ j → nw1 j = 0) ∧ (j < 4 * x → nw1 j = frw (nI H) mn vl j)) → PQ (j_SL L) (j_SV xs) j_EX mm_X12_firstState 23 [.ref 46, .int (nI x)] [] T n 0 0 (fun r S' n' => r = none ∧ n = n' ∧ (∀ k, k ≠ 52 → S' k = S k) ∧ ∃ nw' : Nat → Int32, S' 52 = .inl (0, 20, .inl nw') ∧ ∀ k, k < 20 → nw' k = frw (nI H) mn vl k) := by
    intro q
    induction q with
    | zero =>
      intro x hx T nw1 eT t52 hs
      have t46 := (eT 46 (by decide)).trans k46
      have e : x = H := by omega
      subst e
      refine q_iload_n rfl rfl rfl ?_
      refine q_aload_n rfl rfl rfl ?_
      refine q_getf rfl rfl (by omega) t46 f1 ?_
      refine q_icge rfl rfl (fun _ => ?_) (fun h => absurd (Int32.le_refl _) h)
      refine q_iconst rfl rfl ?_
      refine q_ist1n rfl rfl rfl rfl ?_
      refine l3 4 0 rfl T nw1 eT t52 (fun j hj hc => ?_)
      by_cases c : j < 4 * x
      · exact (hs j hj).2 c
      · rw [(hs j hj).1 (by omega), F2 j (by omega) (by omega)]
    | succ q ih =>
      intro x hxq T nw1 eT t52 hs
      have hx : x < H := by omega
      have t46 := (eT 46 (by decide)).trans k46
      refine q_iload_n rfl rfl rfl ?_
      refine q_aload_n rfl rfl rfl ?_
      refine q_getf rfl rfl (by omega) t46 f1 ?_
      refine q_icge rfl rfl (fun h => absurd h (nI_ge (a := x) (b := H) (by omega) (by omega))) (fun _ => ?_)
      refine q_aload_n rfl rfl rfl ?_
      refine q_getf rfl rfl (by omega) t46 f8 ?_
      refine q_iconst rfl rfl ?_
      refine q_iload_n rfl rfl rfl ?_
      refine q_imul rfl rfl (q_tn (z := nI (4 * x)) (by rw [show (4 : Int32) = nI 4 from rfl, pk_mul]) ?_)
      refine q_aload_n rfl rfl rfl ?_
      refine q_getf rfl rfl (by omega) t46 f2 ?_
      refine q_aload_n rfl rfl rfl ?_
      refine q_getf rfl rfl (by omega) t46 f7 ?_
      refine q_iload_n rfl rfl rfl ?_
      refine q_iadd rfl rfl (q_tn (z := nI x) (by rw [show (0 : Int32) = nI 0 from rfl, nI_add, Nat.zero_add]) ?_)
      refine q_iald rfl rfl (by omega) ((eT 47 (by decide)).trans k47) (q_inN (by omega) (by decide)) (q_tn (z := mn x) (by rw [nI_clamp (by omega)]) ?_)
      have tl : ∀ v : Int32, v = frw (nI H) mn vl (4 * x) → PQ (j_SL L) (j_SV xs) j_EX mm_X12_firstState 58 [.ref 46, .int (nI x)] [.int v, .int (nI (4 * x)), .ref 52] T n 0 0 (fun r S' n' => r = none ∧ n = n' ∧ (∀ k, k ≠ 52 → S' k = S k) ∧ ∃ nw' : Nat → Int32, S' 52 = .inl (0, 20, .inl nw') ∧ ∀ k, k < 20 → nw' k = frw (nI H) mn vl k) := by
        rintro v rfl
        refine q_iast rfl rfl (by omega) t52 (q_inN (by omega) (by decide)) ?_
        refine q_inc1 rfl rfl rfl rfl ?_
        refine q_goto rfl ?_
        rw [nI_clamp (by omega), show nI x + 1 = nI (x + 1) from nI_add x 1]
        refine ih (x + 1) (by omega) _ _ (fun j hj => (zu_ne hj).trans (eT j hj)) zu_eq (fun j hj => ⟨fun hc => ?_, fun hc => ?_⟩)
        · rw [zd_ne (by omega)]
          exact (hs j hj).1 (by omega)
        · by_cases e : j = 4 * x
          · rw [e, zd_eq]
          · rw [zd_ne e]
            by_cases c : j < 4 * x
            · exact (hs j hj).2 c
            · rw [(hs j hj).1 (by omega), F4 j (by omega) (by omega)]
      refine q_ifne rfl rfl (fun h => ?_) (fun h => ?_)
      · refine q_bipush rfl rfl ?_
        refine q_goto rfl ?_
        exact tl 10 (by rw [F3 x hx, if_pos h])
      · refine q_iconst rfl rfl ?_
        exact tl 0 (by rw [F3 x hx, if_neg h])
  have l1 : ∀ q k : Nat, k + q = 20 → ∀ (T : Nat → pm_E) (nw1 : Nat → Int32), (∀ j, j ≠ 52 → T j = S j) → T 52 = .inl (0, 20, .inl nw1) → (∀ j, j < k → nw1 j = 0) → PQ (j_SL L) (j_SV xs) j_EX mm_X12_firstState 2 [.ref 46, .int (nI k)] [] T n 0 0 (fun r S' n' => r = none ∧ n = n' ∧ (∀ k, k ≠ 52 → S' k = S k) ∧ ∃ nw' : Nat → Int32, S' 52 = .inl (0, 20, .inl nw') ∧ ∀ k, k < 20 → nw' k = frw (nI H) mn vl k) := by
    intro q
    induction q with
    | zero =>
      intro k hk T nw1 eT t52 hs
      have e : k = 20 := by omega
      subst e
      refine q_iload_n rfl rfl rfl ?_
      refine q_bipush rfl rfl ?_
      refine q_icge rfl rfl (fun _ => ?_) (fun h => absurd (by decide) h)
      refine q_iconst rfl rfl ?_
      refine q_ist1n rfl rfl rfl rfl ?_
      exact l2 H 0 (by omega) T nw1 eT t52 (fun j hj => ⟨fun _ => hs j hj, fun h => absurd h (by omega)⟩)
    | succ q ih =>
      intro k hkq T nw1 eT t52 hs
      have hk20 : k < 20 := by omega
      have t46 := (eT 46 (by decide)).trans k46
      refine q_iload_n rfl rfl rfl ?_
      refine q_bipush rfl rfl ?_
      refine q_icge rfl rfl (fun h => absurd h (nI_ge (a := k) (b := 20) hk20 (by decide))) (fun _ => ?_)
      refine q_aload_n rfl rfl rfl ?_
      refine q_getf rfl rfl (by omega) t46 f8 ?_
      refine q_iload_n rfl rfl rfl ?_
      refine q_iconst rfl rfl ?_
      refine q_iast rfl rfl (by omega) t52 (q_inN (by omega) (by decide)) ?_
      refine q_inc1 rfl rfl rfl rfl ?_
      refine q_goto rfl ?_
      rw [nI_clamp (by omega), show nI k + 1 = nI (k + 1) from nI_add k 1]
      refine ih (k + 1) (by omega) _ _ (fun j hj => (zu_ne hj).trans (eT j hj)) zu_eq (fun j hj => ?_)
      by_cases e : j = k
      · rw [e, zd_eq]
      · rw [zd_ne e]
        exact hs j (by omega)
  refine q_iconst rfl rfl ?_
  refine q_ist1n rfl rfl rfl rfl ?_
  exact l1 20 0 rfl S nw (fun _ _ => rfl) k52 (fun j hj => absurd hj (by omega))
set_option maxHeartbeats 4000000 in
theorem l_tof (hG : GS θ S n) : PM (j_SL L) (j_SV xs) j_EX mm_X12_toFirst [.ref 46] S n (fun r S' n' => ∃ fs : List Value, S' 46 = .inr (10, fs) ∧ rwA S' fs) := by
  have hn := gs_n hG
  obtain ⟨mn, fk, fa, fn, fs, k47, k48, k49, k50, k46, m5, m6, f1, hd, hm, hf⟩ := xm_get hG
  obtain ⟨vl, k51, -⟩ := gs_arr hG (k := 51) rfl
  obtain ⟨nw, k52, -⟩ := gs_arr hG (k := 52) rfl
  obtain ⟨rn, k54, -⟩ := gs_arr hG (k := 54) rfl
  have f2 : fs[2]? = some (.ref 47) := fo_ref (hf 2 _ rfl) rfl
  have f6 : fs[6]? = some (.ref 51) := fo_ref (hf 6 _ rfl) rfl
  have f8 : fs[8]? = some (.ref 52) := fo_ref (hf 8 _ rfl) rfl
  have f10 : fs[10]? = some (.ref 54) := fo_ref (hf 10 _ rfl) rfl
  obtain ⟨v7, f7, -⟩ := fo_int (hf 7 _ rfl) rfl
  obtain ⟨H, hH, eH⟩ := nat_of (x := θ.2.2.2.2) (b := 3) (by omega) (by omega)
  rw [eH] at f1
  change PQ (j_SL L) (j_SV xs) j_EX mm_X12_toFirst 0 [.ref 46, pm_un] [] S n 0 0 _
  refine q_aload_n rfl rfl rfl ?_
  refine q_iconst rfl rfl ?_
  refine q_putf rfl rfl (by omega) k46 (List.getElem?_eq_some_iff.mp f7).1 rfl trivial ?_
  have e1 : ∀ j, j ≠ 46 → va_up S 46 (.inr (10, fs.set 7 (.int 0))) j = S j := fun j hj => zu_ne hj
  have x46 : va_up S 46 (.inr (10, fs.set 7 (.int 0))) 46 = .inr (10, fs.set 7 (.int 0)) := zu_eq
  generalize va_up S 46 (.inr (10, fs.set 7 (.int 0))) = S1 at e1 x46 ⊢
  have g : ∀ j, j ≠ 7 → (fs.set 7 (.int 0))[j]? = fs[j]? := fun j hj => List.getElem?_set_ne (fun h => hj h.symm)
  have g7 : (fs.set 7 (.int 0))[7]? = some (.int 0) := List.getElem?_set_self (List.getElem?_eq_some_iff.mp f7).1
  generalize fs.set 7 (.int 0) = gs at x46 g g7
  refine q_aload_n rfl rfl rfl ?_
  refine q_cV rfl rfl (Or.inl rfl) rfl rfl rfl rfl (by omega) x46 trivial rfl rfl rfl rfl rfl (l_frs hn x46 ((g 1 (by decide)).trans f1) ((g 2 (by decide)).trans f2) ((g 6 (by decide)).trans f6) g7 ((g 8 (by decide)).trans f8) ((e1 47 (by decide)).trans k47) ((e1 51 (by decide)).trans k51) ((e1 52 (by decide)).trans k52) hH) ?_
  rintro r S2 _ ⟨rfl, rfl, e2, nw', y52, hrow⟩
  show PQ (j_SL L) (j_SV xs) j_EX mm_X12_toFirst 9 [.ref 46, pm_un] [] S2 n 0 0 _
  have y46 := (e2 46 (by decide)).trans x46
  have loop : ∀ q k : Nat, k + q = 20 → ∀ (T : Nat → pm_E) (r1 : Nat → Int32), (∀ j, j ≠ 54 → T j = S2 j) → T 54 = .inl (0, 20, .inl r1) → (∀ j, j < k → r1 j = nw' j) → PQ (j_SL L) (j_SV xs) j_EX mm_X12_toFirst 11 [.ref 46, .int (nI k)] [] T n 0 0 (fun r S' n' => ∃ fs : List Value, S' 46 = .inr (10, fs) ∧ rwA S' fs) := by
    intro q
    induction q with
    | zero =>
      intro k hk T r1 eT t54 hs
      have e : k = 20 := by omega
      subst e
      refine q_iload_n rfl rfl rfl ?_
      refine q_bipush rfl rfl ?_
      refine q_icge rfl rfl (fun _ => ?_) (fun h => absurd (by decide) h)
      exact q_ret rfl rfl ⟨gs, (eT 46 (by decide)).trans y46, nI H, mn, vl, r1, (g 1 (by decide)).trans f1, (eT 47 (by decide)).trans ((e2 47 (by decide)).trans ((e1 47 (by decide)).trans k47)), (eT 51 (by decide)).trans ((e2 51 (by decide)).trans ((e1 51 (by decide)).trans k51)), t54, fun j hj => (hs j hj).trans (hrow j hj)⟩
    | succ q ih =>
      intro k hkq T r1 eT t54 hs
      have hk20 : k < 20 := by omega
      have t46 := (eT 46 (by decide)).trans y46
      refine q_iload_n rfl rfl rfl ?_
      refine q_bipush rfl rfl ?_
      refine q_icge rfl rfl (fun h => absurd h (nI_ge (a := k) (b := 20) hk20 (by decide))) (fun _ => ?_)
      refine q_aload_n rfl rfl rfl ?_
      refine q_getf rfl rfl (by omega) t46 ((g 10 (by decide)).trans f10) ?_
      refine q_iload_n rfl rfl rfl ?_
      refine q_aload_n rfl rfl rfl ?_
      refine q_getf rfl rfl (by omega) t46 ((g 8 (by decide)).trans f8) ?_
      refine q_iload_n rfl rfl rfl ?_
      refine q_iald rfl rfl (by omega) ((eT 52 (by decide)).trans y52) (q_inN (by omega) (by decide)) (q_tn (z := nw' k) (by rw [nI_clamp (by omega)]) ?_)
      refine q_iast rfl rfl (by omega) t54 (q_inN (by omega) (by decide)) ?_
      refine q_inc1 rfl rfl rfl rfl ?_
      refine q_goto rfl ?_
      rw [nI_clamp (by omega), show nI k + 1 = nI (k + 1) from nI_add k 1]
      refine ih (k + 1) (by omega) _ _ (fun j hj => (zu_ne hj).trans (eT j hj)) zu_eq (fun j hj => ?_)
      by_cases e : j = k
      · rw [e, zd_eq]
      · rw [zd_ne e]
        exact hs j (by omega)
  refine q_iconst rfl rfl ?_
  refine q_ist1n rfl rfl rfl rfl ?_
  exact loop 20 0 rfl S2 rn (fun _ _ => rfl) ((e2 54 (by decide)).trans ((e1 54 (by decide)).trans k54)) (fun j hj => absurd hj (by omega))
set_option maxHeartbeats 4000000 in
theorem l_chz (hG : GS θ S n) : PM (j_SL L) (j_SV xs) j_EX mm_X12_changed [.ref 46] S n (fun r S' n' => zr 62 S') := by
  have hn := gs_n hG
  obtain ⟨fs, k46, hf⟩ := gs_obj hG (k := 46) rfl
  change PQ (j_SL L) (j_SV xs) j_EX mm_X12_changed 0 [.ref 46, pm_un] [] S n 0 0 _
  refine q_aload_n rfl rfl rfl ?_
  refine q_cV rfl rfl (Or.inl rfl) rfl rfl rfl rfl (by omega) k46 trivial rfl rfl rfl rfl rfl (pm_and (pm_weak (q_kc w165 [] hG ⟨rfl, trivial⟩ ck_en_n (fun d hd => by cases hd)) (fun r S9 n9 h => kc_void rfl h)) (l_tof hG)) ?_
  rintro r S1 n9 ⟨⟨en, rfl, hG1, -⟩, S2, eh, fs2, a46, hrw⟩
  obtain rfl := en.symm
  have c46 : S1 46 = .inr (10, fs2) := (hp_cell (by omega) eh).trans a46
  have hrw1 : rwA S1 fs2 := rwA_c hrw (hp_cell (by omega) eh) (hp_cell (by omega) eh) (hp_cell (by omega) eh)
  obtain ⟨fs1, h461, hf1⟩ := gs_obj hG1 (k := 46) rfl
  have ef := (Prod.mk.inj (Sum.inr.inj (h461.symm.trans c46))).2
  subst ef
  obtain ⟨f74, k74, -⟩ := gs_arr hG1 (k := 74) rfl
  obtain ⟨f62, k62, -⟩ := gs_arr hG1 (k := 62) rfl
  have g33 : fs1[33]? = some (.ref 74) := fo_ref (hf1 33 _ rfl) rfl
  have g19 : fs1[19]? = some (.ref 62) := fo_ref (hf1 19 _ rfl) rfl
  obtain ⟨v34, g34, -⟩ := fo_int (hf1 34 _ rfl) rfl
  obtain ⟨v18, g18, -⟩ := fo_int (hf1 18 _ rfl) rfl
  show PQ (j_SL L) (j_SV xs) j_EX mm_X12_changed 4 [.ref 46, pm_un] [] S1 n 0 0 _
  have loop2 : ∀ q k : Nat, k + q = 5 → ∀ (T1 T : Nat → pm_E) (gs : List Value) (g tl : Nat → Int32), T1 46 = .inr (10, gs) → gs[19]? = some (.ref 62) → gs[18]? = some (.int v18) → gs[34]? = some (.int 0) → rwA T1 gs → T1 74 = .inl (0, 40, .inl tl) → (∀ k, k < 40 → tl k = -2) → (∀ j, j ≠ 62 → T j = T1 j) → T 62 = .inl (0, 5, .inl g) → (∀ j, j < k → g j = 0) → PQ (j_SL L) (j_SV xs) j_EX mm_X12_changed 33 [.ref 46, .int (nI k)] [] T n 0 0 (fun r S' n' => zr 62 S') := by
    intro q
    induction q with
    | zero =>
      intro k hk T1 T gs g tl t46 e19 e18 e34 hrw t74 htl eT t62 hz
      have e : k = 5 := by omega
      subst e
      have u46 := (eT 46 (by decide)).trans t46
      refine q_iload_n rfl rfl rfl ?_
      refine q_iconst rfl rfl ?_
      refine q_icge rfl rfl (fun _ => ?_) (fun h => absurd (by decide) h)
      refine q_aload_n rfl rfl rfl ?_
      refine q_iconst rfl rfl ?_
      refine q_putf rfl rfl (by omega) u46 (List.getElem?_eq_some_iff.mp e18).1 rfl rfl ?_
      refine q_ret rfl rfl ⟨⟨g, (zu_ne (by decide)).trans t62, hz⟩, fun _ => ?_, fun h => absurd h (by decide)⟩
      obtain ⟨hd, mn, vl, rn, f1, h47, h51, h54, hr⟩ := hrw
      exact ⟨_, tl, zu_eq, (List.getElem?_set_ne (by decide)).trans e34, ⟨hd, mn, vl, rn, (List.getElem?_set_ne (by decide)).trans f1, (zu_ne (by decide)).trans ((eT 47 (by decide)).trans h47), (zu_ne (by decide)).trans ((eT 51 (by decide)).trans h51), (zu_ne (by decide)).trans ((eT 54 (by decide)).trans h54), hr⟩, (zu_ne (by decide)).trans ((eT 74 (by decide)).trans t74), htl⟩
    | succ q ih =>
      intro k hkq T1 T gs g tl t46 e19 e18 e34 hrw t74 htl eT t62 hz
      have u46 := (eT 46 (by decide)).trans t46
      refine q_iload_n rfl rfl rfl ?_
      refine q_iconst rfl rfl ?_
      refine q_icge rfl rfl (fun h => absurd h (nI_ge (a := k) (b := 5) (by omega) (by decide))) (fun _ => ?_)
      refine q_aload_n rfl rfl rfl ?_
      refine q_getf rfl rfl (by omega) u46 e19 ?_
      refine q_iload_n rfl rfl rfl ?_
      refine q_iconst rfl rfl ?_
      refine q_iast rfl rfl (by omega) t62 (q_inN (by omega) (by decide)) ?_
      refine q_inc1 rfl rfl rfl rfl ?_
      refine q_goto rfl ?_
      rw [nI_clamp (by omega), show nI k + 1 = nI (k + 1) from nI_add k 1]
      refine ih (k + 1) (by omega) T1 _ gs _ tl t46 e19 e18 e34 hrw t74 htl (fun j hj => (zu_ne hj).trans (eT j hj)) zu_eq (fun j hj => ?_)
      by_cases e : j = k
      · rw [e, zd_eq]
      · rw [zd_ne e]
        exact hz j (by omega)
  have loop1 : ∀ q k : Nat, k + q = 40 → ∀ (T : Nat → pm_E) (g : Nat → Int32), (∀ j, j ≠ 74 → T j = S1 j) → T 74 = .inl (0, 40, .inl g) → (∀ j, j < k → g j = -2) → PQ (j_SL L) (j_SV xs) j_EX mm_X12_changed 6 [.ref 46, .int (nI k)] [] T n 0 0 (fun r S' n' => zr 62 S') := by
    intro q
    induction q with
    | zero =>
      intro k hk T g eT t74 hz
      have e : k = 40 := by omega
      subst e
      have t46 := (eT 46 (by decide)).trans h461
      refine q_iload_n rfl rfl rfl ?_
      refine q_bipush rfl rfl ?_
      refine q_icge rfl rfl (fun _ => ?_) (fun h => absurd (by decide) h)
      refine q_aload_n rfl rfl rfl ?_
      refine q_iconst rfl rfl ?_
      refine q_putf rfl rfl (by omega) t46 (List.getElem?_eq_some_iff.mp g34).1 rfl trivial ?_
      refine q_iconst rfl rfl ?_
      refine q_ist1n rfl rfl rfl rfl ?_
      refine loop2 5 0 rfl _ _ _ f62 g zu_eq ((List.getElem?_set_ne (by decide)).trans g19) ((List.getElem?_set_ne (by decide)).trans g18) (List.getElem?_set_self (List.getElem?_eq_some_iff.mp g34).1) ?_ ((zu_ne (by decide)).trans t74) hz (fun _ _ => rfl) ((zu_ne (by decide)).trans ((eT 62 (by decide)).trans k62)) (fun j hj => absurd hj (by omega))
      obtain ⟨hd, mn, vl, rn, f1, h47, h51, h54, hr⟩ := hrw1
      exact ⟨hd, mn, vl, rn, (List.getElem?_set_ne (by decide)).trans f1, (zu_ne (by decide)).trans ((eT 47 (by decide)).trans h47), (zu_ne (by decide)).trans ((eT 51 (by decide)).trans h51), (zu_ne (by decide)).trans ((eT 54 (by decide)).trans h54), hr⟩
    | succ q ih =>
      intro k hkq T g eT t74 hz
      have t46 := (eT 46 (by decide)).trans h461
      refine q_iload_n rfl rfl rfl ?_
      refine q_bipush rfl rfl ?_
      refine q_icge rfl rfl (fun h => absurd h (nI_ge (a := k) (b := 40) (by omega) (by decide))) (fun _ => ?_)
      refine q_aload_n rfl rfl rfl ?_
      refine q_getf rfl rfl (by omega) t46 g33 ?_
      refine q_iload_n rfl rfl rfl ?_
      refine q_bipush rfl rfl ?_
      refine q_iast rfl rfl (by omega) t74 (q_inN (by omega) (by decide)) ?_
      refine q_inc1 rfl rfl rfl rfl ?_
      refine q_goto rfl ?_
      rw [nI_clamp (by omega), show nI k + 1 = nI (k + 1) from nI_add k 1]
      refine ih (k + 1) (by omega) _ _ (fun j hj => (zu_ne hj).trans (eT j hj)) zu_eq (fun j hj => ?_)
      by_cases e : j = k
      · rw [e, zd_eq]
      · rw [zd_ne e]
        exact hz j (by omega)
  refine q_iconst rfl rfl ?_
  refine q_ist1n rfl rfl rfl rfl ?_
  exact loop1 40 0 rfl S1 f74 (fun _ _ => rfl) k74 (fun j hj => absurd hj (by omega))
end ZQ
