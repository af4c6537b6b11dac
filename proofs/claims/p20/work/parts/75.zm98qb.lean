/-! fix: the class drafts a program with a lock put in -/
section QB9
variable {P : PG} {S S' : Nat → pm_E} {n l c d x i m k q : Nat} {p v : Nat} {L : Nat} {xs : Nat → Int32} {ls : Nat → List ST9} {s : ST9} {ln l4 l5 l6 : Nat → Int32}
def fI9 (c : Nat) : Int32 := jv2.getD c 0
def tI9 (c : Nat) : Int32 := jv3.getD c 0
def wI9 (c : Nat) : Int32 := jv4.getD c 0
theorem tb9 : ∀ c : Fin 11, fI9 c.val = (if c.val = 0 then -2 else nI (fr9 c.val)) ∧ tI9 c.val = (if c.val = 0 then -2 else nI (to9 c.val)) ∧ wI9 c.val = nI (wi9 c.val) ∧ fr9 c.val ≤ 9 ∧ to9 c.val ≤ 9 ∧ wi9 c.val ≤ 4 := by decide +kernel
theorem fI_e (hc : c < 11) : fI9 c = if c = 0 then -2 else nI (fr9 c) := (tb9 ⟨c, hc⟩).1
theorem tI_e (hc : c < 11) : tI9 c = if c = 0 then -2 else nI (to9 c) := (tb9 ⟨c, hc⟩).2.1
theorem wI_e (hc : c < 11) : wI9 c = nI (wi9 c) := (tb9 ⟨c, hc⟩).2.2.1
theorem f_9 (hc : c < 11) : fr9 c ≤ 9 ∧ to9 c ≤ 9 ∧ wi9 c ≤ 4 := (tb9 ⟨c, hc⟩).2.2.2
theorem nI_n2 {j : Nat} (hj : j < 2 ^ 31) : nI j ≠ -2 := fun e => by
  have h9 := congrArg Int32.toInt e
  rw [nI_toInt hj] at h9
  have h8 : (-2 : Int32).toInt = -2 := rfl
  omega
theorem i_eqf (hc : c < 11) (hi : i < 2 ^ 31) : nI i = fI9 c ↔ c ≠ 0 ∧ i = fr9 c := by
  have := f_9 hc
  rw [fI_e hc]
  by_cases c0 : c = 0
  · rw [if_pos c0]
    exact ⟨fun e => absurd e (nI_n2 hi), fun e => absurd c0 e.1⟩
  · rw [if_neg c0, m_eq hi (by omega)]
    exact ⟨fun e => ⟨c0, e⟩, fun e => e.2⟩
theorem i_eqt (hc : c < 11) (hi : i < 2 ^ 31) : nI i = tI9 c ↔ c ≠ 0 ∧ i = to9 c := by
  have := f_9 hc
  rw [tI_e hc]
  by_cases c0 : c = 0
  · rw [if_pos c0]
    exact ⟨fun e => absurd e (nI_n2 hi), fun e => absurd c0 e.1⟩
  · rw [if_neg c0, m_eq hi (by omega)]
    exact ⟨fun e => ⟨c0, e⟩, fun e => e.2⟩
theorem dv11 : ∀ q : Fin 121, nI q.val / 11 = nI (q.val / 11) ∧ nI q.val - nI q.val / 11 * 11 = nI (q.val % 11) := by decide +kernel
/-- a hand's statements in the draft's arrays -/
def HL9 (ln l4 l5 l6 : Nat → Int32) (x : Nat) (l : List ST9) : Prop := l.length ≤ 8 ∧ ln x = nI l.length ∧ ∀ j s, l[j]? = some s → l4 (8 * x + j) = nI s.1 ∧ l5 (8 * x + j) = s.2.1 ∧ l6 (8 * x + j) = s.2.2
theorem hl_app {l : List ST9} (h : HL9 ln l4 l5 l6 x l) (h8 : l.length < 8) : HL9 (upd ln x (nI (l.length + 1))) (upd l4 (8 * x + l.length) (nI s.1)) (upd l5 (8 * x + l.length) s.2.1) (upd l6 (8 * x + l.length) s.2.2) x (l ++ [s]) := by
  obtain ⟨h1, h2, h3⟩ := h
  have e : (l ++ [s]).length = l.length + 1 := by rw [List.length_append]; rfl
  refine ⟨by omega, by rw [u32_at, e], fun j s' hj => ?_⟩
  rcases Nat.lt_trichotomy j l.length with c | c | c
  · rw [List.getElem?_append_left c] at hj
    rw [u32_ot (by omega), u32_ot (by omega), u32_ot (by omega)]
    exact h3 j s' hj
  · subst c
    rw [List.getElem?_append_right (Nat.le_refl _), Nat.sub_self] at hj
    have e9 : s = s' := by
      have h9 : some s = some s' := hj
      exact Option.some.inj h9
    rw [u32_at, u32_at, u32_at, e9]
    exact ⟨rfl, rfl, rfl⟩
  · rw [List.getElem?_eq_none (by rw [e]; omega)] at hj
    cases hj
theorem hl_ot {l : List ST9} {x' m : Nat} {a b c e : Int32} (h : HL9 ln l4 l5 l6 x l) (hne : x ≠ x') (hm : m < 8) : HL9 (upd ln x' e) (upd l4 (8 * x' + m) a) (upd l5 (8 * x' + m) b) (upd l6 (8 * x' + m) c) x l := by
  obtain ⟨h1, h2, h3⟩ := h
  refine ⟨h1, by rw [u32_ot hne]; exact h2, fun j s' hj => ?_⟩
  have hj' := (List.getElem?_eq_some_iff.mp hj).1
  rw [u32_ot (by omega), u32_ot (by omega), u32_ot (by omega)]
  exact h3 j s' hj
def uL9 (ls : Nat → List ST9) (x : Nat) (l : List ST9) : Nat → List ST9 := fun y => if y = x then l else ls y
theorem uL_eq {l : List ST9} : uL9 ls x l x = l := if_pos rfl
theorem uL_ne {l : List ST9} {y : Nat} (h : y ≠ x) : uL9 ls x l y = ls y := if_neg h
theorem uL_uL {l l' : List ST9} : uL9 (uL9 ls x l) x l' = uL9 ls x l' := by
  funext y
  unfold uL9
  split <;> rfl
/-- the class's draft -/
def DR9 (P : PG) (ls : Nat → List ST9) (S : Nat → pm_E) : Prop := ∃ (fs : List Value) (fa ln l4 l5 l6 : Nat → Int32), S 33 = .inr (6, fs) ∧ fs[0]? = some (.int (nI 2)) ∧ fs[1]? = some (.ref 34) ∧ fs[2]? = some (.ref 35) ∧ fs[3]? = some (.ref 36) ∧ fs[4]? = some (.ref 37) ∧ fs[5]? = some (.ref 38) ∧ S 34 = .inl (0, 4, .inl fa) ∧ S 35 = .inl (0, 3, .inl ln) ∧ S 36 = .inl (0, 24, .inl l4) ∧ S 37 = .inl (0, 24, .inl l5) ∧ S 38 = .inl (0, 24, .inl l6) ∧ (∀ p, p < 4 → fa p = nI (pV P p)) ∧ ∀ x, x < 2 → HL9 ln l4 l5 l6 x (ls x)
def frD (S S' : Nat → pm_E) : Prop := ∀ j, j < 33 ∨ 39 ≤ j → S' j = S j
theorem frD_t {S1 S2 S3 : Nat → pm_E} (h : frD S1 S2) (h' : frD S2 S3) : frD S1 S3 := fun j hj => (h' j hj).trans (h j hj)
def DK (S : Nat → pm_E) (n : Nat) (Q : (Nat → pm_E) → Prop) : q_K := fun r S' n' => r = none ∧ n = n' ∧ frD S S' ∧ Q S'
theorem h_hand9 {fs : List Value} (hn : 82 ≤ n) (k33 : S 33 = .inr (6, fs)) (f0 : fs[0]? = some (.int (nI 2))) (hx : x < 2) : PM (j_SL L) (j_SV xs) j_EX mm_X8_hasHand [.ref 33, .int (nI x)] S n (fun r S' n' => S = S' ∧ n = n' ∧ r = some (.int 1)) := by
  change PQ (j_SL L) (j_SV xs) j_EX mm_X8_hasHand 0 [.ref 33, .int (nI x)] [] S n 0 0 _
  refine q_iload_n rfl rfl rfl ?_
  refine q_iflt rfl rfl (fun c => absurd c (m_n0 (by omega))) (fun _ => ?_)
  refine q_iload_n rfl rfl rfl ?_
  refine q_aload_n rfl rfl rfl ?_
  refine q_getf rfl rfl (by omega) k33 f0 ?_
  refine q_icge rfl rfl (fun c => absurd c (nI_ge (a := x) (b := 2) hx (by decide))) (fun _ => ?_)
  refine q_iconst rfl rfl ?_
  refine q_goto rfl ?_
  exact q_iret rfl rfl rfl ⟨rfl, rfl, rfl⟩
set_option maxHeartbeats 4000000 in
theorem c_app9 (hn : 82 ≤ n) (hx : x < 2) (h8 : (ls x).length < 8) (H : DR9 P ls S) : PM (j_SL L) (j_SV xs) j_EX mm_X8_append [.ref 33, .int (nI x), .int (nI s.1), .int s.2.1, .int s.2.2] S n (DK S n (DR9 P (uL9 ls x (ls x ++ [s])))) := by
  obtain ⟨fs, fa, ln, l4, l5, l6, k33, f0, f1, f2, f3, f4, f5, k34, k35, k36, k37, k38, hfa, hls⟩ := H
  have fr : ∀ j, j < 33 ∨ 39 ≤ j → S j = S j := fun _ _ => rfl
  obtain ⟨b1, b2, b3⟩ := hls x hx
  change PQ (j_SL L) (j_SV xs) j_EX mm_X8_append 0 [.ref 33, .int (nI x), .int (nI s.1), .int s.2.1, .int s.2.2, pm_un] [] S n 0 0 _
  refine q_aload_n rfl rfl rfl ?_
  refine q_iload_n rfl rfl rfl ?_
  refine q_cV rfl rfl (Or.inl rfl) rfl rfl rfl rfl (by omega) k33 trivial rfl rfl rfl rfl rfl (h_hand9 hn k33 f0 hx) ?_
  rintro r _ _ ⟨rfl, rfl, rfl⟩
  show PQ (j_SL L) (j_SV xs) j_EX mm_X8_append 5 [.ref 33, .int (nI x), .int (nI s.1), .int s.2.1, .int s.2.2, pm_un] [.int 1] S n 0 0 _
  refine q_ifeq rfl rfl (fun c => absurd c (by decide)) (fun _ => ?_)
  refine q_aload_n rfl rfl rfl ?_
  refine q_getf rfl rfl (by omega) k33 f2 ?_
  refine q_iload_n rfl rfl rfl ?_
  refine q_iald rfl rfl (by omega) k35 (q_inN (by omega) (by decide)) (q_tn (z := nI (ls x).length) (by rw [nI_clamp (by omega)]; exact b2) ?_)
  refine q_bipush rfl rfl ?_
  refine q_iclt rfl rfl (fun _ => ?_) (fun c => absurd (show nI (ls x).length < nI 8 from (m_lt (by omega) (by omega)).mpr h8) c)
  refine q_iload_n rfl rfl rfl ?_
  refine q_bipush rfl rfl ?_
  refine q_imul rfl rfl (q_tn (z := nI (8 * x)) (by rw [show (8 : Int32) = nI 8 from rfl, pk_mul, Nat.mul_comm]) ?_)
  refine q_aload_n rfl rfl rfl ?_
  refine q_getf rfl rfl (by omega) k33 f2 ?_
  refine q_iload_n rfl rfl rfl ?_
  refine q_iald rfl rfl (by omega) k35 (q_inN (by omega) (by decide)) (q_tn (z := nI (ls x).length) (by rw [nI_clamp (by omega)]; exact b2) ?_)
  refine q_iadd rfl rfl (q_tn (z := nI (8 * x + (ls x).length)) (nI_add _ _) ?_)
  refine q_ist5 rfl rfl rfl rfl ?_
  refine q_aload_n rfl rfl rfl ?_
  refine q_getf rfl rfl (by omega) k33 f3 ?_
  refine q_iload rfl rfl rfl ?_
  refine q_iload_n rfl rfl rfl ?_
  refine q_iast rfl rfl (by omega) k36 (q_inN (by omega) (by decide)) ?_
  rw [nI_clamp (by omega)]
  have e1 : ∀ j, j ≠ 36 → va_up S 36 (.inl (0, 24, .inl (upd l4 ((8 * x + (ls x).length)) (nI s.1)))) j = S j := fun j hj => u_ne hj
  have x1 : va_up S 36 (.inl (0, 24, .inl (upd l4 ((8 * x + (ls x).length)) (nI s.1)))) 36 = .inl (0, 24, .inl (upd l4 ((8 * x + (ls x).length)) (nI s.1))) := u_eq
  generalize va_up S 36 (.inl (0, 24, .inl (upd l4 ((8 * x + (ls x).length)) (nI s.1)))) = S1 at e1 x1 ⊢
  have k33 := (e1 33 (by decide)).trans k33
  have k34 := (e1 34 (by decide)).trans k34
  have k35 := (e1 35 (by decide)).trans k35
  have k37 := (e1 37 (by decide)).trans k37
  have k38 := (e1 38 (by decide)).trans k38
  have fr : ∀ j, j < 33 ∨ 39 ≤ j → S1 j = S j := fun j hj => (e1 j (by omega)).trans (fr j hj)
  refine q_aload_n rfl rfl rfl ?_
  refine q_getf rfl rfl (by omega) k33 f4 ?_
  refine q_iload rfl rfl rfl ?_
  refine q_iload_n rfl rfl rfl ?_
  refine q_iast rfl rfl (by omega) k37 (q_inN (by omega) (by decide)) ?_
  rw [nI_clamp (by omega)]
  have e2 : ∀ j, j ≠ 37 → va_up S1 37 (.inl (0, 24, .inl (upd l5 ((8 * x + (ls x).length)) (s.2.1)))) j = S1 j := fun j hj => u_ne hj
  have x2 : va_up S1 37 (.inl (0, 24, .inl (upd l5 ((8 * x + (ls x).length)) (s.2.1)))) 37 = .inl (0, 24, .inl (upd l5 ((8 * x + (ls x).length)) (s.2.1))) := u_eq
  generalize va_up S1 37 (.inl (0, 24, .inl (upd l5 ((8 * x + (ls x).length)) (s.2.1)))) = S2 at e2 x2 ⊢
  have k33 := (e2 33 (by decide)).trans k33
  have k34 := (e2 34 (by decide)).trans k34
  have k35 := (e2 35 (by decide)).trans k35
  have x1 := (e2 36 (by decide)).trans x1
  have k38 := (e2 38 (by decide)).trans k38
  have fr : ∀ j, j < 33 ∨ 39 ≤ j → S2 j = S j := fun j hj => (e2 j (by omega)).trans (fr j hj)
  refine q_aload_n rfl rfl rfl ?_
  refine q_getf rfl rfl (by omega) k33 f5 ?_
  refine q_iload rfl rfl rfl ?_
  refine q_iload rfl rfl rfl ?_
  refine q_iast rfl rfl (by omega) k38 (q_inN (by omega) (by decide)) ?_
  rw [nI_clamp (by omega)]
  have e3 : ∀ j, j ≠ 38 → va_up S2 38 (.inl (0, 24, .inl (upd l6 ((8 * x + (ls x).length)) (s.2.2)))) j = S2 j := fun j hj => u_ne hj
  have x3 : va_up S2 38 (.inl (0, 24, .inl (upd l6 ((8 * x + (ls x).length)) (s.2.2)))) 38 = .inl (0, 24, .inl (upd l6 ((8 * x + (ls x).length)) (s.2.2))) := u_eq
  generalize va_up S2 38 (.inl (0, 24, .inl (upd l6 ((8 * x + (ls x).length)) (s.2.2)))) = S3 at e3 x3 ⊢
  have k33 := (e3 33 (by decide)).trans k33
  have k34 := (e3 34 (by decide)).trans k34
  have k35 := (e3 35 (by decide)).trans k35
  have x1 := (e3 36 (by decide)).trans x1
  have x2 := (e3 37 (by decide)).trans x2
  have fr : ∀ j, j < 33 ∨ 39 ≤ j → S3 j = S j := fun j hj => (e3 j (by omega)).trans (fr j hj)
  refine q_aload_n rfl rfl rfl ?_
  refine q_getf rfl rfl (by omega) k33 f2 ?_
  refine q_iload_n rfl rfl rfl ?_
  refine q_dup2 rfl rfl ?_
  refine q_iald rfl rfl (by omega) k35 (q_inN (by omega) (by decide)) (q_tn (z := nI (ls x).length) (by rw [nI_clamp (by omega)]; exact b2) ?_)
  refine q_iconst rfl rfl ?_
  refine q_iadd rfl rfl (q_tn (z := nI ((ls x).length + 1)) (nI_add _ 1) ?_)
  refine q_iast rfl rfl (by omega) k35 (q_inN (by omega) (by decide)) ?_
  rw [nI_clamp (by omega)]
  have e4 : ∀ j, j ≠ 35 → va_up S3 35 (.inl (0, 3, .inl (upd ln x (nI ((ls x).length + 1))))) j = S3 j := fun j hj => u_ne hj
  have x4 : va_up S3 35 (.inl (0, 3, .inl (upd ln x (nI ((ls x).length + 1))))) 35 = .inl (0, 3, .inl (upd ln x (nI ((ls x).length + 1)))) := u_eq
  generalize va_up S3 35 (.inl (0, 3, .inl (upd ln x (nI ((ls x).length + 1))))) = S4 at e4 x4 ⊢
  have k33 := (e4 33 (by decide)).trans k33
  have k34 := (e4 34 (by decide)).trans k34
  have x1 := (e4 36 (by decide)).trans x1
  have x2 := (e4 37 (by decide)).trans x2
  have x3 := (e4 38 (by decide)).trans x3
  have fr : ∀ j, j < 33 ∨ 39 ≤ j → S4 j = S j := fun j hj => (e4 j (by omega)).trans (fr j hj)
  refine q_ret rfl rfl ⟨rfl, rfl, fr, _, _, _, _, _, _, k33, f0, f1, f2, f3, f4, f5, k34, x4, x1, x2, x3, hfa, fun y hy => ?_⟩
  by_cases e : y = x
  · subst e
    rw [uL_eq]
    exact hl_app (hls y hy) h8
  · rw [uL_ne e]
    exact hl_ot (hls y hy) e h8
theorem c_ren9 {fs : List Value} {fa ln : Nat → Int32} {w0 : Value} (hn : 82 ≤ n) (k33 : S 33 = .inr (6, fs)) (f0 : fs[0]? = some w0) (f1 : fs[1]? = some (.ref 34)) (f2 : fs[2]? = some (.ref 35)) (k34 : S 34 = .inl (0, 4, .inl fa)) (k35 : S 35 = .inl (0, 3, .inl ln)) : PM (j_SL L) (j_SV xs) j_EX mm_X8_renew [.ref 33, .int 2] S n (fun r S' n' => r = none ∧ n = n' ∧ (∀ j, j ≠ 33 → j ≠ 34 → j ≠ 35 → S' j = S j) ∧ S' 33 = .inr (6, fs.set 0 (.int 2)) ∧ S' 34 = .inl (0, 4, .inl (nfk fa 0 0 4)) ∧ S' 35 = .inl (0, 3, .inl (nfk ln 0 0 3))) := by
  have fr : ∀ j, j ≠ 33 ∧ j ≠ 34 ∧ j ≠ 35 → S j = S j := fun _ _ => rfl
  change PQ (j_SL L) (j_SV xs) j_EX mm_X8_renew 0 [.ref 33, .int 2] [] S n 0 0 _
  refine q_aload_n rfl rfl rfl ?_
  refine q_iload_n rfl rfl rfl ?_
  refine q_putf rfl rfl (by omega) k33 (List.getElem?_eq_some_iff.mp f0).1 rfl trivial ?_
  have e5 : ∀ j, j ≠ 33 → va_up S 33 (.inr (6, (fs).set 0 (.int 2))) j = S j := fun j hj => u_ne hj
  have x5 : va_up S 33 (.inr (6, (fs).set 0 (.int 2))) 33 = .inr (6, (fs).set 0 (.int 2)) := u_eq
  generalize va_up S 33 (.inr (6, (fs).set 0 (.int 2))) = S5 at e5 x5 ⊢
  have k34 := (e5 34 (by decide)).trans k34
  have k35 := (e5 35 (by decide)).trans k35
  have fr : ∀ j, j ≠ 33 ∧ j ≠ 34 ∧ j ≠ 35 → S5 j = S j := fun j hj => (e5 j (by omega)).trans (fr j hj)
  refine q_aload_n rfl rfl rfl ?_
  refine q_getf rfl rfl (by omega) x5 ((os_ne (by decide)).trans f2) ?_
  refine q_iconst rfl rfl ?_
  refine q_cS rfl rfl (Or.inl rfl) rfl rfl trivial rfl rfl rfl rfl rfl (l_fl9 (k := 35) (by omega) k35 (by decide)) ?_
  rintro r _ n9 ⟨rfl, eV, rfl⟩
  subst eV
  show PQ (j_SL L) (j_SV xs) j_EX mm_X8_renew 13 [.ref 33, .int 2] [] (va_up S5 35 (.inl (0, 3, .inl (nfk ln 0 0 3)))) n 0 0 _
  have e6 : ∀ j, j ≠ 35 → va_up S5 35 (.inl (0, 3, .inl (nfk ln 0 0 3))) j = S5 j := fun j hj => u_ne hj
  have x6 : va_up S5 35 (.inl (0, 3, .inl (nfk ln 0 0 3))) 35 = .inl (0, 3, .inl (nfk ln 0 0 3)) := u_eq
  generalize va_up S5 35 (.inl (0, 3, .inl (nfk ln 0 0 3))) = S6 at e6 x6 ⊢
  have x5 := (e6 33 (by decide)).trans x5
  have k34 := (e6 34 (by decide)).trans k34
  have fr : ∀ j, j ≠ 33 ∧ j ≠ 34 ∧ j ≠ 35 → S6 j = S j := fun j hj => (e6 j (by omega)).trans (fr j hj)
  refine q_aload_n rfl rfl rfl ?_
  refine q_getf rfl rfl (by omega) x5 ((os_ne (by decide)).trans f1) ?_
  refine q_iconst rfl rfl ?_
  refine q_cS rfl rfl (Or.inl rfl) rfl rfl trivial rfl rfl rfl rfl rfl (l_fl9 (k := 34) (by omega) k34 (by decide)) ?_
  rintro r _ n9 ⟨rfl, eV, rfl⟩
  subst eV
  show PQ (j_SL L) (j_SV xs) j_EX mm_X8_renew 21 [.ref 33, .int 2] [] (va_up S6 34 (.inl (0, 4, .inl (nfk fa 0 0 4)))) n 0 0 _
  have e7 : ∀ j, j ≠ 34 → va_up S6 34 (.inl (0, 4, .inl (nfk fa 0 0 4))) j = S6 j := fun j hj => u_ne hj
  have x7 : va_up S6 34 (.inl (0, 4, .inl (nfk fa 0 0 4))) 34 = .inl (0, 4, .inl (nfk fa 0 0 4)) := u_eq
  generalize va_up S6 34 (.inl (0, 4, .inl (nfk fa 0 0 4))) = S7 at e7 x7 ⊢
  have x5 := (e7 33 (by decide)).trans x5
  have x6 := (e7 35 (by decide)).trans x6
  have fr : ∀ j, j ≠ 33 ∧ j ≠ 34 ∧ j ≠ 35 → S7 j = S j := fun j hj => (e7 j (by omega)).trans (fr j hj)
  exact q_ret rfl rfl ⟨rfl, rfl, fun j a b c => fr j ⟨a, b, c⟩, x5, x7, x6⟩
theorem c_led9 (hc : c < 11) (hm : m ≤ 8) : PM (j_SL L) (j_SV xs) j_EX mm_X1_ledTo [.int (nI m), .int (nI c)] S n (fun r S' n' => S = S' ∧ n = n' ∧ r = some (.int (if c ≠ 0 then nI (led9 c m) else nI m))) := by
  have h9 := f_9 hc
  change PQ (j_SL L) (j_SV xs) j_EX mm_X1_ledTo 0 [.int (nI m), .int (nI c)] [] S n 0 0 _
  refine q_iload_n rfl rfl rfl ?_
  by_cases c0 : c = 0
  · subst c0
    refine q_fne rfl rfl (fun c9 => absurd rfl c9) (fun _ => ?_)
    refine q_iload_n rfl rfl rfl ?_
    exact q_iret rfl rfl trivial ⟨rfl, rfl, by rw [if_neg (fun h => h rfl)]⟩
  refine q_fne rfl rfl (fun _ => ?_) (fun c9 => absurd (fun e => c0 ((m_eq (b := 0) (by omega) (by decide)).mp e)) c9)
  rw [if_pos c0]
  refine q_iload_n rfl rfl rfl ?_
  refine q_iload_n rfl rfl rfl ?_
  refine q_gets rfl rfl ?_
  refine q_iload_n rfl rfl rfl ?_
  refine q_ialdX rfl rfl (in11_2 (by omega)) (x := nI (fr9 c)) (by rw [nI_clamp (by omega)]; show fI9 c = _; rw [fI_e hc, if_neg c0]) ?_
  have two : ∀ z : Nat, z ≤ 20 → PQ (j_SL L) (j_SV xs) j_EX mm_X1_ledTo 22 [.int (nI m), .int (nI c)] [.int (nI z)] S n 0 0 (fun r S' n' => S = S' ∧ n = n' ∧ r = some (.int (nI (z + if to9 c < m then 1 else 0)))) := by
    intro z hz
    refine q_iload_n rfl rfl rfl ?_
    refine q_gets rfl rfl ?_
    refine q_iload_n rfl rfl rfl ?_
    refine q_ialdX rfl rfl (in11_3 (by omega)) (x := nI (to9 c)) (by rw [nI_clamp (by omega)]; show tI9 c = _; rw [tI_e hc, if_neg c0]) ?_
    by_cases e : to9 c < m
    · refine q_icle rfl rfl (fun c9 => absurd ((m_le (by omega) (by omega)).mp c9) (by omega)) (fun _ => ?_)
      refine q_iconst rfl rfl ?_
      refine q_goto rfl ?_
      refine q_iadd rfl rfl (q_tn (z := nI (z + 1)) (nI_add z 1) ?_)
      exact q_iret rfl rfl trivial ⟨rfl, rfl, by rw [if_pos e]⟩
    · refine q_icle rfl rfl (fun _ => ?_) (fun c9 => absurd ((m_le (by omega) (by omega)).mpr (by omega)) c9)
      refine q_iconst rfl rfl ?_
      refine q_iadd rfl rfl (q_tn (z := nI (z + 0)) (nI_add z 0) ?_)
      exact q_iret rfl rfl trivial ⟨rfl, rfl, by rw [if_neg e]⟩
  by_cases e : fr9 c < m
  · refine q_icle rfl rfl (fun c9 => absurd ((m_le (by omega) (by omega)).mp c9) (by omega)) (fun _ => ?_)
    refine q_iconst rfl rfl ?_
    refine q_goto rfl ?_
    refine q_iadd rfl rfl (q_tn (z := nI (m + 1)) (nI_add m 1) ?_)
    refine q_weak (two (m + 1) (by omega)) ?_
    rintro r V k9 ⟨e1, e2, e3⟩
    exact ⟨e1, e2, by rw [e3]; unfold led9; rw [if_pos e, Nat.add_assoc]⟩
  · refine q_icle rfl rfl (fun _ => ?_) (fun c9 => absurd ((m_le (by omega) (by omega)).mpr (by omega)) c9)
    refine q_iconst rfl rfl ?_
    refine q_iadd rfl rfl (q_tn (z := nI (m + 0)) (nI_add m 0) ?_)
    refine q_weak (two (m + 0) (by omega)) ?_
    rintro r V k9 ⟨e1, e2, e3⟩
    exact ⟨e1, e2, by rw [e3]; unfold led9; rw [if_neg e, Nat.add_assoc]⟩
theorem jpc_D (h : JPc 1 P S) (e : frD S S') : JPc 1 P S' := by
  obtain ⟨fs, fa, ln, l4, l5, l6, k0, h1, h2, h3, h4, h5, h6, k1, k2, k3, k4, k5, h7⟩ := h
  exact ⟨fs, fa, ln, l4, l5, l6, (e 1 (by omega)).trans k0, h1, h2, h3, h4, h5, h6, (e 2 (by omega)).trans k1, (e 3 (by omega)).trans k2, (e 4 (by omega)).trans k3, (e 5 (by omega)).trans k4, (e 6 (by omega)).trans k5, h7⟩
set_option maxHeartbeats 8000000 in
theorem c_dh9 {gs : List Value} (hW : WFP P) (hJ8 : J8 P) (h2 : pH P = 2) (h4 : ∀ x, x < 2 → pL P x ≤ 4) (hl : l < 3) (hn : 82 ≤ n) (hj : JPc 1 P S) (k32 : S 32 = .inr (0, gs)) (g2 : gs[2]? = some (.ref 1)) (g4 : gs[4]? = some (.ref 33)) (hx : x < 2) (hc : c < 11) (h0 : ls x = []) (H : DR9 P ls S) : PM (j_SL L) (j_SV xs) j_EX mm_X1_draftHand [.ref 32, .int (nI x), .int (nI l), .int (nI c)] S n (DK S n (DR9 P (uL9 ls x (ds9 P l c x (pL P x))))) := by
  have h4x := h4 x hx
  change PQ (j_SL L) (j_SV xs) j_EX mm_X1_draftHand 0 [.ref 32, .int (nI x), .int (nI l), .int (nI c), pm_un, pm_un, pm_un, pm_un, pm_un] [] S n 0 0 _
  have loop : ∀ q i : Nat, i + q = pL P x → ∀ (T : Nat → pm_E) (a5 a6 a7 a8 : Value), pm_c2 a5 = false → pm_c2 a6 = false → pm_c2 a7 = false → frD S T → DR9 P (uL9 ls x (ds9 P l c x i)) T → PQ (j_SL L) (j_SV xs) j_EX mm_X1_draftHand 3 [.ref 32, .int (nI x), .int (nI l), .int (nI c), .int (nI i), a5, a6, a7, a8] [] T n 0 0 (DK S n (DR9 P (uL9 ls x (ds9 P l c x (pL P x))))) := by
    intro q
    induction q with
    | zero =>
      intro i hi T a5 a6 a7 a8 b5 b6 b7 eT H
      have e : i = pL P x := by omega
      subst e
      have jT := jpc_D hj eT
      obtain ⟨os1, y1, -⟩ := p_obj jT
      have y32 := (eT 32 (by omega)).trans k32
      refine q_iload rfl rfl rfl ?_
      refine q_aload_n rfl rfl rfl ?_
      refine q_getf rfl rfl (by omega) y32 g2 ?_
      refine q_iload_n rfl rfl rfl ?_
      refine q_cV rfl rfl (Or.inl rfl) rfl rfl rfl rfl (by omega) y1 trivial rfl rfl rfl rfl rfl (p_len hW (by omega) jT (by omega)) ?_
      rintro r _ _ ⟨rfl, rfl, rfl⟩
      show PQ (j_SL L) (j_SV xs) j_EX mm_X1_draftHand 13 [.ref 32, .int (nI x), .int (nI l), .int (nI c), .int (nI (pL P x)), a5, a6, a7, a8] [.int (nI (pL P x)), .int (nI (pL P x))] T n 0 0 _
      refine q_icge rfl rfl (fun _ => ?_) (fun c => absurd (Int32.le_refl _) c)
      exact q_ret rfl rfl ⟨rfl, rfl, eT, H⟩
    | succ q ih =>
      intro i hiq T a5 a6 a7 a8 b5 b6 b7 eT H
      have hi : i < pL P x := by omega
      have jT := jpc_D hj eT
      obtain ⟨os1, y1, -⟩ := p_obj jT
      have y32 := (eT 32 (by omega)).trans k32
      have hok := ok_st (c := c) hW hJ8 (by omega) hi
      refine q_iload rfl rfl rfl ?_
      refine q_aload_n rfl rfl rfl ?_
      refine q_getf rfl rfl (by omega) y32 g2 ?_
      refine q_iload_n rfl rfl rfl ?_
      refine q_cV rfl rfl (Or.inl rfl) rfl rfl rfl rfl (by omega) y1 trivial rfl rfl rfl rfl rfl (p_len hW (by omega) jT (by omega)) ?_
      rintro r _ _ ⟨rfl, rfl, rfl⟩
      show PQ (j_SL L) (j_SV xs) j_EX mm_X1_draftHand 13 [.ref 32, .int (nI x), .int (nI l), .int (nI c), .int (nI i), a5, a6, a7, a8] [.int (nI (pL P x)), .int (nI i)] T n 0 0 _
      refine q_icge rfl rfl (fun c => absurd c (nI_ge (a := i) (b := pL P x) (by omega) (by omega))) (fun _ => ?_)
      refine q_iload rfl rfl rfl ?_
      refine q_gets rfl rfl ?_
      refine q_iload_n rfl rfl rfl ?_
      refine q_ialdX rfl rfl (in11_2 (by omega)) (x := fI9 c) (by rw [nI_clamp (by omega)]; rfl) ?_
      have mid : ∀ T : Nat → pm_E, frD S T → DR9 P (uL9 ls x (ds9 P l c x i ++ ent9 l c i)) T → PQ (j_SL L) (j_SV xs) j_EX mm_X1_draftHand 38 [.ref 32, .int (nI x), .int (nI l), .int (nI c), .int (nI i), a5, a6, a7, a8] [] T n 0 0 (DK S n (DR9 P (uL9 ls x (ds9 P l c x (pL P x))))) := by
        clear jT y1 y32 eT H os1
        intro T eT H
        have jT := jpc_D hj eT
        obtain ⟨os1, y1, -⟩ := p_obj jT
        have y32 := (eT 32 (by omega)).trans k32
        refine q_aload_n rfl rfl rfl ?_
        refine q_getf rfl rfl (by omega) y32 g2 ?_
        refine q_iload_n rfl rfl rfl ?_
        refine q_iload rfl rfl rfl ?_
        refine q_cV rfl rfl (Or.inl rfl) rfl rfl rfl rfl (by omega) y1 trivial rfl rfl rfl rfl rfl (p_cell hW (by omega) jT (by omega) (by omega)) ?_
        rintro r _ _ ⟨rfl, rfl, hr⟩
        rcases hr with ⟨-, rfl⟩ | ⟨hr, -⟩
        rotate_left
        · omega
        show PQ (j_SL L) (j_SV xs) j_EX mm_X1_draftHand 48 [.ref 32, .int (nI x), .int (nI l), .int (nI c), .int (nI i), a5, a6, a7, a8] [.int (nI (8 * x + i))] T n 0 0 _
        refine q_ist5 rfl rfl rfl rfl ?_
        refine q_aload_n rfl rfl rfl ?_
        refine q_getf rfl rfl (by omega) y32 g2 ?_
        refine q_iload rfl rfl rfl ?_
        refine q_cV rfl rfl (Or.inl rfl) rfl rfl rfl rfl (by omega) y1 trivial rfl rfl rfl rfl rfl (p_kind hW (by omega) jT (by omega) hi) ?_
        rintro r _ _ ⟨rfl, rfl, rfl⟩
        show PQ (j_SL L) (j_SV xs) j_EX mm_X1_draftHand 59 [.ref 32, .int (nI x), .int (nI l), .int (nI c), .int (nI i), .int (nI (8 * x + i)), a6, a7, a8] [.int (nI (pK P x i))] T n 0 0 _
        refine q_ist6 rfl rfl rfl rfl ?_
        refine q_aload_n rfl rfl rfl ?_
        refine q_getf rfl rfl (by omega) y32 g2 ?_
        refine q_iload rfl rfl rfl ?_
        refine q_cV rfl rfl (Or.inl rfl) rfl rfl rfl rfl (by omega) y1 trivial rfl rfl rfl rfl rfl (p_numb hW (by omega) jT (by omega) hi) ?_
        rintro r _ _ ⟨rfl, rfl, rfl⟩
        show PQ (j_SL L) (j_SV xs) j_EX mm_X1_draftHand 70 [.ref 32, .int (nI x), .int (nI l), .int (nI c), .int (nI i), .int (nI (8 * x + i)), .int (nI (pK P x i)), a7, a8] [.int (pN P x i)] T n 0 0 _
        refine q_ist7 rfl rfl rfl rfl ?_
        refine q_iload rfl rfl rfl ?_
        refine q_iconst rfl rfl ?_
        have app : PQ (j_SL L) (j_SV xs) j_EX mm_X1_draftHand 89 [.ref 32, .int (nI x), .int (nI l), .int (nI c), .int (nI i), .int (nI (8 * x + i)), .int (nI (pK P x i)), .int (pN P x i), a8] [.int (num9 P c x i)] T n 0 0 (DK S n (DR9 P (uL9 ls x (ds9 P l c x (pL P x))))) := by
          refine q_ist8 rfl rfl rfl rfl ?_
          refine q_aload_n rfl rfl rfl ?_
          refine q_getf rfl rfl (by omega) y32 g4 ?_
          refine q_iload_n rfl rfl rfl ?_
          refine q_iload rfl rfl rfl ?_
          refine q_aload_n rfl rfl rfl ?_
          refine q_getf rfl rfl (by omega) y32 g2 ?_
          refine q_iload rfl rfl rfl ?_
          refine q_cV rfl rfl (Or.inl rfl) rfl rfl rfl rfl (by omega) y1 trivial rfl rfl rfl rfl rfl (p_oper hW (by omega) jT (by omega) hi) ?_
          rintro r _ _ ⟨rfl, rfl, rfl⟩
          show PQ (j_SL L) (j_SV xs) j_EX mm_X1_draftHand 107 [.ref 32, .int (nI x), .int (nI l), .int (nI c), .int (nI i), .int (nI (8 * x + i)), .int (nI (pK P x i)), .int (pN P x i), .int (num9 P c x i)] [.int (pO P x i), .int (nI (pK P x i)), .int (nI x), .ref 33] T n 0 0 _
          refine q_iload rfl rfl rfl ?_
          obtain ⟨ds0, fa9, ln9, l49, l59, l69, z33, -⟩ := id H
          have h6 := ds_sub (P := P) (l := l) (c := c) (x := x) (k := i) (m := pL P x) h4x (by omega)
          have h7 := ds_le (P := P) (l := l) (c := c) (x := x) (m := pL P x) h4x
          have h8 := ent_len (l := l) (c := c) (i := i)
          have h9 : (ent9 l c i).length ≤ 1 := by
            rw [h8]
            split <;> omega
          refine q_cV rfl rfl (Or.inl rfl) rfl rfl rfl rfl (by omega) z33 trivial rfl rfl rfl rfl rfl (c_app9 (s := (pK P x i, pO P x i, num9 P c x i)) hn hx (by rw [uL_eq, List.length_append]; omega) H) ?_
          rintro r V _ ⟨rfl, rfl, eV, hV⟩
          show PQ (j_SL L) (j_SV xs) j_EX mm_X1_draftHand 112 [.ref 32, .int (nI x), .int (nI l), .int (nI c), .int (nI i), .int (nI (8 * x + i)), .int (nI (pK P x i)), .int (pN P x i), .int (num9 P c x i)] [] V n 0 0 _
          rw [uL_eq, uL_uL] at hV
          have eV := frD_t eT eV
          have x32 := (eV 32 (by omega)).trans k32
          refine q_iload rfl rfl rfl ?_
          refine q_gets rfl rfl ?_
          refine q_iload_n rfl rfl rfl ?_
          refine q_ialdX rfl rfl (in11_3 (by omega)) (x := tI9 c) (by rw [nI_clamp (by omega)]; rfl) ?_
          have nx9 : ∀ W : Nat → pm_E, frD S W → DR9 P (uL9 ls x (ds9 P l c x (i + 1))) W → PQ (j_SL L) (j_SV xs) j_EX mm_X1_draftHand 134 [.ref 32, .int (nI x), .int (nI l), .int (nI c), .int (nI i), .int (nI (8 * x + i)), .int (nI (pK P x i)), .int (pN P x i), .int (num9 P c x i)] [] W n 0 0 (DK S n (DR9 P (uL9 ls x (ds9 P l c x (pL P x))))) := by
            intro W eW hW9
            refine q_icc4 rfl rfl rfl rfl (z := nI (i + 1)) (nI_add i 1) ?_
            refine q_goto rfl ?_
            exact ih (i + 1) (by omega) W _ _ _ _ rfl rfl rfl eW hW9
          have eds : ds9 P l c x (i + 1) = ds9 P l c x i ++ ent9 l c i ++ [(pK P x i, pO P x i, num9 P c x i)] ++ lev9 l c i := rfl
          by_cases e : c ≠ 0 ∧ i = to9 c
          · refine q_cne rfl rfl (fun c9 => absurd ((i_eqt hc (by omega)).mpr e) c9) (fun _ => ?_)
            obtain ⟨ds1, fa8, ln8, l48, l58, l68, w33, -⟩ := id hV
            refine q_aload_n rfl rfl rfl ?_
            refine q_getf rfl rfl (by omega) x32 g4 ?_
            refine q_iload_n rfl rfl rfl ?_
            refine q_bipush rfl rfl ?_
            refine q_iload_n rfl rfl rfl ?_
            refine q_iconst rfl rfl ?_
            have h10 := ds_len (P := P) (l := l) (c := c) (x := x) i
            have ha : ds9 P l c x i ++ ent9 l c i ++ [(pK P x i, pO P x i, num9 P c x i)] ++ [((9 : Nat), nI l, (0 : Int32))] = ds9 P l c x (i + 1) := by
              rw [eds]
              unfold lev9
              rw [if_pos e]
            have hb : (ds9 P l c x (i + 1)).length ≤ 6 := ds_le (by omega)
            have hlen := congrArg List.length ha
            rw [List.length_append] at hlen
            refine q_cV rfl rfl (Or.inl rfl) rfl rfl rfl rfl (by omega) w33 trivial rfl rfl rfl rfl rfl (c_app9 (s := (9, nI l, 0)) hn hx (by rw [uL_eq]; have h99 : ([((9 : Nat), nI l, (0 : Int32))] : List ST9).length = 1 := rfl; omega) hV) ?_
            rintro r W _ ⟨rfl, rfl, eW, hW9⟩
            show PQ (j_SL L) (j_SV xs) j_EX mm_X1_draftHand 134 [.ref 32, .int (nI x), .int (nI l), .int (nI c), .int (nI i), .int (nI (8 * x + i)), .int (nI (pK P x i)), .int (pN P x i), .int (num9 P c x i)] [] W n 0 0 _
            rw [uL_eq, uL_uL, ha] at hW9
            exact nx9 W (frD_t eV eW) hW9
          · refine q_cne rfl rfl (fun _ => ?_) (fun c9 => absurd (fun c8 => e ((i_eqt hc (by omega)).mp c8)) c9)
            refine nx9 V eV ?_
            rw [eds]
            unfold lev9
            rw [if_neg e, List.append_nil]
            exact hV
        by_cases ek : pK P x i = 4
        · refine q_cne rfl rfl (fun c9 => absurd (by rw [ek]; rfl) c9) (fun _ => ?_)
          obtain ⟨mm, hm8, em⟩ := hJ8 x i (by omega) hi ek
          refine q_iload rfl rfl rfl ?_
          refine q_iload_n rfl rfl rfl ?_
          refine q_cS rfl rfl (Or.inl rfl) rfl rfl trivial rfl rfl rfl rfl rfl (by rw [em]; exact c_led9 hc hm8) ?_
          rintro r _ _ ⟨rfl, rfl, rfl⟩
          show PQ (j_SL L) (j_SV xs) j_EX mm_X1_draftHand 84 [.ref 32, .int (nI x), .int (nI l), .int (nI c), .int (nI i), .int (nI (8 * x + i)), .int (nI (pK P x i)), .int (pN P x i), a8] [.int (if c ≠ 0 then nI (led9 c mm) else nI mm)] T n 0 0 _
          have en : num9 P c x i = (if c ≠ 0 then nI (led9 c mm) else nI mm) := by
            unfold num9
            rw [em, nI_clamp (by omega)]
            by_cases c0 : c = 0
            · rw [if_neg (fun h => h.2 c0), if_neg (fun h => h c0)]
            · rw [if_pos ⟨ek, c0⟩, if_pos c0]
          rw [← en]
          refine q_goto rfl ?_
          exact app
        · refine q_cne rfl rfl (fun _ => ?_) (fun c9 => absurd (fun c8 => ek ((m_eq (b := 4) (by have := hok.1; dsimp only at this; omega) (by decide)).mp c8)) c9)
          refine q_iload rfl rfl rfl ?_
          have en : num9 P c x i = pN P x i := by
            unfold num9
            rw [if_neg (fun h => ek h.1)]
          exact q_tn en.symm app
      by_cases e : c ≠ 0 ∧ i = fr9 c
      · refine q_cne rfl rfl (fun c9 => absurd ((i_eqf hc (by omega)).mpr e) c9) (fun _ => ?_)
        obtain ⟨ds1, fa8, ln8, l48, l58, l68, w33, -⟩ := id H
        refine q_aload_n rfl rfl rfl ?_
        refine q_getf rfl rfl (by omega) y32 g4 ?_
        refine q_iload_n rfl rfl rfl ?_
        refine q_bipush rfl rfl ?_
        refine q_iload_n rfl rfl rfl ?_
        refine q_iconst rfl rfl ?_
        have h6 := ds_sub (P := P) (l := l) (c := c) (x := x) (k := i) (m := pL P x) h4x (by omega)
        have h7 := ds_le (P := P) (l := l) (c := c) (x := x) (m := pL P x) h4x
        refine q_cV rfl rfl (Or.inl rfl) rfl rfl rfl rfl (by omega) w33 trivial rfl rfl rfl rfl rfl (c_app9 (s := (8, nI l, 0)) hn hx (by rw [uL_eq]; omega) H) ?_
        rintro r V _ ⟨rfl, rfl, eV, hV⟩
        show PQ (j_SL L) (j_SV xs) j_EX mm_X1_draftHand 38 [.ref 32, .int (nI x), .int (nI l), .int (nI c), .int (nI i), a5, a6, a7, a8] [] V n 0 0 _
        rw [uL_eq, uL_uL] at hV
        refine mid V (frD_t eT eV) ?_
        unfold ent9
        rw [if_pos e]
        exact hV
      · refine q_cne rfl rfl (fun _ => ?_) (fun c9 => absurd (fun c8 => e ((i_eqf hc (by omega)).mp c8)) c9)
        refine mid T eT ?_
        unfold ent9
        rw [if_neg e, List.append_nil]
        exact H
  refine q_iconst rfl rfl ?_
  refine q_ist4 rfl rfl rfl rfl ?_
  refine loop (pL P x) 0 (by omega) S _ _ _ _ rfl rfl rfl (fun _ _ => rfl) ?_
  have e : uL9 ls x (ds9 P l c x 0) = ls := by
    funext y
    unfold uL9
    split
    · rename_i h
      rw [h, h0]
      rfl
    · rfl
  rw [e]
  exact H
end QB9
