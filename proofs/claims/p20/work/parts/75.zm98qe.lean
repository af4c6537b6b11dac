/-! fix: the reference lays a lock -/
section QE9
variable {P : PG} {S S' T W : Nat → pm_E} {n l c d x i m k q t : Nat} {p v : Nat} {L : Nat} {xs : Nat → Int32} {gs : List Value} {mn fk fa fn : Nat → Int32}
set_option maxHeartbeats 4000000 in
theorem r_cf9 (hc : c < 11) : PM (j_SL L) (j_SV xs) j_EX mm_X12_choiceFrom [.ref 46, .int (nI c)] S n (fun r S' n' => S = S' ∧ n = n' ∧ r = some (.int (fI9 c))) := by
  change PQ (j_SL L) (j_SV xs) j_EX mm_X12_choiceFrom 0 [.ref 46, .int (nI c)] [] S n 0 0 _
  refine q_iload_n rfl rfl rfl ?_
  by_cases c0 : c = 0
  · subst c0
    refine q_fne rfl rfl (fun c9 => absurd rfl c9) (fun _ => ?_)
    refine q_bipush rfl rfl ?_
    refine q_goto rfl ?_
    exact q_iret rfl rfl trivial ⟨rfl, rfl, rfl⟩
  refine q_fne rfl rfl (fun _ => ?_) (fun c9 => absurd (fun h => c0 ((m_eq (b := 0) (by omega) (by decide)).mp h)) c9)
  refine q_iload_n rfl rfl rfl ?_
  refine q_iconst rfl rfl ?_
  by_cases c5 : c < 5
  · refine q_icge rfl rfl (fun c9 => absurd ((m_le (a := 5) (by decide) (by omega)).mp c9) (by omega)) (fun _ => ?_)
    refine q_iconst rfl rfl ?_
    refine q_goto rfl ?_
    exact q_iret rfl rfl trivial ⟨rfl, rfl, congrArg (fun z => some (Value.int z)) ((show ∀ j : Fin 11, 1 ≤ j.val → j.val < 5 → (0 : Int32) = fI9 j.val from by decide +kernel) ⟨c, hc⟩ (by dsimp only; omega) c5)⟩
  refine q_icge rfl rfl (fun _ => ?_) (fun c9 => absurd ((m_le (a := 5) (by decide) (by omega)).mpr (by omega)) c9)
  refine q_iload_n rfl rfl rfl ?_
  refine q_bipush rfl rfl ?_
  by_cases c8 : c < 8
  · refine q_icge rfl rfl (fun c9 => absurd ((m_le (a := 8) (by decide) (by omega)).mp c9) (by omega)) (fun _ => ?_)
    refine q_iconst rfl rfl ?_
    refine q_goto rfl ?_
    exact q_iret rfl rfl trivial ⟨rfl, rfl, congrArg (fun z => some (Value.int z)) ((show ∀ j : Fin 11, 5 ≤ j.val → j.val < 8 → (1 : Int32) = fI9 j.val from by decide +kernel) ⟨c, hc⟩ (by dsimp only; omega) c8)⟩
  refine q_icge rfl rfl (fun _ => ?_) (fun c9 => absurd ((m_le (a := 8) (by decide) (by omega)).mpr (by omega)) c9)
  refine q_iload_n rfl rfl rfl ?_
  refine q_bipush rfl rfl ?_
  by_cases c10 : c < 10
  · refine q_icge rfl rfl (fun c9 => absurd ((m_le (a := 10) (by decide) (by omega)).mp c9) (by omega)) (fun _ => ?_)
    refine q_iconst rfl rfl ?_
    refine q_goto rfl ?_
    exact q_iret rfl rfl trivial ⟨rfl, rfl, congrArg (fun z => some (Value.int z)) ((show ∀ j : Fin 11, 8 ≤ j.val → j.val < 10 → (2 : Int32) = fI9 j.val from by decide +kernel) ⟨c, hc⟩ (by dsimp only; omega) c10)⟩
  refine q_icge rfl rfl (fun _ => ?_) (fun c9 => absurd ((m_le (a := 10) (by decide) (by omega)).mpr (by omega)) c9)
  refine q_iconst rfl rfl ?_
  have e : c = 10 := by omega
  subst e
  exact q_iret rfl rfl trivial ⟨rfl, rfl, rfl⟩
set_option maxHeartbeats 4000000 in
theorem r_ct9 (hc : c < 11) : PM (j_SL L) (j_SV xs) j_EX mm_X12_choiceTo [.ref 46, .int (nI c)] S n (fun r S' n' => S = S' ∧ n = n' ∧ r = some (.int (tI9 c))) := by
  change PQ (j_SL L) (j_SV xs) j_EX mm_X12_choiceTo 0 [.ref 46, .int (nI c)] [] S n 0 0 _
  refine q_iload_n rfl rfl rfl ?_
  by_cases c0 : c = 0
  · subst c0
    refine q_fne rfl rfl (fun c9 => absurd rfl c9) (fun _ => ?_)
    refine q_bipush rfl rfl ?_
    refine q_goto rfl ?_
    exact q_iret rfl rfl trivial ⟨rfl, rfl, rfl⟩
  refine q_fne rfl rfl (fun _ => ?_) (fun c9 => absurd (fun h => c0 ((m_eq (b := 0) (by omega) (by decide)).mp h)) c9)
  refine q_iload_n rfl rfl rfl ?_
  refine q_iconst rfl rfl ?_
  by_cases c5 : c < 5
  · refine q_icge rfl rfl (fun c9 => absurd ((m_le (a := 5) (by decide) (by omega)).mp c9) (by omega)) (fun _ => ?_)
    refine q_iload_n rfl rfl rfl ?_
    refine q_iconst rfl rfl ?_
    refine q_isub rfl rfl ?_
    refine q_goto rfl ?_
    exact q_iret rfl rfl trivial ⟨rfl, rfl, congrArg (fun z => some (Value.int z)) ((show ∀ j : Fin 11, 1 ≤ j.val → j.val < 5 → nI j.val - 1 = tI9 j.val from by decide +kernel) ⟨c, hc⟩ (by dsimp only; omega) c5)⟩
  refine q_icge rfl rfl (fun _ => ?_) (fun c9 => absurd ((m_le (a := 5) (by decide) (by omega)).mpr (by omega)) c9)
  refine q_iload_n rfl rfl rfl ?_
  refine q_bipush rfl rfl ?_
  by_cases c8 : c < 8
  · refine q_icge rfl rfl (fun c9 => absurd ((m_le (a := 8) (by decide) (by omega)).mp c9) (by omega)) (fun _ => ?_)
    refine q_iload_n rfl rfl rfl ?_
    refine q_iconst rfl rfl ?_
    refine q_isub rfl rfl ?_
    refine q_goto rfl ?_
    exact q_iret rfl rfl trivial ⟨rfl, rfl, congrArg (fun z => some (Value.int z)) ((show ∀ j : Fin 11, 5 ≤ j.val → j.val < 8 → nI j.val - 4 = tI9 j.val from by decide +kernel) ⟨c, hc⟩ (by dsimp only; omega) c8)⟩
  refine q_icge rfl rfl (fun _ => ?_) (fun c9 => absurd ((m_le (a := 8) (by decide) (by omega)).mpr (by omega)) c9)
  refine q_iload_n rfl rfl rfl ?_
  refine q_bipush rfl rfl ?_
  by_cases c10 : c < 10
  · refine q_icge rfl rfl (fun c9 => absurd ((m_le (a := 10) (by decide) (by omega)).mp c9) (by omega)) (fun _ => ?_)
    refine q_iload_n rfl rfl rfl ?_
    refine q_bipush rfl rfl ?_
    refine q_isub rfl rfl ?_
    refine q_goto rfl ?_
    exact q_iret rfl rfl trivial ⟨rfl, rfl, congrArg (fun z => some (Value.int z)) ((show ∀ j : Fin 11, 8 ≤ j.val → j.val < 10 → nI j.val - 6 = tI9 j.val from by decide +kernel) ⟨c, hc⟩ (by dsimp only; omega) c10)⟩
  refine q_icge rfl rfl (fun _ => ?_) (fun c9 => absurd ((m_le (a := 10) (by decide) (by omega)).mpr (by omega)) c9)
  refine q_iconst rfl rfl ?_
  have e : c = 10 := by omega
  subst e
  exact q_iret rfl rfl trivial ⟨rfl, rfl, rfl⟩
set_option maxHeartbeats 4000000 in
theorem r_wi9 {fs : List Value} (hc : c < 11) (hn : 82 ≤ n) (k46 : S 46 = .inr (10, fs)) : PM (j_SL L) (j_SV xs) j_EX mm_X12_within [.ref 46, .int (nI c)] S n (fun r S' n' => S = S' ∧ n = n' ∧ r = some (.int (nI (wi9 c)))) := by
  change PQ (j_SL L) (j_SV xs) j_EX mm_X12_within 0 [.ref 46, .int (nI c)] [] S n 0 0 _
  refine q_iload_n rfl rfl rfl ?_
  by_cases c0 : c = 0
  · subst c0
    refine q_fne rfl rfl (fun c9 => absurd rfl c9) (fun _ => ?_)
    refine q_iconst rfl rfl ?_
    refine q_goto rfl ?_
    exact q_iret rfl rfl trivial ⟨rfl, rfl, rfl⟩
  refine q_fne rfl rfl (fun _ => ?_) (fun c9 => absurd (fun h => c0 ((m_eq (b := 0) (by omega) (by decide)).mp h)) c9)
  refine q_aload_n rfl rfl rfl ?_
  refine q_iload_n rfl rfl rfl ?_
  refine q_cV rfl rfl (Or.inl rfl) rfl rfl rfl rfl (by omega) k46 trivial rfl rfl rfl rfl rfl (r_ct9 hc) ?_
  rintro r _ _ ⟨rfl, rfl, rfl⟩
  show PQ (j_SL L) (j_SV xs) j_EX mm_X12_within 13 [.ref 46, .int (nI c)] [.int (tI9 c)] S n 0 0 _
  refine q_aload_n rfl rfl rfl ?_
  refine q_iload_n rfl rfl rfl ?_
  refine q_cV rfl rfl (Or.inl rfl) rfl rfl rfl rfl (by omega) k46 trivial rfl rfl rfl rfl rfl (r_cf9 hc) ?_
  rintro r _ _ ⟨rfl, rfl, rfl⟩
  show PQ (j_SL L) (j_SV xs) j_EX mm_X12_within 18 [.ref 46, .int (nI c)] [.int (fI9 c), .int (tI9 c)] S n 0 0 _
  refine q_isub rfl rfl ?_
  refine q_iconst rfl rfl ?_
  refine q_iadd rfl rfl ?_
  exact q_iret rfl rfl trivial ⟨rfl, rfl, congrArg (fun z => some (Value.int z)) ((show ∀ j : Fin 11, ¬ j.val = 0 → tI9 j.val - fI9 j.val + 1 = nI (wi9 j.val) from by decide +kernel) ⟨c, hc⟩ c0)⟩
set_option maxHeartbeats 4000000 in
theorem r_lay {fs : List Value} {a b e : Int32} (hk : k < 48) (hn : 82 ≤ n) (k46 : S 46 = .inr (10, fs)) (f3 : fs[3]? = some (.ref 48)) (f4 : fs[4]? = some (.ref 49)) (f5 : fs[5]? = some (.ref 50)) (k48 : S 48 = .inl (0, 48, .inl fk)) (k49 : S 49 = .inl (0, 48, .inl fa)) (k50 : S 50 = .inl (0, 48, .inl fn)) : PM (j_SL L) (j_SV xs) j_EX mm_X12_lay [.ref 46, .int (nI k), .int a, .int b, .int e] S n (fun r S' n' => r = none ∧ n = n' ∧ (∀ j, j ≠ 48 ∧ j ≠ 49 ∧ j ≠ 50 → S' j = S j) ∧ S' 48 = .inl (0, 48, .inl (upd fk k a)) ∧ S' 49 = .inl (0, 48, .inl (upd fa k b)) ∧ S' 50 = .inl (0, 48, .inl (upd fn k e))) := by
  have fr : ∀ j, j ≠ 48 ∧ j ≠ 49 ∧ j ≠ 50 → S j = S j := fun _ _ => rfl
  change PQ (j_SL L) (j_SV xs) j_EX mm_X12_lay 0 [.ref 46, .int (nI k), .int a, .int b, .int e] [] S n 0 0 _
  refine q_aload_n rfl rfl rfl ?_
  refine q_getf rfl rfl (by omega) k46 f3 ?_
  refine q_iload_n rfl rfl rfl ?_
  refine q_iload_n rfl rfl rfl ?_
  refine q_iast rfl rfl (by omega) k48 (q_inN (by omega) (by decide)) ?_
  rw [nI_clamp (by omega)]
  have e1 : ∀ j, j ≠ 48 → va_up S 48 (.inl (0, 48, .inl (upd fk k a))) j = S j := fun j hj => u_ne hj
  have x1 : va_up S 48 (.inl (0, 48, .inl (upd fk k a))) 48 = .inl (0, 48, .inl (upd fk k a)) := u_eq
  generalize va_up S 48 (.inl (0, 48, .inl (upd fk k a))) = S1 at e1 x1 ⊢
  have k46 := (e1 46 (by decide)).trans k46
  have k49 := (e1 49 (by decide)).trans k49
  have k50 := (e1 50 (by decide)).trans k50
  have fr : ∀ j, j ≠ 48 ∧ j ≠ 49 ∧ j ≠ 50 → S1 j = S j := fun j hj => (e1 j (by omega)).trans (fr j hj)
  refine q_aload_n rfl rfl rfl ?_
  refine q_getf rfl rfl (by omega) k46 f4 ?_
  refine q_iload_n rfl rfl rfl ?_
  refine q_iload_n rfl rfl rfl ?_
  refine q_iast rfl rfl (by omega) k49 (q_inN (by omega) (by decide)) ?_
  rw [nI_clamp (by omega)]
  have e2 : ∀ j, j ≠ 49 → va_up S1 49 (.inl (0, 48, .inl (upd fa k b))) j = S1 j := fun j hj => u_ne hj
  have x2 : va_up S1 49 (.inl (0, 48, .inl (upd fa k b))) 49 = .inl (0, 48, .inl (upd fa k b)) := u_eq
  generalize va_up S1 49 (.inl (0, 48, .inl (upd fa k b))) = S2 at e2 x2 ⊢
  have k46 := (e2 46 (by decide)).trans k46
  have x1 := (e2 48 (by decide)).trans x1
  have k50 := (e2 50 (by decide)).trans k50
  have fr : ∀ j, j ≠ 48 ∧ j ≠ 49 ∧ j ≠ 50 → S2 j = S j := fun j hj => (e2 j (by omega)).trans (fr j hj)
  refine q_aload_n rfl rfl rfl ?_
  refine q_getf rfl rfl (by omega) k46 f5 ?_
  refine q_iload_n rfl rfl rfl ?_
  refine q_iload rfl rfl rfl ?_
  refine q_iast rfl rfl (by omega) k50 (q_inN (by omega) (by decide)) ?_
  rw [nI_clamp (by omega)]
  have e3 : ∀ j, j ≠ 50 → va_up S2 50 (.inl (0, 48, .inl (upd fn k e))) j = S2 j := fun j hj => u_ne hj
  have x3 : va_up S2 50 (.inl (0, 48, .inl (upd fn k e))) 50 = .inl (0, 48, .inl (upd fn k e)) := u_eq
  generalize va_up S2 50 (.inl (0, 48, .inl (upd fn k e))) = S3 at e3 x3 ⊢
  have k46 := (e3 46 (by decide)).trans k46
  have x1 := (e3 48 (by decide)).trans x1
  have x2 := (e3 49 (by decide)).trans x2
  have fr : ∀ j, j ≠ 48 ∧ j ≠ 49 ∧ j ≠ 50 → S3 j = S j := fun j hj => (e3 j (by omega)).trans (fr j hj)
  exact q_ret rfl rfl ⟨rfl, rfl, fr, x1, x2, x3⟩
/-- a hand's statements in the reference's rows, from b on -/
def HR9 (fk fa fn : Nat → Int32) (b : Nat) (l : List ST9) : Prop := ∀ j s, l[j]? = some s → fk (b + j) = nI s.1 ∧ fa (b + j) = s.2.1 ∧ fn (b + j) = s.2.2
theorem hr_app {b : Nat} {l : List ST9} {s : ST9} (h : HR9 fk fa fn b l) : HR9 (upd fk (b + l.length) (nI s.1)) (upd fa (b + l.length) s.2.1) (upd fn (b + l.length) s.2.2) b (l ++ [s]) := by
  intro j s' hj
  have e : (l ++ [s]).length = l.length + 1 := by rw [List.length_append]; rfl
  rcases Nat.lt_trichotomy j l.length with c | c | c
  · rw [List.getElem?_append_left c] at hj
    rw [u32_ot (by omega), u32_ot (by omega), u32_ot (by omega)]
    exact h j s' hj
  · subst c
    rw [List.getElem?_append_right (Nat.le_refl _), Nat.sub_self] at hj
    have e9 : s = s' := by
      have h9 : some s = some s' := hj
      exact Option.some.inj h9
    rw [u32_at, u32_at, u32_at, e9]
    exact ⟨rfl, rfl, rfl⟩
  · rw [List.getElem?_eq_none (by rw [e]; omega)] at hj
    cases hj
/-- the reference while a lock is laid: rows below B are as they were -/
def PL9 (B b : Nat) (l : List ST9) (fk fa fn : Nat → Int32) (S T : Nat → pm_E) : Prop := (∀ j, j ≠ 48 ∧ j ≠ 49 ∧ j ≠ 50 → T j = S j) ∧ ∃ gk ga gn : Nat → Int32, T 48 = .inl (0, 48, .inl gk) ∧ T 49 = .inl (0, 48, .inl ga) ∧ T 50 = .inl (0, 48, .inl gn) ∧ (∀ j, j < B → gk j = fk j ∧ ga j = fa j ∧ gn j = fn j) ∧ HR9 gk ga gn b l
def RF46 (fs : List Value) : Prop := fs[2]? = some (.ref 47) ∧ fs[3]? = some (.ref 48) ∧ fs[4]? = some (.ref 49) ∧ fs[5]? = some (.ref 50)
theorem pl_lay {fs : List Value} {b : Nat} {ls : List ST9} {s : ST9} (hb : b + ls.length < 48) (hB : q ≤ b) (hn : 82 ≤ n) (k46 : T 46 = .inr (10, fs)) (hf : RF46 fs) (h : PL9 q b ls fk fa fn S T) : PM (j_SL L) (j_SV xs) j_EX mm_X12_lay [.ref 46, .int (nI (b + ls.length)), .int (nI s.1), .int s.2.1, .int s.2.2] T n (fun r T' n' => r = none ∧ n = n' ∧ PL9 q b (ls ++ [s]) fk fa fn S T') := by
  obtain ⟨e, gk, ga, gn, t48, t49, t50, hlo, hr⟩ := h
  refine pm_weak (r_lay (a := nI s.1) (b := s.2.1) (e := s.2.2) hb hn k46 hf.2.1 hf.2.2.1 hf.2.2.2 t48 t49 t50) (fun r T' n' h => ?_)
  obtain ⟨rfl, rfl, e', a, b', c⟩ := h
  refine ⟨rfl, rfl, fun j hj => (e' j hj).trans (e j hj), _, _, _, a, b', c, fun j hj => ?_, hr_app hr⟩
  rw [u32_ot (by omega), u32_ot (by omega), u32_ot (by omega)]
  exact hlo j hj
theorem fI_p (hc : c < 11) : 0 ≤ fI9 c ↔ c ≠ 0 := by
  have h := (show ∀ j : Fin 11, (0 ≤ fI9 j.val ↔ ¬ j.val = 0) from by decide +kernel) ⟨c, hc⟩
  exact h
theorem sub9 : ∀ x : Fin 2, ∀ m : Fin 8, nI (8 * (3 + x.val) + m.val) - nI (8 * (3 + x.val)) = nI m.val := by decide +kernel
theorem num_0 (h : ¬ (pK P x i = 4 ∧ c ≠ 0)) : pN P x i + 0 = num9 P c x i := by
  unfold num9
  rw [if_neg h]
  exact Int32.add_zero _
set_option maxHeartbeats 16000000 in
theorem r_put9 {fs : List Value} (hW : WFP P) (hJ8 : J8 P) (hxp : x < pH P) (hx : x < 2) (h4 : pL P x ≤ 4) (hl : l < 3) (hc : c < 11) (hn : 82 ≤ n) (k46 : S 46 = .inr (10, fs)) (hf : RF46 fs) (k47 : S 47 = .inl (0, 6, .inl mn)) (k48 : S 48 = .inl (0, 48, .inl fk)) (k49 : S 49 = .inl (0, 48, .inl fa)) (k50 : S 50 = .inl (0, 48, .inl fn)) (hmn : mn x = nI (pL P x)) (hpr : ∀ i, i < pL P x → fk (8 * x + i) = nI (pK P x i) ∧ fa (8 * x + i) = pO P x i ∧ fn (8 * x + i) = pN P x i) : PM (j_SL L) (j_SV xs) j_EX mm_X12_putLock [.ref 46, .int (nI x), .int (nI l), .int (fI9 c), .int (tI9 c)] S n (fun r S' n' => r = none ∧ n = n' ∧ (∀ j, j ≠ 47 ∧ j ≠ 48 ∧ j ≠ 49 ∧ j ≠ 50 → S' j = S j) ∧ S' 47 = .inl (0, 6, .inl (upd mn (3 + x) (nI (ds9 P l c x (pL P x)).length))) ∧ ∃ gk ga gn : Nat → Int32, S' 48 = .inl (0, 48, .inl gk) ∧ S' 49 = .inl (0, 48, .inl ga) ∧ S' 50 = .inl (0, 48, .inl gn) ∧ (∀ j, j < 8 * (3 + x) → gk j = fk j ∧ ga j = fa j ∧ gn j = fn j) ∧ HR9 gk ga gn (8 * (3 + x)) (ds9 P l c x (pL P x))) := by
  obtain ⟨f2, f3, f4, f5⟩ := id hf
  change PQ (j_SL L) (j_SV xs) j_EX mm_X12_putLock 0 [.ref 46, .int (nI x), .int (nI l), .int (fI9 c), .int (tI9 c), pm_un, pm_un, pm_un, pm_un, pm_un] [] S n 0 0 _
  have loop : ∀ q i : Nat, i + q = pL P x → ∀ (T : Nat → pm_E) (a7 a8 a9 : Value), pm_c2 a7 = false → pm_c2 a8 = false → PL9 (8 * (3 + x)) (8 * (3 + x)) (ds9 P l c x i) fk fa fn S T → PQ (j_SL L) (j_SV xs) j_EX mm_X12_putLock 11 [.ref 46, .int (nI x), .int (nI l), .int (fI9 c), .int (tI9 c), .int (nI (8 * (3 + x) + (ds9 P l c x i).length)), .int (nI i), a7, a8, a9] [] T n 0 0 (fun r S' n' => r = none ∧ n = n' ∧ (∀ j, j ≠ 47 ∧ j ≠ 48 ∧ j ≠ 49 ∧ j ≠ 50 → S' j = S j) ∧ S' 47 = .inl (0, 6, .inl (upd mn (3 + x) (nI (ds9 P l c x (pL P x)).length))) ∧ ∃ gk ga gn : Nat → Int32, S' 48 = .inl (0, 48, .inl gk) ∧ S' 49 = .inl (0, 48, .inl ga) ∧ S' 50 = .inl (0, 48, .inl gn) ∧ (∀ j, j < 8 * (3 + x) → gk j = fk j ∧ ga j = fa j ∧ gn j = fn j) ∧ HR9 gk ga gn (8 * (3 + x)) (ds9 P l c x (pL P x))) := by
    intro q
    induction q with
    | zero =>
      intro i hi T a7 a8 a9 b7 b8 hT
      have e : i = pL P x := by omega
      subst e
      have h6 := ds_le (P := P) (l := l) (c := c) (x := x) (m := pL P x) h4
      obtain ⟨eT, gk, ga, gn, t48, t49, t50, hlo, hr⟩ := hT
      have t46 := (eT 46 (by decide)).trans k46
      have t47 := (eT 47 (by decide)).trans k47
      refine q_iload rfl rfl rfl ?_
      refine q_aload_n rfl rfl rfl ?_
      refine q_getf rfl rfl (by omega) t46 f2 ?_
      refine q_iload_n rfl rfl rfl ?_
      refine q_iald rfl rfl (by omega) t47 (q_inN (by omega) (by decide)) (q_tn (z := nI (pL P x)) (by rw [nI_clamp (by omega)]; exact hmn) ?_)
      refine q_icge rfl rfl (fun _ => ?_) (fun c => absurd (Int32.le_refl _) c)
      refine q_aload_n rfl rfl rfl ?_
      refine q_getf rfl rfl (by omega) t46 f2 ?_
      refine q_iconst rfl rfl ?_
      refine q_iload_n rfl rfl rfl ?_
      refine q_iadd rfl rfl (q_tn (z := nI (3 + x)) (nI_add 3 x) ?_)
      refine q_iload rfl rfl rfl ?_
      refine q_bipush rfl rfl ?_
      refine q_iconst rfl rfl ?_
      refine q_iload_n rfl rfl rfl ?_
      refine q_iadd rfl rfl (q_tn (z := nI (3 + x)) (nI_add 3 x) ?_)
      refine q_imul rfl rfl (q_tn (z := nI (8 * (3 + x))) (by rw [show (8 : Int32) = nI 8 from rfl, pk_mul]) ?_)
      refine q_isub rfl rfl (q_tn (z := nI (ds9 P l c x (pL P x)).length) (sub9 ⟨x, hx⟩ ⟨_, by omega⟩) ?_)
      refine q_iast rfl rfl (by omega) t47 (q_inN (by omega) (by decide)) ?_
      rw [nI_clamp (by omega)]
      refine q_ret rfl rfl ⟨rfl, rfl, fun j hj => (u_ne hj.1).trans (eT j hj.2), u_eq, gk, ga, gn, (u_ne (by decide)).trans t48, (u_ne (by decide)).trans t49, (u_ne (by decide)).trans t50, hlo, hr⟩
    | succ q ih =>
      intro i hiq T a7 a8 a9 b7 b8 hT
      have hi : i < pL P x := by omega
      have h6 := ds_le (P := P) (l := l) (c := c) (x := x) (m := pL P x) h4
      have h7 := ds_sub (P := P) (l := l) (c := c) (x := x) (m := pL P x) (k := i + 1) h4 (by omega)
      have h8 : (ds9 P l c x (i + 1)).length = (ds9 P l c x i ++ ent9 l c i ++ [(pK P x i, pO P x i, num9 P c x i)] ++ lev9 l c i).length := rfl
      rw [List.length_append, List.length_append, List.length_append, List.length_singleton] at h8
      have hT9 := hT
      obtain ⟨eT, gk, ga, gn, t48, t49, t50, hlo, hr⟩ := hT9
      have t46 := (eT 46 (by decide)).trans k46
      have t47 := (eT 47 (by decide)).trans k47
      refine q_iload rfl rfl rfl ?_
      refine q_aload_n rfl rfl rfl ?_
      refine q_getf rfl rfl (by omega) t46 f2 ?_
      refine q_iload_n rfl rfl rfl ?_
      refine q_iald rfl rfl (by omega) t47 (q_inN (by omega) (by decide)) (q_tn (z := nI (pL P x)) (by rw [nI_clamp (by omega)]; exact hmn) ?_)
      refine q_icge rfl rfl (fun c => absurd c (nI_ge (a := i) (b := pL P x) (by omega) (by omega))) (fun _ => ?_)
      refine q_bipush rfl rfl ?_
      refine q_iload_n rfl rfl rfl ?_
      refine q_imul rfl rfl (q_tn (z := nI (8 * x)) (by rw [show (8 : Int32) = nI 8 from rfl, pk_mul]) ?_)
      refine q_iload rfl rfl rfl ?_
      refine q_iadd rfl rfl (q_tn (z := nI (8 * x + i)) (nI_add _ _) ?_)
      refine q_ist7 rfl rfl rfl rfl ?_
      refine q_iload rfl rfl rfl ?_
      refine q_iload_n rfl rfl rfl ?_
      have mid : ∀ T9 : Nat → pm_E, PL9 (8 * (3 + x)) (8 * (3 + x)) (ds9 P l c x i ++ ent9 l c i) fk fa fn S T9 → PQ (j_SL L) (j_SV xs) j_EX mm_X12_putLock 50 [.ref 46, .int (nI x), .int (nI l), .int (fI9 c), .int (tI9 c), .int (nI (8 * (3 + x) + (ds9 P l c x i ++ ent9 l c i).length)), .int (nI i), .int (nI (8 * x + i)), a8, a9] [] T9 n 0 0 (fun r S' n' => r = none ∧ n = n' ∧ (∀ j, j ≠ 47 ∧ j ≠ 48 ∧ j ≠ 49 ∧ j ≠ 50 → S' j = S j) ∧ S' 47 = .inl (0, 6, .inl (upd mn (3 + x) (nI (ds9 P l c x (pL P x)).length))) ∧ ∃ gk ga gn : Nat → Int32, S' 48 = .inl (0, 48, .inl gk) ∧ S' 49 = .inl (0, 48, .inl ga) ∧ S' 50 = .inl (0, 48, .inl gn) ∧ (∀ j, j < 8 * (3 + x) → gk j = fk j ∧ ga j = fa j ∧ gn j = fn j) ∧ HR9 gk ga gn (8 * (3 + x)) (ds9 P l c x (pL P x))) := by
        intro T9 hV
        obtain ⟨eV, hk, ha, hh, v48, v49, v50, vlo, -⟩ := id hV
        have v46 := (eV 46 (by decide)).trans k46
        have r9 := vlo (8 * x + i) (by omega)
        have p9 := hpr i hi
        have hkk := (hW.2.2.2.2 x i hxp hi).1
        refine q_aload_n rfl rfl rfl ?_
        refine q_getf rfl rfl (by omega) v46 f3 ?_
        refine q_iload rfl rfl rfl ?_
        refine q_iald rfl rfl (by omega) v48 (q_inN (by omega) (by decide)) (q_tn (z := nI (pK P x i)) (by rw [nI_clamp (by omega)]; exact r9.1.trans p9.1) ?_)
        refine q_iconst rfl rfl ?_
        have fin : ∀ (d9 : Int32) (z8 : Value), pm_c2 z8 = false → pN P x i + d9 = num9 P c x i → PQ (j_SL L) (j_SV xs) j_EX mm_X12_putLock 121 [.ref 46, .int (nI x), .int (nI l), .int (fI9 c), .int (tI9 c), .int (nI (8 * (3 + x) + (ds9 P l c x i ++ ent9 l c i).length)), .int (nI i), .int (nI (8 * x + i)), z8, a9] [.int d9, .int (pN P x i)] T9 n 0 0 (fun r S' n' => r = none ∧ n = n' ∧ (∀ j, j ≠ 47 ∧ j ≠ 48 ∧ j ≠ 49 ∧ j ≠ 50 → S' j = S j) ∧ S' 47 = .inl (0, 6, .inl (upd mn (3 + x) (nI (ds9 P l c x (pL P x)).length))) ∧ ∃ gk ga gn : Nat → Int32, S' 48 = .inl (0, 48, .inl gk) ∧ S' 49 = .inl (0, 48, .inl ga) ∧ S' 50 = .inl (0, 48, .inl gn) ∧ (∀ j, j < 8 * (3 + x) → gk j = fk j ∧ ga j = fa j ∧ gn j = fn j) ∧ HR9 gk ga gn (8 * (3 + x)) (ds9 P l c x (pL P x))) := by
          intro d9 z8 b9 hd
          refine q_iadd rfl rfl (q_tn (z := num9 P c x i) (hd) ?_)
          refine q_ist9 rfl rfl rfl b9 ?_
          refine q_aload_n rfl rfl rfl ?_
          refine q_iload rfl rfl rfl ?_
          refine q_aload_n rfl rfl rfl ?_
          refine q_getf rfl rfl (by omega) v46 f3 ?_
          refine q_iload rfl rfl rfl ?_
          refine q_iald rfl rfl (by omega) v48 (q_inN (by omega) (by decide)) (q_tn (z := nI (pK P x i)) (by rw [nI_clamp (by omega)]; exact r9.1.trans p9.1) ?_)
          refine q_aload_n rfl rfl rfl ?_
          refine q_getf rfl rfl (by omega) v46 f4 ?_
          refine q_iload rfl rfl rfl ?_
          refine q_iald rfl rfl (by omega) v49 (q_inN (by omega) (by decide)) (q_tn (z := pO P x i) (by rw [nI_clamp (by omega)]; exact r9.2.1.trans p9.2.1) ?_)
          refine q_iload rfl rfl rfl ?_
          have hle : (ds9 P l c x i ++ ent9 l c i).length + 1 ≤ 6 := by rw [List.length_append]; omega
          refine q_cV rfl rfl (Or.inl rfl) rfl rfl rfl rfl (by omega) v46 trivial rfl rfl rfl rfl rfl (pl_lay (s := (pK P x i, pO P x i, num9 P c x i)) (by omega) (Nat.le_refl _) hn v46 hf hV) ?_
          rintro r W9 _ ⟨rfl, rfl, hW9⟩
          show PQ (j_SL L) (j_SV xs) j_EX mm_X12_putLock 146 [.ref 46, .int (nI x), .int (nI l), .int (fI9 c), .int (tI9 c), .int (nI (8 * (3 + x) + (ds9 P l c x i ++ ent9 l c i).length)), .int (nI i), .int (nI (8 * x + i)), z8, .int (num9 P c x i)] [] W9 n 0 0 _
          have elen : (ds9 P l c x i ++ ent9 l c i ++ [(pK P x i, pO P x i, num9 P c x i)]).length = (ds9 P l c x i ++ ent9 l c i).length + 1 := by rw [List.length_append]; rfl
          refine q_icc5 rfl rfl rfl rfl (z := nI (8 * (3 + x) + (ds9 P l c x i ++ ent9 l c i ++ [(pK P x i, pO P x i, num9 P c x i)]).length)) (by rw [elen]; exact nI_add _ 1) ?_
          refine q_iload rfl rfl rfl ?_
          refine q_iload rfl rfl rfl ?_
          have nxt : ∀ X9 : Nat → pm_E, PL9 (8 * (3 + x)) (8 * (3 + x)) (ds9 P l c x (i + 1)) fk fa fn S X9 → PQ (j_SL L) (j_SV xs) j_EX mm_X12_putLock 169 [.ref 46, .int (nI x), .int (nI l), .int (fI9 c), .int (tI9 c), .int (nI (8 * (3 + x) + (ds9 P l c x (i + 1)).length)), .int (nI i), .int (nI (8 * x + i)), z8, .int (num9 P c x i)] [] X9 n 0 0 (fun r S' n' => r = none ∧ n = n' ∧ (∀ j, j ≠ 47 ∧ j ≠ 48 ∧ j ≠ 49 ∧ j ≠ 50 → S' j = S j) ∧ S' 47 = .inl (0, 6, .inl (upd mn (3 + x) (nI (ds9 P l c x (pL P x)).length))) ∧ ∃ gk ga gn : Nat → Int32, S' 48 = .inl (0, 48, .inl gk) ∧ S' 49 = .inl (0, 48, .inl ga) ∧ S' 50 = .inl (0, 48, .inl gn) ∧ (∀ j, j < 8 * (3 + x) → gk j = fk j ∧ ga j = fa j ∧ gn j = fn j) ∧ HR9 gk ga gn (8 * (3 + x)) (ds9 P l c x (pL P x))) := by
            intro X9 hX
            refine q_icc6 rfl rfl rfl rfl (z := nI (i + 1)) (nI_add i 1) ?_
            refine q_goto rfl ?_
            exact ih (i + 1) (by omega) X9 _ _ _ rfl b9 hX
          by_cases e : c ≠ 0 ∧ i = to9 c
          · refine q_cne rfl rfl (fun c9 => absurd ((i_eqt hc (by omega)).mpr e) c9) (fun _ => ?_)
            have el9 : lev9 l c i = [(9, nI l, 0)] := by unfold lev9; rw [if_pos e]
            rw [el9] at h8
            rw [List.length_singleton] at h8
            obtain ⟨eX, -⟩ := id hW9
            have w46 := (eX 46 (by decide)).trans k46
            refine q_aload_n rfl rfl rfl ?_
            refine q_iload rfl rfl rfl ?_
            refine q_bipush rfl rfl ?_
            refine q_iload_n rfl rfl rfl ?_
            refine q_iconst rfl rfl ?_
            have hlf : (ds9 P l c x i ++ ent9 l c i ++ [(pK P x i, pO P x i, num9 P c x i)]).length + 1 ≤ 6 := by rw [elen, List.length_append]; omega
            refine q_cV rfl rfl (Or.inl rfl) rfl rfl rfl rfl (by omega) w46 trivial rfl rfl rfl rfl rfl (pl_lay (s := (9, nI l, 0)) (by omega) (Nat.le_refl _) hn w46 hf hW9) ?_
            rintro r X9 _ ⟨rfl, rfl, hX9⟩
            show PQ (j_SL L) (j_SV xs) j_EX mm_X12_putLock 166 [.ref 46, .int (nI x), .int (nI l), .int (fI9 c), .int (tI9 c), .int (nI (8 * (3 + x) + (ds9 P l c x i ++ ent9 l c i ++ [(pK P x i, pO P x i, num9 P c x i)]).length)), .int (nI i), .int (nI (8 * x + i)), z8, .int (num9 P c x i)] [] X9 n 0 0 _
            have e2 : ds9 P l c x i ++ ent9 l c i ++ [(pK P x i, pO P x i, num9 P c x i)] ++ [((9 : Nat), nI l, (0 : Int32))] = ds9 P l c x (i + 1) := by
              rw [← el9]
              rfl
            have elen2 : (ds9 P l c x i ++ ent9 l c i ++ [(pK P x i, pO P x i, num9 P c x i)] ++ [((9 : Nat), nI l, (0 : Int32))]).length = (ds9 P l c x i ++ ent9 l c i ++ [(pK P x i, pO P x i, num9 P c x i)]).length + 1 := List.length_append
            rw [e2] at hX9
            refine q_icc5 rfl rfl rfl rfl (z := nI (8 * (3 + x) + (ds9 P l c x (i + 1)).length)) (by rw [← e2, elen2]; exact nI_add _ 1) ?_
            exact nxt X9 hX9
          refine q_cne rfl rfl (fun _ => ?_) (fun c9 => absurd (fun h => e ((i_eqt hc (by omega)).mp h)) c9)
          have e2 : ds9 P l c x i ++ ent9 l c i ++ [(pK P x i, pO P x i, num9 P c x i)] = ds9 P l c x (i + 1) := by
            have el9 : lev9 l c i = [] := by unfold lev9; rw [if_neg e]
            show _ = ds9 P l c x i ++ ent9 l c i ++ [(pK P x i, pO P x i, num9 P c x i)] ++ lev9 l c i
            rw [el9, List.append_nil]
          rw [e2] at hW9 ⊢
          exact nxt W9 hW9
        have jm : ∀ b9 : Bool, (b9 = true ↔ (pK P x i = 4 ∧ c ≠ 0)) → PQ (j_SL L) (j_SV xs) j_EX mm_X12_putLock 70 [.ref 46, .int (nI x), .int (nI l), .int (fI9 c), .int (tI9 c), .int (nI (8 * (3 + x) + (ds9 P l c x i ++ ent9 l c i).length)), .int (nI i), .int (nI (8 * x + i)), a8, a9] [.int (b2i b9)] T9 n 0 0 (fun r S' n' => r = none ∧ n = n' ∧ (∀ j, j ≠ 47 ∧ j ≠ 48 ∧ j ≠ 49 ∧ j ≠ 50 → S' j = S j) ∧ S' 47 = .inl (0, 6, .inl (upd mn (3 + x) (nI (ds9 P l c x (pL P x)).length))) ∧ ∃ gk ga gn : Nat → Int32, S' 48 = .inl (0, 48, .inl gk) ∧ S' 49 = .inl (0, 48, .inl ga) ∧ S' 50 = .inl (0, 48, .inl gn) ∧ (∀ j, j < 8 * (3 + x) → gk j = fk j ∧ ga j = fa j ∧ gn j = fn j) ∧ HR9 gk ga gn (8 * (3 + x)) (ds9 P l c x (pL P x))) := by
          intro b9 hb
          refine q_ist8 rfl rfl rfl rfl ?_
          refine q_aload_n rfl rfl rfl ?_
          refine q_getf rfl rfl (by omega) v46 f5 ?_
          refine q_iload rfl rfl rfl ?_
          refine q_iald rfl rfl (by omega) v50 (q_inN (by omega) (by decide)) (q_tn (z := pN P x i) (by rw [nI_clamp (by omega)]; exact r9.2.2.trans p9.2.2) ?_)
          refine q_iload rfl rfl rfl ?_
          cases b9
          · refine q_ifeq rfl rfl (fun _ => ?_) (fun c9 => absurd rfl c9)
            refine q_iload rfl rfl rfl ?_
            refine q_ifeq rfl rfl (fun _ => ?_) (fun c9 => absurd rfl c9)
            refine q_iconst rfl rfl ?_
            exact fin 0 _ rfl (num_0 (fun h => absurd (hb.mpr h) (by decide)))
          have h49 := hb.mp rfl
          obtain ⟨m9, hm9, em9⟩ := hJ8 x i hxp hi h49.1
          have ftl := ft_le hc
          have fn9 := f_9 hc
          have enum : num9 P c x i = nI (led9 c m9) := by
            unfold num9
            rw [if_pos h49, em9, nI_clamp (by omega)]
          have efI : fI9 c = nI (fr9 c) := by rw [fI_e hc, if_neg h49.2]
          have etI : tI9 c = nI (to9 c) := by rw [tI_e hc, if_neg h49.2]
          refine q_ifeq rfl rfl (fun c9 => absurd c9 (by decide)) (fun _ => ?_)
          refine q_aload_n rfl rfl rfl ?_
          refine q_getf rfl rfl (by omega) v46 f5 ?_
          refine q_iload rfl rfl rfl ?_
          refine q_iald rfl rfl (by omega) v50 (q_inN (by omega) (by decide)) (q_tn (z := nI m9) (by rw [nI_clamp (by omega)]; exact r9.2.2.trans (p9.2.2.trans em9)) ?_)
          refine q_iload rfl rfl rfl ?_
          by_cases g1 : to9 c < m9
          · refine q_icle rfl rfl (fun c9 => absurd ((m_le (by omega) (by omega)).mp (etI ▸ c9)) (by omega)) (fun _ => ?_)
            refine q_iconst rfl rfl ?_
            refine q_goto rfl ?_
            refine fin 2 _ rfl ?_
            rw [enum, em9]
            unfold led9
            rw [if_pos (by omega), if_pos g1]
            exact nI_add m9 2
          refine q_icle rfl rfl (fun _ => ?_) (fun c9 => absurd (show nI m9 ≤ tI9 c by rw [etI]; exact (m_le (by omega) (by omega)).mpr (by omega)) c9)
          refine q_iload rfl rfl rfl ?_
          refine q_ifeq rfl rfl (fun c9 => absurd c9 (by decide)) (fun _ => ?_)
          refine q_aload_n rfl rfl rfl ?_
          refine q_getf rfl rfl (by omega) v46 f5 ?_
          refine q_iload rfl rfl rfl ?_
          refine q_iald rfl rfl (by omega) v50 (q_inN (by omega) (by decide)) (q_tn (z := nI m9) (by rw [nI_clamp (by omega)]; exact r9.2.2.trans (p9.2.2.trans em9)) ?_)
          refine q_iload_n rfl rfl rfl ?_
          by_cases g2 : fr9 c < m9
          · refine q_icle rfl rfl (fun c9 => absurd ((m_le (by omega) (by omega)).mp (efI ▸ c9)) (by omega)) (fun _ => ?_)
            refine q_iconst rfl rfl ?_
            refine q_goto rfl ?_
            refine fin 1 _ rfl ?_
            rw [enum, em9]
            unfold led9
            rw [if_pos g2, if_neg g1]
            exact nI_add m9 1
          refine q_icle rfl rfl (fun _ => ?_) (fun c9 => absurd (show nI m9 ≤ fI9 c by rw [efI]; exact (m_le (by omega) (by omega)).mpr (by omega)) c9)
          refine q_iconst rfl rfl ?_
          refine fin 0 _ rfl ?_
          rw [enum, em9]
          unfold led9
          rw [if_neg g2, if_neg g1]
          exact nI_add m9 0
        by_cases ek : pK P x i = 4
        · refine q_cne rfl rfl (fun c9 => absurd (by rw [ek]; rfl) c9) (fun _ => ?_)
          refine q_iload_n rfl rfl rfl ?_
          by_cases c0 : c = 0
          · refine q_iflt rfl rfl (fun _ => ?_) (fun c9 => absurd (by rw [Int32.lt_iff_toInt_lt]; have h9 : ¬ 0 ≤ fI9 c := fun h => (fI_p hc).mp h c0; rw [Int32.le_iff_toInt_le] at h9; omega) c9)
            refine q_iconst rfl rfl ?_
            exact jm false ⟨fun h => (by cases h), fun h => absurd c0 h.2⟩
          refine q_iflt rfl rfl (fun c9 => absurd ((fI_p hc).mpr c0) (fun h => by rw [Int32.le_iff_toInt_le] at h; rw [Int32.lt_iff_toInt_lt] at c9; omega)) (fun _ => ?_)
          refine q_iconst rfl rfl ?_
          refine q_goto rfl ?_
          exact jm true ⟨fun _ => ⟨ek, c0⟩, fun _ => rfl⟩
        refine q_cne rfl rfl (fun _ => ?_) (fun c9 => absurd (fun h => ek ((m_eq (b := 4) (by omega) (by decide)).mp h)) c9)
        refine q_iconst rfl rfl ?_
        exact jm false ⟨fun h => (by cases h), fun h => absurd h.1 ek⟩
      by_cases e : c ≠ 0 ∧ i = fr9 c
      · refine q_cne rfl rfl (fun c9 => absurd ((i_eqf hc (by omega)).mpr e) c9) (fun _ => ?_)
        have el9 : ent9 l c i = [(8, nI l, 0)] := by unfold ent9; rw [if_pos e]
        rw [el9] at h8 mid
        rw [List.length_singleton] at h8
        refine q_aload_n rfl rfl rfl ?_
        refine q_iload rfl rfl rfl ?_
        refine q_bipush rfl rfl ?_
        refine q_iload_n rfl rfl rfl ?_
        refine q_iconst rfl rfl ?_
        refine q_cV rfl rfl (Or.inl rfl) rfl rfl rfl rfl (by omega) t46 trivial rfl rfl rfl rfl rfl (pl_lay (s := (8, nI l, 0)) (by omega) (Nat.le_refl _) hn t46 hf hT) ?_
        rintro r X9 _ ⟨rfl, rfl, hX9⟩
        show PQ (j_SL L) (j_SV xs) j_EX mm_X12_putLock 47 [.ref 46, .int (nI x), .int (nI l), .int (fI9 c), .int (tI9 c), .int (nI (8 * (3 + x) + (ds9 P l c x i).length)), .int (nI i), .int (nI (8 * x + i)), a8, a9] [] X9 n 0 0 _
        refine q_icc5 rfl rfl rfl rfl (z := nI (8 * (3 + x) + (ds9 P l c x i ++ [((8 : Nat), nI l, (0 : Int32))]).length)) (by rw [List.length_append]; exact nI_add _ 1) ?_
        exact mid X9 hX9
      refine q_cne rfl rfl (fun _ => ?_) (fun c9 => absurd (fun h => e ((i_eqf hc (by omega)).mp h)) c9)
      have el9 : ent9 l c i = [] := by unfold ent9; rw [if_neg e]
      rw [el9, List.append_nil] at mid
      exact mid T hT
  refine q_bipush rfl rfl ?_
  refine q_iconst rfl rfl ?_
  refine q_iload_n rfl rfl rfl ?_
  refine q_iadd rfl rfl (q_tn (z := nI (3 + x)) (nI_add 3 x) ?_)
  refine q_imul rfl rfl (q_tn (z := nI (8 * (3 + x))) (by rw [show (8 : Int32) = nI 8 from rfl, pk_mul]) ?_)
  refine q_ist5 rfl rfl rfl rfl ?_
  refine q_iconst rfl rfl ?_
  refine q_ist6 rfl rfl rfl rfl ?_
  exact loop (pL P x) 0 (by omega) S _ _ _ rfl rfl ⟨fun _ _ => rfl, fk, fa, fn, k48, k49, k50, fun _ _ => ⟨rfl, rfl, rfl⟩, fun j s hj => by cases hj⟩
end QE9
