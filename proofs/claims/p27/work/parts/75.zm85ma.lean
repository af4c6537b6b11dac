/-! the class's Machine: what a step leaves -/
section MA
variable {L : Nat} {xs : Nat → Int32} {S : Nat → pm_E} {n c m pic : Nat} {P : PG} {s t t2 : Int64} {x : Nat} {D f : Nat → Nat}
theorem aft_0 (hk : kA P D x = 0) : aftD P pic D x = (passD (e_up D (12 + oA P D x) (nA P D x)) x) := by
  unfold aftD
  rw [hk]
  rfl
theorem aft_1 (hk : kA P D x = 1) : aftD P pic D x = (passD (e_up D (4 * x + 1) (D (12 + oA P D x))) x) := by
  unfold aftD
  rw [hk]
  rfl
theorem aft_2 (hk : kA P D x = 2) : aftD P pic D x = (passD (e_up D (12 + oA P D x) (D (4 * x + 1))) x) := by
  unfold aftD
  rw [hk]
  rfl
theorem aft_3 (hk : kA P D x = 3) : aftD P pic D x = (passD (e_up D (4 * x + 1) ((D (4 * x + 1) + nA P D x) % 10)) x) := by
  unfold aftD
  rw [hk]
  rfl
theorem aft_4 (hk : kA P D x = 4) : aftD P pic D x = (if D (4 * x + 1) = 0 then atD D x (min (nA P D x) (pL P x)) else passD D x) := by
  unfold aftD
  rw [hk]
  rfl
theorem aft_5 (hk : kA P D x = 5) : aftD P pic D x = (passD D x) := by
  unfold aftD
  rw [hk]
  rfl
theorem aft_6 (hk : kA P D x = 6) : aftD P pic D x = (if pic = 3 then passD (e_up (e_up D (4 * x + 1) ((D (12 + oA P D x) + nA P D x) % 10)) (12 + oA P D x) ((D (12 + oA P D x) + nA P D x) % 10)) x
    else if D (4 * x + 2) = 0 then e_up (e_up D (4 * x + 1) (D (12 + oA P D x))) (4 * x + 2) 1
    else if D (4 * x + 2) = 1 then e_up (e_up D (4 * x + 1) ((D (4 * x + 1) + nA P D x) % 10)) (4 * x + 2) 2
    else passD (e_up D (12 + oA P D x) (D (4 * x + 1))) x) := by
  unfold aftD
  rw [hk]
  rfl
theorem aft_7 (hk : kA P D x = 7) : aftD P pic D x = (passD (e_up (e_up D (4 * x + 1) (D (12 + oA P D x))) (12 + oA P D x) 1) x) := by
  unfold aftD
  rw [hk]
  rfl
theorem aft_8 (hk : kA P D x = 8) : aftD P pic D x = (passD (e_up D (16 + oA P D x) (x + 1)) x) := by
  unfold aftD
  rw [hk]
  rfl
theorem aft_9 (hk : kA P D x = 9) : aftD P pic D x = (if D (16 + oA P D x) = x + 1 then passD (e_up D (16 + oA P D x) 0) x else atD D x 15) := by
  unfold aftD
  rw [hk]
  rfl
theorem aft_10 (hk : kA P D x = 10) : aftD P pic D x = (if D (4 * x + 2) = 1 then passD (e_up D (16 + oA P D x) (x + 1)) x
    else if D (16 + oA P D x) = x + 1 then e_up (e_up (e_up D (16 + oA P D x) 0) (4 * x + 2) 1) (4 * x + 3) 1 else atD D x 15) := by
  unfold aftD
  rw [hk]
  rfl
theorem aft_11 (hk : kA P D x = 11) : aftD P pic D x = (passD (calD P D (oA P D x)) x) := by
  unfold aftD
  rw [hk]
  rfl
theorem aft_12 (hk : kA P D x = 12) : aftD P pic D x = (metD P D (pH P)) := by
  unfold aftD
  rw [hk]
  rfl
theorem is_rf : e_is s (e_D s) := fun _ _ => rfl
theorem is_up {i v : Nat} (h : e_is t f) (h2 : e_is t2 (e_up (e_D t) i v)) : e_is t2 (e_up f i v) := fun j hj => by
  rw [h2 j hj]
  unfold e_up
  split
  · rfl
  · exact h j hj
theorem is_at {v : Nat} (h : e_is t f) (h2 : e_is t2 (atD (e_D t) x v)) : e_is t2 (atD f x v) := fun j hj => by
  rw [h2 j hj]
  unfold atD e_up
  split
  · rfl
  · split
    · rfl
    · split
      · rfl
      · exact h j hj
theorem is_pass (h : e_is t f) (hx : x < 3) (h2 : e_is t2 (passD (e_D t) x)) : e_is t2 (passD f x) := by
  have e : e_D t (4 * x) = f (4 * x) := h _ (by omega)
  unfold passD at h2 ⊢
  rw [e] at h2
  exact is_at h h2
theorem irem10 {a b : Nat} (ha : a < 100) (hb : b < 100) : nI a + nI b - (nI a + nI b) / 10 * 10 = nI ((a + b) % 10) := by
  have key : ∀ k : Fin 200, nI k.val - nI k.val / 10 * 10 = nI (k.val % 10) := by decide +kernel
  rw [show nI a + nI b = nI (a + b) from nI_add a b]
  exact key ⟨a + b, by omega⟩
/-- what a static step of the class leaves -/
def lg (S : Nat → pm_E) (n : Nat) (f : Nat → Nat) : q_K := fun r S' n' => S = S' ∧ n = n' ∧ ∃ t : Int64, r = some (.long t) ∧ e_is t f
theorem m_taken {p : Nat} (hx : x < 3) (hp : p < 4) (h9 : e_D s (12 + p) ≤ 9) : PM (j_SL L) (j_SV xs) j_EX mm_X6_taken [.long s, .int (nI x), .int (nI p)] S n (lg S n (e_up (e_D s) (4 * x + 1) (e_D s (12 + p)))) := by
  change PQ (j_SL L) (j_SV xs) j_EX mm_X6_taken 0 [.long s, pm_un, .int (nI x), .int (nI p)] [] S n 0 0 _
  refine q_lload_n rfl rfl rfl ?_
  refine q_iload_n rfl rfl rfl ?_
  refine q_lload_n rfl rfl rfl ?_
  refine q_iload_n rfl rfl rfl ?_
  refine q_cS rfl rfl (Or.inl rfl) rfl rfl trivial rfl rfl rfl rfl rfl (b_place hp) ?_
  rintro r _ _ ⟨rfl, rfl, rfl⟩
  show PQ (j_SL L) (j_SV xs) j_EX mm_X6_taken 7 _ [.int (nI (e_D s (12 + p))), .int (nI x), .long s] S n 0 0 _
  refine q_cS rfl rfl (Or.inl rfl) rfl rfl trivial rfl rfl rfl rfl rfl (b_withRegister hx (by omega)) ?_
  rintro r _ _ ⟨rfl, rfl, t, rfl, h⟩
  show PQ (j_SL L) (j_SV xs) j_EX mm_X6_taken 10 _ [.long t] S n 0 0 _
  exact q_lret rfl rfl trivial ⟨rfl, rfl, t, rfl, h⟩
theorem m_added {a : Nat} (hx : x < 3) (ha : a ≤ 9) (h9 : e_D s (4 * x + 1) ≤ 9) : PM (j_SL L) (j_SV xs) j_EX mm_X6_added [.long s, .int (nI x), .int (nI a)] S n (lg S n (e_up (e_D s) (4 * x + 1) ((e_D s (4 * x + 1) + a) % 10))) := by
  change PQ (j_SL L) (j_SV xs) j_EX mm_X6_added 0 [.long s, pm_un, .int (nI x), .int (nI a)] [] S n 0 0 _
  refine q_lload_n rfl rfl rfl ?_
  refine q_iload_n rfl rfl rfl ?_
  refine q_lload_n rfl rfl rfl ?_
  refine q_iload_n rfl rfl rfl ?_
  refine q_cS rfl rfl (Or.inl rfl) rfl rfl trivial rfl rfl rfl rfl rfl (b_register hx) ?_
  rintro r _ _ ⟨rfl, rfl, rfl⟩
  show PQ (j_SL L) (j_SV xs) j_EX mm_X6_added 7 _ [.int (nI (e_D s (4 * x + 1))), .int (nI x), .long s] S n 0 0 _
  refine q_iload_n rfl rfl rfl ?_
  refine q_iadd rfl rfl ?_
  refine q_bipush rfl rfl ?_
  refine q_irem rfl rfl (by decide) (q_tn (z := nI ((e_D s (4 * x + 1) + a) % 10)) (irem10 (by omega) (by omega)) ?_)
  refine q_cS rfl rfl (Or.inl rfl) rfl rfl trivial rfl rfl rfl rfl rfl (b_withRegister hx (by omega)) ?_
  rintro r _ _ ⟨rfl, rfl, t, rfl, h⟩
  show PQ (j_SL L) (j_SV xs) j_EX mm_X6_added 15 _ [.long t] S n 0 0 _
  exact q_lret rfl rfl trivial ⟨rfl, rfl, t, rfl, h⟩
theorem m_longW {p a : Nat} (hx : x < 3) (hp : p < 4) (ha : a ≤ 9) (h9 : e_D s (12 + p) ≤ 9) (hl : e_D s (4 * x) < 15) : PM (j_SL L) (j_SV xs) j_EX mm_X6_longWhole [.long s, .int (nI x), .int (nI p), .int (nI a)] S n (lg S n (passD (e_up (e_up (e_D s) (4 * x + 1) ((e_D s (12 + p) + a) % 10)) (12 + p) ((e_D s (12 + p) + a) % 10)) x)) := by
  change PQ (j_SL L) (j_SV xs) j_EX mm_X6_longWhole 0 [.long s, pm_un, .int (nI x), .int (nI p), .int (nI a), pm_un, pm_un, pm_un] [] S n 0 0 _
  refine q_lload_n rfl rfl rfl ?_
  refine q_iload_n rfl rfl rfl ?_
  refine q_cS rfl rfl (Or.inl rfl) rfl rfl trivial rfl rfl rfl rfl rfl (b_place hp) ?_
  rintro r _ _ ⟨rfl, rfl, rfl⟩
  show PQ (j_SL L) (j_SV xs) j_EX mm_X6_longWhole 5 _ [.int (nI (e_D s (12 + p)))] S n 0 0 _
  refine q_iload rfl rfl rfl ?_
  refine q_iadd rfl rfl ?_
  refine q_bipush rfl rfl ?_
  refine q_irem rfl rfl (by decide) (q_tn (z := nI ((e_D s (12 + p) + a) % 10)) (irem10 (by omega) (by omega)) ?_)
  refine q_ist5 rfl rfl rfl rfl ?_
  refine q_lload_n rfl rfl rfl ?_
  refine q_iload_n rfl rfl rfl ?_
  refine q_iload rfl rfl rfl ?_
  refine q_cS rfl rfl (Or.inl rfl) rfl rfl trivial rfl rfl rfl rfl rfl (b_withRegister hx (by omega)) ?_
  rintro r _ _ ⟨rfl, rfl, t1, rfl, h1⟩
  show PQ (j_SL L) (j_SV xs) j_EX mm_X6_longWhole 20 _ [.long t1] S n 0 0 _
  refine q_lst6 rfl rfl rfl rfl ?_
  refine q_lload rfl rfl rfl ?_
  refine q_iload_n rfl rfl rfl ?_
  refine q_iload rfl rfl rfl ?_
  refine q_cS rfl rfl (Or.inl rfl) rfl rfl trivial rfl rfl rfl rfl rfl (b_withPlace hp (by omega)) ?_
  rintro r _ _ ⟨rfl, rfl, t2, rfl, h2⟩
  show PQ (j_SL L) (j_SV xs) j_EX mm_X6_longWhole 30 _ [.long t2] S n 0 0 _
  refine q_iload_n rfl rfl rfl ?_
  have e4 : e_D t2 (4 * x) = e_D s (4 * x) := by
    rw [is_up h1 h2 _ (by omega), e_up_ot (by omega), e_up_ot (by omega)]
  refine q_cS rfl rfl (Or.inl rfl) rfl rfl trivial rfl rfl rfl rfl rfl (b_passed hx (by omega)) ?_
  rintro r _ _ ⟨rfl, rfl, t3, rfl, h3⟩
  show PQ (j_SL L) (j_SV xs) j_EX mm_X6_longWhole 34 _ [.long t3] S n 0 0 _
  exact q_lret rfl rfl trivial ⟨rfl, rfl, t3, rfl, is_pass (is_up h1 h2) hx h3⟩
theorem m_longS {p a : Nat} (hx : x < 3) (hp : p < 4) (ha : a ≤ 9) (h9 : e_D s (12 + p) ≤ 9) (h8 : e_D s (4 * x + 1) ≤ 9) (hl : e_D s (4 * x) < 15) : PM (j_SL L) (j_SV xs) j_EX mm_X6_longStep [.long s, .int (nI x), .int (nI p), .int (nI a)] S n (lg S n (if e_D s (4 * x + 2) = 0 then e_up (e_up (e_D s) (4 * x + 1) (e_D s (12 + p))) (4 * x + 2) 1 else if e_D s (4 * x + 2) = 1 then e_up (e_up (e_D s) (4 * x + 1) ((e_D s (4 * x + 1) + a) % 10)) (4 * x + 2) 2 else passD (e_up (e_D s) (12 + p) (e_D s (4 * x + 1))) x)) := by
  have hD4 := e_D4 (s := s) hx
  change PQ (j_SL L) (j_SV xs) j_EX mm_X6_longStep 0 [.long s, pm_un, .int (nI x), .int (nI p), .int (nI a), pm_un, pm_un, pm_un, pm_un] [] S n 0 0 _
  refine q_lload_n rfl rfl rfl ?_
  refine q_iload_n rfl rfl rfl ?_
  refine q_cS rfl rfl (Or.inl rfl) rfl rfl trivial rfl rfl rfl rfl rfl (b_made hx) ?_
  rintro r _ _ ⟨rfl, rfl, rfl⟩
  show PQ (j_SL L) (j_SV xs) j_EX mm_X6_longStep 5 _ [.int (nI (e_D s (4 * x + 2)))] S n 0 0 _
  refine q_ist5 rfl rfl rfl rfl ?_
  refine q_lload_n rfl rfl rfl ?_
  refine q_iload_n rfl rfl rfl ?_
  refine q_cS rfl rfl (Or.inl rfl) rfl rfl trivial rfl rfl rfl rfl rfl (b_register hx) ?_
  rintro r _ _ ⟨rfl, rfl, rfl⟩
  show PQ (j_SL L) (j_SV xs) j_EX mm_X6_longStep 12 _ [.int (nI (e_D s (4 * x + 1)))] S n 0 0 _
  refine q_ist6 rfl rfl rfl rfl ?_
  refine q_iload rfl rfl rfl ?_
  refine q_ifne rfl rfl (fun h => ?_) (fun h => ?_)
  · have h0 := (m_eq (b := 0) (by omega) (by omega)).mp h
    rw [if_pos h0]
    refine q_lload_n rfl rfl rfl ?_
    refine q_iload_n rfl rfl rfl ?_
    refine q_lload_n rfl rfl rfl ?_
    refine q_iload_n rfl rfl rfl ?_
    refine q_cS rfl rfl (Or.inl rfl) rfl rfl trivial rfl rfl rfl rfl rfl (b_place hp) ?_
    rintro r _ _ ⟨rfl, rfl, rfl⟩
    show PQ (j_SL L) (j_SV xs) j_EX mm_X6_longStep 26 _ [.int (nI (e_D s (12 + p))), .int (nI x), .long s] S n 0 0 _
    refine q_cS rfl rfl (Or.inl rfl) rfl rfl trivial rfl rfl rfl rfl rfl (b_withRegister hx (by omega)) ?_
    rintro r _ _ ⟨rfl, rfl, t1, rfl, h1⟩
    show PQ (j_SL L) (j_SV xs) j_EX mm_X6_longStep 29 _ [.long t1] S n 0 0 _
    refine q_lst7 rfl rfl rfl rfl ?_
    refine q_lload rfl rfl rfl ?_
    refine q_iload_n rfl rfl rfl ?_
    refine q_iconst rfl rfl ?_
    refine q_cS rfl rfl (Or.inl rfl) rfl rfl trivial rfl rfl rfl rfl rfl (b_withMade (v := 1) hx (by decide)) ?_
    rintro r _ _ ⟨rfl, rfl, t2, rfl, h2⟩
    show PQ (j_SL L) (j_SV xs) j_EX mm_X6_longStep 38 _ [.long t2] S n 0 0 _
    exact q_lret rfl rfl trivial ⟨rfl, rfl, t2, rfl, is_up h1 h2⟩
  have h0 : ¬ e_D s (4 * x + 2) = 0 := fun e => h (by rw [e]; rfl)
  rw [if_neg h0]
  refine q_iload rfl rfl rfl ?_
  refine q_iconst rfl rfl ?_
  refine q_icne rfl rfl (fun h => ?_) (fun h => ?_)
  · have h1 := (m_eq (b := 1) (by omega) (by omega)).mp h
    rw [if_pos h1]
    refine q_lload_n rfl rfl rfl ?_
    refine q_iload_n rfl rfl rfl ?_
    refine q_iload rfl rfl rfl ?_
    refine q_iload rfl rfl rfl ?_
    refine q_iadd rfl rfl ?_
    refine q_bipush rfl rfl ?_
    refine q_irem rfl rfl (by decide) (q_tn (z := nI ((e_D s (4 * x + 1) + a) % 10)) (irem10 (by omega) (by omega)) ?_)
    refine q_cS rfl rfl (Or.inl rfl) rfl rfl trivial rfl rfl rfl rfl rfl (b_withRegister hx (by omega)) ?_
    rintro r _ _ ⟨rfl, rfl, t1, rfl, h1⟩
    show PQ (j_SL L) (j_SV xs) j_EX mm_X6_longStep 58 _ [.long t1] S n 0 0 _
    refine q_lst7 rfl rfl rfl rfl ?_
    refine q_lload rfl rfl rfl ?_
    refine q_iload_n rfl rfl rfl ?_
    refine q_iconst rfl rfl ?_
    refine q_cS rfl rfl (Or.inl rfl) rfl rfl trivial rfl rfl rfl rfl rfl (b_withMade (v := 2) hx (by decide)) ?_
    rintro r _ _ ⟨rfl, rfl, t2, rfl, h2⟩
    show PQ (j_SL L) (j_SV xs) j_EX mm_X6_longStep 67 _ [.long t2] S n 0 0 _
    exact q_lret rfl rfl trivial ⟨rfl, rfl, t2, rfl, is_up h1 h2⟩
  have h1 : ¬ e_D s (4 * x + 2) = 1 := fun e => h (by rw [e]; rfl)
  rw [if_neg h1]
  refine q_lload_n rfl rfl rfl ?_
  refine q_iload_n rfl rfl rfl ?_
  refine q_iload rfl rfl rfl ?_
  refine q_cS rfl rfl (Or.inl rfl) rfl rfl trivial rfl rfl rfl rfl rfl (b_withPlace hp (by omega)) ?_
  rintro r _ _ ⟨rfl, rfl, t1, rfl, q1⟩
  show PQ (j_SL L) (j_SV xs) j_EX mm_X6_longStep 75 _ [.long t1] S n 0 0 _
  refine q_iload_n rfl rfl rfl ?_
  have e4 : e_D t1 (4 * x) = e_D s (4 * x) := by rw [q1 _ (by omega), e_up_ot (by omega)]
  refine q_cS rfl rfl (Or.inl rfl) rfl rfl trivial rfl rfl rfl rfl rfl (b_passed hx (by omega)) ?_
  rintro r _ _ ⟨rfl, rfl, t2, rfl, q2⟩
  show PQ (j_SL L) (j_SV xs) j_EX mm_X6_longStep 79 _ [.long t2] S n 0 0 _
  exact q_lret rfl rfl trivial ⟨rfl, rfl, t2, rfl, is_pass q1 hx q2⟩
theorem m_left {l : Nat} (hx : x < 3) (hl : l < 3) (h8 : e_D s (4 * x) < 15) : PM (j_SL L) (j_SV xs) j_EX mm_X6_left [.long s, .int (nI x), .int (nI l)] S n (lg S n (if e_D s (16 + l) = x + 1 then passD (e_up (e_D s) (16 + l) 0) x else atD (e_D s) x 15)) := by
  have hDo := e_Do (s := s) hl
  change PQ (j_SL L) (j_SV xs) j_EX mm_X6_left 0 [.long s, pm_un, .int (nI x), .int (nI l)] [] S n 0 0 _
  refine q_lload_n rfl rfl rfl ?_
  refine q_iload_n rfl rfl rfl ?_
  refine q_cS rfl rfl (Or.inl rfl) rfl rfl trivial rfl rfl rfl rfl rfl (b_owner hl) ?_
  rintro r _ _ ⟨rfl, rfl, rfl⟩
  show PQ (j_SL L) (j_SV xs) j_EX mm_X6_left 5 _ [.int (nI (e_D s (16 + l)) - 1)] S n 0 0 _
  refine q_iload_n rfl rfl rfl ?_
  refine q_iceq rfl rfl (fun h => ?_) (fun h => ?_)
  · have h' := (m_subx (by omega) (by omega)).mp h
    rw [if_pos h']
    refine q_lload_n rfl rfl rfl ?_
    refine q_iload_n rfl rfl rfl ?_
    refine q_iconst rfl rfl ?_
    refine q_cS rfl rfl (Or.inl rfl) rfl rfl trivial rfl rfl rfl rfl rfl (b_withOwner (v := 0) hl (by decide)) ?_
    rintro r _ _ ⟨rfl, rfl, t1, rfl, q1⟩
    show PQ (j_SL L) (j_SV xs) j_EX mm_X6_left 23 _ [.long t1] S n 0 0 _
    refine q_iload_n rfl rfl rfl ?_
    have e4 : e_D t1 (4 * x) = e_D s (4 * x) := by rw [q1 _ (by omega), e_up_ot (by omega)]
    refine q_cS rfl rfl (Or.inl rfl) rfl rfl trivial rfl rfl rfl rfl rfl (b_passed hx (by omega)) ?_
    rintro r _ _ ⟨rfl, rfl, t2, rfl, q2⟩
    show PQ (j_SL L) (j_SV xs) j_EX mm_X6_left 27 _ [.long t2] S n 0 0 _
    exact q_lret rfl rfl trivial ⟨rfl, rfl, t2, rfl, is_pass q1 hx q2⟩
  · have h' : ¬ e_D s (16 + l) = x + 1 := fun e => h ((m_subx (by omega) (by omega)).mpr e)
    rw [if_neg h']
    refine q_lload_n rfl rfl rfl ?_
    refine q_iload_n rfl rfl rfl ?_
    refine q_bipush rfl rfl ?_
    refine q_cS rfl rfl (Or.inl rfl) rfl rfl trivial rfl rfl rfl rfl rfl (b_withPosition (v := 15) hx (by decide)) ?_
    rintro r _ _ ⟨rfl, rfl, t1, rfl, q1⟩
    show PQ (j_SL L) (j_SV xs) j_EX mm_X6_left 16 _ [.long t1] S n 0 0 _
    exact q_lret rfl rfl trivial ⟨rfl, rfl, t1, rfl, q1⟩
theorem m_wait {l : Nat} (hx : x < 3) (hl : l < 3) (h8 : e_D s (4 * x) < 15) : PM (j_SL L) (j_SV xs) j_EX mm_X6_waited [.long s, .int (nI x), .int (nI l)] S n (lg S n (if e_D s (4 * x + 2) = 1 then passD (e_up (e_D s) (16 + l) (x + 1)) x else if e_D s (16 + l) = x + 1 then e_up (e_up (e_up (e_D s) (16 + l) 0) (4 * x + 2) 1) (4 * x + 3) 1 else atD (e_D s) x 15)) := by
  have hDo := e_Do (s := s) hl
  have hD4 := e_D4 (s := s) hx
  change PQ (j_SL L) (j_SV xs) j_EX mm_X6_waited 0 [.long s, pm_un, .int (nI x), .int (nI l), pm_un, pm_un] [] S n 0 0 _
  refine q_lload_n rfl rfl rfl ?_
  refine q_iload_n rfl rfl rfl ?_
  refine q_cS rfl rfl (Or.inl rfl) rfl rfl trivial rfl rfl rfl rfl rfl (b_made hx) ?_
  rintro r _ _ ⟨rfl, rfl, rfl⟩
  show PQ (j_SL L) (j_SV xs) j_EX mm_X6_waited 5 _ [.int (nI (e_D s (4 * x + 2)))] S n 0 0 _
  refine q_iconst rfl rfl ?_
  refine q_icne rfl rfl (fun h => ?_) (fun h => ?_)
  · have h' := (m_eq (b := 1) (by omega) (by omega)).mp h
    rw [if_pos h']
    refine q_lload_n rfl rfl rfl ?_
    refine q_iload_n rfl rfl rfl ?_
    refine q_iload_n rfl rfl rfl ?_
    refine q_tn (z := nI (x + 1) - 1) (by rw [show nI (x + 1) = nI x + 1 from (nI_add x 1).symm]; exact (Int32.add_sub_cancel (nI x) 1).symm) ?_
    refine q_cS rfl rfl (Or.inl rfl) rfl rfl trivial rfl rfl rfl rfl rfl (b_withOwner (v := x + 1) hl (by omega)) ?_
    rintro r _ _ ⟨rfl, rfl, t1, rfl, q1⟩
    show PQ (j_SL L) (j_SV xs) j_EX mm_X6_waited 15 _ [.long t1] S n 0 0 _
    refine q_iload_n rfl rfl rfl ?_
    have e4 : e_D t1 (4 * x) = e_D s (4 * x) := by rw [q1 _ (by omega), e_up_ot (by omega)]
    refine q_cS rfl rfl (Or.inl rfl) rfl rfl trivial rfl rfl rfl rfl rfl (b_passed hx (by omega)) ?_
    rintro r _ _ ⟨rfl, rfl, t2, rfl, q2⟩
    show PQ (j_SL L) (j_SV xs) j_EX mm_X6_waited 19 _ [.long t2] S n 0 0 _
    exact q_lret rfl rfl trivial ⟨rfl, rfl, t2, rfl, is_pass q1 hx q2⟩
  have h0 : ¬ e_D s (4 * x + 2) = 1 := fun e => h (by rw [e]; rfl)
  rw [if_neg h0]
  refine q_lload_n rfl rfl rfl ?_
  refine q_iload_n rfl rfl rfl ?_
  refine q_cS rfl rfl (Or.inl rfl) rfl rfl trivial rfl rfl rfl rfl rfl (b_owner hl) ?_
  rintro r _ _ ⟨rfl, rfl, rfl⟩
  show PQ (j_SL L) (j_SV xs) j_EX mm_X6_waited 25 _ [.int (nI (e_D s (16 + l)) - 1)] S n 0 0 _
  refine q_iload_n rfl rfl rfl ?_
  refine q_iceq rfl rfl (fun h => ?_) (fun h => ?_)
  · have h' := (m_subx (by omega) (by omega)).mp h
    rw [if_pos h']
    refine q_lload_n rfl rfl rfl ?_
    refine q_iload_n rfl rfl rfl ?_
    refine q_iconst rfl rfl ?_
    refine q_cS rfl rfl (Or.inl rfl) rfl rfl trivial rfl rfl rfl rfl rfl (b_withOwner (v := 0) hl (by decide)) ?_
    rintro r _ _ ⟨rfl, rfl, t1, rfl, q1⟩
    show PQ (j_SL L) (j_SV xs) j_EX mm_X6_waited 43 _ [.long t1] S n 0 0 _
    refine q_lst4 rfl rfl rfl rfl ?_
    refine q_lload rfl rfl rfl ?_
    refine q_iload_n rfl rfl rfl ?_
    refine q_iconst rfl rfl ?_
    refine q_cS rfl rfl (Or.inl rfl) rfl rfl trivial rfl rfl rfl rfl rfl (b_withMade (v := 1) hx (by decide)) ?_
    rintro r _ _ ⟨rfl, rfl, t2, rfl, q2⟩
    show PQ (j_SL L) (j_SV xs) j_EX mm_X6_waited 52 _ [.long t2] S n 0 0 _
    refine q_iload_n rfl rfl rfl ?_
    refine q_iconst rfl rfl ?_
    refine q_cS rfl rfl (Or.inl rfl) rfl rfl trivial rfl rfl rfl rfl rfl (b_withSleep (v := 1) hx (by decide)) ?_
    rintro r _ _ ⟨rfl, rfl, t3, rfl, q3⟩
    show PQ (j_SL L) (j_SV xs) j_EX mm_X6_waited 57 _ [.long t3] S n 0 0 _
    exact q_lret rfl rfl trivial ⟨rfl, rfl, t3, rfl, is_up (is_up q1 q2) q3⟩
  · have h' : ¬ e_D s (16 + l) = x + 1 := fun e => h ((m_subx (by omega) (by omega)).mpr e)
    rw [if_neg h']
    refine q_lload_n rfl rfl rfl ?_
    refine q_iload_n rfl rfl rfl ?_
    refine q_bipush rfl rfl ?_
    refine q_cS rfl rfl (Or.inl rfl) rfl rfl trivial rfl rfl rfl rfl rfl (b_withPosition (v := 15) hx (by decide)) ?_
    rintro r _ _ ⟨rfl, rfl, t1, rfl, q1⟩
    show PQ (j_SL L) (j_SV xs) j_EX mm_X6_waited 36 _ [.long t1] S n 0 0 _
    exact q_lret rfl rfl trivial ⟨rfl, rfl, t1, rfl, q1⟩
end MA
