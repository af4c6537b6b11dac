/-! the class's keep -/
section CM
variable {θ : Th} {L : Nat} {xs : Nat → Int32} {S : Nat → pm_E} {n : Nat}
theorem kc_bd {A B : Int} {C : ck_Ct} {r0 : List Int} {r : Option Value} {S' : Nat → pm_E} {n' : Nat} (hP : C.2.2.2.1.all (fun P => Nat.beq P.2.1.1 0 && (decide (A ≤ P.2.1.2.1) && decide (P.2.1.2.2 ≤ B))) = true) (h : KC θ C r0 S n r S' n') : n' = n ∧ (∃ x : Int32, r = some (.int x) ∧ A ≤ x.toInt ∧ x.toInt ≤ B) ∧ GS θ S' n ∧ fr1 C.2.2.2.2 S S' n := by
  obtain ⟨h1, h2, h3, P, hp, h4, h5, -⟩ := h
  have e := List.all_eq_true.mp hP P hp
  rw [Bool.and_eq_true, Bool.and_eq_true] at e
  unfold ck_rv at h5
  rw [Nat.eq_of_beq_eq_true e.1] at h5
  obtain ⟨x, hx, h6, h7⟩ := h5
  have g1 := of_decide_eq_true e.2.1
  have g2 := of_decide_eq_true e.2.2
  exact ⟨h1, ⟨x, hx, by omega, by omega⟩, h2, h3⟩
def wB (θ : Th) (A B : Int) (S : Nat → pm_E) (n : Nat) : q_K := fun r S' n' => n = n' ∧ (∃ x : Int32, r = some (.int x) ∧ A ≤ x.toInt ∧ x.toInt ≤ B) ∧ GS θ S' n ∧ ∀ k, k < n → S' k = S k
theorem wb_of {A B : Int} {C : ck_Ct} {r0 : List Int} {r : Option Value} {S' : Nat → pm_E} {n' : Nat} (hm : C.2.2.2.2 = []) (hP : C.2.2.2.1.all (fun P => Nat.beq P.2.1.1 0 && (decide (A ≤ P.2.1.2.1) && decide (P.2.1.2.2 ≤ B))) = true) (h : KC θ C r0 S n r S' n') : wB θ A B S n r S' n' := by
  obtain ⟨h1, h2, h3, h4⟩ := kc_bd hP h
  exact ⟨h1.symm, h2, h3, fun k hk => h4 k hk (by rw [hm]; rfl)⟩
theorem w_cell {a b : Int32} (hG : GS θ S n) : PM (j_SL L) (j_SV xs) j_EX mm_X8_cellOf [.ref 1, .int a, .int b] S n (wB θ (-1) 23 S n) := pm_weak (q_kc w25 [a.toInt, b.toInt] hG ⟨rfl, ck_oku rfl rfl, ck_oku rfl rfl, trivial⟩ (ck_en_c (fullI a).1 (fullI a).2 (ck_en_c (fullI b).1 (fullI b).2 ck_en_n)) (fun d hd => by cases hd)) (fun r S9 n9 h => wb_of rfl rfl h)
theorem w_kind {a : Int32} (hG : GS θ S n) : PM (j_SL L) (j_SV xs) j_EX mm_X8_kindIn [.ref 1, .int a] S n (wB θ (-2147483648) 2147483647 S n) := pm_weak (q_kc w26 [a.toInt] hG ⟨rfl, ck_oku rfl rfl, trivial⟩ (ck_en_c (fullI a).1 (fullI a).2 ck_en_n) (fun d hd => by cases hd)) (fun r S9 n9 h => wb_of rfl rfl h)
theorem w_oper {a : Int32} (hG : GS θ S n) : PM (j_SL L) (j_SV xs) j_EX mm_X8_operandIn [.ref 1, .int a] S n (wB θ (-2147483648) 2147483647 S n) := pm_weak (q_kc w27 [a.toInt] hG ⟨rfl, ck_oku rfl rfl, trivial⟩ (ck_en_c (fullI a).1 (fullI a).2 ck_en_n) (fun d hd => by cases hd)) (fun r S9 n9 h => wb_of rfl rfl h)
theorem w_leng {a : Int32} (hG : GS θ S n) : PM (j_SL L) (j_SV xs) j_EX mm_X8_lengthOf [.ref 1, .int a] S n (wB θ 0 8 S n) := pm_weak (q_kc w17 [a.toInt] hG ⟨rfl, ck_oku rfl rfl, trivial⟩ (ck_en_c (fullI a).1 (fullI a).2 ck_en_n) (fun d hd => by cases hd)) (fun r S9 n9 h => wb_of rfl rfl h)
theorem w_hasS {a b : Int32} (hG : GS θ S n) : PM (j_SL L) (j_SV xs) j_EX mm_X8_hasStatement [.ref 1, .int a, .int b] S n (wB θ 0 1 S n) := pm_weak (q_kc w24 [a.toInt, b.toInt] hG ⟨rfl, ck_oku rfl rfl, ck_oku rfl rfl, trivial⟩ (ck_en_c (fullI a).1 (fullI a).2 (ck_en_c (fullI b).1 (fullI b).2 ck_en_n)) (fun d hd => by cases hd)) (fun r S9 n9 h => wb_of rfl rfl h)
theorem w_hasH {a : Int32} (hG : GS θ S n) : PM (j_SL L) (j_SV xs) j_EX mm_X8_hasHand [.ref 1, .int a] S n (wB θ 0 1 S n) := pm_weak (q_kc w10 [a.toInt] hG ⟨rfl, ck_oku rfl rfl, trivial⟩ (ck_en_c (fullI a).1 (fullI a).2 ck_en_n) (fun d hd => by cases hd)) (fun r S9 n9 h => wb_of rfl rfl h)
theorem w_plac {a : Int32} {v : Int64} (hG : GS θ S n) : PM (j_SL L) (j_SV xs) j_EX mm_X0_place [.long v, .int a] S n (wB θ 0 15 S n) := pm_weak (q_kc w34 [a.toInt] hG ⟨⟨v, rfl⟩, ck_oku rfl rfl, trivial⟩ (ck_en_c (fullI a).1 (fullI a).2 ck_en_n) (fun d hd => by cases hd)) (fun r S9 n9 h => wb_of rfl rfl h)
theorem w_regi {a : Int32} {v : Int64} (hG : GS θ S n) : PM (j_SL L) (j_SV xs) j_EX mm_X0_register [.long v, .int a] S n (wB θ 0 15 S n) := pm_weak (q_kc w41 [a.toInt] hG ⟨⟨v, rfl⟩, ck_oku rfl rfl, trivial⟩ (ck_en_c (fullI a).1 (fullI a).2 ck_en_n) (fun d hd => by cases hd)) (fun r S9 n9 h => wb_of rfl rfl h)
theorem c_i10 {o : Nat} {x y : Int32} (ho : o < n) (hs : S o = .inr (8, [.int 0, .int 0])) : PM (j_SL L) (j_SV xs) j_EX mm_X10_init [.ref o, .int x, .int y] S n (fun r S' n' => r = none ∧ n = n' ∧ (∀ j, j ≠ o → S' j = S j) ∧ S' o = .inr (8, [.int y, .int x])) := by
  change PQ (j_SL L) (j_SV xs) j_EX mm_X10_init 0 [.ref o, .int x, .int y] [] S n 0 0 _
  refine q_aload_n rfl rfl rfl ?_
  refine q_cI rfl rfl (Or.inr rfl) rfl rfl rfl trivial rfl rfl rfl rfl rfl c_i2 ?_
  rintro r _ _ ⟨rfl, rfl, rfl⟩
  show PQ (j_SL L) (j_SV xs) j_EX mm_X10_init 4 _ [] _ _ 0 0 _
  refine q_aload_n rfl rfl rfl ?_
  refine q_iload_n rfl rfl rfl ?_
  refine q_putf rfl rfl ho hs (by decide) rfl trivial ?_
  refine q_aload_n rfl rfl rfl ?_
  refine q_iload_n rfl rfl rfl ?_
  refine q_putf rfl rfl ho u_eq (show 0 < 2 by decide) rfl trivial ?_
  exact q_ret rfl rfl ⟨rfl, rfl, fun j hj => (u_ne hj).trans (u_ne hj), u_eq⟩
/-- what a new thing's maker leaves -/
def NW (S : Nat → pm_E) (n : Nat) : q_K := fun r S' n' => n ≤ n' ∧ r = some (.ref n) ∧ (∀ j, j < n → S' j = S j) ∧ xh (hp S' n') n ∧ ∃ ci fs, S' n = .inr (ci, fs) ∧ (Nat.beq ci 2 || (Nat.beq ci 7 || Nat.beq ci 8)) = true ∧ n < n'
set_option maxHeartbeats 4000000 in
theorem c_st {k i : Int32} (hG : GS θ S n) : PM (j_SL L) (j_SV xs) j_EX mm_X11_statementOf [.ref 0, .int k, .int i] S n (NW S n) := by
  have hn := gs_n hG
  obtain ⟨fs, k0, f0, -, -⟩ := gs_0 hG
  obtain ⟨gs, g1, -⟩ := gs_obj hG (k := 1) rfl
  change PQ (j_SL L) (j_SV xs) j_EX mm_X11_statementOf 0 [.ref 0, .int k, .int i, pm_un] [] S n 0 0 _
  refine q_aload_n rfl rfl rfl ?_
  refine q_getf rfl rfl (by omega) k0 f0 ?_
  refine q_iload_n rfl rfl rfl ?_
  refine q_iload_n rfl rfl rfl ?_
  refine q_cV rfl rfl (Or.inl rfl) rfl rfl rfl rfl (by omega) g1 trivial rfl rfl rfl rfl rfl (w_cell hG) ?_
  rintro r T1 _ ⟨rfl, ⟨c1, rfl, -, -⟩, hG1, e1⟩
  show PQ (j_SL L) (j_SV xs) j_EX mm_X11_statementOf 9 _ [.int c1] T1 n 0 0 _
  refine q_ist3n rfl rfl rfl rfl ?_
  refine q_new rfl rfl rfl rfl ?_
  refine q_dupr rfl rfl ?_
  have hG2 : GS θ (va_up T1 n (.inr (8, j_df 8))) (n + 1) := gs_ext hG1 (by omega) (fun j hj => u_ne (by omega))
  refine q_aload_n rfl rfl rfl ?_
  refine q_getf rfl rfl (by omega) ((u_ne (by omega)).trans ((e1 0 (by omega)).trans k0)) f0 ?_
  refine q_iload_n rfl rfl rfl ?_
  refine q_cV rfl rfl (Or.inl rfl) rfl rfl rfl rfl (by omega) ((u_ne (by omega)).trans ((e1 1 (by omega)).trans g1)) trivial rfl rfl rfl rfl rfl (w_kind hG2) ?_
  rintro r T3 _ ⟨rfl, ⟨c2, rfl, -, -⟩, hG3, e3⟩
  show PQ (j_SL L) (j_SV xs) j_EX mm_X11_statementOf 22 _ [.int c2, .ref n, .ref n] T3 (n + 1) 1 2 _
  refine q_aload_n rfl rfl rfl ?_
  refine q_getf rfl rfl (by omega) ((e3 0 (by omega)).trans ((u_ne (by omega)).trans ((e1 0 (by omega)).trans k0))) f0 ?_
  refine q_iload_n rfl rfl rfl ?_
  refine q_cV rfl rfl (Or.inl rfl) rfl rfl rfl rfl (by omega) ((e3 1 (by omega)).trans ((u_ne (by omega)).trans ((e1 1 (by omega)).trans g1))) trivial rfl rfl rfl rfl rfl (w_oper hG3) ?_
  rintro r T4 _ ⟨rfl, ⟨c3, rfl, -, -⟩, hG4, e4⟩
  show PQ (j_SL L) (j_SV xs) j_EX mm_X11_statementOf 30 _ [.int c3, .int c2, .ref n, .ref n] T4 (n + 1) 1 2 _
  refine q_cI rfl rfl (Or.inl rfl) rfl rfl rfl trivial rfl rfl rfl rfl rfl (c_i10 (by omega) ((e4 n (by omega)).trans ((e3 n (by omega)).trans u_eq))) ?_
  rintro r T5 _ ⟨rfl, rfl, e5, e6⟩
  show PQ (j_SL L) (j_SV xs) j_EX mm_X11_statementOf 33 _ [.ref n] T5 (n + 1) 1 2 _
  exact q_aret rfl rfl trivial ⟨by omega, rfl, fun j hj => (e5 j (by omega)).trans ((e4 j (by omega)).trans ((e3 j (by omega)).trans ((u_ne (by omega)).trans (e1 j hj)))), Or.inl ⟨c3, c2, by rw [hp_get (by omega), e6]⟩, 8, _, e6, rfl, by omega⟩
set_option maxHeartbeats 4000000 in
theorem c_nr (hG : GS θ S n) : PM (j_SL L) (j_SV xs) j_EX mm_X11_numbersOfRun [.ref 0] S n (NW S n) := by
  have hn := gs_n hG
  obtain ⟨fs, k0, f0, -, v, f11⟩ := gs_0 hG
  obtain ⟨gs, g1, hg⟩ := gs_obj hG (k := 1) rfl
  obtain ⟨H, e0, b1, b2⟩ := fo_int (hg 0 _ rfl) rfl
  have b1' : (1 : Int) ≤ H.toInt := b1
  have b2' : H.toInt ≤ (3 : Int) := b2
  obtain ⟨h, hh, rfl⟩ := nat_of (x := H) (b := 3) (by omega) (by omega)
  change PQ (j_SL L) (j_SV xs) j_EX mm_X11_numbersOfRun 0 [.ref 0, pm_un, pm_un] [] S n 0 0 _
  refine q_new rfl rfl rfl rfl ?_
  refine q_dupr rfl rfl ?_
  refine q_iconst rfl rfl ?_
  refine q_aload_n rfl rfl rfl ?_
  refine q_getf rfl rfl (by omega) ((u_ne (by omega)).trans k0) f0 ?_
  refine q_getf rfl rfl (by omega) ((u_ne (by omega)).trans g1) e0 ?_
  refine q_iadd rfl rfl ?_
  refine q_tn (z := nI (4 + h)) (nI_add 4 h) ?_
  have h4 : ¬ nI (4 + h) < 0 ∧ nI (4 + h) ≤ 60 := by
    simp only [Int32.lt_iff_toInt_lt, Int32.le_iff_toInt_le]
    rw [nI_toInt (by omega)]
    have e6 : (60 : Int32).toInt = 60 := rfl
    have e0 : (0 : Int32).toInt = 0 := rfl
    omega
  refine q_cI rfl rfl (Or.inl rfl) rfl rfl rfl ⟨rfl, rfl⟩ rfl rfl rfl rfl rfl (c_i4 h4.1 h4.2 (Nat.lt_succ_self n) u_eq) ?_
  rintro r _ _ ⟨rfl, rfl, rfl⟩
  rw [nI_clamp (by omega)]
  show PQ (j_SL L) (j_SV xs) j_EX mm_X11_numbersOfRun 16 _ [.ref n] _ (n + 2) 2 61 _
  refine q_ast1n rfl rfl rfl rfl ?_
  refine q_iconst rfl rfl ?_
  refine q_ist2n rfl rfl rfl rfl ?_
  have key2 : ∀ m k : Nat, k + m = h → ∀ (T : Nat → pm_E) (g : Nat → Int64), (∀ j, j < n → T j = S j) → T n = .inr (2, [.ref (n + 1)]) → T (n + 1) = .inl (1, 4 + h, .inr (.inl g)) → PQ (j_SL L) (j_SV xs) j_EX mm_X11_numbersOfRun 47 [.ref 0, .ref n, .int (nI k)] [] T (n + 2) 2 61 (NW S n) := by
    intro m
    induction m with
    | zero =>
      intro k hk T g t1 t2 t3
      refine q_iload_n rfl rfl rfl ?_
      refine q_aload_n rfl rfl rfl ?_
      refine q_getf rfl rfl (by omega) ((t1 0 (by omega)).trans k0) f0 ?_
      refine q_getf rfl rfl (by omega) ((t1 1 (by omega)).trans g1) e0 ?_
      refine q_icge rfl rfl (fun _ => ?_) (fun c => absurd (by
        have e : k = h := by omega
        rw [e, Int32.le_iff_toInt_le]; omega) c)
      refine q_aload_n rfl rfl rfl ?_
      exact q_aret rfl rfl trivial ⟨by omega, rfl, t1, Or.inr (Or.inl ⟨n + 1, 4 + h, g, by rw [hp_get (by omega), t2], by omega, by omega, by rw [hp_get (by omega), t3]⟩), 2, _, t2, rfl, by omega⟩
    | succ m ih =>
      intro k hk T g t1 t2 t3
      have hGT : GS θ T (n + 2) := gs_ext hG (by omega) t1
      refine q_iload_n rfl rfl rfl ?_
      refine q_aload_n rfl rfl rfl ?_
      refine q_getf rfl rfl (by omega) ((t1 0 (by omega)).trans k0) f0 ?_
      refine q_getf rfl rfl (by omega) ((t1 1 (by omega)).trans g1) e0 ?_
      refine q_icge rfl rfl (fun c => absurd c (nI_ge (a := k) (b := h) (by omega) (by omega))) (fun _ => ?_)
      refine q_aload_n rfl rfl rfl ?_
      refine q_getf rfl rfl (by omega) t2 rfl ?_
      refine q_iconst rfl rfl ?_
      refine q_iload_n rfl rfl rfl ?_
      refine q_iadd rfl rfl ?_
      refine q_tn (z := nI (4 + k)) (nI_add 4 k) ?_
      refine q_aload_n rfl rfl rfl ?_
      refine q_getf rfl rfl (by omega) ((t1 0 (by omega)).trans k0) f11 ?_
      refine q_iload_n rfl rfl rfl ?_
      refine q_cS rfl rfl (Or.inl rfl) rfl rfl trivial rfl rfl rfl rfl rfl (w_regi hGT) ?_
      rintro r T1 _ ⟨rfl, ⟨c1, rfl, -, -⟩, hG1, e1⟩
      show PQ (j_SL L) (j_SV xs) j_EX mm_X11_numbersOfRun 73 _ [.int c1, .int (nI (4 + k)), .ref (n + 1)] T1 (n + 2) 2 61 _
      refine q_i2l rfl rfl ?_
      refine q_last rfl rfl (by omega) ((e1 (n + 1) (by omega)).trans t3) (q_inN (by omega) (by omega)) ?_
      refine q_inc2 rfl rfl rfl rfl ?_
      refine q_goto rfl ?_
      rw [show nI k + 1 = nI (k + 1) from nI_add k 1]
      exact ih (k + 1) (by omega) _ _ (fun j hj => (u_ne (by omega)).trans ((e1 j (by omega)).trans (t1 j hj))) ((u_ne (by omega)).trans ((e1 n (by omega)).trans t2)) u_eq
  have key1 : ∀ m k : Nat, k + m = 4 → ∀ (T : Nat → pm_E) (g : Nat → Int64), (∀ j, j < n → T j = S j) → T n = .inr (2, [.ref (n + 1)]) → T (n + 1) = .inl (1, 4 + h, .inr (.inl g)) → PQ (j_SL L) (j_SV xs) j_EX mm_X11_numbersOfRun 19 [.ref 0, .ref n, .int (nI k)] [] T (n + 2) 2 61 (NW S n) := by
    intro m
    induction m with
    | zero =>
      intro k hk T g t1 t2 t3
      have e : k = 4 := by omega
      subst e
      refine q_iload_n rfl rfl rfl ?_
      refine q_iconst rfl rfl ?_
      refine q_icge rfl rfl (fun _ => ?_) (fun c => absurd (by decide) c)
      refine q_iconst rfl rfl ?_
      refine q_ist2n rfl rfl rfl rfl ?_
      exact key2 h 0 (by omega) T g t1 t2 t3
    | succ m ih =>
      intro k hk T g t1 t2 t3
      have hGT : GS θ T (n + 2) := gs_ext hG (by omega) t1
      refine q_iload_n rfl rfl rfl ?_
      refine q_iconst rfl rfl ?_
      refine q_icge rfl rfl (fun c => absurd c (nI_ge (a := k) (b := 4) (by omega) (by decide))) (fun _ => ?_)
      refine q_aload_n rfl rfl rfl ?_
      refine q_getf rfl rfl (by omega) t2 rfl ?_
      refine q_iload_n rfl rfl rfl ?_
      refine q_aload_n rfl rfl rfl ?_
      refine q_getf rfl rfl (by omega) ((t1 0 (by omega)).trans k0) f11 ?_
      refine q_iload_n rfl rfl rfl ?_
      refine q_cS rfl rfl (Or.inl rfl) rfl rfl trivial rfl rfl rfl rfl rfl (w_plac hGT) ?_
      rintro r T1 _ ⟨rfl, ⟨c1, rfl, -, -⟩, hG1, e1⟩
      show PQ (j_SL L) (j_SV xs) j_EX mm_X11_numbersOfRun 37 _ [.int c1, .int (nI k), .ref (n + 1)] T1 (n + 2) 2 61 _
      refine q_i2l rfl rfl ?_
      refine q_last rfl rfl (by omega) ((e1 (n + 1) (by omega)).trans t3) (q_inN (by omega) (by omega)) ?_
      refine q_inc2 rfl rfl rfl rfl ?_
      refine q_goto rfl ?_
      rw [show nI k + 1 = nI (k + 1) from nI_add k 1]
      exact ih (k + 1) (by omega) _ _ (fun j hj => (u_ne (by omega)).trans ((e1 j (by omega)).trans (t1 j hj))) ((u_ne (by omega)).trans ((e1 n (by omega)).trans t2)) u_eq
  exact key1 4 0 rfl _ _ (fun j hj => (newL_k (by omega) (by omega)).trans (u_ne (by omega))) newL_o (newL_n (by omega))
set_option maxHeartbeats 4000000 in
theorem c_ko {hd : Int32} (hG : GS θ S n) : PM (j_SL L) (j_SV xs) j_EX mm_X11_kindsOf [.ref 0, .int hd] S n (NW S n) := by
  have hn := gs_n hG
  obtain ⟨fs, k0, f0, -, -⟩ := gs_0 hG
  obtain ⟨gs, g1, -⟩ := gs_obj hG (k := 1) rfl
  change PQ (j_SL L) (j_SV xs) j_EX mm_X11_kindsOf 0 [.ref 0, .int hd, pm_un, pm_un, pm_un] [] S n 0 0 _
  refine q_aload_n rfl rfl rfl ?_
  refine q_getf rfl rfl (by omega) k0 f0 ?_
  refine q_iload_n rfl rfl rfl ?_
  refine q_cV rfl rfl (Or.inl rfl) rfl rfl rfl rfl (by omega) g1 trivial rfl rfl rfl rfl rfl (w_leng hG) ?_
  rintro r S0 _ ⟨rfl, ⟨ℓ, rfl, b1, b2⟩, hG0, e0⟩
  obtain ⟨h, hh, rfl⟩ := nat_of (x := ℓ) (b := 8) b1 b2
  show PQ (j_SL L) (j_SV xs) j_EX mm_X11_kindsOf 8 _ [.int (nI h)] S0 n 0 0 _
  refine q_ist2n rfl rfl rfl rfl ?_
  refine q_new rfl rfl rfl rfl ?_
  refine q_dupr rfl rfl ?_
  refine q_iload_n rfl rfl rfl ?_
  have h4 : ¬ nI h < 0 ∧ nI h ≤ 60 := by
    simp only [Int32.lt_iff_toInt_lt, Int32.le_iff_toInt_le]
    rw [nI_toInt (by omega)]
    have e6 : (60 : Int32).toInt = 60 := rfl
    have e0 : (0 : Int32).toInt = 0 := rfl
    omega
  refine q_cI rfl rfl (Or.inl rfl) rfl rfl rfl ⟨rfl, rfl⟩ rfl rfl rfl rfl rfl (c_i9 h4.1 h4.2 (Nat.lt_succ_self n) u_eq) ?_
  rintro r _ _ ⟨rfl, rfl, rfl⟩
  rw [nI_clamp (by omega)]
  show PQ (j_SL L) (j_SV xs) j_EX mm_X11_kindsOf 17 _ [.ref n] _ (n + 2) 2 61 _
  refine q_ast3n rfl rfl rfl rfl ?_
  refine q_iconst rfl rfl ?_
  refine q_ist4 rfl rfl rfl rfl ?_
  have key : ∀ m k : Nat, k + m = h → ∀ (T : Nat → pm_E) (g : Nat → Int32), (∀ j, j < n → T j = S j) → T n = .inr (7, [.ref (n + 1)]) → T (n + 1) = .inl (3, h, .inl g) → (∀ j, fits .short (.int (g j)) = true) → PQ (j_SL L) (j_SV xs) j_EX mm_X11_kindsOf 21 [.ref 0, .int hd, .int (nI h), .ref n, .int (nI k)] [] T (n + 2) 2 61 (NW S n) := by
    intro m
    induction m with
    | zero =>
      intro k hk T g t1 t2 t3 t4
      refine q_iload rfl rfl rfl ?_
      refine q_iload_n rfl rfl rfl ?_
      refine q_icge rfl rfl (fun _ => ?_) (fun c => absurd (by
        have e : k = h := by omega
        rw [e, Int32.le_iff_toInt_le]; omega) c)
      refine q_aload_n rfl rfl rfl ?_
      exact q_aret rfl rfl trivial ⟨by omega, rfl, t1, Or.inr (Or.inr ⟨n + 1, h, g, by rw [hp_get (by omega), t2], by omega, by omega, by rw [hp_get (by omega), t3], fun j _ => t4 j⟩), 7, _, t2, rfl, by omega⟩
    | succ m ih =>
      intro k hk T g t1 t2 t3 t4
      have hGT : GS θ T (n + 2) := gs_ext hG (by omega) t1
      refine q_iload rfl rfl rfl ?_
      refine q_iload_n rfl rfl rfl ?_
      refine q_icge rfl rfl (fun c => absurd c (nI_ge (a := k) (b := h) (by omega) (by omega))) (fun _ => ?_)
      refine q_aload_n rfl rfl rfl ?_
      refine q_getf rfl rfl (by omega) t2 rfl ?_
      refine q_iload rfl rfl rfl ?_
      refine q_aload_n rfl rfl rfl ?_
      refine q_getf rfl rfl (by omega) ((t1 0 (by omega)).trans k0) f0 ?_
      refine q_aload_n rfl rfl rfl ?_
      refine q_getf rfl rfl (by omega) ((t1 0 (by omega)).trans k0) f0 ?_
      refine q_iload_n rfl rfl rfl ?_
      refine q_iload rfl rfl rfl ?_
      refine q_cV rfl rfl (Or.inl rfl) rfl rfl rfl rfl (by omega) ((t1 1 (by omega)).trans g1) trivial rfl rfl rfl rfl rfl (w_cell hGT) ?_
      rintro r T1 _ ⟨rfl, ⟨c1, rfl, -, -⟩, hG1, e1⟩
      show PQ (j_SL L) (j_SV xs) j_EX mm_X11_kindsOf 47 _ [.int c1, .ref 1, .int (nI k), .ref (n + 1)] T1 (n + 2) 2 61 _
      refine q_cV rfl rfl (Or.inl rfl) rfl rfl rfl rfl (by omega) ((e1 1 (by omega)).trans ((t1 1 (by omega)).trans g1)) trivial rfl rfl rfl rfl rfl (w_kind hG1) ?_
      rintro r T2 _ ⟨rfl, ⟨c2, rfl, -, -⟩, hG2, e2⟩
      show PQ (j_SL L) (j_SV xs) j_EX mm_X11_kindsOf 50 _ [.int c2, .int (nI k), .ref (n + 1)] T2 (n + 2) 2 61 _
      refine q_i2s rfl rfl ?_
      refine q_sast rfl rfl (by omega) ((e2 (n + 1) (by omega)).trans ((e1 (n + 1) (by omega)).trans t3)) (q_inN (by omega) (by omega)) ?_
      refine q_inc4 rfl rfl rfl rfl ?_
      refine q_goto rfl ?_
      rw [show nI k + 1 = nI (k + 1) from nI_add k 1]
      refine ih (k + 1) (by omega) _ _ (fun j hj => (u_ne (by omega)).trans ((e2 j (by omega)).trans ((e1 j (by omega)).trans (t1 j hj)))) ((u_ne (by omega)).trans ((e2 n (by omega)).trans ((e1 n (by omega)).trans t2))) u_eq (fun j => ?_)
      unfold upd
      split
      · rw [vp_nar_short]
        exact pk_fs _
      · exact t4 j
  exact key h 0 (by omega) _ _ (fun j hj => (newS_k (by omega) (by omega)).trans ((u_ne (by omega)).trans (e0 j hj))) newS_o (newS_n (by omega)) (fun j => rfl)
end CM
