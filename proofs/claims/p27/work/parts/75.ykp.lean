/-! the class's keep: what it answers, what the shelf holds then -/
section YK
variable {θ : Th} {L : Nat} {xs : Nat → Int32} {S : Nat → pm_E} {n : Nat}
def NWq (S : Nat → pm_E) (n : Nat) (Q : (Nat → pm_E) → Prop) : q_K := fun r S' n' => n ≤ n' ∧ r = some (.ref n) ∧ (∀ j, j < n → S' j = S j) ∧ xh (hp S' n') n ∧ (∃ ci fs, S' n = .inr (ci, fs) ∧ (Nat.beq ci 2 || (Nat.beq ci 7 || Nat.beq ci 8)) = true ∧ n < n') ∧ Q S'
set_option maxHeartbeats 4000000 in
theorem c_st2 {k i : Int32} {X I : Nat} {l4 l5 : Nat → Int32} (hG : GS θ S n) (hj : J2 θ S) (hA : stA θ k i X I) (k4 : S 4 = .inl (0, 24, .inl l4)) (k5 : S 5 = .inl (0, 24, .inl l5)) : PM (j_SL L) (j_SV xs) j_EX mm_X11_statementOf [.ref 0, .int k, .int i] S n (NWq S n (fun S' => S' n = .inr (8, [.int (l5 (8 * X + I)), .int (l4 (8 * X + I))]))) := by
  have hn := gs_n hG
  obtain ⟨fs, fs1, ln, k0, f0, k1, f10, f12, f13, f14, f15, k3, hln, hb, b1, b2⟩ := gs_j2 hG hj
  have hX := hA.1
  have hI := hA.2.2.2.1
  change PQ (j_SL L) (j_SV xs) j_EX mm_X11_statementOf 0 [.ref 0, .int k, .int i, pm_un] [] S n 0 0 _
  refine q_aload_n rfl rfl rfl ?_
  refine q_getf rfl rfl (by omega) k0 f0 ?_
  refine q_iload_n rfl rfl rfl ?_
  refine q_iload_n rfl rfl rfl ?_
  refine q_cV rfl rfl (Or.inl rfl) rfl rfl rfl rfl (by omega) k1 trivial rfl rfl rfl rfl rfl (c_ce hG hj hA) ?_
  rintro r _ _ ⟨rfl, rfl, rfl⟩
  show PQ (j_SL L) (j_SV xs) j_EX mm_X11_statementOf 9 _ [.int (nI (8 * X + I))] S n 0 0 _
  refine q_ist3n rfl rfl rfl rfl ?_
  refine q_new rfl rfl rfl rfl ?_
  refine q_dupr rfl rfl ?_
  refine q_aload_n rfl rfl rfl ?_
  refine q_getf rfl rfl (by omega) ((u_ne (by omega)).trans k0) f0 ?_
  refine q_iload_n rfl rfl rfl ?_
  refine q_cV rfl rfl (Or.inl rfl) rfl rfl rfl rfl (by omega) ((u_ne (by omega)).trans k1) trivial rfl rfl rfl rfl rfl (c_ki (by omega) ((u_ne (by omega)).trans k1) f13 ((u_ne (by omega)).trans k4) (by omega)) ?_
  rintro r _ _ ⟨rfl, rfl, rfl⟩
  show PQ (j_SL L) (j_SV xs) j_EX mm_X11_statementOf 22 _ [.int (l4 (8 * X + I)), .ref n, .ref n] _ (n + 1) 1 2 _
  refine q_aload_n rfl rfl rfl ?_
  refine q_getf rfl rfl (by omega) ((u_ne (by omega)).trans k0) f0 ?_
  refine q_iload_n rfl rfl rfl ?_
  refine q_cV rfl rfl (Or.inl rfl) rfl rfl rfl rfl (by omega) ((u_ne (by omega)).trans k1) trivial rfl rfl rfl rfl rfl (c_oi (by omega) ((u_ne (by omega)).trans k1) f14 ((u_ne (by omega)).trans k5) (by omega)) ?_
  rintro r _ _ ⟨rfl, rfl, rfl⟩
  show PQ (j_SL L) (j_SV xs) j_EX mm_X11_statementOf 30 _ [.int (l5 (8 * X + I)), .int (l4 (8 * X + I)), .ref n, .ref n] _ (n + 1) 1 2 _
  refine q_cI rfl rfl (Or.inl rfl) rfl rfl rfl trivial rfl rfl rfl rfl rfl (c_i10 (by omega) u_eq) ?_
  rintro r T5 _ ⟨rfl, rfl, e5, e6⟩
  show PQ (j_SL L) (j_SV xs) j_EX mm_X11_statementOf 33 _ [.ref n] T5 (n + 1) 1 2 _
  exact q_aret rfl rfl trivial ⟨by omega, rfl, fun j hj => (e5 j (by omega)).trans (u_ne (by omega)), Or.inl ⟨_, _, by rw [hp_get (by omega), e6]⟩, ⟨8, _, e6, rfl, by omega⟩, e6⟩
set_option maxHeartbeats 4000000 in
theorem c_nr2 (hG : GS θ S n) (hj : J2 θ S) : PM (j_SL L) (j_SV xs) j_EX mm_X11_numbersOfRun [.ref 0] S n (NWq S n (fun S' => ∃ H, H ≤ 3 ∧ θ.2.2.2.2 = nI H ∧ S' n = .inr (2, [.ref (n + 1)]) ∧ ∃ g, S' (n + 1) = .inl (1, 4 + H, .inr (.inl g)))) := by
  have hn := gs_n hG
  obtain ⟨fs, k0, f0, -, v, f11⟩ := gs_0 hG
  obtain ⟨gs, g1, hg⟩ := gs_obj hG (k := 1) rfl
  obtain ⟨H, e0, b1, b2⟩ := fo_int (hg 0 _ rfl) rfl
  have hH : θ.2.2.2.2 = H := by
    obtain ⟨⟨fs1, k1, f10⟩, -⟩ := hj
    rw [g1] at k1
    cases k1
    rw [e0] at f10
    cases f10
    rfl
  have b1' : (1 : Int) ≤ H.toInt := b1
  have b2' : H.toInt ≤ (3 : Int) := b2
  obtain ⟨h, hh, rfl⟩ := nat_of (x := H) (b := 3) (by omega) (by omega)
  change PQ (j_SL L) (j_SV xs) j_EX mm_X11_numbersOfRun 0 [.ref 0, pm_un, pm_un] [] S n 0 0 _
  refine q_new rfl rfl rfl rfl ?_
  refine q_dupr rfl rfl ?_
  refine q_iconst rfl rfl ?_
  refine q_aload_n rfl rfl rfl ?_
  refine q_getf rfl rfl (by omega) ((u_ne (by omega)).trans k0) f0 ?_
  refine q_getf rfl rfl (by omega) ((u_ne (by omega)).trans g1) e0 ?_
  refine q_iadd rfl rfl ?_
  refine q_tn (z := nI (4 + h)) (nI_add 4 h) ?_
  have h4 : ¬ nI (4 + h) < 0 ∧ nI (4 + h) ≤ 60 := by
    simp only [Int32.lt_iff_toInt_lt, Int32.le_iff_toInt_le]
    rw [nI_toInt (by omega)]
    have e6 : (60 : Int32).toInt = 60 := rfl
    have e0 : (0 : Int32).toInt = 0 := rfl
    omega
  refine q_cI rfl rfl (Or.inl rfl) rfl rfl rfl ⟨rfl, rfl⟩ rfl rfl rfl rfl rfl (c_i4 h4.1 h4.2 (Nat.lt_succ_self n) u_eq) ?_
  rintro r _ _ ⟨rfl, rfl, rfl⟩
  rw [nI_clamp (by omega)]
  show PQ (j_SL L) (j_SV xs) j_EX mm_X11_numbersOfRun 16 _ [.ref n] _ (n + 2) 2 61 _
  refine q_ast1n rfl rfl rfl rfl ?_
  refine q_iconst rfl rfl ?_
  refine q_ist2n rfl rfl rfl rfl ?_
  have key2 : ∀ m k : Nat, k + m = h → ∀ (T : Nat → pm_E) (g : Nat → Int64), (∀ j, j < n → T j = S j) → T n = .inr (2, [.ref (n + 1)]) → T (n + 1) = .inl (1, 4 + h, .inr (.inl g)) → PQ (j_SL L) (j_SV xs) j_EX mm_X11_numbersOfRun 47 [.ref 0, .ref n, .int (nI k)] [] T (n + 2) 2 61 (NWq S n (fun S' => ∃ H, H ≤ 3 ∧ θ.2.2.2.2 = nI H ∧ S' n = .inr (2, [.ref (n + 1)]) ∧ ∃ g, S' (n + 1) = .inl (1, 4 + H, .inr (.inl g)))) := by
    intro m
    induction m with
    | zero =>
      intro k hk T g t1 t2 t3
      refine q_iload_n rfl rfl rfl ?_
      refine q_aload_n rfl rfl rfl ?_
      refine q_getf rfl rfl (by omega) ((t1 0 (by omega)).trans k0) f0 ?_
      refine q_getf rfl rfl (by omega) ((t1 1 (by omega)).trans g1) e0 ?_
      refine q_icge rfl rfl (fun _ => ?_) (fun c => absurd (by
        have e : k = h := by omega
        rw [e, Int32.le_iff_toInt_le]; omega) c)
      refine q_aload_n rfl rfl rfl ?_
      exact q_aret rfl rfl trivial ⟨by omega, rfl, t1, Or.inr (Or.inl ⟨n + 1, 4 + h, g, by rw [hp_get (by omega), t2], by omega, by omega, by rw [hp_get (by omega), t3]⟩), ⟨2, _, t2, rfl, by omega⟩, h, hh, hH, t2, g, t3⟩
    | succ m ih =>
      intro k hk T g t1 t2 t3
      have hGT : GS θ T (n + 2) := gs_ext hG (by omega) t1
      refine q_iload_n rfl rfl rfl ?_
      refine q_aload_n rfl rfl rfl ?_
      refine q_getf rfl rfl (by omega) ((t1 0 (by omega)).trans k0) f0 ?_
      refine q_getf rfl rfl (by omega) ((t1 1 (by omega)).trans g1) e0 ?_
      refine q_icge rfl rfl (fun c => absurd c (nI_ge (a := k) (b := h) (by omega) (by omega))) (fun _ => ?_)
      refine q_aload_n rfl rfl rfl ?_
      refine q_getf rfl rfl (by omega) t2 rfl ?_
      refine q_iconst rfl rfl ?_
      refine q_iload_n rfl rfl rfl ?_
      refine q_iadd rfl rfl ?_
      refine q_tn (z := nI (4 + k)) (nI_add 4 k) ?_
      refine q_aload_n rfl rfl rfl ?_
      refine q_getf rfl rfl (by omega) ((t1 0 (by omega)).trans k0) f11 ?_
      refine q_iload_n rfl rfl rfl ?_
      refine q_cS rfl rfl (Or.inl rfl) rfl rfl trivial rfl rfl rfl rfl rfl (w_regi hGT) ?_
      rintro r T1 _ ⟨rfl, ⟨c1, rfl, -, -⟩, hG1, e1⟩
      show PQ (j_SL L) (j_SV xs) j_EX mm_X11_numbersOfRun 73 _ [.int c1, .int (nI (4 + k)), .ref (n + 1)] T1 (n + 2) 2 61 _
      refine q_i2l rfl rfl ?_
      refine q_last rfl rfl (by omega) ((e1 (n + 1) (by omega)).trans t3) (q_inN (by omega) (by omega)) ?_
      refine q_inc2 rfl rfl rfl rfl ?_
      refine q_goto rfl ?_
      rw [show nI k + 1 = nI (k + 1) from nI_add k 1]
      exact ih (k + 1) (by omega) _ _ (fun j hj => (u_ne (by omega)).trans ((e1 j (by omega)).trans (t1 j hj))) ((u_ne (by omega)).trans ((e1 n (by omega)).trans t2)) u_eq
  have key1 : ∀ m k : Nat, k + m = 4 → ∀ (T : Nat → pm_E) (g : Nat → Int64), (∀ j, j < n → T j = S j) → T n = .inr (2, [.ref (n + 1)]) → T (n + 1) = .inl (1, 4 + h, .inr (.inl g)) → PQ (j_SL L) (j_SV xs) j_EX mm_X11_numbersOfRun 19 [.ref 0, .ref n, .int (nI k)] [] T (n + 2) 2 61 (NWq S n (fun S' => ∃ H, H ≤ 3 ∧ θ.2.2.2.2 = nI H ∧ S' n = .inr (2, [.ref (n + 1)]) ∧ ∃ g, S' (n + 1) = .inl (1, 4 + H, .inr (.inl g)))) := by
    intro m
    induction m with
    | zero =>
      intro k hk T g t1 t2 t3
      have e : k = 4 := by omega
      subst e
      refine q_iload_n rfl rfl rfl ?_
      refine q_iconst rfl rfl ?_
      refine q_icge rfl rfl (fun _ => ?_) (fun c => absurd (by decide) c)
      refine q_iconst rfl rfl ?_
      refine q_ist2n rfl rfl rfl rfl ?_
      exact key2 h 0 (by omega) T g t1 t2 t3
    | succ m ih =>
      intro k hk T g t1 t2 t3
      have hGT : GS θ T (n + 2) := gs_ext hG (by omega) t1
      refine q_iload_n rfl rfl rfl ?_
      refine q_iconst rfl rfl ?_
      refine q_icge rfl rfl (fun c => absurd c (nI_ge (a := k) (b := 4) (by omega) (by decide))) (fun _ => ?_)
      refine q_aload_n rfl rfl rfl ?_
      refine q_getf rfl rfl (by omega) t2 rfl ?_
      refine q_iload_n rfl rfl rfl ?_
      refine q_aload_n rfl rfl rfl ?_
      refine q_getf rfl rfl (by omega) ((t1 0 (by omega)).trans k0) f11 ?_
      refine q_iload_n rfl rfl rfl ?_
      refine q_cS rfl rfl (Or.inl rfl) rfl rfl trivial rfl rfl rfl rfl rfl (w_plac hGT) ?_
      rintro r T1 _ ⟨rfl, ⟨c1, rfl, -, -⟩, hG1, e1⟩
      show PQ (j_SL L) (j_SV xs) j_EX mm_X11_numbersOfRun 37 _ [.int c1, .int (nI k), .ref (n + 1)] T1 (n + 2) 2 61 _
      refine q_i2l rfl rfl ?_
      refine q_last rfl rfl (by omega) ((e1 (n + 1) (by omega)).trans t3) (q_inN (by omega) (by omega)) ?_
      refine q_inc2 rfl rfl rfl rfl ?_
      refine q_goto rfl ?_
      rw [show nI k + 1 = nI (k + 1) from nI_add k 1]
      exact ih (k + 1) (by omega) _ _ (fun j hj => (u_ne (by omega)).trans ((e1 j (by omega)).trans (t1 j hj))) ((u_ne (by omega)).trans ((e1 n (by omega)).trans t2)) u_eq
  exact key1 4 0 rfl _ _ (fun j hj => (newL_k (by omega) (by omega)).trans (u_ne (by omega))) newL_o (newL_n (by omega))
set_option maxHeartbeats 4000000 in
theorem c_ko2 {hd : Int32} {X : Nat} (hG : GS θ S n) (hj : J2 θ S) (hX : X < 3) (eX : hd = nI X) (hXh : 0 ≤ nI X ∧ nI X < θ.2.2.2.2) : PM (j_SL L) (j_SV xs) j_EX mm_X11_kindsOf [.ref 0, .int hd] S n (NWq S n (fun S' => ∃ h, h ≤ 8 ∧ θ.1 X = nI h ∧ S' n = .inr (7, [.ref (n + 1)]) ∧ ∃ g, S' (n + 1) = .inl (3, h, .inl g))) := by
  have hn := gs_n hG
  obtain ⟨fs, gs, ln, k0, f0, g1, f10, f12, f13, f14, f15, k3, hln, hb, q1, q2⟩ := gs_j2 hG hj
  change PQ (j_SL L) (j_SV xs) j_EX mm_X11_kindsOf 0 [.ref 0, .int hd, pm_un, pm_un, pm_un] [] S n 0 0 _
  refine q_aload_n rfl rfl rfl ?_
  refine q_getf rfl rfl (by omega) k0 f0 ?_
  refine q_iload_n rfl rfl rfl ?_
  refine q_cV rfl rfl (Or.inl rfl) rfl rfl rfl rfl (by omega) g1 trivial rfl rfl rfl rfl rfl (by rw [eX]; exact c_le hn g1 f10 f12 k3 hX hXh) ?_
  rintro r _ _ ⟨rfl, rfl, rfl⟩
  obtain ⟨h, hh, eh⟩ := nat_of (x := ln X) (b := 8) (hb X hX).1 (hb X hX).2
  have eh2 : θ.1 X = nI h := (hln X hX).symm.trans eh
  show PQ (j_SL L) (j_SV xs) j_EX mm_X11_kindsOf 8 _ [.int (ln X)] S n 0 0 _
  rw [eh]
  refine q_ist2n rfl rfl rfl rfl ?_
  refine q_new rfl rfl rfl rfl ?_
  refine q_dupr rfl rfl ?_
  refine q_iload_n rfl rfl rfl ?_
  have h4 : ¬ nI h < 0 ∧ nI h ≤ 60 := by
    simp only [Int32.lt_iff_toInt_lt, Int32.le_iff_toInt_le]
    rw [nI_toInt (by omega)]
    have e6 : (60 : Int32).toInt = 60 := rfl
    have e0 : (0 : Int32).toInt = 0 := rfl
    omega
  refine q_cI rfl rfl (Or.inl rfl) rfl rfl rfl ⟨rfl, rfl⟩ rfl rfl rfl rfl rfl (c_i9 h4.1 h4.2 (Nat.lt_succ_self n) u_eq) ?_
  rintro r _ _ ⟨rfl, rfl, rfl⟩
  rw [nI_clamp (by omega)]
  show PQ (j_SL L) (j_SV xs) j_EX mm_X11_kindsOf 17 _ [.ref n] _ (n + 2) 2 61 _
  refine q_ast3n rfl rfl rfl rfl ?_
  refine q_iconst rfl rfl ?_
  refine q_ist4 rfl rfl rfl rfl ?_
  have key : ∀ m k : Nat, k + m = h → ∀ (T : Nat → pm_E) (g : Nat → Int32), (∀ j, j < n → T j = S j) → T n = .inr (7, [.ref (n + 1)]) → T (n + 1) = .inl (3, h, .inl g) → (∀ j, fits .short (.int (g j)) = true) → PQ (j_SL L) (j_SV xs) j_EX mm_X11_kindsOf 21 [.ref 0, .int hd, .int (nI h), .ref n, .int (nI k)] [] T (n + 2) 2 61 (NWq S n (fun S' => ∃ h, h ≤ 8 ∧ θ.1 X = nI h ∧ S' n = .inr (7, [.ref (n + 1)]) ∧ ∃ g, S' (n + 1) = .inl (3, h, .inl g))) := by
    intro m
    induction m with
    | zero =>
      intro k hk T g t1 t2 t3 t4
      refine q_iload rfl rfl rfl ?_
      refine q_iload_n rfl rfl rfl ?_
      refine q_icge rfl rfl (fun _ => ?_) (fun c => absurd (by
        have e : k = h := by omega
        rw [e, Int32.le_iff_toInt_le]; omega) c)
      refine q_aload_n rfl rfl rfl ?_
      exact q_aret rfl rfl trivial ⟨by omega, rfl, t1, Or.inr (Or.inr ⟨n + 1, h, g, by rw [hp_get (by omega), t2], by omega, by omega, by rw [hp_get (by omega), t3], fun j _ => t4 j⟩), ⟨7, _, t2, rfl, by omega⟩, h, hh, eh2, t2, g, t3⟩
    | succ m ih =>
      intro k hk T g t1 t2 t3 t4
      have hGT : GS θ T (n + 2) := gs_ext hG (by omega) t1
      refine q_iload rfl rfl rfl ?_
      refine q_iload_n rfl rfl rfl ?_
      refine q_icge rfl rfl (fun c => absurd c (nI_ge (a := k) (b := h) (by omega) (by omega))) (fun _ => ?_)
      refine q_aload_n rfl rfl rfl ?_
      refine q_getf rfl rfl (by omega) t2 rfl ?_
      refine q_iload rfl rfl rfl ?_
      refine q_aload_n rfl rfl rfl ?_
      refine q_getf rfl rfl (by omega) ((t1 0 (by omega)).trans k0) f0 ?_
      refine q_aload_n rfl rfl rfl ?_
      refine q_getf rfl rfl (by omega) ((t1 0 (by omega)).trans k0) f0 ?_
      refine q_iload_n rfl rfl rfl ?_
      refine q_iload rfl rfl rfl ?_
      refine q_cV rfl rfl (Or.inl rfl) rfl rfl rfl rfl (by omega) ((t1 1 (by omega)).trans g1) trivial rfl rfl rfl rfl rfl (w_cell hGT) ?_
      rintro r T1 _ ⟨rfl, ⟨c1, rfl, -, -⟩, hG1, e1⟩
      show PQ (j_SL L) (j_SV xs) j_EX mm_X11_kindsOf 47 _ [.int c1, .ref 1, .int (nI k), .ref (n + 1)] T1 (n + 2) 2 61 _
      refine q_cV rfl rfl (Or.inl rfl) rfl rfl rfl rfl (by omega) ((e1 1 (by omega)).trans ((t1 1 (by omega)).trans g1)) trivial rfl rfl rfl rfl rfl (w_kind hG1) ?_
      rintro r T2 _ ⟨rfl, ⟨c2, rfl, -, -⟩, hG2, e2⟩
      show PQ (j_SL L) (j_SV xs) j_EX mm_X11_kindsOf 50 _ [.int c2, .int (nI k), .ref (n + 1)] T2 (n + 2) 2 61 _
      refine q_i2s rfl rfl ?_
      refine q_sast rfl rfl (by omega) ((e2 (n + 1) (by omega)).trans ((e1 (n + 1) (by omega)).trans t3)) (q_inN (by omega) (by omega)) ?_
      refine q_inc4 rfl rfl rfl rfl ?_
      refine q_goto rfl ?_
      rw [show nI k + 1 = nI (k + 1) from nI_add k 1]
      refine ih (k + 1) (by omega) _ _ (fun j hj => (u_ne (by omega)).trans ((e2 j (by omega)).trans ((e1 j (by omega)).trans (t1 j hj)))) ((u_ne (by omega)).trans ((e2 n (by omega)).trans ((e1 n (by omega)).trans t2))) u_eq (fun j => ?_)
      unfold upd
      split
      · rw [vp_nar_short]
        exact pk_fs _
      · exact t4 j
  exact key h 0 (by omega) _ _ (fun j hj => (newS_k (by omega) (by omega)).trans (u_ne (by omega))) newS_o (newS_n (by omega)) (fun j => rfl)
/-- what the class's keep leaves on the shelf -/
def ckpS (θ : Th) (D : Nat) (w k x : Int32) (S : Nat → pm_E) (n : Nat) (S' : Nat → pm_E) : Prop := ∃ f, S 43 = sh43 f ∧ ((w = 0 ∧ S' 43 = sh43 (va_up f D none)) ∨ (S' 43 = sh43 (va_up f D (some n)) ∧ ((w = 1 ∧ ∃ X I, stA θ k x X I ∧ ∀ l4 l5 : Nat → Int32, S 4 = .inl (0, 24, .inl l4) → S 5 = .inl (0, 24, .inl l5) → S' n = .inr (8, [.int (l5 (8 * X + I)), .int (l4 (8 * X + I))])) ∨ (w = 3 ∧ ∃ H, H ≤ 3 ∧ θ.2.2.2.2 = nI H ∧ S' n = .inr (2, [.ref (n + 1)]) ∧ ∃ g, S' (n + 1) = .inl (1, 4 + H, .inr (.inl g))) ∨ (w = 4 ∧ ∃ X h, X < 3 ∧ k = nI X ∧ h ≤ 8 ∧ θ.1 X = nI h ∧ S' n = .inr (7, [.ref (n + 1)]) ∧ ∃ g, S' (n + 1) = .inl (3, h, .inl g)))))
def ckpK (θ : Th) (d w k x : Int32) (S : Nat → pm_E) (n : Nat) : q_K := fun r S' n' => n ≤ n' ∧ GS θ S' n' ∧ (∀ j, j < n → j ≠ 43 → S' j = S j) ∧ ∃ z : Int32, r = some (.int z) ∧ kpR θ d w k x z ∧ ((z ≠ 0 ∧ S = S') ∨ (z = 0 ∧ ckpS θ d.toNatClampNeg w k x S n S'))
theorem kp_en2 {D : Nat} {f : Nat → Option Nat} {T2 : Nat → pm_E} {n2 : Nat} (hG : GS θ S n) (h43 : S 43 = sh43 f) (a1 : n ≤ n2) (a3 : ∀ j, j < n → T2 j = S j) (a4 : xh (hp T2 n2) n) : GS θ (va_up T2 43 (sh43 (va_up f D (some n)))) n2 := by
  have hn := gs_n hG
  refine gs_put hG h43 a1 (fun k h1 h2 => (u_ne h2).trans (a3 k h1)) u_eq (fun y0 e => ?_)
  cases e
  exact ⟨hn, xh_mono (Nat.le_refl n2) (fun k h1 h2 => u_ne (by omega)) hn a4⟩
set_option maxHeartbeats 4000000 in
theorem c_kp2 {d w k x : Int32} (hG : GS θ S n) (hj : J2 θ S) : PM (j_SL L) (j_SV xs) j_EX mm_X11_keep [.ref 0, .int d, .int w, .int k, .int x] S n (ckpK θ d w k x S n) := by
  have hn := gs_n hG
  obtain ⟨f, h43, -⟩ := gs_43 hG
  obtain ⟨fs, k0, f0, f7, -⟩ := gs_0 hG
  obtain ⟨fs', gs, ln, k0', f0', g1, f10, f12, f13, f14, f15, k3, hln, hb, b1, b2⟩ := gs_j2 hG hj
  obtain ⟨l4, k4, -⟩ := gs_a1 hG (k := 4) rfl
  obtain ⟨l5, k5, -⟩ := gs_a1 hG (k := 5) rfl
  change PQ (j_SL L) (j_SV xs) j_EX mm_X11_keep 0 [.ref 0, .int d, .int w, .int k, .int x] [] S n 0 0 _
  refine q_iload_n rfl rfl rfl ?_
  refine q_bipush rfl rfl ?_
  refine q_cS rfl rfl (Or.inl rfl) rfl rfl trivial rfl rfl rfl rfl rfl c_wi ?_
  rintro r _ _ ⟨rfl, rfl, hr⟩
  rcases hr with ⟨q, rfl⟩ | ⟨q, rfl⟩
  · show PQ (j_SL L) (j_SV xs) j_EX mm_X11_keep 6 _ [.int 0] S n 0 0 _
    refine q_ifne rfl rfl (fun _ => ?_) (fun c => absurd rfl c)
    refine q_iconst rfl rfl ?_
    exact q_iret rfl rfl trivial ⟨Nat.le_refl n, hG, fun _ _ _ => rfl, -1, rfl, Or.inr ⟨fun h => c_out q h.1, rfl⟩, Or.inl ⟨by decide, rfl⟩⟩
  show PQ (j_SL L) (j_SV xs) j_EX mm_X11_keep 6 _ [.int 1] S n 0 0 _
  refine q_ifne rfl rfl (fun c => absurd c (by decide)) (fun _ => ?_)
  obtain ⟨hin, hd8⟩ := c_in8 q
  have s103 : ¬ kpO θ d w k x → PQ (j_SL L) (j_SV xs) j_EX mm_X11_keep 103 [.ref 0, .int d, .int w, .int k, .int x] [] S n 0 0 (ckpK θ d w k x S n) := by
    intro hO
    refine q_iconst rfl rfl ?_
    exact q_iret rfl rfl trivial ⟨Nat.le_refl n, hG, fun _ _ _ => rfl, -1, rfl, Or.inr ⟨hO, rfl⟩, Or.inl ⟨by decide, rfl⟩⟩
  have s74 : ¬ w = 0 → ¬ w = 3 → ¬ (w = 1 ∧ stP θ k x) → PQ (j_SL L) (j_SV xs) j_EX mm_X11_keep 74 [.ref 0, .int d, .int w, .int k, .int x] [] S n 0 0 (ckpK θ d w k x S n) := by
    intro c0 c3 c1
    refine q_iload_n rfl rfl rfl ?_
    refine q_iconst rfl rfl ?_
    refine q_icne rfl rfl (fun c4 => ?_) (fun c4 => s103 ?_)
    rotate_left
    · rintro ⟨-, h | h | h | h⟩
      · exact c0 h
      · exact c3 h
      · exact c1 h
      · exact c4 h.1
    refine q_aload_n rfl rfl rfl ?_
    refine q_getf rfl rfl (by omega) k0 f0 ?_
    refine q_iload_n rfl rfl rfl ?_
    refine q_cV rfl rfl (Or.inl rfl) rfl rfl rfl rfl (by omega) g1 trivial rfl rfl rfl rfl rfl (c_hh hn g1 f10) ?_
    rintro r _ _ ⟨rfl, rfl, hr⟩
    rcases hr with ⟨p, rfl⟩ | ⟨p, rfl⟩
    · show PQ (j_SL L) (j_SV xs) j_EX mm_X11_keep 87 _ [.int 0] S n 0 0 _
      refine q_ifeq rfl rfl (fun _ => s103 ?_) (fun c => absurd rfl c)
      rintro ⟨-, h | h | h | h⟩
      · exact c0 h
      · exact c3 h
      · exact c1 h
      · exact p h.2
    show PQ (j_SL L) (j_SV xs) j_EX mm_X11_keep 87 _ [.int 1] S n 0 0 _
    refine q_ifeq rfl rfl (fun c => absurd c (by decide)) (fun _ => ?_)
    have hO : kpO θ d w k x := ⟨q, Or.inr (Or.inr (Or.inr ⟨c4, p⟩))⟩
    obtain ⟨⟨X, hX, eX, hXh⟩, -⟩ := hnd b1 b2 p
    refine q_aload_n rfl rfl rfl ?_
    refine q_getf rfl rfl (by omega) k0 f7 ?_
    refine q_iload_n rfl rfl rfl ?_
    refine q_aload_n rfl rfl rfl ?_
    refine q_iload_n rfl rfl rfl ?_
    refine q_cV rfl rfl (Or.inl rfl) rfl rfl rfl rfl (by omega) k0 ⟨rfl, rfl⟩ rfl rfl rfl rfl rfl (c_ko2 hG hj hX eX (by rw [← eX]; exact p)) ?_
    rintro r T2 n2 ⟨a1, rfl, a3, a4, ⟨ci, gs2, a5, a6, a7⟩, h, hh, eh, t1, g, t2⟩
    show PQ (j_SL L) (j_SV xs) j_EX mm_X11_keep 100 _ [.ref n, .int d, .ref 43] T2 n2 _ _ _
    refine q_aast rfl rfl (by omega) a7 ((a3 43 (by omega)).trans h43) a5 a6 hin ?_
    refine q_iconst rfl rfl ?_
    exact q_iret rfl rfl trivial ⟨a1, kp_en2 hG h43 a1 a3 a4, fun j h1 h2 => (u_ne h2).trans (a3 j h1), 0, rfl, Or.inl ⟨hO, rfl⟩, Or.inr ⟨rfl, f, h43, Or.inr ⟨u_eq, Or.inr (Or.inr ⟨c4, X, h, hX, eX, hh, eh, (u_ne (by omega)).trans t1, g, (u_ne (by omega)).trans t2⟩)⟩⟩⟩
  have s57 : ¬ w = 0 → ¬ (w = 1 ∧ stP θ k x) → PQ (j_SL L) (j_SV xs) j_EX mm_X11_keep 57 [.ref 0, .int d, .int w, .int k, .int x] [] S n 0 0 (ckpK θ d w k x S n) := by
    intro c0 c1
    refine q_iload_n rfl rfl rfl ?_
    refine q_iconst rfl rfl ?_
    refine q_icne rfl rfl (fun c3 => ?_) (fun c3 => s74 c0 c3 c1)
    have hO : kpO θ d w k x := ⟨q, Or.inr (Or.inl c3)⟩
    refine q_aload_n rfl rfl rfl ?_
    refine q_getf rfl rfl (by omega) k0 f7 ?_
    refine q_iload_n rfl rfl rfl ?_
    refine q_aload_n rfl rfl rfl ?_
    refine q_cV rfl rfl (Or.inl rfl) rfl rfl rfl rfl (by omega) k0 ⟨rfl, rfl⟩ rfl rfl rfl rfl rfl (c_nr2 hG hj) ?_
    rintro r T2 n2 ⟨a1, rfl, a3, a4, ⟨ci, gs2, a5, a6, a7⟩, h, hh, eh, t1, g, t2⟩
    show PQ (j_SL L) (j_SV xs) j_EX mm_X11_keep 71 _ [.ref n, .int d, .ref 43] T2 n2 _ _ _
    refine q_aast rfl rfl (by omega) a7 ((a3 43 (by omega)).trans h43) a5 a6 hin ?_
    refine q_iconst rfl rfl ?_
    exact q_iret rfl rfl trivial ⟨a1, kp_en2 hG h43 a1 a3 a4, fun j h1 h2 => (u_ne h2).trans (a3 j h1), 0, rfl, Or.inl ⟨hO, rfl⟩, Or.inr ⟨rfl, f, h43, Or.inr ⟨u_eq, Or.inr (Or.inl ⟨c3, h, hh, eh, (u_ne (by omega)).trans t1, g, (u_ne (by omega)).trans t2⟩)⟩⟩⟩
  refine q_iload_n rfl rfl rfl ?_
  refine q_ifne rfl rfl (fun c0 => ?_) (fun c0 => ?_)
  · refine q_aload_n rfl rfl rfl ?_
    refine q_getf rfl rfl (by omega) k0 f7 ?_
    refine q_iload_n rfl rfl rfl ?_
    refine q_null rfl rfl ?_
    refine q_aastN rfl rfl (by omega) h43 hin ?_
    refine q_iconst rfl rfl ?_
    exact q_iret rfl rfl trivial ⟨Nat.le_refl n, gs_put hG h43 (Nat.le_refl n) (fun k _ h2 => u_ne h2) u_eq (fun y0 e => by cases e), fun j _ h2 => u_ne h2, 0, rfl, Or.inl ⟨⟨q, Or.inl c0⟩, rfl⟩, Or.inr ⟨rfl, f, h43, Or.inl ⟨c0, u_eq⟩⟩⟩
  refine q_iload_n rfl rfl rfl ?_
  refine q_iconst rfl rfl ?_
  refine q_icne rfl rfl (fun c1 => ?_) (fun c1 => s57 c0 (fun h => c1 h.1))
  refine q_aload_n rfl rfl rfl ?_
  refine q_getf rfl rfl (by omega) k0 f0 ?_
  refine q_iload_n rfl rfl rfl ?_
  refine q_iload rfl rfl rfl ?_
  refine q_cV rfl rfl (Or.inl rfl) rfl rfl rfl rfl (by omega) g1 trivial rfl rfl rfl rfl rfl (c_hs hG hj) ?_
  rintro r _ _ ⟨rfl, rfl, hr⟩
  rcases hr with ⟨p, rfl⟩ | ⟨p, rfl⟩
  · show PQ (j_SL L) (j_SV xs) j_EX mm_X11_keep 39 _ [.int 0] S n 0 0 _
    exact q_ifeq rfl rfl (fun _ => s57 c0 (fun h => p h.2)) (fun c => absurd rfl c)
  show PQ (j_SL L) (j_SV xs) j_EX mm_X11_keep 39 _ [.int 1] S n 0 0 _
  refine q_ifeq rfl rfl (fun c => absurd c (by decide)) (fun _ => ?_)
  have hO : kpO θ d w k x := ⟨q, Or.inr (Or.inr (Or.inl ⟨c1, p⟩))⟩
  obtain ⟨X, I, hA⟩ := p
  refine q_aload_n rfl rfl rfl ?_
  refine q_getf rfl rfl (by omega) k0 f7 ?_
  refine q_iload_n rfl rfl rfl ?_
  refine q_aload_n rfl rfl rfl ?_
  refine q_iload_n rfl rfl rfl ?_
  refine q_iload rfl rfl rfl ?_
  refine q_cV rfl rfl (Or.inl rfl) rfl rfl rfl rfl (by omega) k0 ⟨rfl, rfl⟩ rfl rfl rfl rfl rfl (c_st2 hG hj hA k4 k5) ?_
  rintro r T2 n2 ⟨a1, rfl, a3, a4, ⟨ci, gs2, a5, a6, a7⟩, t1⟩
  show PQ (j_SL L) (j_SV xs) j_EX mm_X11_keep 54 _ [.ref n, .int d, .ref 43] T2 n2 _ _ _
  refine q_aast rfl rfl (by omega) a7 ((a3 43 (by omega)).trans h43) a5 a6 hin ?_
  refine q_iconst rfl rfl ?_
  refine q_iret rfl rfl trivial ⟨a1, kp_en2 hG h43 a1 a3 a4, fun j h1 h2 => (u_ne h2).trans (a3 j h1), 0, rfl, Or.inl ⟨hO, rfl⟩, Or.inr ⟨rfl, f, h43, Or.inr ⟨u_eq, Or.inl ⟨c1, X, I, hA, fun m4 m5 q4 q5 => ?_⟩⟩⟩⟩
  rw [k4] at q4
  rw [k5] at q5
  cases q4
  cases q5
  exact (u_ne (by omega)).trans t1
end YK
