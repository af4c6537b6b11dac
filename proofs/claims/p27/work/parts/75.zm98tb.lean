/-! element: the class's rows, exactly -/
section TB
variable {θ : Th} {L : Nat} {xs : Nat → Int32} {S : Nat → pm_E} {n : Nat} {g0 : Nat → Int64}
def nrQ (θ : Th) (x0 : Int64) (n : Nat) (S' : Nat → pm_E) : Prop := ∃ H, H ≤ 3 ∧ θ.2.2.2.2 = nI H ∧ S' n = .inr (2, [.ref (n + 1)]) ∧ ∃ g, S' (n + 1) = .inl (1, 4 + H, .inr (.inl g)) ∧ (∀ i, i < 4 → g i = (nI (e_D x0 (12 + i))).toInt64) ∧ ∀ q, q < H → g (4 + q) = (nI (e_D x0 (4 * q + 1))).toInt64
set_option maxHeartbeats 4000000 in
theorem c_nr3 {x0 : Int64} {fs0 : List Value} (hG : GS θ S n) (hj : J2 θ S) (kk0 : S 0 = .inr (9, fs0)) (q11 : fs0[11]? = some (.long x0)) : PM (j_SL L) (j_SV xs) j_EX mm_X11_numbersOfRun [.ref 0] S n (NWq S n (nrQ θ x0 n)) := by
  have hn := gs_n hG
  obtain ⟨fs, k0, f0, -, v, f11⟩ := gs_0 hG
  have ev : v = x0 := by
    rw [k0] at kk0
    cases kk0
    rw [f11] at q11
    cases q11
    rfl
  rw [ev] at f11
  obtain ⟨gs, g1, hg⟩ := gs_obj hG (k := 1) rfl
  obtain ⟨H, e0, b1, b2⟩ := fo_int (hg 0 _ rfl) rfl
  have hH : θ.2.2.2.2 = H := by
    obtain ⟨⟨fs1, k1, f10⟩, -⟩ := hj
    rw [g1] at k1
    cases k1
    rw [e0] at f10
    cases f10
    rfl
  have b1' : (1 : Int) ≤ H.toInt := b1
  have b2' : H.toInt ≤ (3 : Int) := b2
  obtain ⟨h, hh, rfl⟩ := nat_of (x := H) (b := 3) (by omega) (by omega)
  change PQ (j_SL L) (j_SV xs) j_EX mm_X11_numbersOfRun 0 [.ref 0, pm_un, pm_un] [] S n 0 0 _
  refine q_new rfl rfl rfl rfl ?_
  refine q_dupr rfl rfl ?_
  refine q_iconst rfl rfl ?_
  refine q_aload_n rfl rfl rfl ?_
  refine q_getf rfl rfl (by omega) ((u_ne (by omega)).trans k0) f0 ?_
  refine q_getf rfl rfl (by omega) ((u_ne (by omega)).trans g1) e0 ?_
  refine q_iadd rfl rfl ?_
  refine q_tn (z := nI (4 + h)) (nI_add 4 h) ?_
  have h4 : ¬ nI (4 + h) < 0 ∧ nI (4 + h) ≤ 60 := by
    simp only [Int32.lt_iff_toInt_lt, Int32.le_iff_toInt_le]
    rw [nI_toInt (by omega)]
    have e6 : (60 : Int32).toInt = 60 := rfl
    have e0 : (0 : Int32).toInt = 0 := rfl
    omega
  refine q_cI rfl rfl (Or.inl rfl) rfl rfl rfl ⟨rfl, rfl⟩ rfl rfl rfl rfl rfl (c_i4 h4.1 h4.2 (Nat.lt_succ_self n) u_eq) ?_
  rintro r _ _ ⟨rfl, rfl, rfl⟩
  rw [nI_clamp (by omega)]
  show PQ (j_SL L) (j_SV xs) j_EX mm_X11_numbersOfRun 16 _ [.ref n] _ (n + 2) 2 61 _
  refine q_ast1n rfl rfl rfl rfl ?_
  refine q_iconst rfl rfl ?_
  refine q_ist2n rfl rfl rfl rfl ?_
  have key2 : ∀ m k : Nat, k + m = h → ∀ (T : Nat → pm_E) (g : Nat → Int64), (∀ j, j < n → T j = S j) → T n = .inr (2, [.ref (n + 1)]) → T (n + 1) = .inl (1, 4 + h, .inr (.inl g)) → (∀ i, i < 4 → g i = (nI (e_D x0 (12 + i))).toInt64) → (∀ q, q < k → g (4 + q) = (nI (e_D x0 (4 * q + 1))).toInt64) → PQ (j_SL L) (j_SV xs) j_EX mm_X11_numbersOfRun 47 [.ref 0, .ref n, .int (nI k)] [] T (n + 2) 2 61 (NWq S n (nrQ θ x0 n)) := by
    intro m
    induction m with
    | zero =>
      intro k hk T g t1 t2 t3 h1 h2
      refine q_iload_n rfl rfl rfl ?_
      refine q_aload_n rfl rfl rfl ?_
      refine q_getf rfl rfl (by omega) ((t1 0 (by omega)).trans k0) f0 ?_
      refine q_getf rfl rfl (by omega) ((t1 1 (by omega)).trans g1) e0 ?_
      refine q_icge rfl rfl (fun _ => ?_) (fun c => absurd (by
        have e : k = h := by omega
        rw [e, Int32.le_iff_toInt_le]; omega) c)
      refine q_aload_n rfl rfl rfl ?_
      exact q_aret rfl rfl trivial ⟨by omega, rfl, t1, Or.inr (Or.inl ⟨n + 1, 4 + h, g, by rw [hp_get (by omega), t2], by omega, by omega, by rw [hp_get (by omega), t3]⟩), ⟨2, _, t2, rfl, by omega⟩, h, hh, hH, t2, g, t3, h1, fun q hq => h2 q (by omega)⟩
    | succ m ih =>
      intro k hk T g t1 t2 t3 h1 h2
      have hGT : GS θ T (n + 2) := gs_ext hG (by omega) t1
      refine q_iload_n rfl rfl rfl ?_
      refine q_aload_n rfl rfl rfl ?_
      refine q_getf rfl rfl (by omega) ((t1 0 (by omega)).trans k0) f0 ?_
      refine q_getf rfl rfl (by omega) ((t1 1 (by omega)).trans g1) e0 ?_
      refine q_icge rfl rfl (fun c => absurd c (nI_ge (a := k) (b := h) (by omega) (by omega))) (fun _ => ?_)
      refine q_aload_n rfl rfl rfl ?_
      refine q_getf rfl rfl (by omega) t2 rfl ?_
      refine q_iconst rfl rfl ?_
      refine q_iload_n rfl rfl rfl ?_
      refine q_iadd rfl rfl ?_
      refine q_tn (z := nI (4 + k)) (nI_add 4 k) ?_
      refine q_aload_n rfl rfl rfl ?_
      refine q_getf rfl rfl (by omega) ((t1 0 (by omega)).trans k0) f11 ?_
      refine q_iload_n rfl rfl rfl ?_
      refine q_cS rfl rfl (Or.inl rfl) rfl rfl trivial rfl rfl rfl rfl rfl (b_register (h := k) (by omega)) ?_
      rintro r _ _ ⟨rfl, rfl, rfl⟩
      show PQ (j_SL L) (j_SV xs) j_EX mm_X11_numbersOfRun 73 _ [.int (nI (e_D x0 (4 * k + 1))), .int (nI (4 + k)), .ref (n + 1)] T (n + 2) 2 61 _
      refine q_i2l rfl rfl ?_
      refine q_last rfl rfl (by omega) t3 (q_inN (by omega) (by omega)) ?_
      rw [nI_clamp (n := 4 + k) (by omega)]
      refine q_inc2 rfl rfl rfl rfl ?_
      refine q_goto rfl ?_
      rw [show nI k + 1 = nI (k + 1) from nI_add k 1]
      refine ih (k + 1) (by omega) _ _ (fun j hj => (u_ne (by omega)).trans (t1 j hj)) ((u_ne (by omega)).trans t2) u_eq (fun i hi => (tL_ot (by omega)).trans (h1 i hi)) (fun q hq => ?_)
      by_cases e : q = k
      · rw [e]
        exact tL_at
      · exact (tL_ot (by omega)).trans (h2 q (by omega))
  have key1 : ∀ m k : Nat, k + m = 4 → ∀ (T : Nat → pm_E) (g : Nat → Int64), (∀ j, j < n → T j = S j) → T n = .inr (2, [.ref (n + 1)]) → T (n + 1) = .inl (1, 4 + h, .inr (.inl g)) → (∀ i, i < k → g i = (nI (e_D x0 (12 + i))).toInt64) → PQ (j_SL L) (j_SV xs) j_EX mm_X11_numbersOfRun 19 [.ref 0, .ref n, .int (nI k)] [] T (n + 2) 2 61 (NWq S n (nrQ θ x0 n)) := by
    intro m
    induction m with
    | zero =>
      intro k hk T g t1 t2 t3 h1
      have e : k = 4 := by omega
      subst e
      refine q_iload_n rfl rfl rfl ?_
      refine q_iconst rfl rfl ?_
      refine q_icge rfl rfl (fun _ => ?_) (fun c => absurd (by decide) c)
      refine q_iconst rfl rfl ?_
      refine q_ist2n rfl rfl rfl rfl ?_
      exact key2 h 0 (by omega) T g t1 t2 t3 h1 (fun q hq => absurd hq (Nat.not_lt_zero q))
    | succ m ih =>
      intro k hk T g t1 t2 t3 h1
      have hGT : GS θ T (n + 2) := gs_ext hG (by omega) t1
      refine q_iload_n rfl rfl rfl ?_
      refine q_iconst rfl rfl ?_
      refine q_icge rfl rfl (fun c => absurd c (nI_ge (a := k) (b := 4) (by omega) (by decide))) (fun _ => ?_)
      refine q_aload_n rfl rfl rfl ?_
      refine q_getf rfl rfl (by omega) t2 rfl ?_
      refine q_iload_n rfl rfl rfl ?_
      refine q_aload_n rfl rfl rfl ?_
      refine q_getf rfl rfl (by omega) ((t1 0 (by omega)).trans k0) f11 ?_
      refine q_iload_n rfl rfl rfl ?_
      refine q_cS rfl rfl (Or.inl rfl) rfl rfl trivial rfl rfl rfl rfl rfl (b_place (p := k) (by omega)) ?_
      rintro r _ _ ⟨rfl, rfl, rfl⟩
      show PQ (j_SL L) (j_SV xs) j_EX mm_X11_numbersOfRun 37 _ [.int (nI (e_D x0 (12 + k))), .int (nI k), .ref (n + 1)] T (n + 2) 2 61 _
      refine q_i2l rfl rfl ?_
      refine q_last rfl rfl (by omega) t3 (q_inN (by omega) (by omega)) ?_
      rw [nI_clamp (n := k) (by omega)]
      refine q_inc2 rfl rfl rfl rfl ?_
      refine q_goto rfl ?_
      rw [show nI k + 1 = nI (k + 1) from nI_add k 1]
      refine ih (k + 1) (by omega) _ _ (fun j hj => (u_ne (by omega)).trans (t1 j hj)) ((u_ne (by omega)).trans t2) u_eq (fun i hi => ?_)
      by_cases e : i = k
      · rw [e]
        exact tL_at
      · exact (tL_ot (by omega)).trans (h1 i (by omega))
  exact key1 4 0 rfl _ _ (fun j hj => (newL_k (by omega) (by omega)).trans (u_ne (by omega))) newL_o (newL_n (by omega)) (fun q hq => absurd hq (Nat.not_lt_zero q))
def koQ (θ : Th) (X n : Nat) (S' : Nat → pm_E) : Prop := ∃ h, h ≤ 8 ∧ θ.1 X = nI h ∧ S' n = .inr (7, [.ref (n + 1)]) ∧ ∃ g, S' (n + 1) = .inl (3, h, .inl g) ∧ ∀ i, i < h → g i = θ.2.1 (8 * X + i)
theorem sh12 {x : Int32} (h : inP x 0 12) : vp_nar .short (x.toInt16.toInt32) = x := by
  unfold inP at h
  rw [Int32.le_iff_toInt_le, Int32.le_iff_toInt_le] at h
  have e0 : (0 : Int32).toInt = 0 := rfl
  have e12 : (12 : Int32).toInt = 12 := rfl
  obtain ⟨k, hk, rfl⟩ := nat_of (x := x) (b := 12) (by omega) (by omega)
  exact (show ∀ k : Fin 13, vp_nar .short ((nI k.val).toInt16.toInt32) = nI k.val from by decide +kernel) ⟨k, by omega⟩
set_option maxHeartbeats 4000000 in
theorem c_ko3 {hd : Int32} {X : Nat} (hG : GS θ S n) (hj : J2 θ S) (hk : JK θ S) (hX : X < 3) (eX : hd = nI X) (hXh : 0 ≤ nI X ∧ nI X < θ.2.2.2.2) (hXi : (X : Int) < θ.2.2.2.2.toInt) : PM (j_SL L) (j_SV xs) j_EX mm_X11_kindsOf [.ref 0, .int hd] S n (NWq S n (koQ θ X n)) := by
  have hn := gs_n hG
  obtain ⟨l4, l5, l6, k4, k5, k6, h9⟩ := id hk
  have hj0 := hj
  obtain ⟨fs, gs, ln, k0, f0, g1, f10, f12, f13, f14, f15, k3, hln, hb, q1, q2⟩ := gs_j2 hG hj
  change PQ (j_SL L) (j_SV xs) j_EX mm_X11_kindsOf 0 [.ref 0, .int hd, pm_un, pm_un, pm_un] [] S n 0 0 _
  refine q_aload_n rfl rfl rfl ?_
  refine q_getf rfl rfl (by omega) k0 f0 ?_
  refine q_iload_n rfl rfl rfl ?_
  refine q_cV rfl rfl (Or.inl rfl) rfl rfl rfl rfl (by omega) g1 trivial rfl rfl rfl rfl rfl (by rw [eX]; exact c_le hn g1 f10 f12 k3 hX hXh) ?_
  rintro r _ _ ⟨rfl, rfl, rfl⟩
  obtain ⟨h, hh, eh⟩ := nat_of (x := ln X) (b := 8) (hb X hX).1 (hb X hX).2
  have eh2 : θ.1 X = nI h := (hln X hX).symm.trans eh
  show PQ (j_SL L) (j_SV xs) j_EX mm_X11_kindsOf 8 _ [.int (ln X)] S n 0 0 _
  rw [eh]
  refine q_ist2n rfl rfl rfl rfl ?_
  refine q_new rfl rfl rfl rfl ?_
  refine q_dupr rfl rfl ?_
  refine q_iload_n rfl rfl rfl ?_
  have h4 : ¬ nI h < 0 ∧ nI h ≤ 60 := by
    simp only [Int32.lt_iff_toInt_lt, Int32.le_iff_toInt_le]
    rw [nI_toInt (by omega)]
    have e6 : (60 : Int32).toInt = 60 := rfl
    have e0 : (0 : Int32).toInt = 0 := rfl
    omega
  refine q_cI rfl rfl (Or.inl rfl) rfl rfl rfl ⟨rfl, rfl⟩ rfl rfl rfl rfl rfl (c_i9 h4.1 h4.2 (Nat.lt_succ_self n) u_eq) ?_
  rintro r _ _ ⟨rfl, rfl, rfl⟩
  rw [nI_clamp (by omega)]
  show PQ (j_SL L) (j_SV xs) j_EX mm_X11_kindsOf 17 _ [.ref n] _ (n + 2) 2 61 _
  refine q_ast3n rfl rfl rfl rfl ?_
  refine q_iconst rfl rfl ?_
  refine q_ist4 rfl rfl rfl rfl ?_
  have key : ∀ m k : Nat, k + m = h → ∀ (T : Nat → pm_E) (g : Nat → Int32), (∀ j, j < n → T j = S j) → T n = .inr (7, [.ref (n + 1)]) → T (n + 1) = .inl (3, h, .inl g) → (∀ j, fits .short (.int (g j)) = true) → (∀ i, i < k → g i = θ.2.1 (8 * X + i)) → PQ (j_SL L) (j_SV xs) j_EX mm_X11_kindsOf 21 [.ref 0, .int hd, .int (nI h), .ref n, .int (nI k)] [] T (n + 2) 2 61 (NWq S n (koQ θ X n)) := by
    intro m
    induction m with
    | zero =>
      intro k hk T g t1 t2 t3 t4 t5
      refine q_iload rfl rfl rfl ?_
      refine q_iload_n rfl rfl rfl ?_
      refine q_icge rfl rfl (fun _ => ?_) (fun c => absurd (by
        have e : k = h := by omega
        rw [e, Int32.le_iff_toInt_le]; omega) c)
      refine q_aload_n rfl rfl rfl ?_
      exact q_aret rfl rfl trivial ⟨by omega, rfl, t1, Or.inr (Or.inr ⟨n + 1, h, g, by rw [hp_get (by omega), t2], by omega, by omega, by rw [hp_get (by omega), t3], fun j _ => t4 j⟩), ⟨7, _, t2, rfl, by omega⟩, h, hh, eh2, t2, g, t3, fun i hi => t5 i (by omega)⟩
    | succ m ih =>
      intro k hk T g t1 t2 t3 t4 t5
      have hGT : GS θ T (n + 2) := gs_ext hG (by omega) t1
      refine q_iload rfl rfl rfl ?_
      refine q_iload_n rfl rfl rfl ?_
      refine q_icge rfl rfl (fun c => absurd c (nI_ge (a := k) (b := h) (by omega) (by omega))) (fun _ => ?_)
      refine q_aload_n rfl rfl rfl ?_
      refine q_getf rfl rfl (by omega) t2 rfl ?_
      refine q_iload rfl rfl rfl ?_
      refine q_aload_n rfl rfl rfl ?_
      refine q_getf rfl rfl (by omega) ((t1 0 (by omega)).trans k0) f0 ?_
      refine q_aload_n rfl rfl rfl ?_
      refine q_getf rfl rfl (by omega) ((t1 0 (by omega)).trans k0) f0 ?_
      refine q_iload_n rfl rfl rfl ?_
      refine q_iload rfl rfl rfl ?_
      have hjT : J2 θ T := by
        obtain ⟨⟨fs9, a, b⟩, ln9, c, d⟩ := hj0
        exact ⟨⟨fs9, (t1 1 (by omega)).trans a, b⟩, ln9, (t1 3 (by omega)).trans c, d⟩
      have hli : (k : Int) < (θ.1 X).toInt := by
        rw [eh2, nI_toInt (by omega)]
        omega
      have hA : stA θ hd (nI k) X k := ⟨hX, eX, hXi, by omega, rfl, hli⟩
      refine q_cV rfl rfl (Or.inl rfl) rfl rfl rfl rfl (by omega) ((t1 1 (by omega)).trans g1) trivial rfl rfl rfl rfl rfl (c_ce hGT hjT hA) ?_
      rintro r _ _ ⟨rfl, rfl, rfl⟩
      show PQ (j_SL L) (j_SV xs) j_EX mm_X11_kindsOf 47 _ [.int (nI (8 * X + k)), .ref 1, .int (nI k), .ref (n + 1)] T (n + 2) 2 61 _
      refine q_cV rfl rfl (Or.inl rfl) rfl rfl rfl rfl (by omega) ((t1 1 (by omega)).trans g1) trivial rfl rfl rfl rfl rfl (c_ki (by omega) ((t1 1 (by omega)).trans g1) f13 ((t1 4 (by omega)).trans k4) (by omega)) ?_
      rintro r _ _ ⟨rfl, rfl, rfl⟩
      show PQ (j_SL L) (j_SV xs) j_EX mm_X11_kindsOf 50 _ [.int (l4 (8 * X + k)), .int (nI k), .ref (n + 1)] T (n + 2) 2 61 _
      refine q_i2s rfl rfl ?_
      refine q_sast rfl rfl (by omega) t3 (q_inN (by omega) (by omega)) ?_
      rw [nI_clamp (n := k) (by omega)]
      refine q_inc4 rfl rfl rfl rfl ?_
      refine q_goto rfl ?_
      rw [show nI k + 1 = nI (k + 1) from nI_add k 1]
      refine ih (k + 1) (by omega) _ _ (fun j hj => (u_ne (by omega)).trans (t1 j hj)) ((u_ne (by omega)).trans t2) u_eq (fun j => ?_) (fun i hi => ?_)
      · unfold upd
        split
        · rw [vp_nar_short]
          exact pk_fs _
        · exact t4 j
      · have h8 := h9 X k hX (by omega) hli
        by_cases e : i = k
        · rw [e, ← h8.2.1]
          exact upd_at.trans (sh12 h8.1)
        · exact (upd_ot e).trans (t5 i (by omega))
  exact key h 0 (by omega) _ _ (fun j hj => (newS_k (by omega) (by omega)).trans (u_ne (by omega))) newS_o (newS_n (by omega)) (fun j => rfl) (fun i hi => absurd hi (Nat.not_lt_zero i))
/-- what the class's keep leaves on the shelf, exactly -/
def ckpT (θ : Th) (D : Nat) (w k : Int32) (x0 : Int64) (S : Nat → pm_E) (n : Nat) (S' : Nat → pm_E) : Prop := ∃ f, S 43 = sh43 f ∧ ((w = 0 ∧ S' 43 = sh43 (va_up f D none)) ∨ (S' 43 = sh43 (va_up f D (some n)) ∧ ((w = 1 ∧ ∃ a b : Int32, S' n = .inr (8, [.int a, .int b])) ∨ (w = 3 ∧ nrQ θ x0 n S') ∨ (w = 4 ∧ ∃ X h, X < 3 ∧ k = nI X ∧ h ≤ 8 ∧ θ.1 X = nI h ∧ S' n = .inr (7, [.ref (n + 1)]) ∧ ∃ g, S' (n + 1) = .inl (3, h, .inl g) ∧ ∀ i, i < h → g i = θ.2.1 (8 * X + i)))))
def ckpX (θ : Th) (d w k x : Int32) (x0 : Int64) (S : Nat → pm_E) (n : Nat) : q_K := fun r S' n' => n ≤ n' ∧ GS θ S' n' ∧ (∀ j, j < n → j ≠ 43 → S' j = S j) ∧ ∃ z : Int32, r = some (.int z) ∧ kpR θ d w k x z ∧ ((z ≠ 0 ∧ S = S') ∨ (z = 0 ∧ ckpT θ d.toNatClampNeg w k x0 S n S'))
set_option maxHeartbeats 4000000 in
theorem c_kp3 {d w k x : Int32} {x0 : Int64} {fs0 : List Value} (hG : GS θ S n) (hj : J2 θ S) (hk : JK θ S) (kk0 : S 0 = .inr (9, fs0)) (q11 : fs0[11]? = some (.long x0)) : PM (j_SL L) (j_SV xs) j_EX mm_X11_keep [.ref 0, .int d, .int w, .int k, .int x] S n (ckpX θ d w k x x0 S n) := by
  have hn := gs_n hG
  obtain ⟨f, h43, -⟩ := gs_43 hG
  obtain ⟨fs, k0, f0, f7, -⟩ := gs_0 hG
  obtain ⟨fs', gs, ln, k0', f0', g1, f10, f12, f13, f14, f15, k3, hln, hb, b1, b2⟩ := gs_j2 hG hj
  obtain ⟨l4, k4, -⟩ := gs_a1 hG (k := 4) rfl
  obtain ⟨l5, k5, -⟩ := gs_a1 hG (k := 5) rfl
  change PQ (j_SL L) (j_SV xs) j_EX mm_X11_keep 0 [.ref 0, .int d, .int w, .int k, .int x] [] S n 0 0 _
  refine q_iload_n rfl rfl rfl ?_
  refine q_bipush rfl rfl ?_
  refine q_cS rfl rfl (Or.inl rfl) rfl rfl trivial rfl rfl rfl rfl rfl c_wi ?_
  rintro r _ _ ⟨rfl, rfl, hr⟩
  rcases hr with ⟨q, rfl⟩ | ⟨q, rfl⟩
  · show PQ (j_SL L) (j_SV xs) j_EX mm_X11_keep 6 _ [.int 0] S n 0 0 _
    refine q_ifne rfl rfl (fun _ => ?_) (fun c => absurd rfl c)
    refine q_iconst rfl rfl ?_
    exact q_iret rfl rfl trivial ⟨Nat.le_refl n, hG, fun _ _ _ => rfl, -1, rfl, Or.inr ⟨fun h => c_out q h.1, rfl⟩, Or.inl ⟨by decide, rfl⟩⟩
  show PQ (j_SL L) (j_SV xs) j_EX mm_X11_keep 6 _ [.int 1] S n 0 0 _
  refine q_ifne rfl rfl (fun c => absurd c (by decide)) (fun _ => ?_)
  obtain ⟨hin, hd8⟩ := c_in8 q
  have s103 : ¬ kpO θ d w k x → PQ (j_SL L) (j_SV xs) j_EX mm_X11_keep 103 [.ref 0, .int d, .int w, .int k, .int x] [] S n 0 0 (ckpX θ d w k x x0 S n) := by
    intro hO
    refine q_iconst rfl rfl ?_
    exact q_iret rfl rfl trivial ⟨Nat.le_refl n, hG, fun _ _ _ => rfl, -1, rfl, Or.inr ⟨hO, rfl⟩, Or.inl ⟨by decide, rfl⟩⟩
  have s74 : ¬ w = 0 → ¬ w = 3 → ¬ (w = 1 ∧ stP θ k x) → PQ (j_SL L) (j_SV xs) j_EX mm_X11_keep 74 [.ref 0, .int d, .int w, .int k, .int x] [] S n 0 0 (ckpX θ d w k x x0 S n) := by
    intro c0 c3 c1
    refine q_iload_n rfl rfl rfl ?_
    refine q_iconst rfl rfl ?_
    refine q_icne rfl rfl (fun c4 => ?_) (fun c4 => s103 ?_)
    rotate_left
    · rintro ⟨-, h | h | h | h⟩
      · exact c0 h
      · exact c3 h
      · exact c1 h
      · exact c4 h.1
    refine q_aload_n rfl rfl rfl ?_
    refine q_getf rfl rfl (by omega) k0 f0 ?_
    refine q_iload_n rfl rfl rfl ?_
    refine q_cV rfl rfl (Or.inl rfl) rfl rfl rfl rfl (by omega) g1 trivial rfl rfl rfl rfl rfl (c_hh hn g1 f10) ?_
    rintro r _ _ ⟨rfl, rfl, hr⟩
    rcases hr with ⟨p, rfl⟩ | ⟨p, rfl⟩
    · show PQ (j_SL L) (j_SV xs) j_EX mm_X11_keep 87 _ [.int 0] S n 0 0 _
      refine q_ifeq rfl rfl (fun _ => s103 ?_) (fun c => absurd rfl c)
      rintro ⟨-, h | h | h | h⟩
      · exact c0 h
      · exact c3 h
      · exact c1 h
      · exact p h.2
    show PQ (j_SL L) (j_SV xs) j_EX mm_X11_keep 87 _ [.int 1] S n 0 0 _
    refine q_ifeq rfl rfl (fun c => absurd c (by decide)) (fun _ => ?_)
    have hO : kpO θ d w k x := ⟨q, Or.inr (Or.inr (Or.inr ⟨c4, p⟩))⟩
    obtain ⟨⟨X, hX, eX, hXh⟩, -⟩ := hnd b1 b2 p
    refine q_aload_n rfl rfl rfl ?_
    refine q_getf rfl rfl (by omega) k0 f7 ?_
    refine q_iload_n rfl rfl rfl ?_
    refine q_aload_n rfl rfl rfl ?_
    refine q_iload_n rfl rfl rfl ?_
    refine q_cV rfl rfl (Or.inl rfl) rfl rfl rfl rfl (by omega) k0 ⟨rfl, rfl⟩ rfl rfl rfl rfl rfl (c_ko3 hG hj hk hX eX (by rw [← eX]; exact p) hXh) ?_
    rintro r T2 n2 ⟨a1, rfl, a3, a4, ⟨ci, gs2, a5, a6, a7⟩, h, hh, eh, t1, g, t2, t3⟩
    show PQ (j_SL L) (j_SV xs) j_EX mm_X11_keep 100 _ [.ref n, .int d, .ref 43] T2 n2 _ _ _
    refine q_aast rfl rfl (by omega) a7 ((a3 43 (by omega)).trans h43) a5 a6 hin ?_
    refine q_iconst rfl rfl ?_
    exact q_iret rfl rfl trivial ⟨a1, kp_en2 hG h43 a1 a3 a4, fun j h1 h2 => (u_ne h2).trans (a3 j h1), 0, rfl, Or.inl ⟨hO, rfl⟩, Or.inr ⟨rfl, f, h43, Or.inr ⟨u_eq, Or.inr (Or.inr ⟨c4, X, h, hX, eX, hh, eh, (u_ne (by omega)).trans t1, g, (u_ne (by omega)).trans t2, t3⟩)⟩⟩⟩
  have s57 : ¬ w = 0 → ¬ (w = 1 ∧ stP θ k x) → PQ (j_SL L) (j_SV xs) j_EX mm_X11_keep 57 [.ref 0, .int d, .int w, .int k, .int x] [] S n 0 0 (ckpX θ d w k x x0 S n) := by
    intro c0 c1
    refine q_iload_n rfl rfl rfl ?_
    refine q_iconst rfl rfl ?_
    refine q_icne rfl rfl (fun c3 => ?_) (fun c3 => s74 c0 c3 c1)
    have hO : kpO θ d w k x := ⟨q, Or.inr (Or.inl c3)⟩
    refine q_aload_n rfl rfl rfl ?_
    refine q_getf rfl rfl (by omega) k0 f7 ?_
    refine q_iload_n rfl rfl rfl ?_
    refine q_aload_n rfl rfl rfl ?_
    refine q_cV rfl rfl (Or.inl rfl) rfl rfl rfl rfl (by omega) k0 ⟨rfl, rfl⟩ rfl rfl rfl rfl rfl (c_nr3 hG hj kk0 q11) ?_
    rintro r T2 n2 ⟨a1, rfl, a3, a4, ⟨ci, gs2, a5, a6, a7⟩, h, hh, eh, t1, g, t2, t3, t4⟩
    show PQ (j_SL L) (j_SV xs) j_EX mm_X11_keep 71 _ [.ref n, .int d, .ref 43] T2 n2 _ _ _
    refine q_aast rfl rfl (by omega) a7 ((a3 43 (by omega)).trans h43) a5 a6 hin ?_
    refine q_iconst rfl rfl ?_
    exact q_iret rfl rfl trivial ⟨a1, kp_en2 hG h43 a1 a3 a4, fun j h1 h2 => (u_ne h2).trans (a3 j h1), 0, rfl, Or.inl ⟨hO, rfl⟩, Or.inr ⟨rfl, f, h43, Or.inr ⟨u_eq, Or.inr (Or.inl ⟨c3, h, hh, eh, (u_ne (by omega)).trans t1, g, (u_ne (by omega)).trans t2, t3, t4⟩)⟩⟩⟩
  refine q_iload_n rfl rfl rfl ?_
  refine q_ifne rfl rfl (fun c0 => ?_) (fun c0 => ?_)
  · refine q_aload_n rfl rfl rfl ?_
    refine q_getf rfl rfl (by omega) k0 f7 ?_
    refine q_iload_n rfl rfl rfl ?_
    refine q_null rfl rfl ?_
    refine q_aastN rfl rfl (by omega) h43 hin ?_
    refine q_iconst rfl rfl ?_
    exact q_iret rfl rfl trivial ⟨Nat.le_refl n, gs_put hG h43 (Nat.le_refl n) (fun k _ h2 => u_ne h2) u_eq (fun y0 e => by cases e), fun j _ h2 => u_ne h2, 0, rfl, Or.inl ⟨⟨q, Or.inl c0⟩, rfl⟩, Or.inr ⟨rfl, f, h43, Or.inl ⟨c0, u_eq⟩⟩⟩
  refine q_iload_n rfl rfl rfl ?_
  refine q_iconst rfl rfl ?_
  refine q_icne rfl rfl (fun c1 => ?_) (fun c1 => s57 c0 (fun h => c1 h.1))
  refine q_aload_n rfl rfl rfl ?_
  refine q_getf rfl rfl (by omega) k0 f0 ?_
  refine q_iload_n rfl rfl rfl ?_
  refine q_iload rfl rfl rfl ?_
  refine q_cV rfl rfl (Or.inl rfl) rfl rfl rfl rfl (by omega) g1 trivial rfl rfl rfl rfl rfl (c_hs hG hj) ?_
  rintro r _ _ ⟨rfl, rfl, hr⟩
  rcases hr with ⟨p, rfl⟩ | ⟨p, rfl⟩
  · show PQ (j_SL L) (j_SV xs) j_EX mm_X11_keep 39 _ [.int 0] S n 0 0 _
    exact q_ifeq rfl rfl (fun _ => s57 c0 (fun h => p h.2)) (fun c => absurd rfl c)
  show PQ (j_SL L) (j_SV xs) j_EX mm_X11_keep 39 _ [.int 1] S n 0 0 _
  refine q_ifeq rfl rfl (fun c => absurd c (by decide)) (fun _ => ?_)
  have hO : kpO θ d w k x := ⟨q, Or.inr (Or.inr (Or.inl ⟨c1, p⟩))⟩
  obtain ⟨X, I, hA⟩ := p
  refine q_aload_n rfl rfl rfl ?_
  refine q_getf rfl rfl (by omega) k0 f7 ?_
  refine q_iload_n rfl rfl rfl ?_
  refine q_aload_n rfl rfl rfl ?_
  refine q_iload_n rfl rfl rfl ?_
  refine q_iload rfl rfl rfl ?_
  refine q_cV rfl rfl (Or.inl rfl) rfl rfl rfl rfl (by omega) k0 ⟨rfl, rfl⟩ rfl rfl rfl rfl rfl (c_st2 hG hj hA k4 k5) ?_
  rintro r T2 n2 ⟨a1, rfl, a3, a4, ⟨ci, gs2, a5, a6, a7⟩, t1⟩
  show PQ (j_SL L) (j_SV xs) j_EX mm_X11_keep 54 _ [.ref n, .int d, .ref 43] T2 n2 _ _ _
  refine q_aast rfl rfl (by omega) a7 ((a3 43 (by omega)).trans h43) a5 a6 hin ?_
  refine q_iconst rfl rfl ?_
  refine q_iret rfl rfl trivial ⟨a1, kp_en2 hG h43 a1 a3 a4, fun j h1 h2 => (u_ne h2).trans (a3 j h1), 0, rfl, Or.inl ⟨hO, rfl⟩, Or.inr ⟨rfl, f, h43, Or.inr ⟨u_eq, Or.inl ⟨c1, _, _, (u_ne (by omega)).trans t1⟩⟩⟩⟩
section TB2
variable {R : Int32 → (Nat → pm_E) → Prop}
def PX (S : Nat → pm_E) (n : Nat) (R : Int32 → (Nat → pm_E) → Prop) : q_K := fun r S' n' => n = n' ∧ ∃ z : Int32, r = some (.int z) ∧ R z S'
def cpY (S : Nat → pm_E) (y y' : Nat) (i j m : Int32) (R : Int32 → (Nat → pm_E) → Prop) : Prop := (∀ u : Int32, u < 0 → R u S) ∧ (∀ (z z' len len' : Nat) (g g' : Nat → Int64), S y = .inr (2, [.ref z]) → S y' = .inr (2, [.ref z']) → S z = .inl (1, len, .inr (.inl g)) → S z' = .inl (1, len', .inr (.inl g')) → sp2 len len' i j m → R m (va_up S z' (.inl (1, len', .inr (.inl (va_cpy g g' i.toNatClampNeg j.toNatClampNeg m.toNatClampNeg)))))) ∧ ∀ (z z' len len' : Nat) (g g' : Nat → Int32), S y = .inr (7, [.ref z]) → S y' = .inr (7, [.ref z']) → S z = .inl (3, len, .inl g) → S z' = .inl (3, len', .inl g') → sp2 len len' i j m → R m (va_up S z' (.inl (3, len', .inl (va_cpy g g' i.toNatClampNeg j.toNatClampNeg m.toNatClampNeg))))
theorem c_tlL3 {d i e j m : Int32} {y y' z z' len len' : Nat} {g g' : Nat → Int64} (hG : GS θ S n) (hy : y < n) (hy' : y' < n) (hs : S y = .inr (2, [.ref z])) (hs' : S y' = .inr (2, [.ref z'])) (hz : z < n) (hz' : z' < n) (hz82' : 82 ≤ z') (h60 : len ≤ 60) (h60' : len' ≤ 60) (hzs : S z = .inl (1, len, .inr (.inl g))) (hzs' : S z' = .inl (1, len', .inr (.inl g'))) (hC : cpY S y y' i j m R) : PQ (j_SL L) (j_SV xs) j_EX mm_X11_copy 79 [.ref 0, .int d, .int i, .int e, .int j, .int m, .ref y, .ref y', .ref y, .ref y'] [] S n 0 0 (PX S n R) := by
  have hn := gs_n hG
  have fin : ∀ u : Int32, R u S → PX S n R (some (.int u)) S n := fun u hu => ⟨rfl, u, rfl, hu⟩
  have s110 : ¬ sp2 len len' i j m → PQ (j_SL L) (j_SV xs) j_EX mm_X11_copy 110 [.ref 0, .int d, .int i, .int e, .int j, .int m, .ref y, .ref y', .ref y, .ref y'] [] S n 0 0 (PX S n R) := by
    intro hsp
    refine q_bipush rfl rfl ?_
    exact q_iret rfl rfl trivial (fin _ (hC.1 _ (by decide)))
  refine q_aload rfl rfl rfl ?_
  refine q_getf rfl rfl hy hs rfl ?_
  refine q_alen rfl rfl hz hzs rfl ?_
  refine q_iload_n rfl rfl rfl ?_
  refine q_iload rfl rfl rfl ?_
  refine q_cS rfl rfl (Or.inl rfl) rfl rfl trivial rfl rfl rfl rfl rfl c_sp ?_
  rintro r _ _ ⟨rfl, rfl, hr⟩
  rcases hr with ⟨p1, rfl⟩ | ⟨p1, rfl⟩
  · show PQ (j_SL L) (j_SV xs) j_EX mm_X11_copy 91 _ [.int 0] S n 0 0 _
    exact q_ifeq rfl rfl (fun _ => s110 (fun h => p1 h.1)) (fun c => absurd rfl c)
  show PQ (j_SL L) (j_SV xs) j_EX mm_X11_copy 91 _ [.int 1] S n 0 0 _
  refine q_ifeq rfl rfl (fun c => absurd c (by decide)) (fun _ => ?_)
  refine q_aload rfl rfl rfl ?_
  refine q_getf rfl rfl hy' hs' rfl ?_
  refine q_alen rfl rfl hz' hzs' rfl ?_
  refine q_iload rfl rfl rfl ?_
  refine q_iload rfl rfl rfl ?_
  refine q_cS rfl rfl (Or.inl rfl) rfl rfl trivial rfl rfl rfl rfl rfl c_sp ?_
  rintro r _ _ ⟨rfl, rfl, hr⟩
  rcases hr with ⟨p2, rfl⟩ | ⟨p2, rfl⟩
  · show PQ (j_SL L) (j_SV xs) j_EX mm_X11_copy 107 _ [.int 0] S n 0 0 _
    exact q_ifne rfl rfl (fun _ => s110 (fun h => p2 h.2)) (fun c => absurd rfl c)
  show PQ (j_SL L) (j_SV xs) j_EX mm_X11_copy 107 _ [.int 1] S n 0 0 _
  refine q_ifne rfl rfl (fun c => absurd c (by decide)) (fun _ => ?_)
  refine q_aload rfl rfl rfl ?_
  refine q_getf rfl rfl hy hs rfl ?_
  refine q_iload_n rfl rfl rfl ?_
  refine q_aload rfl rfl rfl ?_
  refine q_getf rfl rfl hy' hs' rfl ?_
  refine q_iload rfl rfl rfl ?_
  refine q_iload rfl rfl rfl ?_
  refine q_cpl (idx := 311) rfl (by decide +kernel) rfl ⟨p1.2.1, p2.2.1, p1.1, sp_o h60 p1, sp_o h60' p2⟩ hz hz' hzs hzs' rfl ?_
  refine q_iload rfl rfl rfl ?_
  exact q_iret rfl rfl trivial ⟨rfl, _, rfl, hC.2.1 z z' len len' g g' hs hs' hzs hzs' ⟨p1, p2⟩⟩
theorem c_tlS3 {d i e j m : Int32} {y y' z z' len len' : Nat} {g g' : Nat → Int32} (hG : GS θ S n) (hy : y < n) (hy' : y' < n) (hs : S y = .inr (7, [.ref z])) (hs' : S y' = .inr (7, [.ref z'])) (hz : z < n) (hz' : z' < n) (hz82' : 82 ≤ z') (h60 : len ≤ 60) (h60' : len' ≤ 60) (hzs : S z = .inl (3, len, .inl g)) (hzs' : S z' = .inl (3, len', .inl g')) (hg : ∀ j, j < len → fits .short (.int (g j)) = true) (hg' : ∀ j, j < len' → fits .short (.int (g' j)) = true) (hC : cpY S y y' i j m R) : PQ (j_SL L) (j_SV xs) j_EX mm_X11_copy 164 [.ref 0, .int d, .int i, .int e, .int j, .int m, .ref y, .ref y', .ref y, .ref y'] [] S n 0 0 (PX S n R) := by
  have hn := gs_n hG
  have fin : ∀ u : Int32, R u S → PX S n R (some (.int u)) S n := fun u hu => ⟨rfl, u, rfl, hu⟩
  have s110 : ¬ sp2 len len' i j m → PQ (j_SL L) (j_SV xs) j_EX mm_X11_copy 195 [.ref 0, .int d, .int i, .int e, .int j, .int m, .ref y, .ref y', .ref y, .ref y'] [] S n 0 0 (PX S n R) := by
    intro hsp
    refine q_bipush rfl rfl ?_
    exact q_iret rfl rfl trivial (fin _ (hC.1 _ (by decide)))
  refine q_aload rfl rfl rfl ?_
  refine q_getf rfl rfl hy hs rfl ?_
  refine q_alen rfl rfl hz hzs rfl ?_
  refine q_iload_n rfl rfl rfl ?_
  refine q_iload rfl rfl rfl ?_
  refine q_cS rfl rfl (Or.inl rfl) rfl rfl trivial rfl rfl rfl rfl rfl c_sp ?_
  rintro r _ _ ⟨rfl, rfl, hr⟩
  rcases hr with ⟨p1, rfl⟩ | ⟨p1, rfl⟩
  · show PQ (j_SL L) (j_SV xs) j_EX mm_X11_copy 176 _ [.int 0] S n 0 0 _
    exact q_ifeq rfl rfl (fun _ => s110 (fun h => p1 h.1)) (fun c => absurd rfl c)
  show PQ (j_SL L) (j_SV xs) j_EX mm_X11_copy 176 _ [.int 1] S n 0 0 _
  refine q_ifeq rfl rfl (fun c => absurd c (by decide)) (fun _ => ?_)
  refine q_aload rfl rfl rfl ?_
  refine q_getf rfl rfl hy' hs' rfl ?_
  refine q_alen rfl rfl hz' hzs' rfl ?_
  refine q_iload rfl rfl rfl ?_
  refine q_iload rfl rfl rfl ?_
  refine q_cS rfl rfl (Or.inl rfl) rfl rfl trivial rfl rfl rfl rfl rfl c_sp ?_
  rintro r _ _ ⟨rfl, rfl, hr⟩
  rcases hr with ⟨p2, rfl⟩ | ⟨p2, rfl⟩
  · show PQ (j_SL L) (j_SV xs) j_EX mm_X11_copy 192 _ [.int 0] S n 0 0 _
    exact q_ifne rfl rfl (fun _ => s110 (fun h => p2 h.2)) (fun c => absurd rfl c)
  show PQ (j_SL L) (j_SV xs) j_EX mm_X11_copy 192 _ [.int 1] S n 0 0 _
  refine q_ifne rfl rfl (fun c => absurd c (by decide)) (fun _ => ?_)
  refine q_aload rfl rfl rfl ?_
  refine q_getf rfl rfl hy hs rfl ?_
  refine q_iload_n rfl rfl rfl ?_
  refine q_aload rfl rfl rfl ?_
  refine q_getf rfl rfl hy' hs' rfl ?_
  refine q_iload rfl rfl rfl ?_
  refine q_iload rfl rfl rfl ?_
  refine q_cps (idx := 311) rfl (by decide +kernel) rfl ⟨p1.2.1, p2.2.1, p1.1, sp_o h60 p1, sp_o h60' p2⟩ hz hz' hzs hzs' hg rfl ?_
  refine q_iload rfl rfl rfl ?_
  exact q_iret rfl rfl trivial ⟨rfl, _, rfl, hC.2.2 z z' len len' g g' hs hs' hzs hzs' ⟨p1, p2⟩⟩
theorem c_2193 {d i e j m : Int32} {y y' : Nat} {a8 a9 : Value} (hG : GS θ S n) (hr : R (-12) S) : PQ (j_SL L) (j_SV xs) j_EX mm_X11_copy 219 [.ref 0, .int d, .int i, .int e, .int j, .int m, .ref y, .ref y', a8, a9] [] S n 0 0 (PX S n R) := by
  refine q_bipush rfl rfl ?_
  exact q_iret rfl rfl trivial ⟨rfl, _, rfl, hr⟩
theorem c_1343 {d i e j m : Int32} {y y' : Nat} {a8 a9 : Value} (hG : GS θ S n) (hy : y < n) (hy' : y' < n) (h : hcs S n y) (h' : hcs S n y') (hC : cpY S y y' i j m R) (hL : ∀ len len', ¬ bothL S y y' len len') : PQ (j_SL L) (j_SV xs) j_EX mm_X11_copy 134 [.ref 0, .int d, .int i, .int e, .int j, .int m, .ref y, .ref y', a8, a9] [] S n 0 0 (PX S n R) := by
  refine q_aload rfl rfl rfl ?_
  rcases h with ⟨a, b, hs⟩ | ⟨z, len, g, hs, -⟩ | ⟨z, len, g, hs, hz82, hz, h60, hzs, hg⟩
  · refine q_ins (idx := 287) (T := 7) rfl (by decide +kernel) hy hs rfl rfl rfl ?_
    exact q_ifeq rfl rfl (fun _ => c_2193 hG (hC.1 _ (by decide))) (fun c => absurd rfl c)
  · refine q_ins (idx := 287) (T := 7) rfl (by decide +kernel) hy hs rfl rfl rfl ?_
    exact q_ifeq rfl rfl (fun _ => c_2193 hG (hC.1 _ (by decide))) (fun c => absurd rfl c)
  · refine q_ins (idx := 287) (T := 7) rfl (by decide +kernel) hy hs rfl rfl rfl ?_
    refine q_ifeq rfl rfl (fun c => absurd c (by decide)) (fun _ => ?_)
    refine q_aload rfl rfl rfl ?_
    refine q_chk (idx := 287) (T := 7) rfl (by decide +kernel) hy hs rfl ?_
    refine q_ast8 rfl rfl rfl rfl ?_
    refine q_aload rfl rfl rfl ?_
    rcases h' with ⟨a', b', hs'⟩ | ⟨z', len', g', hs', -⟩ | ⟨z', len', g', hs', hz82', hz', h60', hzs', hg'⟩
    · refine q_ins (idx := 287) (T := 7) rfl (by decide +kernel) hy' hs' rfl rfl rfl ?_
      exact q_ifeq rfl rfl (fun _ => c_2193 hG (hC.1 _ (by decide))) (fun c => absurd rfl c)
    · refine q_ins (idx := 287) (T := 7) rfl (by decide +kernel) hy' hs' rfl rfl rfl ?_
      exact q_ifeq rfl rfl (fun _ => c_2193 hG (hC.1 _ (by decide))) (fun c => absurd rfl c)
    · refine q_ins (idx := 287) (T := 7) rfl (by decide +kernel) hy' hs' rfl rfl rfl ?_
      refine q_ifeq rfl rfl (fun c => absurd c (by decide)) (fun _ => ?_)
      refine q_aload rfl rfl rfl ?_
      refine q_chk (idx := 287) (T := 7) rfl (by decide +kernel) hy' hs' rfl ?_
      refine q_ast9 rfl rfl rfl rfl ?_
      exact c_tlS3 hG hy hy' hs hs' hz hz' hz82' h60 h60' hzs hzs' hg hg' hC
theorem c_493 {d i e j m : Int32} {y y' : Nat} {a8 a9 : Value} (hG : GS θ S n) (hy : y < n) (hy' : y' < n) (h : hcs S n y) (h' : hcs S n y') (hC : cpY S y y' i j m R) : PQ (j_SL L) (j_SV xs) j_EX mm_X11_copy 49 [.ref 0, .int d, .int i, .int e, .int j, .int m, .ref y, .ref y', a8, a9] [] S n 0 0 (PX S n R) := by
  refine q_aload rfl rfl rfl ?_
  rcases id h with ⟨a, b, hs⟩ | ⟨z, len, g, hs, hz82, hz, h60, hzs⟩ | ⟨z, len, g, hs, -⟩
  · refine q_ins (idx := 283) (T := 2) rfl (by decide +kernel) hy hs rfl rfl rfl ?_
    exact q_ifeq rfl rfl (fun _ => c_1343 hG hy hy' h h' hC (fun l l' h9 => by obtain ⟨_, _, _, _, e1, e2, -⟩ := h9; rw [hs] at e1; cases e1)) (fun c => absurd rfl c)
  · refine q_ins (idx := 283) (T := 2) rfl (by decide +kernel) hy hs rfl rfl rfl ?_
    refine q_ifeq rfl rfl (fun c => absurd c (by decide)) (fun _ => ?_)
    refine q_aload rfl rfl rfl ?_
    refine q_chk (idx := 283) (T := 2) rfl (by decide +kernel) hy hs rfl ?_
    refine q_ast8 rfl rfl rfl rfl ?_
    refine q_aload rfl rfl rfl ?_
    rcases id h' with ⟨a', b', hs'⟩ | ⟨z', len', g', hs', hz82', hz', h60', hzs'⟩ | ⟨z', len', g', hs', -⟩
    · refine q_ins (idx := 283) (T := 2) rfl (by decide +kernel) hy' hs' rfl rfl rfl ?_
      exact q_ifeq rfl rfl (fun _ => c_1343 hG hy hy' h h' hC (fun l l' h9 => by obtain ⟨_, _, _, _, e1, e2, -⟩ := h9; rw [hs'] at e2; cases e2)) (fun c => absurd rfl c)
    · refine q_ins (idx := 283) (T := 2) rfl (by decide +kernel) hy' hs' rfl rfl rfl ?_
      refine q_ifeq rfl rfl (fun c => absurd c (by decide)) (fun _ => ?_)
      refine q_aload rfl rfl rfl ?_
      refine q_chk (idx := 283) (T := 2) rfl (by decide +kernel) hy' hs' rfl ?_
      refine q_ast9 rfl rfl rfl rfl ?_
      exact c_tlL3 hG hy hy' hs hs' hz hz' hz82' h60 h60' hzs hzs' hC
    · refine q_ins (idx := 283) (T := 2) rfl (by decide +kernel) hy' hs' rfl rfl rfl ?_
      exact q_ifeq rfl rfl (fun _ => c_1343 hG hy hy' h h' hC (fun l l' h9 => by obtain ⟨_, _, _, _, e1, e2, -⟩ := h9; rw [hs'] at e2; cases e2)) (fun c => absurd rfl c)
  · refine q_ins (idx := 283) (T := 2) rfl (by decide +kernel) hy hs rfl rfl rfl ?_
    exact q_ifeq rfl rfl (fun _ => c_1343 hG hy hy' h h' hC (fun l l' h9 => by obtain ⟨_, _, _, _, e1, e2, -⟩ := h9; rw [hs] at e1; cases e1)) (fun c => absurd rfl c)
theorem c_cp3 {d i e j m : Int32} {f : Nat → Option Nat} (hG : GS θ S n) (h43 : S 43 = sh43 f) (r1 : ∀ u : Int32, u < 0 → R u S) (r3 : (0 ≤ d ∧ d < 8) → (0 ≤ e ∧ e < 8) → ∀ y y', f d.toNatClampNeg = some y → f e.toNatClampNeg = some y' → cpY S y y' i j m R) : PM (j_SL L) (j_SV xs) j_EX mm_X11_copy [.ref 0, .int d, .int i, .int e, .int j, .int m] S n (PX S n R) := by
  have hn := gs_n hG
  obtain ⟨f0, a43, hf⟩ := gs_43 hG
  rw [h43] at a43
  cases a43
  obtain ⟨fs, k0, f0, f7, -⟩ := gs_0 hG
  have fin : ∀ u : Int32, R u S → PX S n R (some (.int u)) S n := fun u hu => ⟨rfl, u, rfl, hu⟩
  change PQ (j_SL L) (j_SV xs) j_EX mm_X11_copy 0 [.ref 0, .int d, .int i, .int e, .int j, .int m, pm_un, pm_un, pm_un, pm_un] [] S n 0 0 _
  have s18 : ¬ ((0 ≤ d ∧ d < 8) ∧ (0 ≤ e ∧ e < 8)) → PQ (j_SL L) (j_SV xs) j_EX mm_X11_copy 18 [.ref 0, .int d, .int i, .int e, .int j, .int m, pm_un, pm_un, pm_un, pm_un] [] S n 0 0 (PX S n R) := by
    intro hO
    refine q_iconst rfl rfl ?_
    exact q_iret rfl rfl trivial (fin _ (r1 _ (by decide)))
  refine q_iload_n rfl rfl rfl ?_
  refine q_bipush rfl rfl ?_
  refine q_cS rfl rfl (Or.inl rfl) rfl rfl trivial rfl rfl rfl rfl rfl c_wi ?_
  rintro r _ _ ⟨rfl, rfl, hr⟩
  rcases hr with ⟨q1, rfl⟩ | ⟨q1, rfl⟩
  · show PQ (j_SL L) (j_SV xs) j_EX mm_X11_copy 6 _ [.int 0] S n 0 0 _
    exact q_ifeq rfl rfl (fun _ => s18 (fun h => c_out q1 h.1)) (fun c => absurd rfl c)
  show PQ (j_SL L) (j_SV xs) j_EX mm_X11_copy 6 _ [.int 1] S n 0 0 _
  refine q_ifeq rfl rfl (fun c => absurd c (by decide)) (fun _ => ?_)
  refine q_iload_n rfl rfl rfl ?_
  refine q_bipush rfl rfl ?_
  refine q_cS rfl rfl (Or.inl rfl) rfl rfl trivial rfl rfl rfl rfl rfl c_wi ?_
  rintro r _ _ ⟨rfl, rfl, hr⟩
  rcases hr with ⟨q2, rfl⟩ | ⟨q2, rfl⟩
  · show PQ (j_SL L) (j_SV xs) j_EX mm_X11_copy 15 _ [.int 0] S n 0 0 _
    exact q_ifne rfl rfl (fun _ => s18 (fun h => c_out q2 h.2)) (fun c => absurd rfl c)
  show PQ (j_SL L) (j_SV xs) j_EX mm_X11_copy 15 _ [.int 1] S n 0 0 _
  refine q_ifne rfl rfl (fun c => absurd c (by decide)) (fun _ => ?_)
  obtain ⟨in1, d8⟩ := c_in8 q1
  obtain ⟨in2, e8⟩ := c_in8 q2
  refine q_aload_n rfl rfl rfl ?_
  refine q_getf rfl rfl (by omega) k0 f7 ?_
  refine q_iload_n rfl rfl rfl ?_
  refine q_aald rfl rfl (by omega) h43 in1 ?_
  cases hfd : f d.toNatClampNeg with
  | none =>
    refine q_anl6 rfl rfl rfl rfl ?_
    refine q_aload_n rfl rfl rfl ?_
    refine q_getf rfl rfl (by omega) k0 f7 ?_
    refine q_iload_n rfl rfl rfl ?_
    refine q_aald rfl rfl (by omega) h43 in2 ?_
    cases hfe : f e.toNatClampNeg with
    | none =>
      refine q_anl7 rfl rfl rfl rfl ?_
      refine q_aloadN rfl rfl rfl ?_
      refine q_ifnullN rfl ?_
      refine q_bipush rfl rfl ?_
      exact q_iret rfl rfl trivial (fin _ (r1 _ (by decide)))
    | some y' =>
      refine q_ast7 rfl rfl rfl rfl ?_
      refine q_aloadN rfl rfl rfl ?_
      refine q_ifnullN rfl ?_
      refine q_bipush rfl rfl ?_
      exact q_iret rfl rfl trivial (fin _ (r1 _ (by decide)))
  | some y =>
    refine q_ast6 rfl rfl rfl rfl ?_
    refine q_aload_n rfl rfl rfl ?_
    refine q_getf rfl rfl (by omega) k0 f7 ?_
    refine q_iload_n rfl rfl rfl ?_
    refine q_aald rfl rfl (by omega) h43 in2 ?_
    cases hfe : f e.toNatClampNeg with
    | none =>
      refine q_anl7 rfl rfl rfl rfl ?_
      refine q_aload rfl rfl rfl ?_
      refine q_ifnull rfl rfl ?_
      refine q_aloadN rfl rfl rfl ?_
      refine q_ifnonnullN rfl rfl ?_
      refine q_bipush rfl rfl ?_
      exact q_iret rfl rfl trivial (fin _ (r1 _ (by decide)))
    | some y' =>
      refine q_ast7 rfl rfl rfl rfl ?_
      refine q_aload rfl rfl rfl ?_
      refine q_ifnull rfl rfl ?_
      refine q_aload rfl rfl rfl ?_
      refine q_ifnonnull rfl ?_
      have x1 := xh_cs (hf _ d8 y hfd).2
      have x2 := xh_cs (hf _ e8 y' hfe).2
      exact c_493 hG x1.1 x2.1 x1.2 x2.2 (r3 q1 q2 y y' hfd hfe)
end TB2
def it80 (g : Nat → Int64) : pm_E := .inl (1, 60, .inr (.inl g))
/-- what the reference's copy does to the items -/
def cpI (d i e j m z : Int32) (g0 g : Nat → Int64) : Prop := (z < 0 ∧ g = g0) ∨ ∃ D E a a' b : Nat, D < 8 ∧ E < 8 ∧ d = nI D ∧ e = nI E ∧ i = nI a ∧ j = nI a' ∧ m = nI b ∧ z = nI b ∧ b + a ≤ 60 ∧ b + a' ≤ 60 ∧ (∀ p, p < b → g (60 * E + a' + p) = g0 (60 * D + a + p)) ∧ ∀ p, p < 60 * E + a' ∨ 60 * E + a' + b ≤ p → g p = g0 p
def rcpX (θ : Th) (hd sz : Nat → Int32) (d i e j m : Int32) (g0 : Nat → Int64) (S : Nat → pm_E) (n : Nat) : q_K := fun r S' n' => n = n' ∧ GS θ S' n ∧ fr1 [79, 80] S S' n ∧ ∃ z : Int32, r = some (.int z) ∧ cpR hd sz d i e j m z ∧ ∃ g, S' 79 = it79 g ∧ cpI d i e j m z g0 g
set_option maxHeartbeats 4000000 in
theorem l_rcp3 {d i e j m : Int32} {hd sz : Nat → Int32} (hG : GS θ S n) (k75 : S 75 = ar8 hd) (k78 : S 78 = ar8 sz) (k79 : S 79 = it79 g0) : PM (j_SL L) (j_SV xs) j_EX mm_X12_copy [.ref 46, .int d, .int i, .int e, .int j, .int m] S n (rcpX θ hd sz d i e j m g0 S n) := by
  have hn := gs_n hG
  obtain ⟨fs, k46, hf⟩ := gs_obj hG (k := 46) rfl
  have f35 : fs[35]? = some (.ref 75) := fo_ref (hf 35 _ rfl) rfl
  have f38 : fs[38]? = some (.ref 78) := fo_ref (hf 38 _ rfl) rfl
  have f39 : fs[39]? = some (.ref 79) := fo_ref (hf 39 _ rfl) rfl
  have f40 : fs[40]? = some (.ref 80) := fo_ref (hf 40 _ rfl) rfl
  obtain ⟨sz0, a78, hb78⟩ := gs_a1 hG (k := 78) rfl
  rw [k78] at a78
  cases a78
  change PQ (j_SL L) (j_SV xs) j_EX mm_X12_copy 0 [.ref 46, .int d, .int i, .int e, .int j, .int m, pm_un] [] S n 0 0 _
  have s16 : ¬ ((0 ≤ d ∧ d < 8) ∧ (0 ≤ e ∧ e < 8)) → PQ (j_SL L) (j_SV xs) j_EX mm_X12_copy 16 [.ref 46, .int d, .int i, .int e, .int j, .int m, pm_un] [] S n 0 0 (rcpX θ hd sz d i e j m g0 S n) := by
    intro hO
    refine q_iconst rfl rfl ?_
    exact q_iret rfl rfl trivial ⟨rfl, hG, fr1_rf, _, rfl, Or.inl ⟨hO, rfl⟩, g0, k79, Or.inl ⟨by decide, rfl⟩⟩
  refine q_aload_n rfl rfl rfl ?_
  refine q_iload_n rfl rfl rfl ?_
  refine q_cV rfl rfl (Or.inl rfl) rfl rfl rfl rfl (by omega) k46 trivial rfl rfl rfl rfl rfl (l_isShelf hn k46) ?_
  rintro r S1 n1 ⟨e1, e2, hr⟩
  subst S1 n1
  rcases hr with ⟨q1, rfl⟩ | ⟨q1, rfl⟩
  · show PQ (j_SL L) (j_SV xs) j_EX mm_X12_copy 5 _ [.int 0] S n 0 0 _
    exact q_ifeq rfl rfl (fun _ => s16 (fun h => q1 (in07.mpr h.1))) (fun c => absurd rfl c)
  show PQ (j_SL L) (j_SV xs) j_EX mm_X12_copy 5 _ [.int 1] S n 0 0 _
  refine q_ifeq rfl rfl (fun c => absurd c (by decide)) (fun _ => ?_)
  refine q_aload_n rfl rfl rfl ?_
  refine q_iload_n rfl rfl rfl ?_
  refine q_cV rfl rfl (Or.inl rfl) rfl rfl rfl rfl (by omega) k46 trivial rfl rfl rfl rfl rfl (l_isShelf hn k46) ?_
  rintro r S1 n1 ⟨e1, e2, hr⟩
  subst S1 n1
  rcases hr with ⟨q2, rfl⟩ | ⟨q2, rfl⟩
  · show PQ (j_SL L) (j_SV xs) j_EX mm_X12_copy 13 _ [.int 0] S n 0 0 _
    exact q_ifne rfl rfl (fun _ => s16 (fun h => q2 (in07.mpr h.2))) (fun c => absurd rfl c)
  show PQ (j_SL L) (j_SV xs) j_EX mm_X12_copy 13 _ [.int 1] S n 0 0 _
  refine q_ifne rfl rfl (fun c => absurd c (by decide)) (fun _ => ?_)
  have e7 : (7 : Int32).toInt = 7 := rfl
  have e0 : (0 : Int32).toInt = 0 := rfl
  have hin : (0 ≤ d ∧ d < 8) ∧ (0 ≤ e ∧ e < 8) := ⟨in07.mp q1, in07.mp q2⟩
  unfold inP at q1 q2
  simp only [Int32.le_iff_toInt_le] at q1 q2
  obtain ⟨D, hD, rfl⟩ := nat_of (x := d) (b := 7) (by omega) (by omega)
  obtain ⟨E, hE, rfl⟩ := nat_of (x := e) (b := 7) (by omega) (by omega)
  have inD : pm_inb (nI D) 8 = true := q_inN (by omega) (by decide)
  have inE : pm_inb (nI E) 8 = true := q_inN (by omega) (by decide)
  have s36 : (hd (nI D).toNatClampNeg = 0 ∨ hd (nI E).toNatClampNeg = 0) → PQ (j_SL L) (j_SV xs) j_EX mm_X12_copy 36 [.ref 46, .int (nI D), .int i, .int (nI E), .int j, .int m, pm_un] [] S n 0 0 (rcpX θ hd sz (nI D) i (nI E) j m g0 S n) := by
    intro hO
    refine q_bipush rfl rfl ?_
    exact q_iret rfl rfl trivial ⟨rfl, hG, fr1_rf, _, rfl, Or.inr ⟨hin, Or.inl ⟨hO, rfl⟩⟩, g0, k79, Or.inl ⟨by decide, rfl⟩⟩
  have s64 : ¬ (hd (nI D).toNatClampNeg = 0 ∨ hd (nI E).toNatClampNeg = 0) ∧ (hd (nI D).toNatClampNeg < 3 ∨ ¬ hd (nI D).toNatClampNeg = hd (nI E).toNatClampNeg) → PQ (j_SL L) (j_SV xs) j_EX mm_X12_copy 64 [.ref 46, .int (nI D), .int i, .int (nI E), .int j, .int m, pm_un] [] S n 0 0 (rcpX θ hd sz (nI D) i (nI E) j m g0 S n) := by
    intro hO
    refine q_bipush rfl rfl ?_
    exact q_iret rfl rfl trivial ⟨rfl, hG, fr1_rf, _, rfl, Or.inr ⟨hin, Or.inr ⟨hO.1, Or.inl ⟨hO.2, rfl⟩⟩⟩, g0, k79, Or.inl ⟨by decide, rfl⟩⟩
  have s108 : ¬ (hd (nI D).toNatClampNeg = 0 ∨ hd (nI E).toNatClampNeg = 0) ∧ ¬ (hd (nI D).toNatClampNeg < 3 ∨ ¬ hd (nI D).toNatClampNeg = hd (nI E).toNatClampNeg) ∧ ¬ spn (sz (nI D).toNatClampNeg) (sz (nI E).toNatClampNeg) i j m → PQ (j_SL L) (j_SV xs) j_EX mm_X12_copy 108 [.ref 46, .int (nI D), .int i, .int (nI E), .int j, .int m, pm_un] [] S n 0 0 (rcpX θ hd sz (nI D) i (nI E) j m g0 S n) := by
    intro hO
    refine q_bipush rfl rfl ?_
    exact q_iret rfl rfl trivial ⟨rfl, hG, fr1_rf, _, rfl, Or.inr ⟨hin, Or.inr ⟨hO.1, Or.inr ⟨hO.2.1, Or.inl ⟨hO.2.2, rfl⟩⟩⟩⟩, g0, k79, Or.inl ⟨by decide, rfl⟩⟩
  refine q_aload_n rfl rfl rfl ?_
  refine q_getf rfl rfl (by omega) k46 f35 ?_
  refine q_iload_n rfl rfl rfl ?_
  refine q_iald rfl rfl (by omega) k75 inD ?_
  refine q_ifeq rfl rfl (fun c => s36 (Or.inl c)) (fun z1 => ?_)
  refine q_aload_n rfl rfl rfl ?_
  refine q_getf rfl rfl (by omega) k46 f35 ?_
  refine q_iload_n rfl rfl rfl ?_
  refine q_iald rfl rfl (by omega) k75 inE ?_
  refine q_ifne rfl rfl (fun c => s36 (Or.inr c)) (fun z2 => ?_)
  have nz : ¬ (hd (nI D).toNatClampNeg = 0 ∨ hd (nI E).toNatClampNeg = 0) := fun h => h.elim z1 z2
  refine q_aload_n rfl rfl rfl ?_
  refine q_getf rfl rfl (by omega) k46 f35 ?_
  refine q_iload_n rfl rfl rfl ?_
  refine q_iald rfl rfl (by omega) k75 inD ?_
  refine q_iconst rfl rfl ?_
  refine q_iclt rfl rfl (fun c => s64 ⟨nz, Or.inl c⟩) (fun y1 => ?_)
  refine q_aload_n rfl rfl rfl ?_
  refine q_getf rfl rfl (by omega) k46 f35 ?_
  refine q_iload_n rfl rfl rfl ?_
  refine q_iald rfl rfl (by omega) k75 inD ?_
  refine q_aload_n rfl rfl rfl ?_
  refine q_getf rfl rfl (by omega) k46 f35 ?_
  refine q_iload_n rfl rfl rfl ?_
  refine q_iald rfl rfl (by omega) k75 inE ?_
  refine q_iceq rfl rfl (fun y2 => ?_) (fun c => s64 ⟨nz, Or.inr c⟩)
  have ny : ¬ (hd (nI D).toNatClampNeg < 3 ∨ ¬ hd (nI D).toNatClampNeg = hd (nI E).toNatClampNeg) := fun h => h.elim y1 (fun h => h y2)
  refine q_iload rfl rfl rfl ?_
  refine q_iflt rfl rfl (fun c => s108 ⟨nz, ny, fun h => h.1 c⟩) (fun cm => ?_)
  refine q_iload_n rfl rfl rfl ?_
  refine q_iflt rfl rfl (fun c => s108 ⟨nz, ny, fun h => h.2.1 c⟩) (fun ci => ?_)
  refine q_iload rfl rfl rfl ?_
  refine q_iflt rfl rfl (fun c => s108 ⟨nz, ny, fun h => h.2.2.1 c⟩) (fun cj => ?_)
  refine q_iload_n rfl rfl rfl ?_
  refine q_aload_n rfl rfl rfl ?_
  refine q_getf rfl rfl (by omega) k46 f38 ?_
  refine q_iload_n rfl rfl rfl ?_
  refine q_iald rfl rfl (by omega) k78 inD ?_
  refine q_iload rfl rfl rfl ?_
  refine q_isub rfl rfl ?_
  refine q_icgt rfl rfl (fun c => s108 ⟨nz, ny, fun h => i_ab2 h.2.2.2.1 c⟩) (fun c1 => ?_)
  refine q_iload rfl rfl rfl ?_
  refine q_aload_n rfl rfl rfl ?_
  refine q_getf rfl rfl (by omega) k46 f38 ?_
  refine q_iload_n rfl rfl rfl ?_
  refine q_iald rfl rfl (by omega) k78 inE ?_
  refine q_iload rfl rfl rfl ?_
  refine q_isub rfl rfl ?_
  refine q_icle rfl rfl (fun c2 => ?_) (fun c => s108 ⟨nz, ny, fun h => c h.2.2.2.2⟩)
  have hsp : spn (sz (nI D).toNatClampNeg) (sz (nI E).toNatClampNeg) i j m := ⟨cm, ci, cj, i_nlt c1, c2⟩
  rw [nI_clamp (by omega)] at c1 c2
  have g1 : (0 : Int) ≤ (sz D).toInt ∧ (sz D).toInt ≤ 60 := hb78 D (by omega)
  have g2 : (0 : Int) ≤ (sz E).toInt ∧ (sz E).toInt ≤ 60 := hb78 E (by omega)
  have c1' : i ≤ sz D - m := i_nlt c1
  obtain ⟨b, a, rfl, rfl, l1, hb60, ha60⟩ := sp_nat g1.1 g1.2 ci cm c1'
  obtain ⟨b', a', eb, rfl, l2, hb60', ha60'⟩ := sp_nat g2.1 g2.2 cj cm c2
  have ebb : b = b' := by
    have := congrArg Int32.toInt eb
    rw [nI_toInt (by omega), nI_toInt (by omega)] at this
    omega
  subst ebb
  have l1' : b + a ≤ 60 := by have := g1.2; omega
  have l2' : b + a' ≤ 60 := by have := g2.2; omega
  have key2 : ∀ q k : Nat, k + q = b → ∀ (T : Nat → pm_E) (g u : Nat → Int64), GS θ T n → fr1 [79, 80] S T n → T 79 = it79 g → T 80 = it80 u → (∀ p, p < b → u p = g0 (60 * D + a + p)) → (∀ p, p < k → g (60 * E + a' + p) = g0 (60 * D + a + p)) → (∀ p, p < 60 * E + a' ∨ 60 * E + a' + k ≤ p → g p = g0 p) → PQ (j_SL L) (j_SV xs) j_EX mm_X12_copy 151 [.ref 46, .int (nI D), .int (nI a), .int (nI E), .int (nI a'), .int (nI b), .int (nI k)] [] T n 0 0 (rcpX θ hd sz (nI D) (nI a) (nI E) (nI a') (nI b) g0 S n) := by
    intro q
    induction q with
    | zero =>
      intro k hk T g u hT eT k79 k80 h1 h2 h3
      refine q_iload rfl rfl rfl ?_
      refine q_iload rfl rfl rfl ?_
      refine q_icge rfl rfl (fun _ => ?_) (fun c => absurd (by
        have e : k = b := by omega
        rw [e, Int32.le_iff_toInt_le]; omega) c)
      refine q_iload rfl rfl rfl ?_
      exact q_iret rfl rfl trivial ⟨rfl, hT, eT, _, rfl, Or.inr ⟨hin, Or.inr ⟨nz, Or.inr ⟨ny, Or.inr ⟨hsp, rfl⟩⟩⟩⟩, g, k79, Or.inr ⟨D, E, a, a', b, by omega, by omega, rfl, rfl, rfl, rfl, rfl, rfl, l1', l2', fun p hp => h2 p (by omega), fun p hp => h3 p (by omega)⟩⟩
    | succ q ih =>
      intro k hk T g u hT eT k79 k80 h1 h2 h3
      have t46 : T 46 = .inr (10, fs) := (eT 46 (by omega) rfl).trans k46
      refine q_iload rfl rfl rfl ?_
      refine q_iload rfl rfl rfl ?_
      refine q_icge rfl rfl (fun c => absurd c (nI_ge (a := k) (b := b) (by omega) (by omega))) (fun _ => ?_)
      refine q_aload_n rfl rfl rfl ?_
      refine q_getf rfl rfl (by omega) t46 f39 ?_
      refine q_bipush rfl rfl ?_
      refine q_iload_n rfl rfl rfl ?_
      refine q_imul rfl rfl (q_tn (z := nI (60 * E)) (by rw [show (60 : Int32) = nI 60 from rfl, pk_mul]) ?_)
      refine q_iload rfl rfl rfl ?_
      refine q_iadd rfl rfl (q_tn (z := nI (60 * E + a')) (nI_add _ _) ?_)
      refine q_iload rfl rfl rfl ?_
      refine q_iadd rfl rfl (q_tn (z := nI (60 * E + a' + k)) (nI_add _ _) ?_)
      refine q_aload_n rfl rfl rfl ?_
      refine q_getf rfl rfl (by omega) t46 f40 ?_
      refine q_iload rfl rfl rfl ?_
      refine q_lald rfl rfl (by omega) k80 (q_inN (by omega) (by decide)) ?_
      refine q_last rfl rfl (by omega) k79 (q_inN (by omega) (by decide)) ?_
      rw [nI_clamp (n := 60 * E + a' + k) (by omega), nI_clamp (n := k) (by omega)]
      refine q_inc6 rfl rfl rfl rfl ?_
      refine q_goto rfl ?_
      rw [show nI k + 1 = nI (k + 1) from nI_add k 1]
      refine ih (k + 1) (by omega) _ _ u (gs_st (k := 79) hT rfl rfl ⟨_, rfl⟩ (pk_arr k79)) (fr1_up eT rfl) u_eq ((u_ne (by decide)).trans k80) h1 (fun p hp => ?_) (fun p hp => (tL_ot (by omega)).trans (h3 p (by omega)))
      by_cases e : p = k
      · rw [e, tL_at]
        exact h1 k (by omega)
      · exact (tL_ot (by omega)).trans (h2 p (by omega))
  have key1 : ∀ q k : Nat, k + q = b → ∀ (T : Nat → pm_E) (u : Nat → Int64), GS θ T n → fr1 [79, 80] S T n → T 79 = it79 g0 → T 80 = it80 u → (∀ p, p < k → u p = g0 (60 * D + a + p)) → PQ (j_SL L) (j_SV xs) j_EX mm_X12_copy 114 [.ref 46, .int (nI D), .int (nI a), .int (nI E), .int (nI a'), .int (nI b), .int (nI k)] [] T n 0 0 (rcpX θ hd sz (nI D) (nI a) (nI E) (nI a') (nI b) g0 S n) := by
    intro q
    induction q with
    | zero =>
      intro k hk T u hT eT k79 k80 h1
      refine q_iload rfl rfl rfl ?_
      refine q_iload rfl rfl rfl ?_
      refine q_icge rfl rfl (fun _ => ?_) (fun c => absurd (by
        have e : k = b := by omega
        rw [e, Int32.le_iff_toInt_le]; omega) c)
      refine q_iconst rfl rfl ?_
      refine q_ist6 rfl rfl rfl rfl ?_
      exact key2 b 0 (by omega) T g0 u hT eT k79 k80 (fun p hp => h1 p (by omega)) (fun p hp => absurd hp (Nat.not_lt_zero p)) (fun _ _ => rfl)
    | succ q ih =>
      intro k hk T u hT eT k79 k80 h1
      have t46 : T 46 = .inr (10, fs) := (eT 46 (by omega) rfl).trans k46
      refine q_iload rfl rfl rfl ?_
      refine q_iload rfl rfl rfl ?_
      refine q_icge rfl rfl (fun c => absurd c (nI_ge (a := k) (b := b) (by omega) (by omega))) (fun _ => ?_)
      refine q_aload_n rfl rfl rfl ?_
      refine q_getf rfl rfl (by omega) t46 f40 ?_
      refine q_iload rfl rfl rfl ?_
      refine q_aload_n rfl rfl rfl ?_
      refine q_getf rfl rfl (by omega) t46 f39 ?_
      refine q_bipush rfl rfl ?_
      refine q_iload_n rfl rfl rfl ?_
      refine q_imul rfl rfl (q_tn (z := nI (60 * D)) (by rw [show (60 : Int32) = nI 60 from rfl, pk_mul]) ?_)
      refine q_iload_n rfl rfl rfl ?_
      refine q_iadd rfl rfl (q_tn (z := nI (60 * D + a)) (nI_add _ _) ?_)
      refine q_iload rfl rfl rfl ?_
      refine q_iadd rfl rfl (q_tn (z := nI (60 * D + a + k)) (nI_add _ _) ?_)
      refine q_lald rfl rfl (by omega) k79 (q_inN (by omega) (by decide)) ?_
      refine q_last rfl rfl (by omega) k80 (q_inN (by omega) (by decide)) ?_
      rw [nI_clamp (n := 60 * D + a + k) (by omega), nI_clamp (n := k) (by omega)]
      refine q_inc6 rfl rfl rfl rfl ?_
      refine q_goto rfl ?_
      rw [show nI k + 1 = nI (k + 1) from nI_add k 1]
      refine ih (k + 1) (by omega) _ _ (gs_st (k := 80) hT rfl rfl ⟨_, rfl⟩ (pk_arr k80)) (fr1_up eT rfl) ((u_ne (by decide)).trans k79) u_eq (fun p hp => ?_)
      by_cases e : p = k
      · rw [e, tL_at]
      · exact (tL_ot (by omega)).trans (h1 p (by omega))
  refine q_iconst rfl rfl ?_
  refine q_ist6 rfl rfl rfl rfl ?_
  obtain ⟨u0, k80⟩ := gs_lng hG (k := 80) rfl
  exact key1 b 0 (by omega) S u0 hG fr1_rf k79 k80 (fun p hp => absurd hp (Nat.not_lt_zero p))
end TB
