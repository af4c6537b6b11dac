/-! told: class and reference -/
section TD
variable {θ : Th} {L : Nat} {xs : Nat → Int32} {S : Nat → pm_E} {n : Nat}
/-- the program has statement I of hand X -/
def stA (θ : Th) (x i : Int32) (X I : Nat) : Prop := X < 3 ∧ x = nI X ∧ (X : Int) < θ.2.2.2.2.toInt ∧ I < 8 ∧ i = nI I ∧ (I : Int) < (θ.1 X).toInt
def stP (θ : Th) (x i : Int32) : Prop := ∃ X I, stA θ x i X I
theorem nI_inj {a b : Nat} (ha : a < 2 ^ 31) (hb : b < 2 ^ 31) (h : nI a = nI b) : a = b := by
  have := congrArg Int32.toInt h
  rw [nI_toInt ha, nI_toInt hb] at this
  omega
theorem stA_fn {x i : Int32} {X I Y K : Nat} (h1 : stA θ x i X I) (h2 : stA θ x i Y K) : X = Y ∧ I = K := ⟨nI_inj (by have := h1.1; omega) (by have := h2.1; omega) (h1.2.1.symm.trans h2.2.1), nI_inj (by have := h1.2.2.2.1; omega) (by have := h2.2.2.2.1; omega) (h1.2.2.2.2.1.symm.trans h2.2.2.2.2.1)⟩
theorem sub1 {y : Int32} (h1 : (0 : Int) ≤ y.toInt) (h2 : y.toInt ≤ 8) : (y - 1).toInt = y.toInt - 1 := by
  have e2 : (y - 1).toInt = (y.toInt - (1 : Int32).toInt).bmod 4294967296 := Int32.toInt_sub y 1
  have e1 : (1 : Int32).toInt = 1 := rfl
  rw [ck_bm (by show (-2147483648 : Int) ≤ _; omega) (by show _ ≤ (2147483647 : Int); omega)] at e2
  omega
theorem gs_j2 (hG : GS θ S n) (hj : J2 θ S) : ∃ (fs fs1 : List Value) (ln : Nat → Int32), S 0 = .inr (9, fs) ∧ fs[0]? = some (.ref 1) ∧ S 1 = .inr (6, fs1) ∧ fs1[0]? = some (.int θ.2.2.2.2) ∧ fs1[2]? = some (.ref 3) ∧ fs1[3]? = some (.ref 4) ∧ fs1[4]? = some (.ref 5) ∧ fs1[5]? = some (.ref 6) ∧ S 3 = .inl (0, 3, .inl ln) ∧ (∀ x, x < 3 → ln x = θ.1 x) ∧ (∀ x, x < 3 → (0 : Int) ≤ (ln x).toInt ∧ (ln x).toInt ≤ 8) ∧ (1 : Int) ≤ θ.2.2.2.2.toInt ∧ θ.2.2.2.2.toInt ≤ 3 := by
  obtain ⟨⟨fs1, k1, f10⟩, ln, k3, hln⟩ := hj
  obtain ⟨fs, k0, f0, -, -⟩ := gs_0 hG
  obtain ⟨gs, g1, hg⟩ := gs_obj hG (k := 1) rfl
  rw [k1] at g1
  cases g1
  obtain ⟨H, e0, b1, b2⟩ := fo_int (hg 0 _ rfl) rfl
  rw [f10] at e0
  cases e0
  obtain ⟨ln', k3', hb3⟩ := gs_a1 hG (k := 3) rfl
  rw [k3] at k3'
  cases k3'
  exact ⟨fs, fs1, ln, k0, f0, k1, f10, fo_ref (hg 2 _ rfl) rfl, fo_ref (hg 3 _ rfl) rfl, fo_ref (hg 4 _ rfl) rfl, fo_ref (hg 5 _ rfl) rfl, k3, hln, hb3, b1, b2⟩
theorem st_of {x i : Int32} {ln : Nat → Int32} {X : Nat} (hX : X < 3) (hln : ln X = θ.1 X) (hb : (0 : Int) ≤ (ln X).toInt ∧ (ln X).toInt ≤ 8) (hXh : (X : Int) < θ.2.2.2.2.toInt) (e : x = nI X) (i0 : 0 ≤ i) (i1 : i < ln X) : ∃ I, stA θ x i X I := by
  rw [Int32.le_iff_toInt_le] at i0
  rw [Int32.lt_iff_toInt_lt] at i1
  have i0' : (0 : Int) ≤ i.toInt := i0
  obtain ⟨I, hI, rfl⟩ := nat_of (x := i) (b := 7) i0' (by omega)
  rw [nI_toInt (by omega)] at i1
  exact ⟨I, hX, e, hXh, by omega, rfl, by rw [← hln]; exact i1⟩
set_option maxHeartbeats 4000000 in
theorem c_hs {x i : Int32} (hG : GS θ S n) (hj : J2 θ S) : PM (j_SL L) (j_SV xs) j_EX mm_X8_hasStatement [.ref 1, .int x, .int i] S n (fun r S' n' => S = S' ∧ n = n' ∧ ((¬ stP θ x i ∧ r = some (.int 0)) ∨ (stP θ x i ∧ r = some (.int 1)))) := by
  have hn := gs_n hG
  obtain ⟨fs, fs1, ln, k0, f0, k1, f10, f12, f13, f14, f15, k3, hln, hb, b1, b2⟩ := gs_j2 hG hj
  change PQ (j_SL L) (j_SV xs) j_EX mm_X8_hasStatement 0 [.ref 1, .int x, .int i] [] S n 0 0 _
  have s30 : ¬ stP θ x i → PQ (j_SL L) (j_SV xs) j_EX mm_X8_hasStatement 30 [.ref 1, .int x, .int i] [] S n 0 0 (fun r S' n' => S = S' ∧ n = n' ∧ ((¬ stP θ x i ∧ r = some (.int 0)) ∨ (stP θ x i ∧ r = some (.int 1)))) := by
    intro h9
    refine q_iconst rfl rfl ?_
    exact q_iret rfl rfl rfl ⟨rfl, rfl, Or.inl ⟨h9, rfl⟩⟩
  refine q_iload_n rfl rfl rfl ?_
  refine q_iflt rfl rfl (fun c1 => s30 (fun h9 => ?_)) (fun c1 => ?_)
  · obtain ⟨X, I, hX, rfl, -⟩ := h9
    rw [Int32.lt_iff_toInt_lt, nI_toInt (by omega)] at c1
    have e0 : (0 : Int32).toInt = 0 := rfl
    omega
  refine q_iload_n rfl rfl rfl ?_
  refine q_aload_n rfl rfl rfl ?_
  refine q_getf rfl rfl (by omega) k1 f10 ?_
  refine q_icge rfl rfl (fun c2 => s30 (fun h9 => ?_)) (fun c2 => ?_)
  · obtain ⟨X, I, hX, rfl, hXh, -⟩ := h9
    rw [Int32.le_iff_toInt_le, nI_toInt (by omega)] at c2
    omega
  obtain ⟨⟨X, hX, rfl, hXh⟩, -⟩ := hnd b1 b2 ⟨i_nlt c1, i_nle c2⟩
  refine q_iload_n rfl rfl rfl ?_
  refine q_iflt rfl rfl (fun c3 => s30 (fun h9 => ?_)) (fun c3 => ?_)
  · obtain ⟨Y, I, -, -, -, hI, rfl, -⟩ := h9
    rw [Int32.lt_iff_toInt_lt, nI_toInt (by omega)] at c3
    have e0 : (0 : Int32).toInt = 0 := rfl
    omega
  refine q_iload_n rfl rfl rfl ?_
  refine q_aload_n rfl rfl rfl ?_
  refine q_getf rfl rfl (by omega) k1 f12 ?_
  refine q_iload_n rfl rfl rfl ?_
  refine q_iald rfl rfl (by omega) k3 (q_inN hX (by decide)) (q_tn (z := ln X) (by rw [nI_clamp (by omega)]) ?_)
  refine q_icge rfl rfl (fun c4 => s30 (fun h9 => ?_)) (fun c4 => ?_)
  · obtain ⟨Y, I, hY, eY, -, hI, rfl, hl⟩ := h9
    have := nI_inj (by omega) (by omega) eY
    subst this
    rw [Int32.le_iff_toInt_le, nI_toInt (by omega), hln X hX] at c4
    omega
  refine q_iconst rfl rfl ?_
  refine q_goto rfl ?_
  obtain ⟨I, hI⟩ := st_of hX (hln X hX) (hb X hX) hXh rfl (i_nlt c3) (i_nle c4)
  exact q_iret rfl rfl rfl ⟨rfl, rfl, Or.inr ⟨⟨X, I, hI⟩, rfl⟩⟩
set_option maxHeartbeats 4000000 in
theorem c_ce {x i : Int32} {X I : Nat} (hG : GS θ S n) (hj : J2 θ S) (hA : stA θ x i X I) : PM (j_SL L) (j_SV xs) j_EX mm_X8_cellOf [.ref 1, .int x, .int i] S n (fun r S' n' => S = S' ∧ n = n' ∧ r = some (.int (nI (8 * X + I)))) := by
  have hn := gs_n hG
  obtain ⟨fs, fs1, ln, k0, f0, k1, f10, f12, f13, f14, f15, k3, hln, hb, b1, b2⟩ := gs_j2 hG hj
  obtain ⟨hX, rfl, hXh, hI, rfl, hl⟩ := hA
  have e0 : (0 : Int32).toInt = 0 := rfl
  change PQ (j_SL L) (j_SV xs) j_EX mm_X8_cellOf 0 [.ref 1, .int (nI X), .int (nI I), pm_un] [] S n 0 0 _
  refine q_iload_n rfl rfl rfl ?_
  refine q_iflt rfl rfl (fun c1 => ?_) (fun c1 => ?_)
  · rw [Int32.lt_iff_toInt_lt, nI_toInt (by omega)] at c1
    omega
  refine q_iload_n rfl rfl rfl ?_
  refine q_aload_n rfl rfl rfl ?_
  refine q_getf rfl rfl (by omega) k1 f10 ?_
  refine q_icge rfl rfl (fun c2 => ?_) (fun c2 => ?_)
  · rw [Int32.le_iff_toInt_le, nI_toInt (by omega)] at c2
    omega
  refine q_iload_n rfl rfl rfl ?_
  refine q_iflt rfl rfl (fun c3 => ?_) (fun c3 => ?_)
  · rw [Int32.lt_iff_toInt_lt, nI_toInt (by omega)] at c3
    omega
  refine q_iload_n rfl rfl rfl ?_
  refine q_aload_n rfl rfl rfl ?_
  refine q_getf rfl rfl (by omega) k1 f12 ?_
  refine q_iload_n rfl rfl rfl ?_
  refine q_iald rfl rfl (by omega) k3 (q_inN hX (by decide)) (q_tn (z := ln X) (by rw [nI_clamp (by omega)]) ?_)
  refine q_icge rfl rfl (fun c4 => ?_) (fun c4 => ?_)
  · rw [Int32.le_iff_toInt_le, nI_toInt (by omega), hln X hX] at c4
    omega
  refine q_iconst rfl rfl ?_
  refine q_goto rfl ?_
  refine q_ist3n rfl rfl rfl rfl ?_
  refine q_iload_n rfl rfl rfl ?_
  refine q_ifeq rfl rfl (fun c => absurd c (by decide)) (fun _ => ?_)
  refine q_iload_n rfl rfl rfl ?_
  refine q_bipush rfl rfl ?_
  refine q_imul rfl rfl (q_tn (z := nI (X * 8)) (by rw [show (8 : Int32) = nI 8 from rfl, pk_mul]) ?_)
  refine q_iload_n rfl rfl rfl ?_
  refine q_iadd rfl rfl (q_tn (z := nI (X * 8 + I)) (nI_add _ _) ?_)
  refine q_goto rfl ?_
  exact q_iret rfl rfl trivial ⟨rfl, rfl, by rw [Nat.mul_comm]⟩
theorem c_ki {fs : List Value} {l : Nat → Int32} {j : Nat} (hn : 82 ≤ n) (k1 : S 1 = .inr (6, fs)) (f3 : fs[3]? = some (.ref 4)) (k4 : S 4 = .inl (0, 24, .inl l)) (hj : j < 24) : PM (j_SL L) (j_SV xs) j_EX mm_X8_kindIn [.ref 1, .int (nI j)] S n (fun r S' n' => S = S' ∧ n = n' ∧ r = some (.int (l j))) := by
  have e0 : (0 : Int32).toInt = 0 := rfl
  change PQ (j_SL L) (j_SV xs) j_EX mm_X8_kindIn 0 [.ref 1, .int (nI j)] [] S n 0 0 _
  refine q_iload_n rfl rfl rfl ?_
  refine q_iflt rfl rfl (fun c1 => ?_) (fun c1 => ?_)
  · rw [Int32.lt_iff_toInt_lt, nI_toInt (by omega)] at c1
    omega
  refine q_iload_n rfl rfl rfl ?_
  refine q_aload_n rfl rfl rfl ?_
  refine q_getf rfl rfl (by omega) k1 f3 ?_
  refine q_alen rfl rfl (by omega) k4 rfl ?_
  refine q_icge rfl rfl (fun c2 => absurd c2 (nI_ge (a := j) (b := 24) hj (by decide))) (fun c2 => ?_)
  refine q_aload_n rfl rfl rfl ?_
  refine q_getf rfl rfl (by omega) k1 f3 ?_
  refine q_iload_n rfl rfl rfl ?_
  refine q_iald rfl rfl (by omega) k4 (q_inN hj (by decide)) (q_tn (z := l j) (by rw [nI_clamp (by omega)]) ?_)
  refine q_goto rfl ?_
  exact q_iret rfl rfl trivial ⟨rfl, rfl, rfl⟩
theorem c_oi {fs : List Value} {l : Nat → Int32} {j : Nat} (hn : 82 ≤ n) (k1 : S 1 = .inr (6, fs)) (f3 : fs[4]? = some (.ref 5)) (k4 : S 5 = .inl (0, 24, .inl l)) (hj : j < 24) : PM (j_SL L) (j_SV xs) j_EX mm_X8_operandIn [.ref 1, .int (nI j)] S n (fun r S' n' => S = S' ∧ n = n' ∧ r = some (.int (l j))) := by
  have e0 : (0 : Int32).toInt = 0 := rfl
  change PQ (j_SL L) (j_SV xs) j_EX mm_X8_operandIn 0 [.ref 1, .int (nI j)] [] S n 0 0 _
  refine q_iload_n rfl rfl rfl ?_
  refine q_iflt rfl rfl (fun c1 => ?_) (fun c1 => ?_)
  · rw [Int32.lt_iff_toInt_lt, nI_toInt (by omega)] at c1
    omega
  refine q_iload_n rfl rfl rfl ?_
  refine q_aload_n rfl rfl rfl ?_
  refine q_getf rfl rfl (by omega) k1 f3 ?_
  refine q_alen rfl rfl (by omega) k4 rfl ?_
  refine q_icge rfl rfl (fun c2 => absurd c2 (nI_ge (a := j) (b := 24) hj (by decide))) (fun c2 => ?_)
  refine q_aload_n rfl rfl rfl ?_
  refine q_getf rfl rfl (by omega) k1 f3 ?_
  refine q_iload_n rfl rfl rfl ?_
  refine q_iald rfl rfl (by omega) k4 (q_inN hj (by decide)) (q_tn (z := l j) (by rw [nI_clamp (by omega)]) ?_)
  refine q_goto rfl ?_
  exact q_iret rfl rfl trivial ⟨rfl, rfl, rfl⟩
theorem c_ni {fs : List Value} {l : Nat → Int32} {j : Nat} (hn : 82 ≤ n) (k1 : S 1 = .inr (6, fs)) (f3 : fs[5]? = some (.ref 6)) (k4 : S 6 = .inl (0, 24, .inl l)) (hj : j < 24) : PM (j_SL L) (j_SV xs) j_EX mm_X8_numberIn [.ref 1, .int (nI j)] S n (fun r S' n' => S = S' ∧ n = n' ∧ r = some (.int (l j))) := by
  have e0 : (0 : Int32).toInt = 0 := rfl
  change PQ (j_SL L) (j_SV xs) j_EX mm_X8_numberIn 0 [.ref 1, .int (nI j)] [] S n 0 0 _
  refine q_iload_n rfl rfl rfl ?_
  refine q_iflt rfl rfl (fun c1 => ?_) (fun c1 => ?_)
  · rw [Int32.lt_iff_toInt_lt, nI_toInt (by omega)] at c1
    omega
  refine q_iload_n rfl rfl rfl ?_
  refine q_aload_n rfl rfl rfl ?_
  refine q_getf rfl rfl (by omega) k1 f3 ?_
  refine q_alen rfl rfl (by omega) k4 rfl ?_
  refine q_icge rfl rfl (fun c2 => absurd c2 (nI_ge (a := j) (b := 24) hj (by decide))) (fun c2 => ?_)
  refine q_aload_n rfl rfl rfl ?_
  refine q_getf rfl rfl (by omega) k1 f3 ?_
  refine q_iload_n rfl rfl rfl ?_
  refine q_iald rfl rfl (by omega) k4 (q_inN hj (by decide)) (q_tn (z := l j) (by rw [nI_clamp (by omega)]) ?_)
  refine q_goto rfl ?_
  exact q_iret rfl rfl trivial ⟨rfl, rfl, rfl⟩
/-- what told answers -/
def tdR (θ : Th) (x i w z : Int32) : Prop := (¬ (stP θ x i ∧ inP w 0 2) ∧ z = -1) ∨ (inP w 0 2 ∧ ∃ X I, stA θ x i X I ∧ ((w = 0 ∧ z = θ.2.1 (8 * X + I)) ∨ (w = 1 ∧ (hasPl (θ.2.1 (8 * X + I)) ∨ inP (θ.2.1 (8 * X + I)) 8 11) ∧ z = θ.2.2.1 (8 * X + I)) ∨ (w = 1 ∧ ¬ (hasPl (θ.2.1 (8 * X + I)) ∨ inP (θ.2.1 (8 * X + I)) 8 11) ∧ z = -2) ∨ (w = 2 ∧ hasNm (θ.2.1 (8 * X + I)) ∧ z = θ.2.2.2.1 (8 * X + I)) ∨ (w = 2 ∧ ¬ hasNm (θ.2.1 (8 * X + I)) ∧ z = -2)))
theorem tdR_fn {x i w z z' : Int32} (h : tdR θ x i w z) (h' : tdR θ x i w z') : z = z' := by
  rcases h with ⟨a, rfl⟩ | ⟨a, X, I, hA, h⟩ <;> rcases h' with ⟨a', rfl⟩ | ⟨a', Y, J, hB, h'⟩
  · rfl
  · exact absurd ⟨⟨Y, J, hB⟩, a'⟩ a
  · exact absurd ⟨⟨X, I, hA⟩, a⟩ a'
  · obtain ⟨rfl, rfl⟩ := stA_fn hA hB
    rcases h with ⟨rfl, rfl⟩ | ⟨rfl, p, rfl⟩ | ⟨rfl, p, rfl⟩ | ⟨rfl, p, rfl⟩ | ⟨rfl, p, rfl⟩ <;> rcases h' with ⟨q, rfl⟩ | ⟨q, p', rfl⟩ | ⟨q, p', rfl⟩ | ⟨q, p', rfl⟩ | ⟨q, p', rfl⟩ <;> first | rfl | exact absurd q (by decide) | exact absurd p p' | exact absurd p' p
theorem of_pl {k : Nat} (hk : k < 13) : jv0.getD k 0 = 0 ↔ ¬ (hasPl (nI k) ∨ inP (nI k) 8 11) := by
  unfold hasPl inP
  match k, hk with
  | 0, _ => decide
  | 1, _ => decide
  | 2, _ => decide
  | 3, _ => decide
  | 4, _ => decide
  | 5, _ => decide
  | 6, _ => decide
  | 7, _ => decide
  | 8, _ => decide
  | 9, _ => decide
  | 10, _ => decide
  | 11, _ => decide
  | 12, _ => decide
  | k + 13, h => omega
theorem tp_nm {k : Nat} (hk : k < 13) : (0 : Int32) ≤ jv1.getD k 0 ↔ hasNm (nI k) := by
  unfold hasNm inP
  match k, hk with
  | 0, _ => decide
  | 1, _ => decide
  | 2, _ => decide
  | 3, _ => decide
  | 4, _ => decide
  | 5, _ => decide
  | 6, _ => decide
  | 7, _ => decide
  | 8, _ => decide
  | 9, _ => decide
  | 10, _ => decide
  | 11, _ => decide
  | 12, _ => decide
  | k + 13, h => omega
theorem kd_of {k : Int32} (h : inP k 0 12) : ∃ m, m < 13 ∧ k = nI m := by
  obtain ⟨h1, h2⟩ := h
  rw [Int32.le_iff_toInt_le] at h1 h2
  obtain ⟨m, hm, e⟩ := nat_of (x := k) (b := 12) h1 h2
  exact ⟨m, by omega, e⟩
theorem in02 {w : Int32} (h : inP w 0 2) : w = 0 ∨ w = 1 ∨ w = 2 := by
  obtain ⟨h1, h2⟩ := h
  rw [Int32.le_iff_toInt_le] at h1 h2
  have h1' : (0 : Int) ≤ w.toInt := h1
  have h2' : w.toInt ≤ (2 : Int) := h2
  rw [← Int32.toInt_inj, ← Int32.toInt_inj, ← Int32.toInt_inj]
  have e0 : (0 : Int32).toInt = 0 := rfl
  have e1 : (1 : Int32).toInt = 1 := rfl
  have e2 : (2 : Int32).toInt = 2 := rfl
  omega
set_option maxHeartbeats 4000000 in
theorem c_td {x i w : Int32} (hG : GS θ S n) (hj : J2 θ S) (hk : JK θ S) : PM (j_SL L) (j_SV xs) j_EX mm_X11_told [.ref 0, .int x, .int i, .int w] S n (fun r S' n' => S = S' ∧ n = n' ∧ ∃ z : Int32, r = some (.int z) ∧ tdR θ x i w z) := by
  have hn := gs_n hG
  obtain ⟨fs, fs1, ln, k0, f0, k1, f10, f12, f13, f14, f15, k3, hln, hb, b1, b2⟩ := gs_j2 hG hj
  obtain ⟨l4, l5, l6, k4, k5, k6, h9⟩ := hk
  change PQ (j_SL L) (j_SV xs) j_EX mm_X11_told 0 [.ref 0, .int x, .int i, .int w, pm_un, pm_un] [] S n 0 0 _
  have bad : ¬ (stP θ x i ∧ inP w 0 2) → PQ (j_SL L) (j_SV xs) j_EX mm_X11_told 20 [.ref 0, .int x, .int i, .int w, pm_un, pm_un] [] S n 0 0 (fun r S' n' => S = S' ∧ n = n' ∧ ∃ z : Int32, r = some (.int z) ∧ tdR θ x i w z) := by
    intro hO
    refine q_iconst rfl rfl ?_
    exact q_iret rfl rfl trivial ⟨rfl, rfl, _, rfl, Or.inl ⟨hO, rfl⟩⟩
  refine q_aload_n rfl rfl rfl ?_
  refine q_getf rfl rfl (by omega) k0 f0 ?_
  refine q_iload_n rfl rfl rfl ?_
  refine q_iload_n rfl rfl rfl ?_
  refine q_cV rfl rfl (Or.inl rfl) rfl rfl rfl rfl (by omega) k1 trivial rfl rfl rfl rfl rfl (c_hs hG hj) ?_
  rintro r _ _ ⟨rfl, rfl, hr⟩
  rcases hr with ⟨q, rfl⟩ | ⟨q, rfl⟩
  · show PQ (j_SL L) (j_SV xs) j_EX mm_X11_told 9 _ [.int 0] S n 0 0 _
    exact q_ifeq rfl rfl (fun _ => bad (fun h => q h.1)) (fun c => absurd rfl c)
  show PQ (j_SL L) (j_SV xs) j_EX mm_X11_told 9 _ [.int 1] S n 0 0 _
  refine q_ifeq rfl rfl (fun c => absurd c (by decide)) (fun _ => ?_)
  refine q_iload_n rfl rfl rfl ?_
  refine q_iconst rfl rfl ?_
  refine q_cS rfl rfl (Or.inl rfl) rfl rfl trivial rfl rfl rfl rfl rfl c_wi ?_
  rintro r _ _ ⟨rfl, rfl, hr⟩
  rcases hr with ⟨q2, rfl⟩ | ⟨q2, rfl⟩
  · show PQ (j_SL L) (j_SV xs) j_EX mm_X11_told 17 _ [.int 0] S n 0 0 _
    exact q_ifne rfl rfl (fun _ => bad (fun h => inw_n (a := 2) (by decide) q2 h.2)) (fun c => absurd rfl c)
  show PQ (j_SL L) (j_SV xs) j_EX mm_X11_told 17 _ [.int 1] S n 0 0 _
  refine q_ifne rfl rfl (fun c => absurd c (by decide)) (fun _ => ?_)
  have hw := (inw (a := 2) (b := 3) (by decide)).mpr q2
  obtain ⟨X, I, hA⟩ := q
  have hA0 := hA
  obtain ⟨hX, -, hXh, hI, -, hl⟩ := hA
  obtain ⟨hkd, e4, e5, e6⟩ := h9 X I hX hI hl
  obtain ⟨m, hm, em⟩ := kd_of hkd
  rw [e4] at em
  refine q_aload_n rfl rfl rfl ?_
  refine q_getf rfl rfl (by omega) k0 f0 ?_
  refine q_iload_n rfl rfl rfl ?_
  refine q_iload_n rfl rfl rfl ?_
  refine q_cV rfl rfl (Or.inl rfl) rfl rfl rfl rfl (by omega) k1 trivial rfl rfl rfl rfl rfl (c_ce hG hj hA0) ?_
  rintro r _ _ ⟨rfl, rfl, rfl⟩
  show PQ (j_SL L) (j_SV xs) j_EX mm_X11_told 31 _ [.int (nI (8 * X + I))] S n 0 0 _
  refine q_ist4 rfl rfl rfl rfl ?_
  refine q_aload_n rfl rfl rfl ?_
  refine q_getf rfl rfl (by omega) k0 f0 ?_
  refine q_iload rfl rfl rfl ?_
  refine q_cV rfl rfl (Or.inl rfl) rfl rfl rfl rfl (by omega) k1 trivial rfl rfl rfl rfl rfl (c_ki hn k1 f13 k4 (by omega)) ?_
  rintro r _ _ ⟨rfl, rfl, rfl⟩
  show PQ (j_SL L) (j_SV xs) j_EX mm_X11_told 42 _ [.int (l4 (8 * X + I))] S n 0 0 _
  rw [e4, em]
  refine q_ist5 rfl rfl rfl rfl ?_
  refine q_iload_n rfl rfl rfl ?_
  refine q_ifne rfl rfl (fun c0 => ?_) (fun c0 => ?_)
  · refine q_iload rfl rfl rfl ?_
    exact q_iret rfl rfl trivial ⟨rfl, rfl, _, rfl, Or.inr ⟨hw, X, I, hA0, Or.inl ⟨c0, em.symm⟩⟩⟩
  refine q_iload_n rfl rfl rfl ?_
  refine q_iconst rfl rfl ?_
  refine q_icne rfl rfl (fun c1 => ?_) (fun c1 => ?_)
  · refine q_iload rfl rfl rfl ?_
    refine q_cS rfl rfl (Or.inl rfl) rfl rfl trivial rfl rfl rfl rfl rfl (c_of hm) ?_
    rintro r _ _ ⟨rfl, rfl, rfl⟩
    show PQ (j_SL L) (j_SV xs) j_EX mm_X11_told 61 _ [.int (jv0.getD m 0)] S n 0 0 _
    refine q_ifne rfl rfl (fun c2 => ?_) (fun c2 => ?_)
    · refine q_bipush rfl rfl ?_
      refine q_goto rfl ?_
      exact q_iret rfl rfl trivial ⟨rfl, rfl, _, rfl, Or.inr ⟨hw, X, I, hA0, Or.inr (Or.inr (Or.inl ⟨c1, by rw [em]; exact (of_pl hm).mp c2, rfl⟩))⟩⟩
    · refine q_aload_n rfl rfl rfl ?_
      refine q_getf rfl rfl (by omega) k0 f0 ?_
      refine q_iload rfl rfl rfl ?_
      refine q_cV rfl rfl (Or.inl rfl) rfl rfl rfl rfl (by omega) k1 trivial rfl rfl rfl rfl rfl (c_oi hn k1 f14 k5 (by omega)) ?_
      rintro r _ _ ⟨rfl, rfl, rfl⟩
      show PQ (j_SL L) (j_SV xs) j_EX mm_X11_told 78 _ [.int (l5 (8 * X + I))] S n 0 0 _
      exact q_iret rfl rfl trivial ⟨rfl, rfl, _, rfl, Or.inr ⟨hw, X, I, hA0, Or.inr (Or.inl ⟨c1, by rw [em]; exact Classical.byContradiction (fun h => c2 ((of_pl hm).mpr h)), e5⟩)⟩⟩
  · have c2 : w = 2 := by
      rcases in02 hw with h | h | h
      · exact absurd h c0
      · exact absurd h c1
      · exact h
    refine q_iload rfl rfl rfl ?_
    refine q_cS rfl rfl (Or.inl rfl) rfl rfl trivial rfl rfl rfl rfl rfl (c_tp hm) ?_
    rintro r _ _ ⟨rfl, rfl, rfl⟩
    show PQ (j_SL L) (j_SV xs) j_EX mm_X11_told 84 _ [.int (jv1.getD m 0)] S n 0 0 _
    refine q_ifge rfl rfl (fun c3 => ?_) (fun c3 => ?_)
    · refine q_aload_n rfl rfl rfl ?_
      refine q_getf rfl rfl (by omega) k0 f0 ?_
      refine q_iload rfl rfl rfl ?_
      refine q_cV rfl rfl (Or.inl rfl) rfl rfl rfl rfl (by omega) k1 trivial rfl rfl rfl rfl rfl (c_ni hn k1 f15 k6 (by omega)) ?_
      rintro r _ _ ⟨rfl, rfl, rfl⟩
      show PQ (j_SL L) (j_SV xs) j_EX mm_X11_told 101 _ [.int (l6 (8 * X + I))] S n 0 0 _
      exact q_iret rfl rfl trivial ⟨rfl, rfl, _, rfl, Or.inr ⟨hw, X, I, hA0, Or.inr (Or.inr (Or.inr (Or.inl ⟨c2, by rw [em]; exact (tp_nm hm).mp c3, e6⟩)))⟩⟩
    · refine q_bipush rfl rfl ?_
      refine q_goto rfl ?_
      exact q_iret rfl rfl trivial ⟨rfl, rfl, _, rfl, Or.inr ⟨hw, X, I, hA0, Or.inr (Or.inr (Or.inr (Or.inr ⟨c2, by rw [em]; exact fun h => c3 ((tp_nm hm).mpr h), rfl⟩)))⟩⟩
/-- the reference: is there such a statement -/
theorem in_st {x i y : Int32} {X : Nat} (hX : X < 3) (e : x = nI X) (hXh : (X : Int) < θ.2.2.2.2.toInt) (hy : y = θ.1 X) (b1 : (0 : Int) ≤ (θ.1 X).toInt) (b2 : (θ.1 X).toInt ≤ 8) : inP i 0 (y - 1) ↔ stP θ x i := by
  subst hy
  have e1 := sub1 b1 b2
  constructor
  · rintro ⟨h1, h2⟩
    rw [Int32.le_iff_toInt_le] at h1 h2
    have h1' : (0 : Int) ≤ i.toInt := h1
    obtain ⟨I, hI, rfl⟩ := nat_of (x := i) (b := 7) h1' (by omega)
    rw [nI_toInt (by omega)] at h2
    exact ⟨X, I, hX, e, hXh, by omega, rfl, by omega⟩
  · rintro ⟨Y, I, hY, eY, -, hI, rfl, hl⟩
    have := nI_inj (by omega) (by omega) (e.symm.trans eY)
    subst this
    unfold inP
    rw [Int32.le_iff_toInt_le, Int32.le_iff_toInt_le, nI_toInt (by omega)]
    have e0 : (0 : Int32).toInt = 0 := rfl
    omega
set_option maxHeartbeats 4000000 in
theorem l_rtd {x i w : Int32} (hG : GS θ S n) : PM (j_SL L) (j_SV xs) j_EX mm_X12_told [.ref 46, .int x, .int i, .int w] S n (fun r S' n' => S = S' ∧ n = n' ∧ ∃ z : Int32, r = some (.int z) ∧ tdR θ x i w z) := by
  have hn := gs_n hG
  obtain ⟨mn, fk, fa, fn, fs, k47, k48, k49, k50, k46, m5, m6, f1, hd, hm, hf⟩ := xm_get hG
  have f2 : fs[2]? = some (.ref 47) := fo_ref (hf 2 _ rfl) rfl
  have f3 : fs[3]? = some (.ref 48) := fo_ref (hf 3 _ rfl) rfl
  have f4 : fs[4]? = some (.ref 49) := fo_ref (hf 4 _ rfl) rfl
  have f5 : fs[5]? = some (.ref 50) := fo_ref (hf 5 _ rfl) rfl
  change PQ (j_SL L) (j_SV xs) j_EX mm_X12_told 0 [.ref 46, .int x, .int i, .int w, pm_un, pm_un] [] S n 0 0 _
  have bad : ¬ (stP θ x i ∧ inP w 0 2) → PQ (j_SL L) (j_SV xs) j_EX mm_X12_told 35 [.ref 46, .int x, .int i, .int w, pm_un, pm_un] [] S n 0 0 (fun r S' n' => S = S' ∧ n = n' ∧ ∃ z : Int32, r = some (.int z) ∧ tdR θ x i w z) := by
    intro hO
    refine q_iconst rfl rfl ?_
    exact q_iret rfl rfl trivial ⟨rfl, rfl, _, rfl, Or.inl ⟨hO, rfl⟩⟩
  refine q_aload_n rfl rfl rfl ?_
  refine q_iload_n rfl rfl rfl ?_
  refine q_cV rfl rfl (Or.inl rfl) rfl rfl rfl rfl (by omega) k46 trivial rfl rfl rfl rfl rfl (l_isHand hn k46 f1) ?_
  rintro r S1 n1 ⟨e1, e2, hr⟩
  obtain rfl := e1.symm
  obtain rfl := e2.symm
  rcases hr with ⟨q, rfl⟩ | ⟨q, rfl⟩
  · show PQ (j_SL L) (j_SV xs) j_EX mm_X12_told 5 _ [.int 0] S n 0 0 _
    refine q_ifeq rfl rfl (fun _ => bad (fun h => ?_)) (fun c => absurd rfl c)
    obtain ⟨⟨X, I, hX, rfl, hXh, -⟩, -⟩ := h
    exact q (hnd hd.1 hd.2 ⟨by rw [Int32.le_iff_toInt_le, nI_toInt (by omega)]; show (0 : Int) ≤ _; omega, by rw [Int32.lt_iff_toInt_lt, nI_toInt (by omega)]; exact hXh⟩).2
  show PQ (j_SL L) (j_SV xs) j_EX mm_X12_told 5 _ [.int 1] S n 0 0 _
  refine q_ifeq rfl rfl (fun c => absurd c (by decide)) (fun _ => ?_)
  obtain ⟨X, hX, rfl, hXh⟩ := hand_of hd q
  have hmX := hm X hX
  refine q_aload_n rfl rfl rfl ?_
  refine q_iload_n rfl rfl rfl ?_
  refine q_iconst rfl rfl ?_
  refine q_aload_n rfl rfl rfl ?_
  refine q_getf rfl rfl (by omega) k46 f2 ?_
  refine q_iload_n rfl rfl rfl ?_
  refine q_iald rfl rfl (by omega) k47 (q_inN (by omega) (by decide)) (q_tn (z := θ.1 X) (by rw [nI_clamp (by omega)]; exact m5 X hX) ?_)
  refine q_iconst rfl rfl ?_
  refine q_isub rfl rfl ?_
  refine q_cV rfl rfl (Or.inl rfl) rfl rfl rfl rfl (by omega) k46 trivial rfl rfl rfl rfl rfl l_in ?_
  rintro r S1 n1 ⟨e1, e2, hr⟩
  obtain rfl := e1.symm
  obtain rfl := e2.symm
  have hst : inP i 0 (θ.1 X - 1) ↔ stP θ (nI X) i := in_st hX rfl hXh rfl hmX.1 hmX.2
  rcases hr with ⟨q1, rfl⟩ | ⟨q1, rfl⟩
  · show PQ (j_SL L) (j_SV xs) j_EX mm_X12_told 22 _ [.int 0] S n 0 0 _
    exact q_ifeq rfl rfl (fun _ => bad (fun h => q1 (hst.mpr h.1))) (fun c => absurd rfl c)
  show PQ (j_SL L) (j_SV xs) j_EX mm_X12_told 22 _ [.int 1] S n 0 0 _
  refine q_ifeq rfl rfl (fun c => absurd c (by decide)) (fun _ => ?_)
  refine q_aload_n rfl rfl rfl ?_
  refine q_iload_n rfl rfl rfl ?_
  refine q_iconst rfl rfl ?_
  refine q_iconst rfl rfl ?_
  refine q_cV rfl rfl (Or.inl rfl) rfl rfl rfl rfl (by omega) k46 trivial rfl rfl rfl rfl rfl l_in ?_
  rintro r S1 n1 ⟨e1, e2, hr⟩
  obtain rfl := e1.symm
  obtain rfl := e2.symm
  rcases hr with ⟨q2, rfl⟩ | ⟨hw, rfl⟩
  · show PQ (j_SL L) (j_SV xs) j_EX mm_X12_told 32 _ [.int 0] S n 0 0 _
    exact q_ifne rfl rfl (fun _ => bad (fun h => q2 h.2)) (fun c => absurd rfl c)
  show PQ (j_SL L) (j_SV xs) j_EX mm_X12_told 32 _ [.int 1] S n 0 0 _
  refine q_ifne rfl rfl (fun c => absurd c (by decide)) (fun _ => ?_)
  obtain ⟨Y, I, hA0⟩ := hst.mp q1
  have hA := hA0
  obtain ⟨hY, eY, -, hI, rfl, hl⟩ := hA
  have := nI_inj (by omega) (by omega) eY
  subst this
  obtain ⟨e4, e5, e6⟩ := m6 (8 * X + I) (by omega)
  refine q_bipush rfl rfl ?_
  refine q_iload_n rfl rfl rfl ?_
  refine q_imul rfl rfl (q_tn (z := nI (8 * X)) (by rw [show (8 : Int32) = nI 8 from rfl, pk_mul]) ?_)
  refine q_iload_n rfl rfl rfl ?_
  refine q_iadd rfl rfl (q_tn (z := nI (8 * X + I)) (nI_add _ _) ?_)
  refine q_ist4 rfl rfl rfl rfl ?_
  refine q_aload_n rfl rfl rfl ?_
  refine q_getf rfl rfl (by omega) k46 f3 ?_
  refine q_iload rfl rfl rfl ?_
  refine q_iald rfl rfl (by omega) k48 (q_inN (by omega) (by decide)) (q_tn (z := θ.2.1 (8 * X + I)) (by rw [nI_clamp (by omega)]; exact e4) ?_)
  refine q_ist5 rfl rfl rfl rfl ?_
  refine q_iload_n rfl rfl rfl ?_
  refine q_ifne rfl rfl (fun c0 => ?_) (fun c0 => ?_)
  · refine q_iload rfl rfl rfl ?_
    refine q_goto rfl ?_
    exact q_iret rfl rfl trivial ⟨rfl, rfl, _, rfl, Or.inr ⟨hw, X, I, hA0, Or.inl ⟨c0, rfl⟩⟩⟩
  refine q_iload_n rfl rfl rfl ?_
  refine q_iconst rfl rfl ?_
  refine q_icne rfl rfl (fun c1 => ?_) (fun c1 => ?_)
  · have s86 : (hasPl (θ.2.1 (8 * X + I)) ∨ inP (θ.2.1 (8 * X + I)) 8 11) → PQ (j_SL L) (j_SV xs) j_EX mm_X12_told 86 [.ref 46, .int (nI X), .int (nI I), .int w, .int (nI (8 * X + I)), .int (θ.2.1 (8 * X + I))] [] S n 0 0 (fun r S' n' => S = S' ∧ n = n' ∧ ∃ z : Int32, r = some (.int z) ∧ tdR θ (nI X) (nI I) w z) := by
      intro hp
      refine q_aload_n rfl rfl rfl ?_
      refine q_getf rfl rfl (by omega) k46 f4 ?_
      refine q_iload rfl rfl rfl ?_
      refine q_iald rfl rfl (by omega) k49 (q_inN (by omega) (by decide)) (q_tn (z := θ.2.2.1 (8 * X + I)) (by rw [nI_clamp (by omega)]; exact e5) ?_)
      refine q_goto rfl ?_
      exact q_iret rfl rfl trivial ⟨rfl, rfl, _, rfl, Or.inr ⟨hw, X, I, hA0, Or.inr (Or.inl ⟨c1, hp, rfl⟩)⟩⟩
    refine q_aload_n rfl rfl rfl ?_
    refine q_iload rfl rfl rfl ?_
    refine q_cV rfl rfl (Or.inl rfl) rfl rfl rfl rfl (by omega) k46 trivial rfl rfl rfl rfl rfl (l_hasPlace hn k46) ?_
    rintro r S1 n1 ⟨g1, g2, hr⟩
    obtain rfl := g1.symm
    obtain rfl := g2.symm
    rcases hr with ⟨p1, rfl⟩ | ⟨p1, rfl⟩
    rotate_left
    · show PQ (j_SL L) (j_SV xs) j_EX mm_X12_told 74 _ [.int 1] S n 0 0 _
      exact q_ifne rfl rfl (fun c => absurd c (by decide)) (fun _ => s86 (Or.inl p1))
    show PQ (j_SL L) (j_SV xs) j_EX mm_X12_told 74 _ [.int 0] S n 0 0 _
    refine q_ifne rfl rfl (fun _ => ?_) (fun c => absurd rfl c)
    refine q_aload_n rfl rfl rfl ?_
    refine q_iload rfl rfl rfl ?_
    refine q_cV rfl rfl (Or.inl rfl) rfl rfl rfl rfl (by omega) k46 trivial rfl rfl rfl rfl rfl (l_hasLock hn k46) ?_
    rintro r S1 n1 ⟨g1, g2, hr⟩
    obtain rfl := g1.symm
    obtain rfl := g2.symm
    rcases hr with ⟨p2, rfl⟩ | ⟨p2, rfl⟩
    · show PQ (j_SL L) (j_SV xs) j_EX mm_X12_told 83 _ [.int 0] S n 0 0 _
      refine q_ifeq rfl rfl (fun _ => ?_) (fun c => absurd rfl c)
      refine q_bipush rfl rfl ?_
      refine q_goto rfl ?_
      exact q_iret rfl rfl trivial ⟨rfl, rfl, _, rfl, Or.inr ⟨hw, X, I, hA0, Or.inr (Or.inr (Or.inl ⟨c1, fun h => h.elim p1 p2, rfl⟩))⟩⟩
    · show PQ (j_SL L) (j_SV xs) j_EX mm_X12_told 83 _ [.int 1] S n 0 0 _
      exact q_ifeq rfl rfl (fun c => absurd c (by decide)) (fun _ => s86 (Or.inr p2))
  · have c2 : w = 2 := by
      rcases in02 hw with h | h | h
      · exact absurd h c0
      · exact absurd h c1
      · exact h
    refine q_aload_n rfl rfl rfl ?_
    refine q_iload rfl rfl rfl ?_
    refine q_cV rfl rfl (Or.inl rfl) rfl rfl rfl rfl (by omega) k46 trivial rfl rfl rfl rfl rfl (l_hasNumber hn k46) ?_
    rintro r S1 n1 ⟨g1, g2, hr⟩
    obtain rfl := g1.symm
    obtain rfl := g2.symm
    rcases hr with ⟨p1, rfl⟩ | ⟨p1, rfl⟩
    · show PQ (j_SL L) (j_SV xs) j_EX mm_X12_told 107 _ [.int 0] S n 0 0 _
      refine q_ifeq rfl rfl (fun _ => ?_) (fun c => absurd rfl c)
      refine q_bipush rfl rfl ?_
      exact q_iret rfl rfl trivial ⟨rfl, rfl, _, rfl, Or.inr ⟨hw, X, I, hA0, Or.inr (Or.inr (Or.inr (Or.inr ⟨c2, p1, rfl⟩)))⟩⟩
    · show PQ (j_SL L) (j_SV xs) j_EX mm_X12_told 107 _ [.int 1] S n 0 0 _
      refine q_ifeq rfl rfl (fun c => absurd c (by decide)) (fun _ => ?_)
      refine q_aload_n rfl rfl rfl ?_
      refine q_getf rfl rfl (by omega) k46 f5 ?_
      refine q_iload rfl rfl rfl ?_
      refine q_iald rfl rfl (by omega) k50 (q_inN (by omega) (by decide)) (q_tn (z := θ.2.2.2.1 (8 * X + I)) (by rw [nI_clamp (by omega)]; exact e6) ?_)
      refine q_goto rfl ?_
      exact q_iret rfl rfl trivial ⟨rfl, rfl, _, rfl, Or.inr ⟨hw, X, I, hA0, Or.inr (Or.inr (Or.inr (Or.inl ⟨c2, p1, rfl⟩)))⟩⟩
end TD
