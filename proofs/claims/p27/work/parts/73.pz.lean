/-! the class's program against the reference's: hands and lengths; uncode -/
section PZ
variable {θ : Th} {L : Nat} {xs : Nat → Int32} {S : Nat → pm_E} {n : Nat}
def J2 (θ : Th) (S : Nat → pm_E) : Prop := (∃ fs : List Value, S 1 = .inr (6, fs) ∧ fs[0]? = some (.int θ.2.2.2.2)) ∧ ∃ ln : Nat → Int32, S 3 = .inl (0, 3, .inl ln) ∧ ∀ x, x < 3 → ln x = θ.1 x
theorem j2_smf : ∀ (θ : Th) (S S' : Nat → pm_E), J2 θ S → smf S S' → J2 θ S' := fun θ S S' h m => by
  obtain ⟨⟨fs, a, b⟩, ln, c, d⟩ := h
  exact ⟨⟨fs, by rw [m 1 (by simp)]; exact a, b⟩, ln, by rw [m 3 (by simp)]; exact c, d⟩
/-- the statements' kinds, operands, numbers are the same -/
def JK (θ : Th) (S : Nat → pm_E) : Prop := ∃ l4 l5 l6 : Nat → Int32, S 4 = .inl (0, 24, .inl l4) ∧ S 5 = .inl (0, 24, .inl l5) ∧ S 6 = .inl (0, 24, .inl l6) ∧ ∀ X i : Nat, X < 3 → i < 8 → (i : Int) < (θ.1 X).toInt → inP (l4 (8 * X + i)) 0 12 ∧ l4 (8 * X + i) = θ.2.1 (8 * X + i) ∧ l5 (8 * X + i) = θ.2.2.1 (8 * X + i) ∧ l6 (8 * X + i) = θ.2.2.2.1 (8 * X + i)
theorem jk_same {S' : Nat → pm_E} (h : JK θ S) (e4 : S' 4 = S 4) (e5 : S' 5 = S 5) (e6 : S' 6 = S 6) : JK θ S' := by
  obtain ⟨l4, l5, l6, a, b, c, d⟩ := h
  exact ⟨l4, l5, l6, e4.trans a, e5.trans b, e6.trans c, d⟩
theorem jk_less {θ' : Th} (h : JK θ S) (e : θ'.2 = θ.2) (hl : ∀ X, X < 3 → (θ'.1 X).toInt ≤ (θ.1 X).toInt) : JK θ' S := by
  obtain ⟨l4, l5, l6, a, b, c, d⟩ := h
  refine ⟨l4, l5, l6, a, b, c, fun X i hX hi h => ?_⟩
  rw [e]
  exact d X i hX hi (by have := hl X hX; omega)
theorem j2_init (h : FW S) : J2 th0 S := ⟨⟨_, FW_1 S h, rfl⟩, _, FW_3 S h, fun _ _ => rfl⟩
theorem i_ab {x : Int32} (h1 : x < 0) (h2 : 0 ≤ x) : False := by
  simp only [Int32.lt_iff_toInt_lt, Int32.le_iff_toInt_le] at h1 h2
  omega
theorem i_ab2 {x h : Int32} (h1 : h ≤ x) (h2 : x < h) : False := by
  simp only [Int32.lt_iff_toInt_lt, Int32.le_iff_toInt_le] at h1 h2
  omega
theorem c_hh {fs : List Value} {h x : Int32} (hn : 82 ≤ n) (k1 : S 1 = .inr (6, fs)) (f0 : fs[0]? = some (.int h)) : PM (j_SL L) (j_SV xs) j_EX mm_X8_hasHand [.ref 1, .int x] S n (fun r S' n' => S = S' ∧ n = n' ∧ ((¬ (0 ≤ x ∧ x < h) ∧ r = some (.int 0)) ∨ ((0 ≤ x ∧ x < h) ∧ r = some (.int 1)))) := by
  change PQ (j_SL L) (j_SV xs) j_EX mm_X8_hasHand 0 [.ref 1, .int x] [] S n 0 0 _
  refine q_iload_n rfl rfl rfl ?_
  refine q_iflt rfl rfl (fun c1 => ?_) (fun c1 => ?_)
  · refine q_iconst rfl rfl ?_
    exact q_iret rfl rfl rfl ⟨rfl, rfl, Or.inl ⟨fun h9 => i_ab c1 h9.1, rfl⟩⟩
  · refine q_iload_n rfl rfl rfl ?_
    refine q_aload_n rfl rfl rfl ?_
    refine q_getf rfl rfl (by omega) k1 f0 ?_
    refine q_icge rfl rfl (fun c2 => ?_) (fun c2 => ?_)
    · refine q_iconst rfl rfl ?_
      exact q_iret rfl rfl rfl ⟨rfl, rfl, Or.inl ⟨fun h9 => i_ab2 c2 h9.2, rfl⟩⟩
    · refine q_iconst rfl rfl ?_
      refine q_goto rfl ?_
      exact q_iret rfl rfl rfl ⟨rfl, rfl, Or.inr ⟨⟨i_nlt c1, i_nle c2⟩, rfl⟩⟩
theorem c_le {fs : List Value} {h : Int32} {ln : Nat → Int32} {X : Nat} (hn : 82 ≤ n) (k1 : S 1 = .inr (6, fs)) (f0 : fs[0]? = some (.int h)) (f2 : fs[2]? = some (.ref 3)) (k3 : S 3 = .inl (0, 3, .inl ln)) (hX : X < 3) (h0 : 0 ≤ nI X ∧ nI X < h) : PM (j_SL L) (j_SV xs) j_EX mm_X8_lengthOf [.ref 1, .int (nI X)] S n (fun r S' n' => S = S' ∧ n = n' ∧ r = some (.int (ln X))) := by
  change PQ (j_SL L) (j_SV xs) j_EX mm_X8_lengthOf 0 [.ref 1, .int (nI X)] [] S n 0 0 _
  refine q_iload_n rfl rfl rfl ?_
  refine q_iflt rfl rfl (fun c1 => (i_ab c1 h0.1).elim) (fun c1 => ?_)
  refine q_iload_n rfl rfl rfl ?_
  refine q_aload_n rfl rfl rfl ?_
  refine q_getf rfl rfl (by omega) k1 f0 ?_
  refine q_icge rfl rfl (fun c2 => (i_ab2 c2 h0.2).elim) (fun c2 => ?_)
  refine q_aload_n rfl rfl rfl ?_
  refine q_getf rfl rfl (by omega) k1 f2 ?_
  refine q_iload_n rfl rfl rfl ?_
  refine q_iald rfl rfl (by omega) k3 (q_inN hX (by decide)) ?_
  refine q_goto rfl ?_
  exact q_iret rfl rfl trivial ⟨rfl, rfl, by rw [nI_clamp (by omega)]⟩
theorem c_dl {fs : List Value} {h : Int32} {ln : Nat → Int32} {X : Nat} (hn : 82 ≤ n) (k1 : S 1 = .inr (6, fs)) (f0 : fs[0]? = some (.int h)) (f2 : fs[2]? = some (.ref 3)) (k3 : S 3 = .inl (0, 3, .inl ln)) (hX : X < 3) (h0 : 0 ≤ nI X ∧ nI X < h) (hl : ¬ ln X ≤ 0) : PM (j_SL L) (j_SV xs) j_EX mm_X8_dropLast [.ref 1, .int (nI X)] S n (fun r S' n' => r = none ∧ n = n' ∧ S' = va_up S 3 (.inl (0, 3, .inl (upd ln X (ln X - 1))))) := by
  change PQ (j_SL L) (j_SV xs) j_EX mm_X8_dropLast 0 [.ref 1, .int (nI X)] [] S n 0 0 _
  refine q_aload_n rfl rfl rfl ?_
  refine q_iload_n rfl rfl rfl ?_
  refine q_cV rfl rfl (Or.inl rfl) rfl rfl rfl rfl (by omega) k1 trivial rfl rfl rfl rfl rfl (c_hh hn k1 f0) ?_
  rintro r _ _ ⟨rfl, rfl, hr⟩
  rcases hr with ⟨hr, -⟩ | ⟨-, rfl⟩
  · exact absurd h0 hr
  show PQ (j_SL L) (j_SV xs) j_EX mm_X8_dropLast 5 _ [.int 1] S n 0 0 _
  refine q_ifeq rfl rfl (fun c => absurd c (by decide)) (fun _ => ?_)
  refine q_aload_n rfl rfl rfl ?_
  refine q_getf rfl rfl (by omega) k1 f2 ?_
  refine q_iload_n rfl rfl rfl ?_
  refine q_iald rfl rfl (by omega) k3 (q_inN hX (by decide)) ?_
  refine q_ifle rfl rfl (fun c => absurd (by rw [nI_clamp (by omega)] at c; exact c) hl) (fun _ => ?_)
  refine q_aload_n rfl rfl rfl ?_
  refine q_getf rfl rfl (by omega) k1 f2 ?_
  refine q_iload_n rfl rfl rfl ?_
  refine q_dup2 rfl rfl ?_
  refine q_iald rfl rfl (by omega) k3 (q_inN hX (by decide)) ?_
  refine q_iconst rfl rfl ?_
  refine q_isub rfl rfl ?_
  refine q_iast rfl rfl (by omega) k3 (q_inN hX (by decide)) ?_
  exact q_ret rfl rfl ⟨rfl, rfl, by rw [nI_clamp (by omega)]⟩
theorem w_fgt {S : Nat → pm_E} (hG : GS θ S n) : PM (j_SL L) (j_SV xs) j_EX mm_X11_forget [.ref 0] S n (fun r S' n' => n = n' ∧ r = none ∧ GS θ S' n ∧ fr1 [0, 32, 42, 44] S S' n ∧ zr 44 S') := pm_weak (pm_and (pm_weak (q_kc w8 [] hG ⟨rfl, trivial⟩ ck_en_n (fun d hd => by cases hd)) (fun r S9 n9 h => kc_void rfl h)) (c_fgz hG)) (fun r S9 n9 h => by
  obtain ⟨⟨h1, h2, h3, h4⟩, S2, e2, h5⟩ := h
  exact ⟨h1.symm, h2, h3, h4, zr_hp (by have := gs_n h3; omega) e2 h5⟩)
theorem hnd {x h : Int32} (h1 : (1 : Int) ≤ h.toInt) (h3 : h.toInt ≤ 3) (hx : 0 ≤ x ∧ x < h) : (∃ X : Nat, X < 3 ∧ x = nI X ∧ (X : Int) < h.toInt) ∧ inP x 0 (h - 1) := by
  have e2 : (h - 1).toInt = (h.toInt - (1 : Int32).toInt).bmod 4294967296 := Int32.toInt_sub h 1
  have e1 : (1 : Int32).toInt = 1 := rfl
  have e0 : (0 : Int32).toInt = 0 := rfl
  rw [ck_bm (by show (-2147483648 : Int) ≤ _; omega) (by show _ ≤ (2147483647 : Int); omega)] at e2
  unfold inP
  simp only [Int32.lt_iff_toInt_lt, Int32.le_iff_toInt_le] at hx ⊢
  obtain ⟨X, hX, rfl⟩ := nat_of (x := x) (b := 2) (by omega) (by omega)
  have e := nI_toInt (n := X) (by omega)
  exact ⟨⟨X, by omega, rfl, by omega⟩, by omega, by omega⟩
set_option maxHeartbeats 4000000 in
theorem c_un {x : Int32} (hG : GS θ S n) (hj : J2 θ S) : PM (j_SL L) (j_SV xs) j_EX mm_X11_uncode [.ref 0, .int x] S n (fun r S' n' => ZQ 44 S S' ∧ n = n' ∧ GS θ S' n ∧ fr1 [0, 3, 32, 42, 44] S S' n ∧ ∃ z : Int32, r = some (.int z) ∧ ∀ z' θ', ucR θ x z' θ' → z = z' ∧ J2 θ' S' ∧ (JK θ S → JK θ' S')) := by
  have hn := gs_n hG
  obtain ⟨⟨fs1, k1, f10⟩, ln, k3, hln⟩ := hj
  obtain ⟨fs, k0, f0, -, -⟩ := gs_0 hG
  obtain ⟨gs, g1, hg⟩ := gs_obj hG (k := 1) rfl
  rw [k1] at g1
  cases g1
  have f12 : fs1[2]? = some (.ref 3) := fo_ref (hg 2 _ rfl) rfl
  obtain ⟨H, e0, b1, b2⟩ := fo_int (hg 0 _ rfl) rfl
  rw [f10] at e0
  cases e0
  have b1' : (1 : Int) ≤ θ.2.2.2.2.toInt := b1
  have b2' : θ.2.2.2.2.toInt ≤ (3 : Int) := b2
  obtain ⟨ln', k3', hb3⟩ := gs_a1 hG (k := 3) rfl
  rw [k3] at k3'
  cases k3'
  have hJ : J2 θ S := ⟨⟨fs1, k1, f10⟩, ln, k3, hln⟩
  change PQ (j_SL L) (j_SV xs) j_EX mm_X11_uncode 0 [.ref 0, .int x] [] S n 0 0 _
  refine q_aload_n rfl rfl rfl ?_
  refine q_getf rfl rfl (by omega) k0 f0 ?_
  refine q_iload_n rfl rfl rfl ?_
  refine q_cV rfl rfl (Or.inl rfl) rfl rfl rfl rfl (by omega) k1 trivial rfl rfl rfl rfl rfl (c_hh hn k1 f10) ?_
  rintro r _ _ ⟨rfl, rfl, hr⟩
  rcases hr with ⟨hr, rfl⟩ | ⟨hx, rfl⟩
  · show PQ (j_SL L) (j_SV xs) j_EX mm_X11_uncode 8 _ [.int 0] S n 0 0 _
    refine q_ifne rfl rfl (fun _ => ?_) (fun c => absurd rfl c)
    refine q_iconst rfl rfl ?_
    refine q_iret rfl rfl trivial ⟨Or.inl rfl, rfl, hG, fr1_rf, _, rfl, fun z θ' hu => ?_⟩
    rcases hu with ⟨-, rfl, rfl⟩ | ⟨X, hX, rfl, hXh, -⟩
    · exact ⟨rfl, hJ, id⟩
    · refine absurd ?_ hr
      have e := nI_toInt (n := X) (by omega)
      have e0 : (0 : Int32).toInt = 0 := rfl
      simp only [Int32.lt_iff_toInt_lt, Int32.le_iff_toInt_le]
      omega
  show PQ (j_SL L) (j_SV xs) j_EX mm_X11_uncode 8 _ [.int 1] S n 0 0 _
  refine q_ifne rfl rfl (fun c => absurd c (by decide)) (fun _ => ?_)
  obtain ⟨⟨X, hX, rfl, hXh⟩, hin⟩ := hnd b1' b2' hx
  have hb := hb3 X hX
  have hu1 : ∀ z θ', ucR θ (nI X) z θ' → (θ.1 X = 0 ∧ z = -3 ∧ θ' = θ) ∨ (¬ θ.1 X = 0 ∧ z = θ.1 X - 1 ∧ θ' = (upd θ.1 X (θ.1 X - 1), θ.2)) := by
    intro z θ' hu
    rcases hu with ⟨h9, -, -⟩ | ⟨Y, hY, eY, -, h9⟩
    · exact absurd hin h9
    · have : X = Y := by
        have := congrArg Int32.toInt eY
        rw [nI_toInt (by omega), nI_toInt (by omega)] at this
        omega
      subst this
      exact h9
  refine q_aload_n rfl rfl rfl ?_
  refine q_getf rfl rfl (by omega) k0 f0 ?_
  refine q_iload_n rfl rfl rfl ?_
  refine q_cV rfl rfl (Or.inl rfl) rfl rfl rfl rfl (by omega) k1 trivial rfl rfl rfl rfl rfl (c_le hn k1 f10 f12 k3 hX hx) ?_
  rintro r _ _ ⟨rfl, rfl, rfl⟩
  show PQ (j_SL L) (j_SV xs) j_EX mm_X11_uncode 21 _ [.int (ln X)] S n 0 0 _
  refine q_ifne rfl rfl (fun c0 => ?_) (fun c0 => ?_)
  · refine q_bipush rfl rfl ?_
    refine q_iret rfl rfl trivial ⟨Or.inl rfl, rfl, hG, fr1_rf, _, rfl, fun z θ' hu => ?_⟩
    rcases hu1 z θ' hu with ⟨-, rfl, rfl⟩ | ⟨q1, -⟩
    · exact ⟨rfl, hJ, id⟩
    · exact absurd (by rw [← hln X hX]; exact c0) q1
  have hpos : ¬ ln X ≤ 0 := fun h9 => c0 (by
    rw [Int32.le_iff_toInt_le] at h9
    have e0 : (0 : Int32).toInt = 0 := rfl
    have hb1 : (0 : Int) ≤ (ln X).toInt := hb.1
    exact Int32.toInt_inj.mp (by omega))
  refine q_aload_n rfl rfl rfl ?_
  refine q_getf rfl rfl (by omega) k0 f0 ?_
  refine q_iload_n rfl rfl rfl ?_
  refine q_cV rfl rfl (Or.inl rfl) rfl rfl rfl rfl (by omega) k1 trivial rfl rfl rfl rfl rfl (c_dl hn k1 f10 f12 k3 hX hx hpos) ?_
  rintro r T1 _ ⟨rfl, rfl, eT⟩
  have hG1 : GS θ T1 n := by
    rw [eT]
    refine gs_st (k := 3) (c := .inl (0, 3, .inl (upd ln X (ln X - 1)))) hG rfl rfl ?_ (pk_arr k3)
    refine ⟨_, rfl, fun i hi => ?_⟩
    have hi3 : i < 3 := hi
    refine ⟨(0, 0, 8), by show [((0 : Nat), (0 : Int), (8 : Int))][i % 1]? = _; rw [Nat.mod_one]; rfl, ?_⟩
    show (0 : Int) ≤ (upd ln X (ln X - 1) i).toInt ∧ (upd ln X (ln X - 1) i).toInt ≤ 8
    unfold upd
    split
    · have hb1 : (0 : Int) ≤ (ln X).toInt := hb.1
      have hb2 : (ln X).toInt ≤ (8 : Int) := hb.2
      have e2 : (ln X - 1).toInt = ((ln X).toInt - (1 : Int32).toInt).bmod 4294967296 := Int32.toInt_sub (ln X) 1
      have e1 : (1 : Int32).toInt = 1 := rfl
      have e0 : (0 : Int32).toInt = 0 := rfl
      rw [Int32.le_iff_toInt_le] at hpos
      rw [ck_bm (by show (-2147483648 : Int) ≤ _; omega) (by show _ ≤ (2147483647 : Int); omega)] at e2
      omega
    · exact hb3 i hi3
  have t0 : T1 0 = .inr (9, fs) := by rw [eT]; exact (u_ne (by decide)).trans k0
  have t1 : T1 1 = .inr (6, fs1) := by rw [eT]; exact (u_ne (by decide)).trans k1
  have t3 : T1 3 = .inl (0, 3, .inl (upd ln X (ln X - 1))) := by rw [eT]; exact u_eq
  show PQ (j_SL L) (j_SV xs) j_EX mm_X11_uncode 35 _ [] T1 n 0 0 _
  refine q_aload_n rfl rfl rfl ?_
  refine q_cV rfl rfl (Or.inl rfl) rfl rfl rfl rfl (by omega) t0 trivial rfl rfl rfl rfl rfl (w_fgt hG1) ?_
  rintro r T2 _ ⟨rfl, rfl, hG2, e2, hzq⟩
  show PQ (j_SL L) (j_SV xs) j_EX mm_X11_uncode 39 _ [] T2 n 0 0 _
  obtain ⟨fs2, k02, f02, -, -⟩ := gs_0 hG2
  have u1 : T2 1 = .inr (6, fs1) := (e2 1 (by omega) rfl).trans t1
  have u3 : T2 3 = .inl (0, 3, .inl (upd ln X (ln X - 1))) := (e2 3 (by omega) rfl).trans t3
  refine q_aload_n rfl rfl rfl ?_
  refine q_getf rfl rfl (by omega) k02 f02 ?_
  refine q_iload_n rfl rfl rfl ?_
  refine q_cV rfl rfl (Or.inl rfl) rfl rfl rfl rfl (by omega) u1 trivial rfl rfl rfl rfl rfl (c_le hn u1 f10 f12 u3 hX hx) ?_
  rintro r _ _ ⟨rfl, rfl, rfl⟩
  show PQ (j_SL L) (j_SV xs) j_EX mm_X11_uncode 47 _ [.int (upd ln X (ln X - 1) X)] T2 n 0 0 _
  have hfr : fr1 [0, 3, 32, 42, 44] S T2 n := fr1_tr (l := [3]) (by rw [eT]; exact fr1_up fr1_rf rfl) e2 rfl rfl
  refine q_iret rfl rfl trivial ⟨Or.inr ⟨hzq, Or.inr ⟨rfl, Or.inl ⟨ln, _, k3, u3, X, hX, fun e => by
    have e9 : ln X - 1 = ln X := (if_pos rfl).symm.trans e
    have hb1 : (0 : Int) ≤ (ln X).toInt := hb.1
    have hb2 : (ln X).toInt ≤ (8 : Int) := hb.2
    have e2 : (ln X - 1).toInt = ((ln X).toInt - (1 : Int32).toInt).bmod 4294967296 := Int32.toInt_sub (ln X) 1
    have e11 : (1 : Int32).toInt = 1 := rfl
    rw [ck_bm (by show (-2147483648 : Int) ≤ _; omega) (by show _ ≤ (2147483647 : Int); omega), e9] at e2
    omega⟩⟩⟩, rfl, hG2, hfr, _, rfl, fun z θ' hu => ?_⟩
  rcases hu1 z θ' hu with ⟨q1, -⟩ | ⟨-, rfl, rfl⟩
  · exact absurd ((hln X hX).trans q1) c0
  · refine ⟨(if_pos rfl).trans (by rw [hln X hX]), ⟨⟨fs1, u1, f10⟩, _, u3, fun y hy => ?_⟩, fun hk => jk_less (jk_same hk (hfr 4 (by omega) rfl) (hfr 5 (by omega) rfl) (hfr 6 (by omega) rfl)) rfl (fun Y hY => ?_)⟩
    rotate_left
    · show (upd θ.1 X (θ.1 X - 1) Y).toInt ≤ _
      unfold upd
      split
      · rename_i eY
        rw [eY, ← hln X hX]
        have hb1 : (0 : Int) ≤ (ln X).toInt := hb.1
        have hb2 : (ln X).toInt ≤ (8 : Int) := hb.2
        have e2 : (ln X - 1).toInt = ((ln X).toInt - (1 : Int32).toInt).bmod 4294967296 := Int32.toInt_sub (ln X) 1
        have e1 : (1 : Int32).toInt = 1 := rfl
        rw [ck_bm (by show (-2147483648 : Int) ≤ _; omega) (by show _ ≤ (2147483647 : Int); omega)] at e2
        omega
      · exact Int.le_refl _
    show upd ln X (ln X - 1) y = upd θ.1 X (θ.1 X - 1) y
    unfold upd
    split
    · rw [hln X hX]
    · exact hln y hy
end PZ
