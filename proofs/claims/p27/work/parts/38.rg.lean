variable {θ : Th}
def ucR (θ : Th) (x r : Int32) (θ' : Th) : Prop := (¬ inP x 0 (θ.2.2.2.2 - 1) ∧ r = -1 ∧ θ' = θ) ∨ (∃ X : Nat, X < 3 ∧ x = nI X ∧ (X : Int) < θ.2.2.2.2.toInt ∧ ((θ.1 X = 0 ∧ r = -3 ∧ θ' = θ) ∨ (¬ θ.1 X = 0 ∧ r = θ.1 X - 1 ∧ θ' = (upd θ.1 X (θ.1 X - 1), θ.2))))
def cdR (θ : Th) (x k p v r : Int32) (θ' : Th) : Prop := (¬ (inP x 0 (θ.2.2.2.2 - 1) ∧ okS k p v) ∧ r = -1 ∧ θ' = θ) ∨ (okS k p v ∧ ∃ X m : Nat, X < 3 ∧ x = nI X ∧ (X : Int) < θ.2.2.2.2.toInt ∧ θ.1 X = nI m ∧ m ≤ 8 ∧ ((m = 8 ∧ r = -2 ∧ θ' = θ) ∨ (m < 8 ∧ r = nI m ∧ θ' = (upd θ.1 X (nI (m + 1)), upd θ.2.1 (8 * X + m) k, upd θ.2.2.1 (8 * X + m) p, upd θ.2.2.2.1 (8 * X + m) v, θ.2.2.2.2))))
def pzS (θ : Th) : Int32 := ((0 + (if θ.2.2.2.2 ≤ nI 0 then 0 else θ.1 0)) + (if θ.2.2.2.2 ≤ nI 1 then 0 else θ.1 1)) + (if θ.2.2.2.2 ≤ nI 2 then 0 else θ.1 2)
def pzT (θ : Th) (h : Int32) : Th := (upd (upd (upd θ.1 0 0) 1 0) 2 0, θ.2.1, θ.2.2.1, θ.2.2.2.1, h)
def pzR (θ : Th) (h r : Int32) (θ' : Th) : Prop := (¬ inP h 1 3 ∧ r = -1 ∧ θ' = θ) ∨ (inP h 1 3 ∧ r = pzS θ ∧ θ' = pzT θ h)
section RG
variable {L : Nat} {xs : Nat → Int32} {S : Nat → pm_E} {n : Nat}
def cC : List Nat := [46, 47, 48, 49, 50, 52, 54, 62, 74]
theorem w_chg {θ : Th} {S : Nat → pm_E} (hG : GS θ S n) : PM (j_SL L) (j_SV xs) j_EX mm_X12_changed [.ref 46] S n (fun r S' n' => n' = n ∧ r = none ∧ GS θ S' n ∧ fr1 [46, 52, 54, 62, 74] S S' n ∧ zr 62 S') := pm_weak (pm_and (pm_weak (q_kc w166 [] hG ⟨rfl, trivial⟩ ck_en_n (fun d hd => by cases hd)) (fun r S9 n9 h => kc_void rfl h)) (l_chz hG)) (fun r S9 n9 h => by
  obtain ⟨⟨h1, h2, h3, h4⟩, S2, e2, h5⟩ := h
  exact ⟨h1, h2, h3, h4, zr_hp (by have := gs_n h3; omega) e2 h5⟩)
theorem l_runc {x : Int32} (hG : GS θ S n) : PM (j_SL L) (j_SV xs) j_EX mm_X12_uncode [.ref 46, .int x] S n (fun r S' n' => ZQ 62 S S' ∧ n' = n ∧ fr1 [46, 47, 52, 54, 62, 74] S S' n ∧ ∃ (z : Int32) (θ' : Th), r = some (.int z) ∧ GS θ' S' n ∧ ucR θ x z θ') := by
  have hn := gs_n hG
  obtain ⟨mn, fk, fa, fn, fs, k47, k48, k49, k50, k46, m5, m6, f1, hd, hm, hf⟩ := xm_get hG
  have f2 := fo_ref (hf 2 _ rfl) rfl
  change PQ (j_SL L) (j_SV xs) j_EX mm_X12_uncode 0 [.ref 46, .int x] [] S n 0 0 _
  refine q_aload_n rfl rfl rfl ?_
  refine q_iload_n rfl rfl rfl ?_
  refine q_cV rfl rfl (Or.inl rfl) rfl rfl rfl rfl (by omega) k46 trivial rfl rfl rfl rfl rfl (l_isHand hn k46 f1) ?_
  rintro r S1 n1 ⟨rfl, rfl, ⟨q, rfl⟩ | ⟨q, rfl⟩⟩
  · show PQ (j_SL L) (j_SV xs) j_EX mm_X12_uncode 5 _ [.int 0] S1 n1 0 0 _
    refine q_ifne rfl rfl (fun _ => ?_) (fun c => absurd rfl c)
    refine q_iconst rfl rfl ?_
    exact q_iret rfl rfl trivial ⟨Or.inl rfl, rfl, fr1_rf, -1, θ, rfl, hG, Or.inl ⟨q, rfl, rfl⟩⟩
  · show PQ (j_SL L) (j_SV xs) j_EX mm_X12_uncode 5 _ [.int 1] S1 n1 0 0 _
    refine q_ifne rfl rfl (fun c => absurd c (by decide)) (fun _ => ?_)
    obtain ⟨X, hX, rfl, hXh⟩ := hand_of hd q
    have hmX := hm X hX
    refine q_aload_n rfl rfl rfl ?_
    refine q_getf rfl rfl (by omega) k46 f2 ?_
    refine q_iload_n rfl rfl rfl ?_
    refine q_iald rfl rfl (by show 47 < n1; omega) k47 (q_inN (by omega) (by decide)) (q_tn (z := θ.1 X) (by rw [nI_clamp (by omega)]; exact m5 X hX) ?_)
    refine q_ifne rfl rfl (fun c0 => ?_) (fun c0 => ?_)
    · refine q_bipush rfl rfl ?_
      exact q_iret rfl rfl trivial ⟨Or.inl rfl, rfl, fr1_rf, -3, θ, rfl, hG, Or.inr ⟨X, hX, rfl, hXh, Or.inl ⟨c0, rfl, rfl⟩⟩⟩
    · have e1 : (θ.1 X - 1).toInt = (θ.1 X).toInt - 1 := by
        have e : (θ.1 X - 1).toInt = ((θ.1 X).toInt - (1 : Int32).toInt).bmod 4294967296 := Int32.toInt_sub _ _
        rw [e, show (1 : Int32).toInt = 1 from rfl]
        exact ck_bm (by unfold ck_lo; omega) (by unfold ck_hi; omega)
      have hne : (θ.1 X).toInt ≠ 0 := fun e => c0 (Int32.toInt_inj.mp e)
      refine q_aload_n rfl rfl rfl ?_
      refine q_getf rfl rfl (by omega) k46 f2 ?_
      refine q_iload_n rfl rfl rfl ?_
      refine q_dup2 rfl rfl ?_
      refine q_iald rfl rfl (by show 47 < n1; omega) k47 (q_inN (by omega) (by decide)) (q_tn (z := θ.1 X) (by rw [nI_clamp (by omega)]; exact m5 X hX) ?_)
      refine q_iconst rfl rfl ?_
      refine q_isub rfl rfl ?_
      refine q_iast rfl rfl (by show 47 < n1; omega) k47 (q_inN (by omega) (by decide)) ?_
      rw [nI_clamp (by omega)]
      have hG1 := gs_many (v := θ.1 X - 1) hG k47 hX (by omega)
      refine q_aload_n rfl rfl rfl ?_
      refine q_cV rfl rfl (Or.inl rfl) rfl rfl rfl rfl (by omega) (show va_up S1 47 _ 46 = _ from k46) trivial rfl rfl rfl rfl rfl (w_chg hG1) ?_
      rintro r S2 n2 ⟨rfl, rfl, hG2, hF2, hzq⟩
      obtain ⟨mn2, fk2, fa2, fn2, fs2, q47, q48, q49, q50, q46, p5, p6, g1, gd, gm, gf⟩ := xm_get hG2
      show PQ (j_SL L) (j_SV xs) j_EX mm_X12_uncode 36 _ [] S2 n2 0 0 _
      refine q_aload_n rfl rfl rfl ?_
      refine q_getf rfl rfl (by omega) q46 (fo_ref (gf 2 _ rfl) rfl) ?_
      refine q_iload_n rfl rfl rfl ?_
      refine q_iald rfl rfl (by show 47 < n2; omega) q47 (q_inN (by omega) (by decide)) (q_tn (z := θ.1 X - 1) (by rw [nI_clamp (by omega), p5 X hX]; exact if_pos rfl) ?_)
      exact q_iret rfl rfl trivial ⟨Or.inr ⟨hzq, Or.inl ⟨rfl, Or.inl ⟨mn, mn2, k47, q47, X, hX, fun e => by
        have e9 : θ.1 X - 1 = θ.1 X := ((p5 X hX).trans (if_pos rfl)).symm.trans (e.trans (m5 X hX))
        rw [e9] at e1
        omega⟩⟩⟩, rfl, fr1_tr (fr1_up (k := 47) (l := [47]) fr1_rf rfl) hF2 rfl rfl, _, _, rfl, hG2, Or.inr ⟨X, hX, rfl, hXh, Or.inr ⟨c0, rfl, rfl⟩⟩⟩
theorem l_rcode {x k p v : Int32} (hG : GS θ S n) : PM (j_SL L) (j_SV xs) j_EX mm_X12_code [.ref 46, .int x, .int k, .int p, .int v] S n (fun r S' n' => ZQ 62 S S' ∧ n' = n ∧ fr1 cC S S' n ∧ ∃ (z : Int32) (θ' : Th), r = some (.int z) ∧ GS θ' S' n ∧ cdR θ x k p v z θ') := by
  have hn := gs_n hG
  obtain ⟨mn, fk, fa, fn, fs, k47, k48, k49, k50, k46, m5, m6, f1, hd, hm, hf⟩ := xm_get hG
  have f2 := fo_ref (hf 2 _ rfl) rfl
  have f3 := fo_ref (hf 3 _ rfl) rfl
  have f4 := fo_ref (hf 4 _ rfl) rfl
  have f5 := fo_ref (hf 5 _ rfl) rfl
  change PQ (j_SL L) (j_SV xs) j_EX mm_X12_code 0 [.ref 46, .int x, .int k, .int p, .int v, pm_un, pm_un] [] S n 0 0 _
  have bad : ¬ (inP x 0 (θ.2.2.2.2 - 1) ∧ okS k p v) → PQ (j_SL L) (j_SV xs) j_EX mm_X12_code 87 [.ref 46, .int x, .int k, .int p, .int v, pm_un, pm_un] [] S n 0 0 (fun r S' n' => ZQ 62 S S' ∧ n' = n ∧ fr1 cC S S' n ∧ ∃ (z : Int32) (θ' : Th), r = some (.int z) ∧ GS θ' S' n ∧ cdR θ x k p v z θ') := by
    intro hb
    refine q_iconst rfl rfl ?_
    refine q_ist5 rfl rfl rfl rfl ?_
    refine q_iload rfl rfl rfl ?_
    refine q_ifne rfl rfl (fun _ => ?_) (fun c => absurd rfl c)
    refine q_iconst rfl rfl ?_
    exact q_iret rfl rfl trivial ⟨Or.inl rfl, rfl, fr1_rf, -1, θ, rfl, hG, Or.inl ⟨hb, rfl, rfl⟩⟩
  have good : inP x 0 (θ.2.2.2.2 - 1) → okS k p v → PQ (j_SL L) (j_SV xs) j_EX mm_X12_code 83 [.ref 46, .int x, .int k, .int p, .int v, pm_un, pm_un] [] S n 0 0 (fun r S' n' => ZQ 62 S S' ∧ n' = n ∧ fr1 cC S S' n ∧ ∃ (z : Int32) (θ' : Th), r = some (.int z) ∧ GS θ' S' n ∧ cdR θ x k p v z θ') := by
    intro hx hok
    obtain ⟨X, hX, rfl, hXh⟩ := hand_of hd hx
    have hmX := hm X hX
    obtain ⟨m, hm8, em⟩ := nat_of (x := θ.1 X) (b := 8) hmX.1 hmX.2
    refine q_iconst rfl rfl ?_
    refine q_goto rfl ?_
    refine q_ist5 rfl rfl rfl rfl ?_
    refine q_iload rfl rfl rfl ?_
    refine q_ifne rfl rfl (fun c => absurd c (by decide)) (fun _ => ?_)
    refine q_aload_n rfl rfl rfl ?_
    refine q_getf rfl rfl (by omega) k46 f2 ?_
    refine q_iload_n rfl rfl rfl ?_
    refine q_iald rfl rfl (by show 47 < n; omega) k47 (q_inN (by omega) (by decide)) (q_tn (z := nI m) (by rw [nI_clamp (by omega), m5 X hX]; exact em) ?_)
    refine q_bipush rfl rfl ?_
    refine q_icne rfl rfl (fun c8 => ?_) (fun c8 => ?_)
    · have e8 : m = 8 := (nI_eq (b := 8) (by omega) (by decide)).mp c8
      refine q_bipush rfl rfl ?_
      exact q_iret rfl rfl trivial ⟨Or.inl rfl, rfl, fr1_rf, -2, θ, rfl, hG, Or.inr ⟨hok, X, m, hX, rfl, hXh, em, hm8, Or.inl ⟨e8, rfl, rfl⟩⟩⟩
    · have e8 : m < 8 := by
        rcases Nat.lt_or_ge m 8 with h | h
        · exact h
        · exact absurd (by rw [show m = 8 by omega]; rfl) c8
      refine q_bipush rfl rfl ?_
      refine q_iload_n rfl rfl rfl ?_
      refine q_imul rfl rfl ?_
      refine q_aload_n rfl rfl rfl ?_
      refine q_getf rfl rfl (by omega) k46 f2 ?_
      refine q_iload_n rfl rfl rfl ?_
      refine q_iald rfl rfl (by show 47 < n; omega) k47 (q_inN (by omega) (by decide)) (q_tn (z := nI m) (by rw [nI_clamp (by omega), m5 X hX]; exact em) ?_)
      refine q_iadd rfl rfl (q_tn (z := nI (8 * X + m)) (by rw [show (8 : Int32) = nI 8 from rfl, pk_mul, nI_add]) ?_)
      refine q_ist6 rfl rfl rfl rfl ?_
      refine q_aload_n rfl rfl rfl ?_
      refine q_getf rfl rfl (by omega) k46 f3 ?_
      refine q_iload rfl rfl rfl ?_
      refine q_iload_n rfl rfl rfl ?_
      refine q_iast rfl rfl (by show 48 < n; omega) k48 (q_inN (by omega) (by decide)) ?_
      rw [nI_clamp (by omega)]
      refine q_aload_n rfl rfl rfl ?_
      refine q_getf rfl rfl (by omega) (show va_up S 48 _ 46 = _ from k46) f4 ?_
      refine q_iload rfl rfl rfl ?_
      refine q_iload_n rfl rfl rfl ?_
      refine q_iast rfl rfl (by show 49 < n; omega) (show va_up S 48 _ 49 = _ from k49) (q_inN (by omega) (by decide)) ?_
      rw [nI_clamp (by omega)]
      refine q_aload_n rfl rfl rfl ?_
      refine q_getf rfl rfl (by omega) (show va_up (va_up S 48 _) 49 _ 46 = _ from k46) f5 ?_
      refine q_iload rfl rfl rfl ?_
      refine q_iload rfl rfl rfl ?_
      refine q_iast rfl rfl (by show 50 < n; omega) (show va_up (va_up S 48 _) 49 _ 50 = _ from k50) (q_inN (by omega) (by decide)) ?_
      rw [nI_clamp (by omega)]
      have hG1 := gs_lay (k := k) (p := p) (v := v) hG k48 k49 k50 (T := 8 * X + m) (by omega) (okS_xk hok)
      change PQ (j_SL L) (j_SV xs) j_EX mm_X12_code 149 _ _ (layS S (8 * X + m) fk fa fn k p v) n 0 0 _
      have a46 : layS S (8 * X + m) fk fa fn k p v 46 = .inr (10, fs) := k46
      have a47 : layS S (8 * X + m) fk fa fn k p v 47 = .inl (0, 6, .inl mn) := k47
      have aF : fr1 [48, 49, 50] S (layS S (8 * X + m) fk fa fn k p v) n := by
        intro j hj hc
        unfold layS
        rw [va_up_ne _ _ (fun e => by subst e; cases hc), va_up_ne _ _ (fun e => by subst e; cases hc), va_up_ne _ _ (fun e => by subst e; cases hc)]
      generalize layS S (8 * X + m) fk fa fn k p v = S1 at hG1 a46 a47 aF ⊢
      refine q_aload_n rfl rfl rfl ?_
      refine q_getf rfl rfl (by omega) a46 f2 ?_
      refine q_iload_n rfl rfl rfl ?_
      refine q_dup2 rfl rfl ?_
      refine q_iald rfl rfl (by show 47 < n; omega) a47 (q_inN (by omega) (by decide)) (q_tn (z := nI m) (by rw [nI_clamp (by omega), m5 X hX]; exact em) ?_)
      refine q_iconst rfl rfl ?_
      refine q_iadd rfl rfl (q_tn (z := nI (m + 1)) (nI_1 m) ?_)
      refine q_iast rfl rfl (by show 47 < n; omega) a47 (q_inN (by omega) (by decide)) ?_
      rw [nI_clamp (by omega)]
      have hG2 := gs_many (v := nI (m + 1)) hG1 a47 hX (by rw [nI_toInt (by omega)]; omega)
      refine q_aload_n rfl rfl rfl ?_
      refine q_cV rfl rfl (Or.inl rfl) rfl rfl rfl rfl (by omega) (show va_up S1 47 _ 46 = _ from a46) trivial rfl rfl rfl rfl rfl (w_chg hG2) ?_
      rintro r S2 n2 ⟨rfl, rfl, hG3, hF3, hzq⟩
      obtain ⟨mn2, fk2, fa2, fn2, fs2, q47, q48, q49, q50, q46, p5, p6, g1, gd, gm, gf⟩ := xm_get hG3
      show PQ (j_SL L) (j_SV xs) j_EX mm_X12_code 163 _ [] S2 n2 0 0 _
      refine q_aload_n rfl rfl rfl ?_
      refine q_getf rfl rfl (by omega) q46 (fo_ref (gf 2 _ rfl) rfl) ?_
      refine q_iload_n rfl rfl rfl ?_
      refine q_iald rfl rfl (by show 47 < n2; omega) q47 (q_inN (by omega) (by decide)) (q_tn (z := nI (m + 1)) (by rw [nI_clamp (by omega), p5 X hX]; exact if_pos rfl) ?_)
      refine q_iconst rfl rfl ?_
      refine q_isub rfl rfl (q_tn (z := nI m) (nI_pred m) ?_)
      exact q_iret rfl rfl trivial ⟨Or.inr ⟨hzq, Or.inl ⟨rfl, Or.inl ⟨mn, mn2, k47, q47, X, hX, fun e => by
        have e9 : nI (m + 1) = nI m := ((p5 X hX).trans (if_pos rfl)).symm.trans (e.trans ((m5 X hX).trans em))
        have e10 := congrArg Int32.toInt e9
        rw [nI_toInt (by omega), nI_toInt (by omega)] at e10
        omega⟩⟩⟩, rfl, fr1_tr (fr1_up (k := 47) (l := [47, 48, 49, 50]) (fr1_tr (l3 := [47, 48, 49, 50]) fr1_rf (l := []) aF rfl rfl) rfl) hF3 rfl rfl, _, _, rfl, hG3, Or.inr ⟨hok, X, m, hX, rfl, hXh, em, hm8, Or.inr ⟨e8, rfl, rfl⟩⟩⟩
  refine q_aload_n rfl rfl rfl ?_
  refine q_iload_n rfl rfl rfl ?_
  refine q_cV rfl rfl (Or.inl rfl) rfl rfl rfl rfl (by omega) k46 trivial rfl rfl rfl rfl rfl (l_isHand hn k46 f1) ?_
  rintro r S1 n1 ⟨rfl, rfl, ⟨q1, rfl⟩ | ⟨q1, rfl⟩⟩
  · exact q_ifeq rfl rfl (fun _ => bad (fun e => q1 e.1)) (fun c => absurd rfl c)
  refine q_ifeq rfl rfl (fun c => absurd c (by decide)) (fun _ => ?_)
  refine q_aload_n rfl rfl rfl ?_
  refine q_iload_n rfl rfl rfl ?_
  refine q_iconst rfl rfl ?_
  refine q_bipush rfl rfl ?_
  refine q_cV rfl rfl (Or.inl rfl) rfl rfl rfl rfl (by omega) k46 trivial rfl rfl rfl rfl rfl l_in ?_
  rintro r S1 n1 ⟨rfl, rfl, ⟨q2, rfl⟩ | ⟨q2, rfl⟩⟩
  · exact q_ifeq rfl rfl (fun _ => bad (fun e => q2 e.2.1)) (fun c => absurd rfl c)
  refine q_ifeq rfl rfl (fun c => absurd c (by decide)) (fun _ => ?_)
  -- the number
  have num : (hasPl k → inP p 0 3) → (inP k 8 11 → inP p 0 2) → PQ (j_SL L) (j_SV xs) j_EX mm_X12_code 53 [.ref 46, .int x, .int k, .int p, .int v, pm_un, pm_un] [] S1 n1 0 0 (fun r S' n' => ZQ 62 S1 S' ∧ n' = n1 ∧ fr1 cC S1 S' n1 ∧ ∃ (z : Int32) (θ' : Th), r = some (.int z) ∧ GS θ' S' n1 ∧ cdR θ x k p v z θ') := by
    intro w1 w2
    refine q_aload_n rfl rfl rfl ?_
    refine q_iload_n rfl rfl rfl ?_
    refine q_cV rfl rfl (Or.inl rfl) rfl rfl rfl rfl (by omega) k46 trivial rfl rfl rfl rfl rfl (l_hasNumber hn k46) ?_
    rintro r S1 n1 ⟨rfl, rfl, ⟨q5, rfl⟩ | ⟨q5, rfl⟩⟩
    · exact q_ifeq rfl rfl (fun _ => good q1 ⟨q2, w1, w2, fun e => absurd e q5⟩) (fun c => absurd rfl c)
    · refine q_ifeq rfl rfl (fun c => absurd c (by decide)) (fun _ => ?_)
      have tl : ∀ tp : Int32, (if k = 4 then 8 else 9) = tp → PQ (j_SL L) (j_SV xs) j_EX mm_X12_code 77 [.ref 46, .int x, .int k, .int p, .int v, pm_un, pm_un] [.int tp, .int 0, .int v, .ref 46] S1 n1 0 0 (fun r S' n' => ZQ 62 S1 S' ∧ n' = n1 ∧ fr1 cC S1 S' n1 ∧ ∃ (z : Int32) (θ' : Th), r = some (.int z) ∧ GS θ' S' n1 ∧ cdR θ x k p v z θ') := by
        intro tp htp
        refine q_cV rfl rfl (Or.inl rfl) rfl rfl rfl rfl (by omega) k46 trivial rfl rfl rfl rfl rfl l_in ?_
        rintro r S1 n1 ⟨rfl, rfl, ⟨q6, rfl⟩ | ⟨q6, rfl⟩⟩
        · exact q_ifeq rfl rfl (fun _ => bad (fun e => q6 (htp ▸ e.2.2.2.2 q5))) (fun c => absurd rfl c)
        · exact q_ifeq rfl rfl (fun c => absurd c (by decide)) (fun _ => good q1 ⟨q2, w1, w2, fun _ => htp.symm ▸ q6⟩)
      refine q_aload_n rfl rfl rfl ?_
      refine q_iload rfl rfl rfl ?_
      refine q_iconst rfl rfl ?_
      refine q_iload_n rfl rfl rfl ?_
      refine q_iconst rfl rfl ?_
      refine q_icne rfl rfl (fun c4 => ?_) (fun c4 => ?_)
      · refine q_bipush rfl rfl ?_
        refine q_goto rfl ?_
        exact tl 8 (if_pos c4)
      · refine q_bipush rfl rfl ?_
        exact tl 9 (if_neg c4)
  have lck : (hasPl k → inP p 0 3) → PQ (j_SL L) (j_SV xs) j_EX mm_X12_code 35 [.ref 46, .int x, .int k, .int p, .int v, pm_un, pm_un] [] S1 n1 0 0 (fun r S' n' => ZQ 62 S1 S' ∧ n' = n1 ∧ fr1 cC S1 S' n1 ∧ ∃ (z : Int32) (θ' : Th), r = some (.int z) ∧ GS θ' S' n1 ∧ cdR θ x k p v z θ') := by
    intro w1
    refine q_aload_n rfl rfl rfl ?_
    refine q_iload_n rfl rfl rfl ?_
    refine q_cV rfl rfl (Or.inl rfl) rfl rfl rfl rfl (by omega) k46 trivial rfl rfl rfl rfl rfl (l_hasLock hn k46) ?_
    rintro r S1 n1 ⟨rfl, rfl, ⟨q4, rfl⟩ | ⟨q4, rfl⟩⟩
    · exact q_ifeq rfl rfl (fun _ => num w1 (fun e => absurd e q4)) (fun c => absurd rfl c)
    · refine q_ifeq rfl rfl (fun c => absurd c (by decide)) (fun _ => ?_)
      refine q_aload_n rfl rfl rfl ?_
      refine q_iload_n rfl rfl rfl ?_
      refine q_iconst rfl rfl ?_
      refine q_iconst rfl rfl ?_
      refine q_cV rfl rfl (Or.inl rfl) rfl rfl rfl rfl (by omega) k46 trivial rfl rfl rfl rfl rfl l_in ?_
      rintro r S1 n1 ⟨rfl, rfl, ⟨q6, rfl⟩ | ⟨q6, rfl⟩⟩
      · exact q_ifeq rfl rfl (fun _ => bad (fun e => q6 (e.2.2.2.1 q4))) (fun c => absurd rfl c)
      · exact q_ifeq rfl rfl (fun c => absurd c (by decide)) (fun _ => num w1 (fun _ => q6))
  refine q_aload_n rfl rfl rfl ?_
  refine q_iload_n rfl rfl rfl ?_
  refine q_cV rfl rfl (Or.inl rfl) rfl rfl rfl rfl (by omega) k46 trivial rfl rfl rfl rfl rfl (l_hasPlace hn k46) ?_
  rintro r S1 n1 ⟨rfl, rfl, ⟨q3, rfl⟩ | ⟨q3, rfl⟩⟩
  · exact q_ifeq rfl rfl (fun _ => lck (fun e => absurd e q3)) (fun c => absurd rfl c)
  · refine q_ifeq rfl rfl (fun c => absurd c (by decide)) (fun _ => ?_)
    refine q_aload_n rfl rfl rfl ?_
    refine q_iload_n rfl rfl rfl ?_
    refine q_cV rfl rfl (Or.inl rfl) rfl rfl rfl rfl (by omega) k46 trivial rfl rfl rfl rfl rfl (l_isPlace hn k46) ?_
    rintro r S1 n1 ⟨rfl, rfl, ⟨q6, rfl⟩ | ⟨q6, rfl⟩⟩
    · exact q_ifeq rfl rfl (fun _ => bad (fun e => q6 (e.2.2.1 q3))) (fun c => absurd rfl c)
    · exact q_ifeq rfl rfl (fun c => absurd c (by decide)) (fun _ => lck (fun _ => q6))
end RG
