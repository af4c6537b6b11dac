variable {θ : Th}
/-! the reference's explore: it ends, and all stays as told -/
theorem fullI (x : Int32) : (-2147483648 : Int) ≤ x.toInt ∧ x.toInt ≤ 2147483647 := ck_rg x
theorem cell_full {k m0 : Nat} {g : Nat} (e : jga k = (0, 0, m0, [(g, -2147483648, 2147483647)])) (f : Nat → Int32) : ck_cell (jga k) (.inl (0, m0, .inl f)) := by
  rw [e]
  exact ⟨f, rfl, fun i _ => ⟨(g, -2147483648, 2147483647), by rw [List.length_singleton, Nat.mod_one]; rfl, fullI _⟩⟩
theorem cell_one {k t m0 : Nat} {q : Nat × Int × Int} (e : jga k = (0, t, m0, [q])) {f : Nat → Int32} (h : ∀ i, i < m0 → q.2.1 ≤ (f i).toInt ∧ (f i).toInt ≤ q.2.2) : ck_cell (jga k) (.inl (t, m0, .inl f)) := by
  rw [e]
  exact ⟨f, rfl, fun i hi => ⟨q, by rw [List.length_singleton, Nat.mod_one]; rfl, h i hi⟩⟩
def fr1 (l : List Nat) (S0 S : Nat → pm_E) (n : Nat) : Prop := ∀ k, k < n → l.contains k = false → S k = S0 k
theorem fr1_rf {l : List Nat} {S : Nat → pm_E} {n : Nat} : fr1 l S S n := fun _ _ _ => rfl
theorem fr1_tr {l l2 l3 : List Nat} {S0 S1 S2 : Nat → pm_E} {n : Nat} (h1 : fr1 l S0 S1 n) (h2 : fr1 l2 S1 S2 n) (e : l2.all (fun k => l3.contains k) = true) (e2 : l.all (fun k => l3.contains k) = true) : fr1 l3 S0 S2 n := by
  intro k hk hc
  have f : ∀ l' : List Nat, l'.all (fun k => l3.contains k) = true → l'.contains k = false := by
    intro l' hl'
    cases hb : l'.contains k
    · rfl
    · have := List.all_eq_true.mp hl' k (List.contains_iff_mem.mp hb)
      rw [hc] at this
      cases this
  rw [h2 k hk (f _ e), h1 k hk (f _ e2)]
theorem fr1_up {l : List Nat} {S0 S : Nat → pm_E} {n k : Nat} {x : pm_E} (h : fr1 l S0 S n) (hk : l.contains k = true) : fr1 l S0 (va_up S k x) n := by
  intro j hj hc
  have e : j ≠ k := fun e => by rw [e, hk] at hc; cases hc
  rw [va_up_ne _ _ e]
  exact h j hj hc
theorem gs_mk {S S' : Nat → pm_E} {n : Nat} (hG : GS θ S n) (h : ∀ k, k < n → S' k = S k ∨ ck_cell (jga k) (S' k)) (hX : XI θ (hp S' n)) : GS θ S' n := by
  refine ⟨fun j hj => ?_, hX⟩
  obtain ⟨h1, h2⟩ := gs_get hG j hj
  rw [hp_get h1]
  refine ⟨_, rfl, ?_⟩
  rcases h j h1 with e | e
  · rw [e]; exact h2
  · exact e
theorem xi_mk {S S' : Nat → pm_E} {n : Nat} (hn : 82 ≤ n) (hX : XI θ (hp S n)) {f : Nat → Int32} (h56 : S' 56 = .inl (0, 4000, .inl f)) (hc : ∀ i : Nat, 0 < i → i < 2000 → (f i).toInt < (i : Int)) (e : ∀ k, k < n → (k = 43 ∨ k = 46 ∨ k = 47 ∨ k = 48 ∨ k = 49 ∨ k = 50 ∨ 82 ≤ k) → S' k = S k) : XI θ (hp S' n) := by
  have e2 : ∀ k, (k = 43 ∨ k = 46 ∨ k = 47 ∨ k = 48 ∨ k = 49 ∨ k = 50 ∨ 82 ≤ k) → (hp S' n)[k]? = (hp S n)[k]? := by
    intro k hk
    rcases Nat.lt_or_ge k n with hl | hl
    · rw [hp_get hl, hp_get hl, e k hl hk]
    · rw [List.getElem?_eq_none (by rw [hp_len]; exact hl), List.getElem?_eq_none (by rw [hp_len]; exact hl)]
  refine ⟨⟨f, by rw [hp_get (by omega), h56], hc⟩, XK_same (e2 48 (by omega)) (e2 49 (by omega)) (e2 50 (by omega)) hX.2.1, XS_same (e2 43 (by omega)) (fun k hk => e2 k (by omega)) hX.2.2.1, XM_same (e2 47 (by omega)) (e2 48 (by omega)) (e2 49 (by omega)) (e2 50 (by omega)) (sHd_of (e2 46 (by omega))) hX.2.2.2⟩
theorem xc_get {S : Nat → pm_E} {n : Nat} (hn : 82 ≤ n) (hX : XI θ (hp S n)) {f : Nat → Int32} (h56 : S 56 = .inl (0, 4000, .inl f)) : ∀ i : Nat, 0 < i → i < 2000 → (f i).toInt < (i : Int) := by
  obtain ⟨⟨f', h1, h3⟩, -, -⟩ := hX
  rw [hp_get (by omega), h56] at h1
  cases h1
  exact h3
def EI (R c : Nat) (S : Nat → pm_E) : Prop := c ≤ 2000 ∧ ∃ cn nt ch : Nat → Int32, S 60 = .inl (0, 2, .inl cn) ∧ S 61 = .inl (0, 16384, .inl nt) ∧ S 58 = .inl (0, 4000, .inl ch) ∧ cn R = nI c ∧ (∀ k, k < 8192 → nt (8192 * R + k) = -1 ∨ ∃ i, i < c ∧ nt (8192 * R + k) = nI i) ∧ (∀ i, i < c → ch (2000 * R + i) = -1 ∨ ∃ j, j < i ∧ ch (2000 * R + i) = nI j)
theorem EI_same {R c : Nat} {S S' : Nat → pm_E} (e1 : S' 60 = S 60) (e2 : S' 61 = S 61) (e3 : S' 58 = S 58) (h : EI R c S) : EI R c S' := by
  obtain ⟨h0, cn, nt, ch, h1, h2, h3, h4⟩ := h
  exact ⟨h0, cn, nt, ch, by rw [e1]; exact h1, by rw [e2]; exact h2, by rw [e3]; exact h3, h4⟩
theorem toInt_nI {i : Nat} (h : i ≤ 2000) : (nI i).toInt = (i : Int) := nI_toInt (by omega)
/-- what put leaves behind -/
theorem put_ok {S : Nat → pm_E} {n R c : Nat} (hR : R ≤ 1) {f st cf cb ch nt cn : Nat → Int32} {fr by_ : Int32} (hG : GS θ S n) (h53 : S 53 = .inl (0, 20, .inl f)) (h55 : S 55 = .inl (0, 80000, .inl st)) (h56 : S 56 = .inl (0, 4000, .inl cf)) (h58 : S 58 = .inl (0, 4000, .inl ch)) (h60 : S 60 = .inl (0, 2, .inl cn)) (h61 : S 61 = .inl (0, 16384, .inl nt)) (hE : EI R c S) (hc : c < 2000) (hfr : fr = -1 ∨ ∃ i, i < c ∧ fr = nI i) :
    GS θ (putS S R c f st cf cb ch nt cn fr by_) n ∧ EI R (c + 1) (putS S R c f st cf cb ch nt cn fr by_) ∧ fr1 [55, 56, 57, 58, 60, 61] S (putS S R c f st cf cb ch nt cn fr by_) n := by
  have hn := gs_n hG
  have hV := rsV_lt f
  obtain ⟨-, cn', nt', ch', k60, k61, k58, hcn, hnt, hch⟩ := hE
  rw [h60] at k60
  rw [h61] at k61
  rw [h58] at k58
  cases k60
  cases k61
  cases k58
  have hfrI : -1 ≤ fr.toInt ∧ fr.toInt < c := by
    rcases hfr with rfl | ⟨i, hi, rfl⟩
    · have : (-1 : Int32).toInt = -1 := rfl
      omega
    · rw [toInt_nI (by omega)]
      omega
  obtain ⟨f53, e53, b53⟩ := gs_arr hG (k := 53) rfl
  rw [h53] at e53
  cases e53
  obtain ⟨f55, e55, b55⟩ := gs_arr hG (k := 55) rfl
  rw [h55] at e55
  cases e55
  obtain ⟨f56, e56, b56⟩ := gs_a1 hG (k := 56) rfl
  rw [h56] at e56
  cases e56
  obtain ⟨f60, e60, b60⟩ := gs_a1 hG (k := 60) rfl
  rw [h60] at e60
  cases e60
  have p60 : putS S R c f st cf cb ch nt cn fr by_ 60 = .inl (0, 2, .inl (upd cn R (nI (c + 1)))) := rfl
  have p61 : putS S R c f st cf cb ch nt cn fr by_ 61 = .inl (0, 16384, .inl (upd nt (8192 * R + rsV f) (nI c))) := rfl
  have p58 : putS S R c f st cf cb ch nt cn fr by_ 58 = .inl (0, 4000, .inl (upd ch (2000 * R + c) (nt (8192 * R + rsV f)))) := rfl
  have p57 : putS S R c f st cf cb ch nt cn fr by_ 57 = .inl (0, 4000, .inl (upd cb (2000 * R + c) by_)) := rfl
  have p56 : putS S R c f st cf cb ch nt cn fr by_ 56 = .inl (0, 4000, .inl (upd cf (2000 * R + c) fr)) := rfl
  have p55 : putS S R c f st cf cb ch nt cn fr by_ 55 = .inl (0, 80000, .inl (pf st f (20 * (2000 * R + c)) 20)) := rfl
  have pne : ∀ k, k ≠ 55 → k ≠ 56 → k ≠ 57 → k ≠ 58 → k ≠ 60 → k ≠ 61 → putS S R c f st cf cb ch nt cn fr by_ k = S k := by
    intro k a1 a2 a3 a4 a5 a6
    unfold putS
    rw [va_up_ne _ _ a5, va_up_ne _ _ a6, va_up_ne _ _ a4, va_up_ne _ _ a3, va_up_ne _ _ a2, va_up_ne _ _ a1]
  refine ⟨gs_mk hG ?_ (xi_mk hn hG.2 p56 ?_ ?_), ⟨by omega, _, _, _, p60, p61, p58, ?_, ?_, ?_⟩, ?_⟩
  · intro k hk
    by_cases a5 : k = 60
    · subst a5
      refine Or.inr ?_
      rw [p60]
      refine cell_one (k := 60) rfl (fun i hi => ?_)
      unfold upd
      by_cases e : i = R
      · rw [if_pos e, toInt_nI (by omega)]
        show (0 : Int) ≤ _ ∧ _ ≤ (2000 : Int)
        omega
      · rw [if_neg e]
        exact b60 i hi
    · by_cases a6 : k = 61
      · subst a6
        exact Or.inr (by rw [p61]; exact cell_full (k := 61) rfl _)
      · by_cases a4 : k = 58
        · subst a4
          exact Or.inr (by rw [p58]; exact cell_full (k := 58) rfl _)
        · by_cases a3 : k = 57
          · subst a3
            exact Or.inr (by rw [p57]; exact cell_full (k := 57) rfl _)
          · by_cases a2 : k = 56
            · subst a2
              refine Or.inr ?_
              rw [p56]
              refine cell_one (k := 56) rfl (fun i hi => ?_)
              unfold upd
              by_cases e : i = 2000 * R + c
              · rw [if_pos e]
                show (-1 : Int) ≤ _ ∧ _ ≤ (1999 : Int)
                omega
              · rw [if_neg e]
                exact b56 i hi
            · by_cases a1 : k = 55
              · subst a1
                refine Or.inr ?_
                rw [p55]
                refine ⟨_, rfl, fun i hi => ?_⟩
                unfold pf
                by_cases e : 20 * (2000 * R + c) ≤ i ∧ i < 20 * (2000 * R + c) + 20
                · rw [if_pos e]
                  obtain ⟨q, q1, q2⟩ := b53 (i - 20 * (2000 * R + c)) (by omega)
                  refine ⟨q, ?_, q2⟩
                  have e2 : i % 20 = (i - 20 * (2000 * R + c)) % 20 := by omega
                  show _[i % 20]? = _
                  rw [e2]
                  exact q1
                · rw [if_neg e]
                  exact b55 i hi
              · exact Or.inl (pne k a1 a2 a3 a4 a5 a6)
  · have hx := xc_get hn hG.2 h56
    intro i hi hi2
    unfold upd
    by_cases e2 : i = 2000 * R + c
    · rw [if_pos e2]
      omega
    · rw [if_neg e2]
      exact hx i hi hi2
  · intro k _ hk
    exact pne k (by omega) (by omega) (by omega) (by omega) (by omega) (by omega)
  · unfold upd
    rw [if_pos rfl]
  · intro k hk
    unfold upd
    by_cases e : 8192 * R + k = 8192 * R + rsV f
    · rw [if_pos e]
      exact Or.inr ⟨c, by omega, rfl⟩
    · rw [if_neg e]
      rcases hnt k hk with h | ⟨i, h1, h2⟩
      · exact Or.inl h
      · exact Or.inr ⟨i, by omega, h2⟩
  · intro i hi
    unfold upd
    by_cases e : 2000 * R + i = 2000 * R + c
    · rw [if_pos e]
      rcases hnt (rsV f) hV with h | ⟨j, h1, h2⟩
      · exact Or.inl h
      · exact Or.inr ⟨j, by omega, h2⟩
    · rw [if_neg e]
      exact hch i (by omega)
  · intro k _ hk
    have g : ∀ j, k = j → j = 55 ∨ j = 56 ∨ j = 57 ∨ j = 58 ∨ j = 60 ∨ j = 61 → False := by
      intro j e h
      subst e
      rcases h with rfl | rfl | rfl | rfl | rfl | rfl <;> cases hk
    exact pne k (fun e => g _ e (by omega)) (fun e => g _ e (by omega)) (fun e => g _ e (by omega)) (fun e => g _ e (by omega)) (fun e => g _ e (by omega)) (fun e => g _ e (by omega))
section EXPL
variable {SL : Nat → Nat} {SV : Nat → Nat → Int32} {EX : pm_M → pm_C → (pm_C → Prop) → Prop} {n : Nat} {K : q_K} {R : Nat} {pic hd : Int32} {fs : List Value}
def cX : List Nat := [52, 53, 55, 56, 57, 58, 59, 60, 61]
/-- steps' cell -/
theorem stp_ok {S : Nat → pm_E} {g : Nat → Int32} {j : Nat} {v : Int32} (hG : GS θ S n) (h59 : S 59 = .inl (0, 12000, .inl g)) (hv : -1 ≤ v.toInt ∧ v.toInt ≤ 1999) : GS θ (va_up S 59 (.inl (0, 12000, .inl (upd g j v)))) n := by
  obtain ⟨f, e, b⟩ := gs_a1 hG (k := 59) rfl
  rw [h59] at e
  cases e
  refine gs_st hG rfl rfl (cell_one (k := 59) rfl (fun i hi => ?_)) (pk_arr h59)
  unfold upd
  by_cases e : i = j
  · rw [if_pos e]
    exact hv
  · rw [if_neg e]
    exact b i hi
theorem l_eloop (hR : R ≤ 1) (f1 : fs[1]? = some (.int hd)) (f9 : fs[9]? = some (.ref 53)) (f11 : fs[11]? = some (.ref 55)) (f12 : fs[12]? = some (.ref 56)) (f13 : fs[13]? = some (.ref 57)) (f14 : fs[14]? = some (.ref 58)) (f15 : fs[15]? = some (.ref 59)) (f16 : fs[16]? = some (.ref 60)) (f17 : fs[17]? = some (.ref 61))
    (hst : ∀ S, GS θ S n → S 46 = .inr (10, fs) → ∀ i, i < 2000 → PM SL SV EX mm_X12_standAt [.ref 46, .int (nI R), .int (nI i)] S n (fun r S' n' => n' = n ∧ r = none ∧ GS θ S' n ∧ fr1 [52] S S' n))
    (hmy : ∀ S, GS θ S n → S 46 = .inr (10, fs) → ∀ x, x < 3 → ¬ hd ≤ nI x → PM SL SV EX mm_X12_maySteps [.ref 46, .int (nI x), .int pic] S n (fun r S' n' => n' = n ∧ (r = some (.int 0) ∨ r = some (.int 1)) ∧ GS θ S' n ∧ fr1 [] S S' n))
    (hsb : ∀ S, GS θ S n → S 46 = .inr (10, fs) → ∀ x, x < 3 → ¬ hd ≤ nI x → PM SL SV EX mm_X12_stepBy [.ref 46, .int (nI x), .int pic] S n (fun r S' n' => n' = n ∧ r = none ∧ GS θ S' n ∧ fr1 [53] S S' n))
    {S0 : Nat → pm_E} (hK : ∀ (b : Int32) S', (b = 0 ∨ b = 1) → GS θ S' n → fr1 cX S0 S' n → K (some (.int b)) S' n) :
    ∀ (m i x c : Nat) (S : Nat → pm_E) (b3 b6 b7 : Value), 4 * (2000 - i) + (3 - x) < m → i < c → x ≤ 3 → pm_c2 b3 = false → pm_c2 b6 = false → GS θ S n → S 46 = .inr (10, fs) → EI R c S → fr1 cX S0 S n → PQ SL SV EX mm_X12_explore 90 [.ref 46, .int (nI R), .int pic, b3, .int (nI i), .int (nI x), b6, b7] [] S n 0 0 K := by
  intro m
  induction m with
  | zero => intro i x c S b3 b6 b7 h; omega
  | succ m ih =>
    intro i x c S b3 b6 b7 hm hic hx hb3 hb6 hG h46 hE hF
    have hn := gs_n hG
    have hc := hE.1
    refine q_iload rfl rfl rfl ?_
    refine q_iconst rfl rfl ?_
    refine q_icge rfl rfl (fun c3 => ?_) (fun c3 => ?_)
    · -- the next state
      have e3 : x = 3 := by
        have := (nI_leI (a := 3) (b := x) (by decide) (by omega)).mp c3
        omega
      subst e3
      refine q_inc4 rfl rfl rfl hb3 ?_
      rw [nI_1]
      refine q_goto rfl ?_
      refine q_iload rfl rfl rfl ?_
      refine q_aload_n rfl rfl rfl ?_
      refine q_getf rfl rfl (by omega) h46 f16 ?_
      refine q_iload_n rfl rfl rfl ?_
      obtain ⟨-, cn, nt, ch, k60, k61, k58, hcn, hnt, hch⟩ := id hE
      refine q_iald rfl rfl (by omega) k60 (q_inN (by omega) (by decide)) ?_
      rw [nI_clamp (by omega), hcn]
      refine q_icge rfl rfl (fun c4 => ?_) (fun c4 => ?_)
      · refine q_iconst rfl rfl ?_
        exact q_iret rfl rfl rfl (hK 1 S (Or.inr rfl) hG hF)
      · refine q_iconst rfl rfl ?_
        refine q_ist5 rfl rfl rfl rfl ?_
        have h5 : i + 1 < c := by
          rcases Nat.lt_or_ge (i + 1) c with h | h
          · exact h
          · exact absurd (nI_le h (by omega)) c4
        exact ih (i + 1) 0 c S b3 b6 b7 (by omega) h5 (by omega) hb3 hb6 hG h46 hE hF
    · have hx3 : x < 3 := by
        rcases Nat.lt_or_ge x 3 with h | h
        · exact h
        · exact absurd (nI_le (a := 3) h (by omega)) c3
      refine q_iconst rfl rfl ?_
      refine q_sipush rfl rfl ?_
      refine q_iload_n rfl rfl rfl ?_
      refine q_imul rfl rfl ?_
      refine q_iload rfl rfl rfl ?_
      refine q_iadd rfl rfl ?_
      refine q_imul rfl rfl ?_
      refine q_iload rfl rfl rfl ?_
      refine q_iadd rfl rfl (q_tn (z := nI (3 * (2000 * R + i) + x)) (by rw [show (3 : Int32) = nI 3 from rfl, show (2000 : Int32) = nI 2000 from rfl, pk_mul, nI_add, pk_mul, nI_add]) ?_)
      refine q_ist6 rfl rfl rfl rfl ?_
      refine q_aload_n rfl rfl rfl ?_
      refine q_getf rfl rfl (by omega) h46 f15 ?_
      refine q_iload rfl rfl rfl ?_
      refine q_iconst rfl rfl ?_
      obtain ⟨g59, k59, -⟩ := gs_a1 hG (k := 59) rfl
      refine q_iast rfl rfl (by omega) k59 (q_inN (by omega) (by decide)) ?_
      have hG1 := stp_ok (j := (nI (3 * (2000 * R + i) + x)).toNatClampNeg) (v := -1) hG k59 (by decide)
      have hF1 := fr1_up (k := 59) (x := .inl (0, 12000, .inl (upd g59 (nI (3 * (2000 * R + i) + x)).toNatClampNeg (-1)))) hF rfl
      have hE1 : EI R c (va_up S 59 (.inl (0, 12000, .inl (upd g59 (nI (3 * (2000 * R + i) + x)).toNatClampNeg (-1))))) := EI_same rfl rfl rfl hE
      have h461 : va_up S 59 (.inl (0, 12000, .inl (upd g59 (nI (3 * (2000 * R + i) + x)).toNatClampNeg (-1)))) 46 = .inr (10, fs) := h46
      generalize va_up S 59 (.inl (0, 12000, .inl (upd g59 (nI (3 * (2000 * R + i) + x)).toNatClampNeg (-1)))) = S1 at hG1 hF1 hE1 h461 ⊢
      clear hG hF hE h46 k59
      refine q_aload_n rfl rfl rfl ?_
      refine q_iload_n rfl rfl rfl ?_
      refine q_iload rfl rfl rfl ?_
      refine q_cV rfl rfl (Or.inl rfl) rfl rfl rfl rfl (by omega) h461 trivial rfl rfl rfl rfl rfl (hst S1 hG1 h461 i (by omega)) ?_
      rintro r S2 n2 ⟨rfl, rfl, hG2, hF2⟩
      have hF2' := fr1_tr (l3 := cX) hF1 hF2 rfl rfl
      have h462 : S2 46 = .inr (10, fs) := (hF2 46 (by omega) rfl).trans h461
      have hE2 : EI R c S2 := EI_same (hF2 60 (by omega) rfl) (hF2 61 (by omega) rfl) (hF2 58 (by omega) rfl) hE1
      clear hF2 hF1 hG1 hE1 h461
      show PQ SL SV EX mm_X12_explore 126 _ [] S2 n2 0 0 K
      refine q_iload rfl rfl rfl ?_
      refine q_aload_n rfl rfl rfl ?_
      refine q_getf rfl rfl (by omega) h462 f1 ?_
      have nxt : ∀ (S9 : Nat → pm_E) (c9 : Nat) (w7 : Value), c ≤ c9 → GS θ S9 n2 → S9 46 = .inr (10, fs) → EI R c9 S9 → fr1 cX S0 S9 n2 → PQ SL SV EX mm_X12_explore 194 [.ref 46, .int (nI R), .int pic, b3, .int (nI i), .int (nI x), .int (nI (3 * (2000 * R + i) + x)), w7] [] S9 n2 0 0 K := by
        intro S9 c9 w7 hc9 q1 q2 q3 q4
        refine q_inc5 rfl rfl rfl rfl ?_
        rw [nI_1]
        refine q_goto rfl ?_
        exact ih i (x + 1) c9 S9 b3 _ w7 (by omega) (by omega) (by omega) hb3 rfl q1 q2 q3 q4
      refine q_icge rfl rfl (fun c5 => ?_) (fun c5 => ?_)
      · exact nxt S2 c b7 (Nat.le_refl c) hG2 h462 hE2 hF2'
      · refine q_aload_n rfl rfl rfl ?_
        refine q_iload rfl rfl rfl ?_
        refine q_iload_n rfl rfl rfl ?_
        refine q_cV rfl rfl (Or.inl rfl) rfl rfl rfl rfl (by omega) h462 trivial rfl rfl rfl rfl rfl (hmy S2 hG2 h462 x hx3 c5) ?_
        rintro r S3 n3 ⟨rfl, hr, hG3, hF3⟩
        have hF3' := fr1_tr (l3 := cX) hF2' hF3 rfl rfl
        have h463 : S3 46 = .inr (10, fs) := (hF3 46 (by omega) rfl).trans h462
        have hE3 : EI R c S3 := EI_same (hF3 60 (by omega) rfl) (hF3 61 (by omega) rfl) (hF3 58 (by omega) rfl) hE2
        clear hF3 hF2' hG2 hE2 h462
        rcases hr with rfl | rfl
        · show PQ SL SV EX mm_X12_explore 142 _ [.int 0] S3 n3 0 0 K
          refine q_ifne rfl rfl (fun _ => ?_) (fun c => absurd rfl c)
          refine q_goto rfl ?_
          exact nxt S3 c b7 (Nat.le_refl c) hG3 h463 hE3 hF3'
        · show PQ SL SV EX mm_X12_explore 142 _ [.int 1] S3 n3 0 0 K
          refine q_ifne rfl rfl (fun c => absurd c (by decide)) (fun _ => ?_)
          refine q_aload_n rfl rfl rfl ?_
          refine q_iload rfl rfl rfl ?_
          refine q_iload_n rfl rfl rfl ?_
          refine q_cV rfl rfl (Or.inl rfl) rfl rfl rfl rfl (by omega) h463 trivial rfl rfl rfl rfl rfl (hsb S3 hG3 h463 x hx3 c5) ?_
          rintro r S4 n4 ⟨rfl, rfl, hG4, hF4⟩
          have hF4' := fr1_tr (l3 := cX) hF3' hF4 rfl rfl
          have h464 : S4 46 = .inr (10, fs) := (hF4 46 (by omega) rfl).trans h463
          have hE4 : EI R c S4 := EI_same (hF4 60 (by omega) rfl) (hF4 61 (by omega) rfl) (hF4 58 (by omega) rfl) hE3
          clear hF4 hF3' hG3 hE3 h463
          show PQ SL SV EX mm_X12_explore 155 _ [] S4 n4 0 0 K
          refine q_aload_n rfl rfl rfl ?_
          refine q_iload_n rfl rfl rfl ?_
          obtain ⟨-, cn, nt, ch, k60, k61, k58, hcn, hnt, hch⟩ := id hE4
          obtain ⟨f53, k53, -⟩ := gs_arr hG4 (k := 53) rfl
          obtain ⟨f55, k55, -⟩ := gs_arr hG4 (k := 55) rfl
          obtain ⟨f56, k56, -⟩ := gs_arr hG4 (k := 56) rfl
          obtain ⟨f57, k57, -⟩ := gs_arr hG4 (k := 57) rfl
          refine q_cV (K' := fun r S' n' => S' = S4 ∧ n' = n4 ∧ ∃ v : Int32, r = some (.int v) ∧ (v = -1 ∨ ∃ i, i < c ∧ v = nI i)) rfl rfl (Or.inl rfl) rfl rfl rfl rfl (by omega) h464 trivial rfl rfl rfl rfl rfl (l_find hR rfl hn h464 f9 f11 f14 f17 k53 k55 k58 k61 hc hnt hch (fun v hv => ⟨rfl, rfl, v, rfl, hv⟩)) ?_
          rintro r S5 n5 ⟨rfl, rfl, v, rfl, hv⟩
          show PQ SL SV EX mm_X12_explore 160 _ [.int v] S5 n5 0 0 K
          refine q_ist7 rfl rfl rfl rfl ?_
          refine q_iload rfl rfl rfl ?_
          have st9 : ∀ (S9 : Nat → pm_E) (c9 : Nat) (w : Nat), c ≤ c9 → w < c9 → GS θ S9 n5 → S9 46 = .inr (10, fs) → EI R c9 S9 → fr1 cX S0 S9 n5 → PQ SL SV EX mm_X12_explore 178 [.ref 46, .int (nI R), .int pic, b3, .int (nI i), .int (nI x), .int (nI (3 * (2000 * R + i) + x)), .int (nI w)] [] S9 n5 0 0 K := by
            intro S9 c9 w hc9 hw q1 q2 q3 q4
            have hc99 := q3.1
            refine q_iload rfl rfl rfl ?_
            refine q_ifge rfl rfl (fun _ => ?_) (fun c => absurd (nI_pos' (by omega)) c)
            refine q_aload_n rfl rfl rfl ?_
            refine q_getf rfl rfl (by omega) q2 f15 ?_
            refine q_iload rfl rfl rfl ?_
            refine q_iload rfl rfl rfl ?_
            obtain ⟨g9, k9, -⟩ := gs_a1 q1 (k := 59) rfl
            refine q_iast rfl rfl (by omega) k9 (q_inN (by omega) (by decide)) ?_
            have h9 : -1 ≤ (nI w).toInt ∧ (nI w).toInt ≤ 1999 := by
              rw [toInt_nI (by omega)]
              omega
            exact nxt _ c9 _ hc9 (stp_ok q1 k9 h9) q2 (EI_same rfl rfl rfl q3) (fr1_up q4 rfl)
          rcases hv with rfl | ⟨w, hw, rfl⟩
          · refine q_ifge rfl rfl (fun c => absurd c (by decide)) (fun _ => ?_)
            refine q_aload_n rfl rfl rfl ?_
            refine q_iload_n rfl rfl rfl ?_
            refine q_iload rfl rfl rfl ?_
            refine q_iload rfl rfl rfl ?_
            refine q_cV (K' := fun r S' n' => n' = n5 ∧ ((c = 2000 ∧ r = some (.int (-1)) ∧ S' = S5) ∨ (c < 2000 ∧ r = some (.int (nI c)) ∧ S' = putS S5 R c f53 f55 f56 f57 ch nt cn (nI i) (nI x)))) rfl rfl (Or.inl rfl) rfl rfl rfl rfl (by omega) h464 trivial rfl rfl rfl rfl rfl (l_put hR rfl hn h464 f9 f11 f12 f13 f14 f16 f17 k53 k55 k56 k57 k58 k60 k61 hc hcn (fun e => ⟨rfl, Or.inl ⟨e, rfl, rfl⟩⟩) (fun e => ⟨rfl, Or.inr ⟨e, rfl, rfl⟩⟩)) ?_
            rintro r S6 n6 ⟨rfl, ⟨e, rfl, rfl⟩ | ⟨e, rfl, rfl⟩⟩
            · show PQ SL SV EX mm_X12_explore 176 _ [.int (-1)] S6 n6 0 0 K
              refine q_ist7 rfl rfl rfl rfl ?_
              refine q_iload rfl rfl rfl ?_
              refine q_ifge rfl rfl (fun c => absurd c (by decide)) (fun _ => ?_)
              refine q_iconst rfl rfl ?_
              exact q_iret rfl rfl rfl (hK 0 S6 (Or.inl rfl) hG4 hF4')
            · show PQ SL SV EX mm_X12_explore 176 _ [.int (nI c)] _ n6 0 0 K
              refine q_ist7 rfl rfl rfl rfl ?_
              obtain ⟨a1, a2, a3⟩ := put_ok (fr := nI i) (by_ := nI x) (cb := f57) hR hG4 k53 k55 k56 k58 k60 k61 hE4 e (Or.inr ⟨i, hic, rfl⟩)
              exact st9 _ (c + 1) c (by omega) (by omega) a1 ((a3 46 (by omega) rfl).trans h464) a2 (fr1_tr (l3 := cX) hF4' a3 rfl rfl)
          · refine q_ifge rfl rfl (fun _ => ?_) (fun c => absurd (nI_pos' (by omega)) c)
            exact st9 S5 c w (Nat.le_refl c) hw hG4 h464 hE4 hF4'
end EXPL
