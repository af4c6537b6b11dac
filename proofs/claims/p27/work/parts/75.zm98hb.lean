variable {θ : Th}
/-! the reference's explore: the other room stays -/
section HB
variable {SL : Nat → Nat} {SV : Nat → Nat → Int32} {EX : pm_M → pm_C → (pm_C → Prop) → Prop} {n : Nat} {K : q_K} {R : Nat} {pic hd : Int32} {fs : List Value}
def FL (R : Nat) (S0 S : Nat → pm_E) (n : Nat) : Prop := fr1 cX S0 S n ∧ loE R S0 S
theorem FL_59 {S0 S : Nat → pm_E} {g : Nat → Int32} {j : Nat} {v : Int32} (h : FL R S0 S n) (e : S 59 = .inl (0, 12000, .inl g)) (hj : 6000 * R ≤ j) : FL R S0 (va_up S 59 (.inl (0, 12000, .inl (upd g j v)))) n := ⟨fr1_up h.1 rfl, loE_tr h.2 (loE_59 e hj)⟩
theorem FL_tr {S0 S S' : Nat → pm_E} {l : List Nat} (h : FL R S0 S n) (h' : fr1 l S S' n) (e : l.all (fun k => cX.contains k) = true) (e2 : l.all (fun k => Nat.ble k 54) = true) (hn : 82 ≤ n) : FL R S0 S' n := ⟨fr1_tr (l3 := cX) h.1 h' e rfl, loE_tr h.2 (loE_rf (fun k h1 h2 => h' k (by omega) (by
  cases hc : l.contains k
  · rfl
  · have := Nat.le_of_ble_eq_true (List.all_eq_true.mp e2 k (List.contains_iff_mem.mp hc))
    omega)))⟩
theorem put_lo {S : Nat → pm_E} {c : Nat} {f st cf cb ch nt cn : Nat → Int32} {fr by_ : Int32} (hR : R ≤ 1) (hc : c < 2000) (h55 : S 55 = .inl (0, 80000, .inl st)) (h56 : S 56 = .inl (0, 4000, .inl cf)) (h57 : S 57 = .inl (0, 4000, .inl cb)) (h58 : S 58 = .inl (0, 4000, .inl ch)) (h60 : S 60 = .inl (0, 2, .inl cn)) (h61 : S 61 = .inl (0, 16384, .inl nt)) : loE R S (putS S R c f st cf cb ch nt cn fr by_) := ⟨lo_mk h55 rfl (fun q hq => if_neg (by omega)), lo_mk h56 rfl (low_up low_rf (by omega)), lo_mk h57 rfl (low_up low_rf (by omega)), lo_mk h58 rfl (low_up low_rf (by omega)), lo_rf rfl, lo_mk h60 rfl (low_up low_rf (by omega)), lo_mk h61 rfl (low_up low_rf (by omega))⟩
theorem FL_put {S0 S T : Nat → pm_E} (h : FL R S0 S n) (a3 : fr1 [55, 56, 57, 58, 60, 61] S T n) (hl : loE R S T) : FL R S0 T n := ⟨fr1_tr (l3 := cX) h.1 a3 rfl rfl, loE_tr h.2 hl⟩
set_option maxHeartbeats 4000000 in
theorem l_eloop2 (hR : R ≤ 1) (f1 : fs[1]? = some (.int hd)) (f9 : fs[9]? = some (.ref 53)) (f11 : fs[11]? = some (.ref 55)) (f12 : fs[12]? = some (.ref 56)) (f13 : fs[13]? = some (.ref 57)) (f14 : fs[14]? = some (.ref 58)) (f15 : fs[15]? = some (.ref 59)) (f16 : fs[16]? = some (.ref 60)) (f17 : fs[17]? = some (.ref 61))
    (hst : ∀ S, GS θ S n → S 46 = .inr (10, fs) → ∀ i, i < 2000 → PM SL SV EX mm_X12_standAt [.ref 46, .int (nI R), .int (nI i)] S n (fun r S' n' => n' = n ∧ r = none ∧ GS θ S' n ∧ fr1 [52] S S' n))
    (hmy : ∀ S, GS θ S n → S 46 = .inr (10, fs) → ∀ x, x < 3 → ¬ hd ≤ nI x → PM SL SV EX mm_X12_maySteps [.ref 46, .int (nI x), .int pic] S n (fun r S' n' => n' = n ∧ (r = some (.int 0) ∨ r = some (.int 1)) ∧ GS θ S' n ∧ fr1 [] S S' n))
    (hsb : ∀ S, GS θ S n → S 46 = .inr (10, fs) → ∀ x, x < 3 → ¬ hd ≤ nI x → PM SL SV EX mm_X12_stepBy [.ref 46, .int (nI x), .int pic] S n (fun r S' n' => n' = n ∧ r = none ∧ GS θ S' n ∧ fr1 [53] S S' n))
    {S0 : Nat → pm_E} (hK : ∀ (b : Int32) S', (b = 0 ∨ b = 1) → GS θ S' n → FL R S0 S' n → K (some (.int b)) S' n) :
    ∀ (m i x c : Nat) (S : Nat → pm_E) (b3 b6 b7 : Value), 4 * (2000 - i) + (3 - x) < m → i < c → x ≤ 3 → pm_c2 b3 = false → pm_c2 b6 = false → GS θ S n → S 46 = .inr (10, fs) → EI R c S → FL R S0 S n → PQ SL SV EX mm_X12_explore 90 [.ref 46, .int (nI R), .int pic, b3, .int (nI i), .int (nI x), b6, b7] [] S n 0 0 K := by
  intro m
  induction m with
  | zero => intro i x c S b3 b6 b7 h; omega
  | succ m ih =>
    intro i x c S b3 b6 b7 hm hic hx hb3 hb6 hG h46 hE hF
    have hn := gs_n hG
    have hc := hE.1
    refine q_iload rfl rfl rfl ?_
    refine q_iconst rfl rfl ?_
    refine q_icge rfl rfl (fun c3 => ?_) (fun c3 => ?_)
    · -- the next state
      have e3 : x = 3 := by
        have := (nI_leI (a := 3) (b := x) (by decide) (by omega)).mp c3
        omega
      subst e3
      refine q_inc4 rfl rfl rfl hb3 ?_
      rw [nI_1]
      refine q_goto rfl ?_
      refine q_iload rfl rfl rfl ?_
      refine q_aload_n rfl rfl rfl ?_
      refine q_getf rfl rfl (by omega) h46 f16 ?_
      refine q_iload_n rfl rfl rfl ?_
      obtain ⟨-, cn, nt, ch, k60, k61, k58, hcn, hnt, hch⟩ := id hE
      refine q_iald rfl rfl (by omega) k60 (q_inN (by omega) (by decide)) ?_
      rw [nI_clamp (by omega), hcn]
      refine q_icge rfl rfl (fun c4 => ?_) (fun c4 => ?_)
      · refine q_iconst rfl rfl ?_
        exact q_iret rfl rfl rfl (hK 1 S (Or.inr rfl) hG hF)
      · refine q_iconst rfl rfl ?_
        refine q_ist5 rfl rfl rfl rfl ?_
        have h5 : i + 1 < c := by
          rcases Nat.lt_or_ge (i + 1) c with h | h
          · exact h
          · exact absurd (nI_le h (by omega)) c4
        exact ih (i + 1) 0 c S b3 b6 b7 (by omega) h5 (by omega) hb3 hb6 hG h46 hE hF
    · have hx3 : x < 3 := by
        rcases Nat.lt_or_ge x 3 with h | h
        · exact h
        · exact absurd (nI_le (a := 3) h (by omega)) c3
      refine q_iconst rfl rfl ?_
      refine q_sipush rfl rfl ?_
      refine q_iload_n rfl rfl rfl ?_
      refine q_imul rfl rfl ?_
      refine q_iload rfl rfl rfl ?_
      refine q_iadd rfl rfl ?_
      refine q_imul rfl rfl ?_
      refine q_iload rfl rfl rfl ?_
      refine q_iadd rfl rfl (q_tn (z := nI (3 * (2000 * R + i) + x)) (by rw [show (3 : Int32) = nI 3 from rfl, show (2000 : Int32) = nI 2000 from rfl, pk_mul, nI_add, pk_mul, nI_add]) ?_)
      refine q_ist6 rfl rfl rfl rfl ?_
      refine q_aload_n rfl rfl rfl ?_
      refine q_getf rfl rfl (by omega) h46 f15 ?_
      refine q_iload rfl rfl rfl ?_
      refine q_iconst rfl rfl ?_
      obtain ⟨g59, k59, -⟩ := gs_a1 hG (k := 59) rfl
      refine q_iast rfl rfl (by omega) k59 (q_inN (by omega) (by decide)) ?_
      have hG1 := stp_ok (j := (nI (3 * (2000 * R + i) + x)).toNatClampNeg) (v := -1) hG k59 (by decide)
      have hF1 := FL_59 (v := -1) (j := (nI (3 * (2000 * R + i) + x)).toNatClampNeg) hF k59 (by rw [nI_clamp (by omega)]; omega)
      have hE1 : EI R c (va_up S 59 (.inl (0, 12000, .inl (upd g59 (nI (3 * (2000 * R + i) + x)).toNatClampNeg (-1))))) := EI_same rfl rfl rfl hE
      have h461 : va_up S 59 (.inl (0, 12000, .inl (upd g59 (nI (3 * (2000 * R + i) + x)).toNatClampNeg (-1)))) 46 = .inr (10, fs) := h46
      generalize va_up S 59 (.inl (0, 12000, .inl (upd g59 (nI (3 * (2000 * R + i) + x)).toNatClampNeg (-1)))) = S1 at hG1 hF1 hE1 h461 ⊢
      clear hG hF hE h46 k59
      refine q_aload_n rfl rfl rfl ?_
      refine q_iload_n rfl rfl rfl ?_
      refine q_iload rfl rfl rfl ?_
      refine q_cV rfl rfl (Or.inl rfl) rfl rfl rfl rfl (by omega) h461 trivial rfl rfl rfl rfl rfl (hst S1 hG1 h461 i (by omega)) ?_
      rintro r S2 n2 ⟨rfl, rfl, hG2, hF2⟩
      have hF2' := FL_tr hF1 hF2 rfl rfl hn
      have h462 : S2 46 = .inr (10, fs) := (hF2 46 (by omega) rfl).trans h461
      have hE2 : EI R c S2 := EI_same (hF2 60 (by omega) rfl) (hF2 61 (by omega) rfl) (hF2 58 (by omega) rfl) hE1
      clear hF2 hF1 hG1 hE1 h461
      show PQ SL SV EX mm_X12_explore 126 _ [] S2 n2 0 0 K
      refine q_iload rfl rfl rfl ?_
      refine q_aload_n rfl rfl rfl ?_
      refine q_getf rfl rfl (by omega) h462 f1 ?_
      have nxt : ∀ (S9 : Nat → pm_E) (c9 : Nat) (w7 : Value), c ≤ c9 → GS θ S9 n2 → S9 46 = .inr (10, fs) → EI R c9 S9 → FL R S0 S9 n2 → PQ SL SV EX mm_X12_explore 194 [.ref 46, .int (nI R), .int pic, b3, .int (nI i), .int (nI x), .int (nI (3 * (2000 * R + i) + x)), w7] [] S9 n2 0 0 K := by
        intro S9 c9 w7 hc9 q1 q2 q3 q4
        refine q_inc5 rfl rfl rfl rfl ?_
        rw [nI_1]
        refine q_goto rfl ?_
        exact ih i (x + 1) c9 S9 b3 _ w7 (by omega) (by omega) (by omega) hb3 rfl q1 q2 q3 q4
      refine q_icge rfl rfl (fun c5 => ?_) (fun c5 => ?_)
      · exact nxt S2 c b7 (Nat.le_refl c) hG2 h462 hE2 hF2'
      · refine q_aload_n rfl rfl rfl ?_
        refine q_iload rfl rfl rfl ?_
        refine q_iload_n rfl rfl rfl ?_
        refine q_cV rfl rfl (Or.inl rfl) rfl rfl rfl rfl (by omega) h462 trivial rfl rfl rfl rfl rfl (hmy S2 hG2 h462 x hx3 c5) ?_
        rintro r S3 n3 ⟨rfl, hr, hG3, hF3⟩
        have hF3' := FL_tr hF2' hF3 rfl rfl hn
        have h463 : S3 46 = .inr (10, fs) := (hF3 46 (by omega) rfl).trans h462
        have hE3 : EI R c S3 := EI_same (hF3 60 (by omega) rfl) (hF3 61 (by omega) rfl) (hF3 58 (by omega) rfl) hE2
        clear hF3 hF2' hG2 hE2 h462
        rcases hr with rfl | rfl
        · show PQ SL SV EX mm_X12_explore 142 _ [.int 0] S3 n3 0 0 K
          refine q_ifne rfl rfl (fun _ => ?_) (fun c => absurd rfl c)
          refine q_goto rfl ?_
          exact nxt S3 c b7 (Nat.le_refl c) hG3 h463 hE3 hF3'
        · show PQ SL SV EX mm_X12_explore 142 _ [.int 1] S3 n3 0 0 K
          refine q_ifne rfl rfl (fun c => absurd c (by decide)) (fun _ => ?_)
          refine q_aload_n rfl rfl rfl ?_
          refine q_iload rfl rfl rfl ?_
          refine q_iload_n rfl rfl rfl ?_
          refine q_cV rfl rfl (Or.inl rfl) rfl rfl rfl rfl (by omega) h463 trivial rfl rfl rfl rfl rfl (hsb S3 hG3 h463 x hx3 c5) ?_
          rintro r S4 n4 ⟨rfl, rfl, hG4, hF4⟩
          have hF4' := FL_tr hF3' hF4 rfl rfl hn
          have h464 : S4 46 = .inr (10, fs) := (hF4 46 (by omega) rfl).trans h463
          have hE4 : EI R c S4 := EI_same (hF4 60 (by omega) rfl) (hF4 61 (by omega) rfl) (hF4 58 (by omega) rfl) hE3
          clear hF4 hF3' hG3 hE3 h463
          show PQ SL SV EX mm_X12_explore 155 _ [] S4 n4 0 0 K
          refine q_aload_n rfl rfl rfl ?_
          refine q_iload_n rfl rfl rfl ?_
          obtain ⟨-, cn, nt, ch, k60, k61, k58, hcn, hnt, hch⟩ := id hE4
          obtain ⟨f53, k53, -⟩ := gs_arr hG4 (k := 53) rfl
          obtain ⟨f55, k55, -⟩ := gs_arr hG4 (k := 55) rfl
          obtain ⟨f56, k56, -⟩ := gs_arr hG4 (k := 56) rfl
          obtain ⟨f57, k57, -⟩ := gs_arr hG4 (k := 57) rfl
          refine q_cV (K' := fun r S' n' => S' = S4 ∧ n' = n4 ∧ ∃ v : Int32, r = some (.int v) ∧ (v = -1 ∨ ∃ i, i < c ∧ v = nI i)) rfl rfl (Or.inl rfl) rfl rfl rfl rfl (by omega) h464 trivial rfl rfl rfl rfl rfl (l_find hR rfl hn h464 f9 f11 f14 f17 k53 k55 k58 k61 hc hnt hch (fun v hv => ⟨rfl, rfl, v, rfl, hv⟩)) ?_
          rintro r S5 n5 ⟨rfl, rfl, v, rfl, hv⟩
          show PQ SL SV EX mm_X12_explore 160 _ [.int v] S5 n5 0 0 K
          refine q_ist7 rfl rfl rfl rfl ?_
          refine q_iload rfl rfl rfl ?_
          have st9 : ∀ (S9 : Nat → pm_E) (c9 : Nat) (w : Nat), c ≤ c9 → w < c9 → GS θ S9 n5 → S9 46 = .inr (10, fs) → EI R c9 S9 → FL R S0 S9 n5 → PQ SL SV EX mm_X12_explore 178 [.ref 46, .int (nI R), .int pic, b3, .int (nI i), .int (nI x), .int (nI (3 * (2000 * R + i) + x)), .int (nI w)] [] S9 n5 0 0 K := by
            intro S9 c9 w hc9 hw q1 q2 q3 q4
            have hc99 := q3.1
            refine q_iload rfl rfl rfl ?_
            refine q_ifge rfl rfl (fun _ => ?_) (fun c => absurd (nI_pos' (by omega)) c)
            refine q_aload_n rfl rfl rfl ?_
            refine q_getf rfl rfl (by omega) q2 f15 ?_
            refine q_iload rfl rfl rfl ?_
            refine q_iload rfl rfl rfl ?_
            obtain ⟨g9, k9, -⟩ := gs_a1 q1 (k := 59) rfl
            refine q_iast rfl rfl (by omega) k9 (q_inN (by omega) (by decide)) ?_
            have h9 : -1 ≤ (nI w).toInt ∧ (nI w).toInt ≤ 1999 := by
              rw [toInt_nI (by omega)]
              omega
            exact nxt _ c9 _ hc9 (stp_ok q1 k9 h9) q2 (EI_same rfl rfl rfl q3) (FL_59 q4 k9 (by rw [nI_clamp (by omega)]; omega))
          rcases hv with rfl | ⟨w, hw, rfl⟩
          · refine q_ifge rfl rfl (fun c => absurd c (by decide)) (fun _ => ?_)
            refine q_aload_n rfl rfl rfl ?_
            refine q_iload_n rfl rfl rfl ?_
            refine q_iload rfl rfl rfl ?_
            refine q_iload rfl rfl rfl ?_
            refine q_cV (K' := fun r S' n' => n' = n5 ∧ ((c = 2000 ∧ r = some (.int (-1)) ∧ S' = S5) ∨ (c < 2000 ∧ r = some (.int (nI c)) ∧ S' = putS S5 R c f53 f55 f56 f57 ch nt cn (nI i) (nI x)))) rfl rfl (Or.inl rfl) rfl rfl rfl rfl (by omega) h464 trivial rfl rfl rfl rfl rfl (l_put hR rfl hn h464 f9 f11 f12 f13 f14 f16 f17 k53 k55 k56 k57 k58 k60 k61 hc hcn (fun e => ⟨rfl, Or.inl ⟨e, rfl, rfl⟩⟩) (fun e => ⟨rfl, Or.inr ⟨e, rfl, rfl⟩⟩)) ?_
            rintro r S6 n6 ⟨rfl, ⟨e, rfl, rfl⟩ | ⟨e, rfl, rfl⟩⟩
            · show PQ SL SV EX mm_X12_explore 176 _ [.int (-1)] S6 n6 0 0 K
              refine q_ist7 rfl rfl rfl rfl ?_
              refine q_iload rfl rfl rfl ?_
              refine q_ifge rfl rfl (fun c => absurd c (by decide)) (fun _ => ?_)
              refine q_iconst rfl rfl ?_
              exact q_iret rfl rfl rfl (hK 0 S6 (Or.inl rfl) hG4 hF4')
            · show PQ SL SV EX mm_X12_explore 176 _ [.int (nI c)] _ n6 0 0 K
              refine q_ist7 rfl rfl rfl rfl ?_
              obtain ⟨a1, a2, a3⟩ := put_ok (fr := nI i) (by_ := nI x) (cb := f57) hR hG4 k53 k55 k56 k58 k60 k61 hE4 e (Or.inr ⟨i, hic, rfl⟩)
              exact st9 _ (c + 1) c (by omega) (by omega) a1 ((a3 46 (by omega) rfl).trans h464) a2 (FL_put hF4' a3 (put_lo hR e k55 k56 k57 k58 k60 k61))
          · refine q_ifge rfl rfl (fun _ => ?_) (fun c => absurd (nI_pos' (by omega)) c)
            exact st9 S5 c w (Nat.le_refl c) hw hG4 h464 hE4 hF4'
set_option maxHeartbeats 4000000 in
theorem l_expl2 (hR : R ≤ 1) (f1 : fs[1]? = some (.int hd)) (f8 : fs[8]? = some (.ref 52)) (f9 : fs[9]? = some (.ref 53)) (f11 : fs[11]? = some (.ref 55)) (f12 : fs[12]? = some (.ref 56)) (f13 : fs[13]? = some (.ref 57)) (f14 : fs[14]? = some (.ref 58)) (f15 : fs[15]? = some (.ref 59)) (f16 : fs[16]? = some (.ref 60)) (f17 : fs[17]? = some (.ref 61))
    (hfi : ∀ S, GS θ S n → S 46 = .inr (10, fs) → PM SL SV EX mm_X12_firstState [.ref 46] S n (fun r S' n' => n' = n ∧ r = none ∧ GS θ S' n ∧ fr1 [52] S S' n))
    (hst : ∀ S, GS θ S n → S 46 = .inr (10, fs) → ∀ i, i < 2000 → PM SL SV EX mm_X12_standAt [.ref 46, .int (nI R), .int (nI i)] S n (fun r S' n' => n' = n ∧ r = none ∧ GS θ S' n ∧ fr1 [52] S S' n))
    (hmy : ∀ S, GS θ S n → S 46 = .inr (10, fs) → ∀ x, x < 3 → ¬ hd ≤ nI x → PM SL SV EX mm_X12_maySteps [.ref 46, .int (nI x), .int pic] S n (fun r S' n' => n' = n ∧ (r = some (.int 0) ∨ r = some (.int 1)) ∧ GS θ S' n ∧ fr1 [] S S' n))
    (hsb : ∀ S, GS θ S n → S 46 = .inr (10, fs) → ∀ x, x < 3 → ¬ hd ≤ nI x → PM SL SV EX mm_X12_stepBy [.ref 46, .int (nI x), .int pic] S n (fun r S' n' => n' = n ∧ r = none ∧ GS θ S' n ∧ fr1 [53] S S' n))
    {S0 : Nat → pm_E} (hG : GS θ S0 n) (h46 : S0 46 = .inr (10, fs)) (hK : ∀ (b : Int32) S', (b = 0 ∨ b = 1) → GS θ S' n → FL R S0 S' n → K (some (.int b)) S' n) : PM SL SV EX mm_X12_explore [.ref 46, .int (nI R), .int pic] S0 n K := by
  change PQ SL SV EX mm_X12_explore 0 [.ref 46, .int (nI R), .int pic, pm_un, pm_un, pm_un, pm_un, pm_un] [] S0 n 0 0 K
  have hn := gs_n hG
  obtain ⟨nt, k61, -⟩ := gs_arr hG (k := 61) rfl
  obtain ⟨cn, k60, b60⟩ := gs_a1 hG (k := 60) rfl
  refine q_iconst rfl rfl ?_
  refine q_ist3n rfl rfl rfl rfl ?_
  refine l_net hR rfl (by omega) h46 f17 k61 ?_
  have hG1 := gs_st (k := 61) (c := .inl (0, 16384, .inl (nfk nt (-1) (8192 * R) 8192))) hG rfl rfl (cell_full (k := 61) rfl _) (pk_arr k61)
  have hF1 : FL R S0 (va_up S0 61 (.inl (0, 16384, .inl (nfk nt (-1) (8192 * R) 8192)))) n := ⟨fr1_up fr1_rf rfl, lo_rf rfl, lo_rf rfl, lo_rf rfl, lo_rf rfl, lo_rf rfl, lo_rf rfl, lo_mk k61 rfl (fun q hq => if_neg (by omega))⟩
  have h461 : va_up S0 61 (.inl (0, 16384, .inl (nfk nt (-1) (8192 * R) 8192))) 46 = .inr (10, fs) := h46
  have k601 : va_up S0 61 (.inl (0, 16384, .inl (nfk nt (-1) (8192 * R) 8192))) 60 = .inl (0, 2, .inl cn) := k60
  have k611 : va_up S0 61 (.inl (0, 16384, .inl (nfk nt (-1) (8192 * R) 8192))) 61 = .inl (0, 16384, .inl (nfk nt (-1) (8192 * R) 8192)) := rfl
  generalize va_up S0 61 (.inl (0, 16384, .inl (nfk nt (-1) (8192 * R) 8192))) = S1 at hG1 hF1 h461 k601 k611 ⊢
  refine q_aload_n rfl rfl rfl ?_
  refine q_getf rfl rfl (by omega) h461 f16 ?_
  refine q_iload_n rfl rfl rfl ?_
  refine q_iconst rfl rfl ?_
  refine q_iast rfl rfl (by omega) k601 (q_inN (by omega) (by decide)) ?_
  rw [nI_clamp (by omega)]
  obtain ⟨cf, k56, -⟩ := gs_arr hG1 (k := 56) rfl
  have hX1 := xc_get hn hG1.2 k56
  have hG2 : GS θ (va_up S1 60 (.inl (0, 2, .inl (upd cn R 0)))) n := by
    refine gs_set hG1 (by omega) (cell_one (k := 60) rfl (fun i hi => ?_)) (xi_mk hn hG1.2 (show va_up S1 60 _ 56 = _ from k56) hX1 (fun k _ hk => va_up_ne _ _ (by omega)))
    unfold upd
    by_cases e : i = R
    · rw [if_pos e]
      decide
    · rw [if_neg e]
      exact b60 i hi
  have hF2 : FL R S0 (va_up S1 60 (.inl (0, 2, .inl (upd cn R 0)))) n := ⟨fr1_up hF1.1 rfl, loE_tr hF1.2 ⟨lo_rf rfl, lo_rf rfl, lo_rf rfl, lo_rf rfl, lo_rf rfl, lo_mk k601 rfl (low_up low_rf (by omega)), lo_rf rfl⟩⟩
  have h462 : va_up S1 60 (.inl (0, 2, .inl (upd cn R 0))) 46 = .inr (10, fs) := h461
  have hE2 : EI R 0 (va_up S1 60 (.inl (0, 2, .inl (upd cn R 0)))) := by
    obtain ⟨ch, k58, -⟩ := gs_arr hG1 (k := 58) rfl
    refine ⟨by omega, upd cn R 0, nfk nt (-1) (8192 * R) 8192, ch, rfl, k611, k58, ?_, fun k hk => Or.inl ?_, fun i hi => by omega⟩
    · unfold upd
      rw [if_pos rfl]
      rfl
    · unfold nfk
      rw [if_pos (by omega)]
  generalize va_up S1 60 (.inl (0, 2, .inl (upd cn R 0))) = S2 at hG2 hF2 h462 hE2 ⊢
  clear hX1 k56 hG1 hF1 h461 k601 k611
  refine q_aload_n rfl rfl rfl ?_
  refine q_cV rfl rfl (Or.inl rfl) rfl rfl rfl rfl (by omega) h462 trivial rfl rfl rfl rfl rfl (hfi S2 hG2 h462) ?_
  rintro r S3 n3 ⟨rfl, rfl, hG3, hF3⟩
  have hF3' := FL_tr hF2 hF3 rfl rfl hn
  have h463 : S3 46 = .inr (10, fs) := (hF3 46 (by omega) rfl).trans h462
  have hE3 : EI R 0 S3 := EI_same (hF3 60 (by omega) rfl) (hF3 61 (by omega) rfl) (hF3 58 (by omega) rfl) hE2
  clear hF3 hF2 hG2 hE2 h462
  show PQ SL SV EX mm_X12_explore 39 _ [] S3 n3 0 0 K
  refine q_iconst rfl rfl ?_
  refine q_ist3n rfl rfl rfl rfl ?_
  obtain ⟨nw, k52, b52⟩ := gs_arr hG3 (k := 52) rfl
  obtain ⟨nx, k53, b53⟩ := gs_arr hG3 (k := 53) rfl
  have fin : ∀ b3 : Value, pm_c2 b3 = false → PQ SL SV EX mm_X12_explore 65 [.ref 46, .int (nI R), .int pic, b3, pm_un, pm_un, pm_un, pm_un] [] (va_up S3 53 (.inl (0, 20, .inl (cpf nx nw 20)))) n3 0 0 K := by
    intro b3 hb3
    have hG4 : GS θ (va_up S3 53 (.inl (0, 20, .inl (cpf nx nw 20)))) n3 := by
      refine gs_st hG3 rfl rfl ⟨_, rfl, fun i hi => ?_⟩ (pk_arr k53)
      unfold cpf
      rw [if_pos (show i < 20 from hi)]
      exact b52 i hi
    have hF4 : FL R S0 (va_up S3 53 (.inl (0, 20, .inl (cpf nx nw 20)))) n3 := ⟨fr1_up hF3'.1 rfl, loE_tr hF3'.2 (loE_rf (fun k h1 h2 => va_up_ne _ _ (by omega)))⟩
    have h464 : va_up S3 53 (.inl (0, 20, .inl (cpf nx nw 20))) 46 = .inr (10, fs) := h463
    have hE4 : EI R 0 (va_up S3 53 (.inl (0, 20, .inl (cpf nx nw 20)))) := EI_same rfl rfl rfl hE3
    have k534 : va_up S3 53 (.inl (0, 20, .inl (cpf nx nw 20))) 53 = .inl (0, 20, .inl (cpf nx nw 20)) := rfl
    generalize va_up S3 53 (.inl (0, 20, .inl (cpf nx nw 20))) = S4 at hG4 hF4 h464 hE4 k534 ⊢
    obtain ⟨-, cn4, nt4, ch4, q60, q61, q58, hcn, hnt, hch⟩ := id hE4
    obtain ⟨f55, k55, -⟩ := gs_arr hG4 (k := 55) rfl
    obtain ⟨f56, k56, -⟩ := gs_arr hG4 (k := 56) rfl
    obtain ⟨f57, k57, -⟩ := gs_arr hG4 (k := 57) rfl
    refine q_aload_n rfl rfl rfl ?_
    refine q_iload_n rfl rfl rfl ?_
    refine q_iconst rfl rfl ?_
    refine q_iconst rfl rfl ?_
    refine q_cV (K' := fun r S' n' => n' = n3 ∧ r = some (.int (nI 0)) ∧ S' = putS S4 R 0 (cpf nx nw 20) f55 f56 f57 ch4 nt4 cn4 (-1) (-1)) rfl rfl (Or.inl rfl) rfl rfl rfl rfl (by omega) h464 trivial rfl rfl rfl rfl rfl (l_put hR rfl hn h464 f9 f11 f12 f13 f14 f16 f17 k534 k55 k56 k57 q58 q60 q61 (by omega) hcn (fun e => by omega) (fun e => ⟨rfl, rfl, rfl⟩)) ?_
    rintro r S5 n5 ⟨rfl, rfl, rfl⟩
    obtain ⟨a1, a2, a3⟩ := put_ok (fr := -1) (by_ := -1) (cb := f57) hR hG4 k534 k55 k56 q58 q60 q61 hE4 (by omega) (Or.inl rfl)
    have h465 := (a3 46 (by omega) rfl).trans h464
    have hF5 := FL_put hF4 a3 (put_lo hR (by omega) k55 k56 k57 q58 q60 q61)
    show PQ SL SV EX mm_X12_explore 72 _ [.int (nI 0)] _ n5 0 0 K
    generalize putS S4 R 0 (cpf nx nw 20) f55 f56 f57 ch4 nt4 cn4 (-1) (-1) = S5 at a1 a2 h465 hF5 ⊢
    refine q_ist3n rfl rfl rfl rfl ?_
    refine q_iconst rfl rfl ?_
    refine q_ist4 rfl rfl rfl rfl ?_
    refine q_iload rfl rfl rfl ?_
    refine q_aload_n rfl rfl rfl ?_
    refine q_getf rfl rfl (by omega) h465 f16 ?_
    refine q_iload_n rfl rfl rfl ?_
    obtain ⟨-, cn5, nt5, ch5, r60, r61, r58, hcn5, -⟩ := id a2
    refine q_iald rfl rfl (by omega) r60 (q_inN (by omega) (by decide)) ?_
    rw [nI_clamp (by omega), hcn5]
    refine q_icge rfl rfl (fun c => absurd c (by decide)) (fun _ => ?_)
    refine q_iconst rfl rfl ?_
    refine q_ist5 rfl rfl rfl rfl ?_
    exact l_eloop2 hR f1 f9 f11 f12 f13 f14 f15 f16 f17 hst hmy hsb hK 8004 0 0 1 S5 _ _ _ (by omega) (by omega) (by omega) rfl rfl a1 h465 a2 hF5
  have key : ∀ m k : Nat, k + m = 20 → ∀ (y : Int32), y = nI k → PQ SL SV EX mm_X12_explore 41 [.ref 46, .int (nI R), .int pic, .int y, pm_un, pm_un, pm_un, pm_un] [] (va_up S3 53 (.inl (0, 20, .inl (cpf nx nw k)))) n3 0 0 K := by
    intro m
    induction m with
    | zero =>
      intro k hk y hy
      have e : k = 20 := by omega
      subst e
      have e2 : y = 20 := hy
      subst e2
      refine q_iload_n rfl rfl rfl ?_
      refine q_bipush rfl rfl ?_
      exact q_icge rfl rfl (fun _ => fin _ rfl) (fun c => absurd (by decide) c)
    | succ m ih =>
      intro k hk y hy
      refine q_iload_n rfl rfl rfl ?_
      refine q_bipush rfl rfl ?_
      refine q_icge rfl rfl (fun c => absurd c ?_) (fun _ => ?_)
      · rw [hy]; exact nI_ge (a := k) (b := 20) (by omega) (by decide)
      · subst hy
        refine q_aload_n rfl rfl rfl ?_
        refine q_getf rfl rfl (by omega) (show va_up S3 53 _ 46 = _ from h463) f9 ?_
        refine q_iload_n rfl rfl rfl ?_
        refine q_aload_n rfl rfl rfl ?_
        refine q_getf rfl rfl (by omega) (show va_up S3 53 _ 46 = _ from h463) f8 ?_
        refine q_iload_n rfl rfl rfl ?_
        refine q_iald rfl rfl (by omega) (show va_up S3 53 _ 52 = _ from k52) (q_inN (by omega) (by decide)) ?_
        refine q_iast (f := cpf nx nw k) rfl rfl (by omega) rfl (q_inN (by omega) (by decide)) (q_tS (S2 := va_up S3 53 (.inl (0, 20, .inl (cpf nx nw (k + 1))))) ?_ ?_)
        · rw [bx_uu, nI_clamp (by omega), cpf_s]
        · refine q_inc3 rfl rfl rfl rfl ?_
          refine q_goto rfl ?_
          exact ih (k + 1) (by omega) _ (nI_1 k)
  have k0 := key 20 0 (by omega) 0 rfl
  rw [cpf_0, va_same k53] at k0
  exact k0
end HB
section HBW
variable {L : Nat} {xs : Nat → Int32}
theorem w_expl2 {S : Nat → pm_E} {n R : Nat} {pic : Int32} (hR : R ≤ 1) (b3 : Bool) (hG : GS θ S n) (hb : ∀ fs, S 46 = .inr (10, fs) → match b3 with
    | false => ∃ x : Int32, fs[7]? = some (.int x) ∧ x.toInt = 0
    | true => pic = 0 ∧ (∃ x : Int32, fs[7]? = some (.int x) ∧ x.toInt = 3) ∧ ∃ y : Int32, fs[1]? = some (.int y) ∧ y.toInt = 2) {K : q_K} (hK : ∀ (b : Int32) S', (b = 0 ∨ b = 1) → GS θ S' n → FL R S S' n → K (some (.int b)) S' n) : PM (j_SL L) (j_SV xs) j_EX mm_X12_explore [.ref 46, .int (nI R), .int pic] S n K := by
  obtain ⟨fs, h46, hf⟩ := gs_obj hG (k := 46) rfl
  have hn := gs_n hG
  obtain ⟨hd, f1, d1, d2⟩ := fo_int (hf 1 _ rfl) rfl
  have d2' : hd.toInt ≤ 3 := d2
  have hb := hb fs h46
  refine l_expl2 hR f1 (fo_ref (hf 8 _ rfl) rfl) (fo_ref (hf 9 _ rfl) rfl) (fo_ref (hf 11 _ rfl) rfl) (fo_ref (hf 12 _ rfl) rfl) (fo_ref (hf 13 _ rfl) rfl) (fo_ref (hf 14 _ rfl) rfl) (fo_ref (hf 15 _ rfl) rfl) (fo_ref (hf 16 _ rfl) rfl) (fo_ref (hf 17 _ rfl) rfl) ?_ ?_ ?_ ?_ hG h46 hK
  · intro S' hG' _
    exact pm_weak (q_kc w164 [] hG' ⟨rfl, trivial⟩ ck_en_n (fun d hd => by cases hd)) (fun r S9 n9 h => kc_void rfl h)
  · intro S' hG' _ i hi
    have hi' : (nI i).toInt = (i : Int) := nI_toInt (by omega)
    rcases (show R = 0 ∨ R = 1 by omega) with rfl | rfl
    · exact pm_weak (q_kc w198 [(i : Int)] hG' ⟨rfl, ck_okc rfl, ck_oku rfl hi', trivial⟩ (ck_en_c (by show (0 : Int) ≤ _; omega) (by show _ ≤ (1999 : Int); omega) ck_en_n) (fun d hd => by cases hd)) (fun r S9 n9 h => kc_void rfl h)
    · exact pm_weak (q_kc w200 [(i : Int)] hG' ⟨rfl, ck_okc rfl, ck_oku rfl hi', trivial⟩ (ck_en_c (by show (0 : Int) ≤ _; omega) (by show _ ≤ (1999 : Int); omega) ck_en_n) (fun d hd => by cases hd)) (fun r S9 n9 h => kc_void rfl h)
  · intro S' hG' h46' x hx hxh
    have hx' : (nI x).toInt = (x : Int) := nI_toInt (by omega)
    have hxh' : (x : Int) < hd.toInt := by
      rw [Int32.le_iff_toInt_le, hx'] at hxh
      omega
    cases b3 with
    | false =>
      obtain ⟨bx, f7, e7⟩ := hb
      exact pm_weak (q_kc w293 [(x : Int), pic.toInt, bx.toInt] hG' ⟨rfl, ck_oku rfl hx', ck_oku rfl rfl, trivial⟩ (ck_en_c (by show (0 : Int) ≤ _; omega) (by show _ ≤ (2 : Int); omega) (ck_en_c (fullI pic).1 (fullI pic).2 (ck_en_c (by show (0 : Int) ≤ _; omega) (by show _ ≤ (0 : Int); omega) ck_en_n))) (fun d hd => by
        rw [List.mem_singleton.mp hd]
        exact mo_mk (by omega) h46' f7 rfl)) (fun r S9 n9 h => kc_bool rfl h)
    | true =>
      obtain ⟨rfl, ⟨bx, f7, e7⟩, y, f1', e1⟩ := hb
      rw [f1] at f1'
      cases f1'
      exact pm_weak (q_kc w297 [(x : Int), bx.toInt, hd.toInt] hG' ⟨rfl, ck_oku rfl hx', ck_okc rfl, trivial⟩ (ck_en_c (by show (0 : Int) ≤ _; omega) (by show _ ≤ (1 : Int); omega) (ck_en_c (by show (3 : Int) ≤ _; omega) (by show _ ≤ (3 : Int); omega) (ck_en_c (by show (2 : Int) ≤ _; omega) (by show _ ≤ (2 : Int); omega) ck_en_n))) (fun d hd => by
        rcases List.mem_cons.mp hd with e | e
        · rw [e]
          exact mo_mk (by omega) h46' f7 rfl
        · rw [List.mem_singleton.mp e]
          exact mo_mk (by omega) h46' f1 rfl)) (fun r S9 n9 h => kc_bool rfl h)
  · intro S' hG' h46' x hx hxh
    have hx' : (nI x).toInt = (x : Int) := nI_toInt (by omega)
    have hxh' : (x : Int) < hd.toInt := by
      rw [Int32.le_iff_toInt_le, hx'] at hxh
      omega
    cases b3 with
    | false =>
      obtain ⟨bx, f7, e7⟩ := hb
      exact pm_weak (q_kc w193 [(x : Int), pic.toInt, bx.toInt] hG' ⟨rfl, ck_oku rfl hx', ck_oku rfl rfl, trivial⟩ (ck_en_c (by show (0 : Int) ≤ _; omega) (by show _ ≤ (2 : Int); omega) (ck_en_c (fullI pic).1 (fullI pic).2 (ck_en_c (by show (0 : Int) ≤ _; omega) (by show _ ≤ (0 : Int); omega) ck_en_n))) (fun d hd => by
        rw [List.mem_singleton.mp hd]
        exact mo_mk (by omega) h46' f7 rfl)) (fun r S9 n9 h => kc_void rfl h)
    | true =>
      obtain ⟨rfl, ⟨bx, f7, e7⟩, y, f1', e1⟩ := hb
      rw [f1] at f1'
      cases f1'
      exact pm_weak (q_kc w301 [(x : Int), bx.toInt, hd.toInt] hG' ⟨rfl, ck_oku rfl hx', ck_okc rfl, trivial⟩ (ck_en_c (by show (0 : Int) ≤ _; omega) (by show _ ≤ (1 : Int); omega) (ck_en_c (by show (3 : Int) ≤ _; omega) (by show _ ≤ (3 : Int); omega) (ck_en_c (by show (2 : Int) ≤ _; omega) (by show _ ≤ (2 : Int); omega) ck_en_n))) (fun d hd => by
        rcases List.mem_cons.mp hd with e | e
        · rw [e]
          exact mo_mk (by omega) h46' f7 rfl
        · rw [List.mem_singleton.mp e]
          exact mo_mk (by omega) h46' f1 rfl)) (fun r S9 n9 h => kc_void rfl h)
end HBW
