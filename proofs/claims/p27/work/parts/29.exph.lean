variable {θ : Th}
/-! explore from its entry -/
section EXPH
variable {SL : Nat → Nat} {SV : Nat → Nat → Int32} {EX : pm_M → pm_C → (pm_C → Prop) → Prop} {n : Nat} {K : q_K} {R : Nat} {pic hd : Int32} {fs : List Value}
def cpf (f g : Nat → Int32) (k : Nat) : Nat → Int32 := fun j => if j < k then g j else f j
theorem cpf_0 (f g : Nat → Int32) : cpf f g 0 = f := by
  funext j
  unfold cpf
  rw [if_neg (Nat.not_lt_zero j)]
theorem cpf_s (f g : Nat → Int32) (k : Nat) : upd (cpf f g k) k (g k) = cpf f g (k + 1) := by
  funext j
  unfold upd cpf
  by_cases h : j = k
  · subst h
    rw [if_pos rfl, if_pos (Nat.lt_succ_self j)]
  · rw [if_neg h]
    by_cases h2 : j < k
    · rw [if_pos h2, if_pos (by omega)]
    · rw [if_neg h2, if_neg (by omega)]
theorem l_expl (hR : R ≤ 1) (f1 : fs[1]? = some (.int hd)) (f8 : fs[8]? = some (.ref 52)) (f9 : fs[9]? = some (.ref 53)) (f11 : fs[11]? = some (.ref 55)) (f12 : fs[12]? = some (.ref 56)) (f13 : fs[13]? = some (.ref 57)) (f14 : fs[14]? = some (.ref 58)) (f15 : fs[15]? = some (.ref 59)) (f16 : fs[16]? = some (.ref 60)) (f17 : fs[17]? = some (.ref 61))
    (hfi : ∀ S, GS θ S n → S 46 = .inr (10, fs) → PM SL SV EX mm_X12_firstState [.ref 46] S n (fun r S' n' => n' = n ∧ r = none ∧ GS θ S' n ∧ fr1 [52] S S' n))
    (hst : ∀ S, GS θ S n → S 46 = .inr (10, fs) → ∀ i, i < 2000 → PM SL SV EX mm_X12_standAt [.ref 46, .int (nI R), .int (nI i)] S n (fun r S' n' => n' = n ∧ r = none ∧ GS θ S' n ∧ fr1 [52] S S' n))
    (hmy : ∀ S, GS θ S n → S 46 = .inr (10, fs) → ∀ x, x < 3 → ¬ hd ≤ nI x → PM SL SV EX mm_X12_maySteps [.ref 46, .int (nI x), .int pic] S n (fun r S' n' => n' = n ∧ (r = some (.int 0) ∨ r = some (.int 1)) ∧ GS θ S' n ∧ fr1 [] S S' n))
    (hsb : ∀ S, GS θ S n → S 46 = .inr (10, fs) → ∀ x, x < 3 → ¬ hd ≤ nI x → PM SL SV EX mm_X12_stepBy [.ref 46, .int (nI x), .int pic] S n (fun r S' n' => n' = n ∧ r = none ∧ GS θ S' n ∧ fr1 [53] S S' n))
    {S0 : Nat → pm_E} (hG : GS θ S0 n) (h46 : S0 46 = .inr (10, fs)) (hK : ∀ (b : Int32) S', (b = 0 ∨ b = 1) → GS θ S' n → fr1 cX S0 S' n → K (some (.int b)) S' n) : PM SL SV EX mm_X12_explore [.ref 46, .int (nI R), .int pic] S0 n K := by
  change PQ SL SV EX mm_X12_explore 0 [.ref 46, .int (nI R), .int pic, pm_un, pm_un, pm_un, pm_un, pm_un] [] S0 n 0 0 K
  have hn := gs_n hG
  obtain ⟨nt, k61, -⟩ := gs_arr hG (k := 61) rfl
  obtain ⟨cn, k60, b60⟩ := gs_a1 hG (k := 60) rfl
  refine q_iconst rfl rfl ?_
  refine q_ist3n rfl rfl rfl rfl ?_
  refine l_net hR rfl (by omega) h46 f17 k61 ?_
  have hG1 := gs_st (k := 61) (c := .inl (0, 16384, .inl (nfk nt (-1) (8192 * R) 8192))) hG rfl rfl (cell_full (k := 61) rfl _) (pk_arr k61)
  have hF1 : fr1 cX S0 (va_up S0 61 (.inl (0, 16384, .inl (nfk nt (-1) (8192 * R) 8192)))) n := fr1_up fr1_rf rfl
  have h461 : va_up S0 61 (.inl (0, 16384, .inl (nfk nt (-1) (8192 * R) 8192))) 46 = .inr (10, fs) := h46
  have k601 : va_up S0 61 (.inl (0, 16384, .inl (nfk nt (-1) (8192 * R) 8192))) 60 = .inl (0, 2, .inl cn) := k60
  have k611 : va_up S0 61 (.inl (0, 16384, .inl (nfk nt (-1) (8192 * R) 8192))) 61 = .inl (0, 16384, .inl (nfk nt (-1) (8192 * R) 8192)) := rfl
  generalize va_up S0 61 (.inl (0, 16384, .inl (nfk nt (-1) (8192 * R) 8192))) = S1 at hG1 hF1 h461 k601 k611 ⊢
  refine q_aload_n rfl rfl rfl ?_
  refine q_getf rfl rfl (by omega) h461 f16 ?_
  refine q_iload_n rfl rfl rfl ?_
  refine q_iconst rfl rfl ?_
  refine q_iast rfl rfl (by omega) k601 (q_inN (by omega) (by decide)) ?_
  rw [nI_clamp (by omega)]
  obtain ⟨cf, k56, -⟩ := gs_arr hG1 (k := 56) rfl
  have hX1 := xc_get hn hG1.2 k56
  have hG2 : GS θ (va_up S1 60 (.inl (0, 2, .inl (upd cn R 0)))) n := by
    refine gs_set hG1 (by omega) (cell_one (k := 60) rfl (fun i hi => ?_)) (xi_mk hn hG1.2 (show va_up S1 60 _ 56 = _ from k56) hX1 (fun k _ hk => va_up_ne _ _ (by omega)))
    unfold upd
    by_cases e : i = R
    · rw [if_pos e]
      decide
    · rw [if_neg e]
      exact b60 i hi
  have hF2 : fr1 cX S0 (va_up S1 60 (.inl (0, 2, .inl (upd cn R 0)))) n := fr1_up hF1 rfl
  have h462 : va_up S1 60 (.inl (0, 2, .inl (upd cn R 0))) 46 = .inr (10, fs) := h461
  have hE2 : EI R 0 (va_up S1 60 (.inl (0, 2, .inl (upd cn R 0)))) := by
    obtain ⟨ch, k58, -⟩ := gs_arr hG1 (k := 58) rfl
    refine ⟨by omega, upd cn R 0, nfk nt (-1) (8192 * R) 8192, ch, rfl, k611, k58, ?_, fun k hk => Or.inl ?_, fun i hi => by omega⟩
    · unfold upd
      rw [if_pos rfl]
      rfl
    · unfold nfk
      rw [if_pos (by omega)]
  generalize va_up S1 60 (.inl (0, 2, .inl (upd cn R 0))) = S2 at hG2 hF2 h462 hE2 ⊢
  clear hX1 k56 hG1 hF1 h461 k601 k611
  refine q_aload_n rfl rfl rfl ?_
  refine q_cV rfl rfl (Or.inl rfl) rfl rfl rfl rfl (by omega) h462 trivial rfl rfl rfl rfl rfl (hfi S2 hG2 h462) ?_
  rintro r S3 n3 ⟨rfl, rfl, hG3, hF3⟩
  have hF3' := fr1_tr (l3 := cX) hF2 hF3 rfl rfl
  have h463 : S3 46 = .inr (10, fs) := (hF3 46 (by omega) rfl).trans h462
  have hE3 : EI R 0 S3 := EI_same (hF3 60 (by omega) rfl) (hF3 61 (by omega) rfl) (hF3 58 (by omega) rfl) hE2
  clear hF3 hF2 hG2 hE2 h462
  show PQ SL SV EX mm_X12_explore 39 _ [] S3 n3 0 0 K
  refine q_iconst rfl rfl ?_
  refine q_ist3n rfl rfl rfl rfl ?_
  obtain ⟨nw, k52, b52⟩ := gs_arr hG3 (k := 52) rfl
  obtain ⟨nx, k53, b53⟩ := gs_arr hG3 (k := 53) rfl
  have fin : ∀ b3 : Value, pm_c2 b3 = false → PQ SL SV EX mm_X12_explore 65 [.ref 46, .int (nI R), .int pic, b3, pm_un, pm_un, pm_un, pm_un] [] (va_up S3 53 (.inl (0, 20, .inl (cpf nx nw 20)))) n3 0 0 K := by
    intro b3 hb3
    have hG4 : GS θ (va_up S3 53 (.inl (0, 20, .inl (cpf nx nw 20)))) n3 := by
      refine gs_st hG3 rfl rfl ⟨_, rfl, fun i hi => ?_⟩ (pk_arr k53)
      unfold cpf
      rw [if_pos (show i < 20 from hi)]
      exact b52 i hi
    have hF4 : fr1 cX S0 (va_up S3 53 (.inl (0, 20, .inl (cpf nx nw 20)))) n3 := fr1_up hF3' rfl
    have h464 : va_up S3 53 (.inl (0, 20, .inl (cpf nx nw 20))) 46 = .inr (10, fs) := h463
    have hE4 : EI R 0 (va_up S3 53 (.inl (0, 20, .inl (cpf nx nw 20)))) := EI_same rfl rfl rfl hE3
    have k534 : va_up S3 53 (.inl (0, 20, .inl (cpf nx nw 20))) 53 = .inl (0, 20, .inl (cpf nx nw 20)) := rfl
    generalize va_up S3 53 (.inl (0, 20, .inl (cpf nx nw 20))) = S4 at hG4 hF4 h464 hE4 k534 ⊢
    obtain ⟨-, cn4, nt4, ch4, q60, q61, q58, hcn, hnt, hch⟩ := id hE4
    obtain ⟨f55, k55, -⟩ := gs_arr hG4 (k := 55) rfl
    obtain ⟨f56, k56, -⟩ := gs_arr hG4 (k := 56) rfl
    obtain ⟨f57, k57, -⟩ := gs_arr hG4 (k := 57) rfl
    refine q_aload_n rfl rfl rfl ?_
    refine q_iload_n rfl rfl rfl ?_
    refine q_iconst rfl rfl ?_
    refine q_iconst rfl rfl ?_
    refine q_cV (K' := fun r S' n' => n' = n3 ∧ r = some (.int (nI 0)) ∧ S' = putS S4 R 0 (cpf nx nw 20) f55 f56 f57 ch4 nt4 cn4 (-1) (-1)) rfl rfl (Or.inl rfl) rfl rfl rfl rfl (by omega) h464 trivial rfl rfl rfl rfl rfl (l_put hR rfl hn h464 f9 f11 f12 f13 f14 f16 f17 k534 k55 k56 k57 q58 q60 q61 (by omega) hcn (fun e => by omega) (fun e => ⟨rfl, rfl, rfl⟩)) ?_
    rintro r S5 n5 ⟨rfl, rfl, rfl⟩
    obtain ⟨a1, a2, a3⟩ := put_ok (fr := -1) (by_ := -1) (cb := f57) hR hG4 k534 k55 k56 q58 q60 q61 hE4 (by omega) (Or.inl rfl)
    have h465 := (a3 46 (by omega) rfl).trans h464
    have hF5 := fr1_tr (l3 := cX) hF4 a3 rfl rfl
    show PQ SL SV EX mm_X12_explore 72 _ [.int (nI 0)] _ n5 0 0 K
    generalize putS S4 R 0 (cpf nx nw 20) f55 f56 f57 ch4 nt4 cn4 (-1) (-1) = S5 at a1 a2 h465 hF5 ⊢
    refine q_ist3n rfl rfl rfl rfl ?_
    refine q_iconst rfl rfl ?_
    refine q_ist4 rfl rfl rfl rfl ?_
    refine q_iload rfl rfl rfl ?_
    refine q_aload_n rfl rfl rfl ?_
    refine q_getf rfl rfl (by omega) h465 f16 ?_
    refine q_iload_n rfl rfl rfl ?_
    obtain ⟨-, cn5, nt5, ch5, r60, r61, r58, hcn5, -⟩ := id a2
    refine q_iald rfl rfl (by omega) r60 (q_inN (by omega) (by decide)) ?_
    rw [nI_clamp (by omega), hcn5]
    refine q_icge rfl rfl (fun c => absurd c (by decide)) (fun _ => ?_)
    refine q_iconst rfl rfl ?_
    refine q_ist5 rfl rfl rfl rfl ?_
    exact l_eloop hR f1 f9 f11 f12 f13 f14 f15 f16 f17 hst hmy hsb hK 8004 0 0 1 S5 _ _ _ (by omega) (by omega) (by omega) rfl rfl a1 h465 a2 hF5
  have key : ∀ m k : Nat, k + m = 20 → ∀ (y : Int32), y = nI k → PQ SL SV EX mm_X12_explore 41 [.ref 46, .int (nI R), .int pic, .int y, pm_un, pm_un, pm_un, pm_un] [] (va_up S3 53 (.inl (0, 20, .inl (cpf nx nw k)))) n3 0 0 K := by
    intro m
    induction m with
    | zero =>
      intro k hk y hy
      have e : k = 20 := by omega
      subst e
      have e2 : y = 20 := hy
      subst e2
      refine q_iload_n rfl rfl rfl ?_
      refine q_bipush rfl rfl ?_
      exact q_icge rfl rfl (fun _ => fin _ rfl) (fun c => absurd (by decide) c)
    | succ m ih =>
      intro k hk y hy
      refine q_iload_n rfl rfl rfl ?_
      refine q_bipush rfl rfl ?_
      refine q_icge rfl rfl (fun c => absurd c ?_) (fun _ => ?_)
      · rw [hy]; exact nI_ge (a := k) (b := 20) (by omega) (by decide)
      · subst hy
        refine q_aload_n rfl rfl rfl ?_
        refine q_getf rfl rfl (by omega) (show va_up S3 53 _ 46 = _ from h463) f9 ?_
        refine q_iload_n rfl rfl rfl ?_
        refine q_aload_n rfl rfl rfl ?_
        refine q_getf rfl rfl (by omega) (show va_up S3 53 _ 46 = _ from h463) f8 ?_
        refine q_iload_n rfl rfl rfl ?_
        refine q_iald rfl rfl (by omega) (show va_up S3 53 _ 52 = _ from k52) (q_inN (by omega) (by decide)) ?_
        refine q_iast (f := cpf nx nw k) rfl rfl (by omega) rfl (q_inN (by omega) (by decide)) (q_tS (S2 := va_up S3 53 (.inl (0, 20, .inl (cpf nx nw (k + 1))))) ?_ ?_)
        · rw [bx_uu, nI_clamp (by omega), cpf_s]
        · refine q_inc3 rfl rfl rfl rfl ?_
          refine q_goto rfl ?_
          exact ih (k + 1) (by omega) _ (nI_1 k)
  have k0 := key 20 0 (by omega) 0 rfl
  rw [cpf_0, va_same k53] at k0
  exact k0
end EXPH
