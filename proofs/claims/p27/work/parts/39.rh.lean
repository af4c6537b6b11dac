variable {θ : Th}
section RH
variable {L : Nat} {xs : Nat → Int32} {S : Nat → pm_E} {n : Nat}
def zf (f : Nat → Int32) (k : Nat) : Nat → Int32 := fun j => if j < k then 0 else f j
theorem zf_0 (f : Nat → Int32) : zf f 0 = f := by
  funext j
  unfold zf
  rw [if_neg (Nat.not_lt_zero j)]
theorem zf_s (f : Nat → Int32) (k : Nat) : upd (zf f k) k 0 = zf f (k + 1) := by
  funext j
  unfold upd zf
  by_cases h : j = k
  · subst h
    rw [if_pos rfl, if_pos (Nat.lt_succ_self j)]
  · rw [if_neg h]
    by_cases h2 : j < k
    · rw [if_pos h2, if_pos (by omega)]
    · rw [if_neg h2, if_neg (by omega)]
theorem l_rpuz {h : Int32} (hG : GS θ S n) : PM (j_SL L) (j_SV xs) j_EX mm_X12_puzzle [.ref 46, .int h] S n (fun r S' n' => ZP 62 S S' ∧ n' = n ∧ fr1 [46, 47, 51, 52, 54, 62, 74] S S' n ∧ (¬ inP h 1 3 → S' = S) ∧ (inP h 1 3 → zr 62 S' ∧ ∃ g : Nat → Int32, S' 51 = .inl (0, 4, .inl g) ∧ ∀ p, p < 4 → g p = 0) ∧ ∃ (z : Int32) (θ' : Th), r = some (.int z) ∧ GS θ' S' n ∧ pzR θ h z θ') := by
  have hn := gs_n hG
  obtain ⟨mn, fk, fa, fn, fs, k47, k48, k49, k50, k46, m5, m6, f1, hd, hm, hf⟩ := xm_get hG
  change PQ (j_SL L) (j_SV xs) j_EX mm_X12_puzzle 0 [.ref 46, .int h, pm_un, pm_un] [] S n 0 0 _
  refine q_aload_n rfl rfl rfl ?_
  refine q_iload_n rfl rfl rfl ?_
  refine q_iconst rfl rfl ?_
  refine q_iconst rfl rfl ?_
  refine q_cV rfl rfl (Or.inl rfl) rfl rfl rfl rfl (by omega) k46 trivial rfl rfl rfl rfl rfl l_in ?_
  rintro r S1 n1 ⟨rfl, rfl, ⟨q, rfl⟩ | ⟨q, rfl⟩⟩
  · show PQ (j_SL L) (j_SV xs) j_EX mm_X12_puzzle 7 _ [.int 0] S1 n1 0 0 _
    refine q_ifne rfl rfl (fun _ => ?_) (fun c => absurd rfl c)
    refine q_iconst rfl rfl ?_
    exact q_iret rfl rfl trivial ⟨Or.inl rfl, rfl, fr1_rf, fun _ => rfl, fun e => absurd e q, -1, θ, rfl, hG, Or.inl ⟨q, rfl, rfl⟩⟩
  · show PQ (j_SL L) (j_SV xs) j_EX mm_X12_puzzle 7 _ [.int 1] S1 n1 0 0 _
    refine q_ifne rfl rfl (fun c => absurd c (by decide)) (fun _ => ?_)
    refine q_iconst rfl rfl ?_
    refine q_ist2n rfl rfl rfl rfl ?_
    refine q_iconst rfl rfl ?_
    refine q_ist3n rfl rfl rfl rfl ?_
    have hI : 1 ≤ h.toInt ∧ h.toInt ≤ 3 := by
      unfold inP at q
      rw [Int32.le_iff_toInt_le, Int32.le_iff_toInt_le] at q
      exact q
    -- behind the hands' loop
    have fin : ∀ (S3 : Nat → pm_E) (w : Int32) (θ3 : Th), GS θ3 S3 n1 → fr1 [47] S1 S3 n1 → (θ3.1, θ3.2.1, θ3.2.2.1, θ3.2.2.2.1, h) = pzT θ h → w = pzS θ → PQ (j_SL L) (j_SV xs) j_EX mm_X12_puzzle 16 [.ref 46, .int h, .int w, .int (nI 3)] [] S3 n1 0 0 (fun r S' n' => ZP 62 S1 S' ∧ n' = n1 ∧ fr1 [46, 47, 51, 52, 54, 62, 74] S1 S' n1 ∧ (¬ inP h 1 3 → S' = S1) ∧ (inP h 1 3 → zr 62 S' ∧ ∃ g : Nat → Int32, S' 51 = .inl (0, 4, .inl g) ∧ ∀ p, p < 4 → g p = 0) ∧ ∃ (z : Int32) (θ' : Th), r = some (.int z) ∧ GS θ' S' n1 ∧ pzR θ h z θ') := by
      intro S3 w θ3 g3 hF3 eT ew
      obtain ⟨mn3, fk3, fa3, fn3, fs3, q47, q48, q49, q50, q46, p5, p6, g1, gd, gm, gf⟩ := xm_get g3
      refine q_iload_n rfl rfl rfl ?_
      refine q_iconst rfl rfl ?_
      refine q_icge rfl rfl (fun _ => ?_) (fun c => absurd (by decide) c)
      refine q_aload_n rfl rfl rfl ?_
      refine q_iload_n rfl rfl rfl ?_
      refine q_putf rfl rfl (by omega) q46 ((List.getElem?_eq_some_iff.mp g1).1) rfl trivial ?_
      have g4 := gs_hands (v := h) g3 q46 hI
      rw [eT] at g4
      have hF4 : fr1 [46, 47] S1 (va_up S3 46 (.inr (10, fs3.set 1 (.int h)))) n1 := fr1_up (fr1_tr (l := []) (l3 := [46, 47]) fr1_rf hF3 rfl rfl) rfl
      have h464 : ∃ fs4, va_up S3 46 (.inr (10, fs3.set 1 (.int h))) 46 = .inr (10, fs4) := ⟨_, rfl⟩
      generalize va_up S3 46 (.inr (10, fs3.set 1 (.int h))) = S4 at g4 hF4 h464 ⊢
      obtain ⟨fs4, r46, rf⟩ := gs_obj g4 (k := 46) rfl
      obtain ⟨vf, k51, -⟩ := gs_a1 g4 (k := 51) rfl
      refine q_iconst rfl rfl ?_
      refine q_ist3n rfl rfl rfl rfl ?_
      have key : ∀ m k : Nat, k + m = 4 → ∀ (S5 : Nat → pm_E) (y : Int32), y = nI k → GS (pzT θ h) S5 n1 → S5 46 = .inr (10, fs4) → S5 51 = .inl (0, 4, .inl (zf vf k)) → fr1 [46, 47, 51] S1 S5 n1 → PQ (j_SL L) (j_SV xs) j_EX mm_X12_puzzle 62 [.ref 46, .int h, .int w, .int y] [] S5 n1 0 0 (fun r S' n' => ZP 62 S1 S' ∧ n' = n1 ∧ fr1 [46, 47, 51, 52, 54, 62, 74] S1 S' n1 ∧ (¬ inP h 1 3 → S' = S1) ∧ (inP h 1 3 → zr 62 S' ∧ ∃ g : Nat → Int32, S' 51 = .inl (0, 4, .inl g) ∧ ∀ p, p < 4 → g p = 0) ∧ ∃ (z : Int32) (θ' : Th), r = some (.int z) ∧ GS θ' S' n1 ∧ pzR θ h z θ') := by
        intro m
        induction m with
        | zero =>
          intro k hk S5 y hy g5 u46 u51 hF5
          have e : k = 4 := by omega
          subst e
          have e2 : y = 4 := hy
          subst e2
          refine q_iload_n rfl rfl rfl ?_
          refine q_iconst rfl rfl ?_
          refine q_icge rfl rfl (fun _ => ?_) (fun c => absurd (by decide) c)
          refine q_aload_n rfl rfl rfl ?_
          refine q_cV rfl rfl (Or.inl rfl) rfl rfl rfl rfl (by omega) u46 trivial rfl rfl rfl rfl rfl (w_chg g5) ?_
          rintro r S6 n6 ⟨rfl, rfl, g6, hF6, hzq⟩
          show PQ (j_SL L) (j_SV xs) j_EX mm_X12_puzzle 84 _ [] S6 n6 0 0 _
          refine q_iload_n rfl rfl rfl ?_
          refine q_iret rfl rfl trivial ⟨Or.inr hzq, rfl, fr1_tr hF5 hF6 rfl rfl, fun e => absurd q e, fun _ => ⟨hzq, _, (hF6 51 (by omega) rfl).trans u51, fun p hp => if_pos hp⟩, w, _, rfl, g6, Or.inr ⟨q, ew, rfl⟩⟩
        | succ m ih =>
          intro k hk S5 y hy g5 u46 u51 hF5
          subst hy
          refine q_iload_n rfl rfl rfl ?_
          refine q_iconst rfl rfl ?_
          refine q_icge rfl rfl (fun c => absurd c (nI_ge (a := k) (b := 4) (by omega) (by decide))) (fun _ => ?_)
          refine q_aload_n rfl rfl rfl ?_
          refine q_getf rfl rfl (by omega) u46 (fo_ref (rf 6 _ rfl) rfl) ?_
          refine q_iload_n rfl rfl rfl ?_
          refine q_iconst rfl rfl ?_
          refine q_iast rfl rfl (by show 51 < n1; omega) u51 (q_inN (by omega) (by decide)) ?_
          rw [nI_clamp (by omega)]
          refine q_inc3 rfl rfl rfl rfl ?_
          refine q_goto rfl ?_
          have g6 := gs_one (k := 51) (i := k) (v := 0) g5 rfl rfl u51 (fullI _)
          refine ih (k + 1) (by omega) _ _ (nI_1 k) g6 u46 ?_ (fr1_up hF5 rfl)
          show va_up S5 51 (.inl (0, 4, .inl (upd (zf vf k) k 0))) 51 = _
          rw [va_up_self, zf_s]
      exact key 4 0 (by omega) S4 0 rfl g4 r46 (by rw [zf_0]; exact k51) (fr1_tr (l := []) (l3 := [46, 47, 51]) fr1_rf hF4 rfl rfl)
    have st : ∀ k, k < 3 → ∀ (θ2 : Th) (S2 : Nat → pm_E) (w : Int32), GS θ2 S2 n1 → θ2.2.2.2.2 = θ.2.2.2.2 → fr1 [47] S1 S2 n1 → (∀ S3, GS (upd θ2.1 k 0, θ2.2) S3 n1 → fr1 [47] S1 S3 n1 → PQ (j_SL L) (j_SV xs) j_EX mm_X12_puzzle 16 [.ref 46, .int h, .int (w + (if θ.2.2.2.2 ≤ nI k then 0 else θ2.1 k)), .int (nI (k + 1))] [] S3 n1 0 0 (fun r S' n' => ZP 62 S1 S' ∧ n' = n1 ∧ fr1 [46, 47, 51, 52, 54, 62, 74] S1 S' n1 ∧ (¬ inP h 1 3 → S' = S1) ∧ (inP h 1 3 → zr 62 S' ∧ ∃ g : Nat → Int32, S' 51 = .inl (0, 4, .inl g) ∧ ∀ p, p < 4 → g p = 0) ∧ ∃ (z : Int32) (θ' : Th), r = some (.int z) ∧ GS θ' S' n1 ∧ pzR θ h z θ')) → PQ (j_SL L) (j_SV xs) j_EX mm_X12_puzzle 16 [.ref 46, .int h, .int w, .int (nI k)] [] S2 n1 0 0 (fun r S' n' => ZP 62 S1 S' ∧ n' = n1 ∧ fr1 [46, 47, 51, 52, 54, 62, 74] S1 S' n1 ∧ (¬ inP h 1 3 → S' = S1) ∧ (inP h 1 3 → zr 62 S' ∧ ∃ g : Nat → Int32, S' 51 = .inl (0, 4, .inl g) ∧ ∀ p, p < 4 → g p = 0) ∧ ∃ (z : Int32) (θ' : Th), r = some (.int z) ∧ GS θ' S' n1 ∧ pzR θ h z θ') := by
      intro k hk θ2 S2 w g2 ehd hF2 kk
      obtain ⟨mn3, fk3, fa3, fn3, fs3, q47, q48, q49, q50, q46, p5, p6, g1, gd, gm, gf⟩ := xm_get g2
      have f2 := fo_ref (gf 2 _ rfl) rfl
      refine q_iload_n rfl rfl rfl ?_
      refine q_iconst rfl rfl ?_
      refine q_icge rfl rfl (fun c => absurd c (nI_ge (a := k) (b := 3) (by omega) (by decide))) (fun _ => ?_)
      refine q_iload_n rfl rfl rfl ?_
      refine q_iload_n rfl rfl rfl ?_
      refine q_aload_n rfl rfl rfl ?_
      refine q_getf rfl rfl (by omega) q46 g1 ?_
      have tl : ∀ a : Int32, (if θ.2.2.2.2 ≤ nI k then 0 else θ2.1 k) = a → PQ (j_SL L) (j_SV xs) j_EX mm_X12_puzzle 40 [.ref 46, .int h, .int w, .int (nI k)] [.int a, .int w] S2 n1 0 0 (fun r S' n' => ZP 62 S1 S' ∧ n' = n1 ∧ fr1 [46, 47, 51, 52, 54, 62, 74] S1 S' n1 ∧ (¬ inP h 1 3 → S' = S1) ∧ (inP h 1 3 → zr 62 S' ∧ ∃ g : Nat → Int32, S' 51 = .inl (0, 4, .inl g) ∧ ∀ p, p < 4 → g p = 0) ∧ ∃ (z : Int32) (θ' : Th), r = some (.int z) ∧ GS θ' S' n1 ∧ pzR θ h z θ') := by
        intro a ha
        refine q_iadd rfl rfl ?_
        refine q_ist2n rfl rfl rfl rfl ?_
        refine q_aload_n rfl rfl rfl ?_
        refine q_getf rfl rfl (by omega) q46 f2 ?_
        refine q_iload_n rfl rfl rfl ?_
        refine q_iconst rfl rfl ?_
        refine q_iast rfl rfl (by show 47 < n1; omega) q47 (q_inN (by omega) (by decide)) ?_
        rw [nI_clamp (by omega)]
        refine q_inc3 rfl rfl rfl rfl ?_
        rw [nI_1]
        refine q_goto rfl ?_
        subst ha
        exact kk _ (gs_many (v := 0) g2 q47 hk (by decide)) (fr1_up hF2 rfl)
      refine q_icge rfl rfl (fun c => ?_) (fun c => ?_)
      · refine q_iconst rfl rfl ?_
        exact tl 0 (if_pos (ehd ▸ c))
      · refine q_aload_n rfl rfl rfl ?_
        refine q_getf rfl rfl (by omega) q46 f2 ?_
        refine q_iload_n rfl rfl rfl ?_
        refine q_iald rfl rfl (by show 47 < n1; omega) q47 (q_inN (by omega) (by decide)) (q_tn (z := θ2.1 k) (by rw [nI_clamp (by omega)]; exact p5 k hk) ?_)
        refine q_goto rfl ?_
        exact tl (θ2.1 k) (if_neg (ehd ▸ c))
    refine st 0 (by omega) θ S1 0 hG rfl fr1_rf (fun S2 g2 hF2 => ?_)
    refine st 1 (by omega) _ S2 _ g2 rfl hF2 (fun S3 g3 hF3 => ?_)
    refine st 2 (by omega) _ S3 _ g3 rfl hF3 (fun S4 g4 hF4 => ?_)
    exact fin S4 _ _ g4 hF4 rfl rfl
end RH
