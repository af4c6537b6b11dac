/-! the law's loop, printed by wip/gen_loop.py -/
section LP
variable {Ls : Nat} {xs : Nat → Int32} {K : q_K} {J : Th → (Nat → pm_E) → Prop}
/-- what the law asks behind a call -/
def GKJ (J : Th → (Nat → pm_E) → Prop) (Ls : Nat) (xs : Nat → Int32) (c s p : Nat) (K : q_K) : Prop := ∀ (θ' : Th) (S' : Nat → pm_E) (n' c' s' : Nat) (b5 b6 b7 : Value), GS θ' S' n' → J θ' S' → c' ≤ c + 5 → s' ≤ s + 124 → PQ (j_SL Ls) (j_SV xs) j_EX mm_L_law 1267 [.float 5, .ref 0, .ref 46, .ref 81, .int (nI p), b5, b6, b7] [] S' n' c' s' K
/-- a case of the law that starts at pc is right -/
def OKJ (J : Th → (Nat → pm_E) → Prop) (Ls : Nat) (xs : Nat → Int32) (K : q_K) (pc : Nat) : Prop := ∀ (θ : Th) (S : Nat → pm_E) (n c s p : Nat) (a5 a6 a7 : Value), GS θ S n → J θ S → p + 6 ≤ Ls → c + 5 ≤ 601024 → s + 124 ≤ 7293033 → GKJ J Ls xs c s p K → PQ (j_SL Ls) (j_SV xs) j_EX mm_L_law pc [.float 5, .ref 0, .ref 46, .ref 81, .int (nI p), a5, a6, a7] [] S n c s K
theorem lp_sub {Ls : Nat} (hL : Ls < 2 ^ 30) : (nI Ls - 6).toInt = (Ls : Int) - 6 := by
  have e2 : (nI Ls - 6).toInt = ((nI Ls).toInt - (6 : Int32).toInt).bmod 4294967296 := Int32.toInt_sub (nI Ls) 6
  have e6 : (6 : Int32).toInt = 6 := rfl
  have e := nI_toInt (n := Ls) (by omega)
  rw [ck_bm (by show (-2147483648 : Int) ≤ _; omega) (by show _ ≤ (2147483647 : Int); omega)] at e2
  omega
theorem lp_end (hK : ∀ S n, K (some (.int 1)) S n) {S : Nat → pm_E} {n c s p : Nat} {a5 a6 a7 : Value} : PQ (j_SL Ls) (j_SV xs) j_EX mm_L_law 1273 [.float 5, .ref 0, .ref 46, .ref 81, .int (nI p), a5, a6, a7] [] S n c s K := by
  refine q_iconst rfl rfl ?_
  exact q_iret rfl rfl rfl (hK _ _)
set_option maxHeartbeats 4000000 in
theorem t_loop (h0 : OKJ J Ls xs K 172) (h1 : OKJ J Ls xs K 197) (h2 : OKJ J Ls xs K 258) (h3 : OKJ J Ls xs K 283) (h4 : OKJ J Ls xs K 320) (h5 : OKJ J Ls xs K 369) (h6 : OKJ J Ls xs K 382) (h7 : OKJ J Ls xs K 407) (h8 : OKJ J Ls xs K 444) (h9 : OKJ J Ls xs K 469) (h10 : OKJ J Ls xs K 494) (h11 : OKJ J Ls xs K 531) (h12 : OKJ J Ls xs K 556) (h13 : OKJ J Ls xs K 593) (h14 : OKJ J Ls xs K 618) (h15 : OKJ J Ls xs K 655) (h16 : OKJ J Ls xs K 716) (h17 : OKJ J Ls xs K 765) (h18 : OKJ J Ls xs K 814) (h19 : OKJ J Ls xs K 851) (h20 : OKJ J Ls xs K 916) (h21 : OKJ J Ls xs K 941) (h22 : OKJ J Ls xs K 954) (h23 : OKJ J Ls xs K 967) (h24 : OKJ J Ls xs K 1028) (h25 : OKJ J Ls xs K 1077) (h26 : OKJ J Ls xs K 1144) (h27 : OKJ J Ls xs K 1217) (h28 : OKJ J Ls xs K 1242) (hK : ∀ S n, K (some (.int 1)) S n) (hL : Ls < 2 ^ 30) : ∀ (q p : Nat), Ls ≤ p + 6 * q + 5 → p + 6 * q < 2 ^ 30 → ∀ (θ : Th) (S : Nat → pm_E) (n c s : Nat) (a5 a6 a7 : Value), GS θ S n → J θ S → c + 5 * q ≤ 601024 → s + 124 * q ≤ 7293033 → PQ (j_SL Ls) (j_SV xs) j_EX mm_L_law 23 [.float 5, .ref 0, .ref 46, .ref 81, .int (nI p), a5, a6, a7] [] S n c s K := by
  intro q
  induction q with
  | zero =>
    intro p u1 u2 θ S n c s a5 a6 a7 hG hj hc hs
    refine q_iload rfl rfl rfl ?_
    refine q_aload_nF rfl rfl rfl ?_
    refine q_alenX (x := nI Ls) rfl rfl rfl ?_
    refine q_bipush rfl rfl ?_
    refine q_isub rfl rfl ?_
    refine q_icgt rfl rfl (fun _ => lp_end hK) (fun c1 => absurd ?_ c1)
    have e := lp_sub hL
    have e2 := nI_toInt (n := p) (by omega)
    rw [Int32.lt_iff_toInt_lt]
    show (nI Ls - 6).toInt < _
    omega
  | succ q ih =>
    intro p u1 u2 θ S n c s a5 a6 a7 hG hj hc hs
    refine q_iload rfl rfl rfl ?_
    refine q_aload_nF rfl rfl rfl ?_
    refine q_alenX (x := nI Ls) rfl rfl rfl ?_
    refine q_bipush rfl rfl ?_
    refine q_isub rfl rfl ?_
    refine q_icgt rfl rfl (fun _ => lp_end hK) (fun c1 => ?_)
    have hp : p + 6 ≤ Ls := by
      have e := lp_sub hL
      have e2 := nI_toInt (n := p) (by omega)
      rw [Int32.lt_iff_toInt_lt] at c1
      have c2 : ¬ (nI Ls - 6).toInt < (nI p).toInt := c1
      omega
    have hL2 : Ls < 2 ^ 31 := by omega
    have hc5 : c + 5 ≤ 601024 := by omega
    have hs5 : s + 124 ≤ 7293033 := by omega
    have next : GKJ J Ls xs c s p K := by
      intro θ' S' n' c' s' b5 b6 b7 g' j' lc ls
      refine q_inc4 rfl rfl rfl rfl ?_
      refine q_goto rfl ?_
      rw [show nI p + 6 = nI (p + 6) from nI_add p 6]
      exact ih (p + 6) (by omega) (by omega) θ' S' n' c' s' b5 b6 b7 g' j' (by omega) (by omega)
    refine q_aload_nF rfl rfl rfl ?_
    refine q_iload rfl rfl rfl ?_
    refine q_ialdF rfl rfl (q_inN (m := Ls) (by omega) hL2) ?_
    refine q_bipush rfl rfl ?_
    obtain ⟨j, hj32, e⟩ := pk_andE (j_SV xs (5 : UInt32).toNat (nI p).toNatClampNeg) (m := 31) 5 rfl
    refine q_iand rfl rfl (q_tn (z := nI j) e ?_)
    match j, hj32 with
    | 0, _ => exact q_switch (q := 172) rfl rfl (h0 θ S n c s p a5 a6 a7 hG hj hp hc5 hs5 next)
    | 1, _ => exact q_switch (q := 197) rfl rfl (h1 θ S n c s p a5 a6 a7 hG hj hp hc5 hs5 next)
    | 2, _ => exact q_switch (q := 258) rfl rfl (h2 θ S n c s p a5 a6 a7 hG hj hp hc5 hs5 next)
    | 3, _ => exact q_switch (q := 283) rfl rfl (h3 θ S n c s p a5 a6 a7 hG hj hp hc5 hs5 next)
    | 4, _ => exact q_switch (q := 320) rfl rfl (h4 θ S n c s p a5 a6 a7 hG hj hp hc5 hs5 next)
    | 5, _ => exact q_switch (q := 369) rfl rfl (h5 θ S n c s p a5 a6 a7 hG hj hp hc5 hs5 next)
    | 6, _ => exact q_switch (q := 382) rfl rfl (h6 θ S n c s p a5 a6 a7 hG hj hp hc5 hs5 next)
    | 7, _ => exact q_switch (q := 407) rfl rfl (h7 θ S n c s p a5 a6 a7 hG hj hp hc5 hs5 next)
    | 8, _ => exact q_switch (q := 444) rfl rfl (h8 θ S n c s p a5 a6 a7 hG hj hp hc5 hs5 next)
    | 9, _ => exact q_switch (q := 469) rfl rfl (h9 θ S n c s p a5 a6 a7 hG hj hp hc5 hs5 next)
    | 10, _ => exact q_switch (q := 494) rfl rfl (h10 θ S n c s p a5 a6 a7 hG hj hp hc5 hs5 next)
    | 11, _ => exact q_switch (q := 531) rfl rfl (h11 θ S n c s p a5 a6 a7 hG hj hp hc5 hs5 next)
    | 12, _ => exact q_switch (q := 556) rfl rfl (h12 θ S n c s p a5 a6 a7 hG hj hp hc5 hs5 next)
    | 13, _ => exact q_switch (q := 593) rfl rfl (h13 θ S n c s p a5 a6 a7 hG hj hp hc5 hs5 next)
    | 14, _ => exact q_switch (q := 618) rfl rfl (h14 θ S n c s p a5 a6 a7 hG hj hp hc5 hs5 next)
    | 15, _ => exact q_switch (q := 655) rfl rfl (h15 θ S n c s p a5 a6 a7 hG hj hp hc5 hs5 next)
    | 16, _ => exact q_switch (q := 716) rfl rfl (h16 θ S n c s p a5 a6 a7 hG hj hp hc5 hs5 next)
    | 17, _ => exact q_switch (q := 765) rfl rfl (h17 θ S n c s p a5 a6 a7 hG hj hp hc5 hs5 next)
    | 18, _ => exact q_switch (q := 814) rfl rfl (h18 θ S n c s p a5 a6 a7 hG hj hp hc5 hs5 next)
    | 19, _ => exact q_switch (q := 851) rfl rfl (h19 θ S n c s p a5 a6 a7 hG hj hp hc5 hs5 next)
    | 20, _ => exact q_switch (q := 916) rfl rfl (h20 θ S n c s p a5 a6 a7 hG hj hp hc5 hs5 next)
    | 21, _ => exact q_switch (q := 941) rfl rfl (h21 θ S n c s p a5 a6 a7 hG hj hp hc5 hs5 next)
    | 22, _ => exact q_switch (q := 954) rfl rfl (h22 θ S n c s p a5 a6 a7 hG hj hp hc5 hs5 next)
    | 23, _ => exact q_switch (q := 967) rfl rfl (h23 θ S n c s p a5 a6 a7 hG hj hp hc5 hs5 next)
    | 24, _ => exact q_switch (q := 1028) rfl rfl (h24 θ S n c s p a5 a6 a7 hG hj hp hc5 hs5 next)
    | 25, _ => exact q_switch (q := 1077) rfl rfl (h25 θ S n c s p a5 a6 a7 hG hj hp hc5 hs5 next)
    | 26, _ => exact q_switch (q := 1144) rfl rfl (h26 θ S n c s p a5 a6 a7 hG hj hp hc5 hs5 next)
    | 27, _ => exact q_switch (q := 1217) rfl rfl (h27 θ S n c s p a5 a6 a7 hG hj hp hc5 hs5 next)
    | 28, _ => exact q_switch (q := 1242) rfl rfl (h28 θ S n c s p a5 a6 a7 hG hj hp hc5 hs5 next)
    | 29, _ => exact q_switch (q := 1267) rfl rfl (next θ S n c s a5 a6 a7 hG hj (by omega) (by omega))
    | 30, _ => exact q_switch (q := 1267) rfl rfl (next θ S n c s a5 a6 a7 hG hj (by omega) (by omega))
    | 31, _ => exact q_switch (q := 1267) rfl rfl (next θ S n c s a5 a6 a7 hG hj (by omega) (by omega))
    | j + 32, h => omega
/-- the whole run, out of what the compared cases and those that change the reference's program do -/
theorem t_run (h0 : OKJ J Ls xs K 172) (h1 : OKJ J Ls xs K 197) (h2 : OKJ J Ls xs K 258) (h3 : OKJ J Ls xs K 283) (h4 : OKJ J Ls xs K 320) (h5 : OKJ J Ls xs K 369) (h6 : OKJ J Ls xs K 382) (h7 : OKJ J Ls xs K 407) (h8 : OKJ J Ls xs K 444) (h9 : OKJ J Ls xs K 469) (h10 : OKJ J Ls xs K 494) (h11 : OKJ J Ls xs K 531) (h12 : OKJ J Ls xs K 556) (h13 : OKJ J Ls xs K 593) (h14 : OKJ J Ls xs K 618) (h15 : OKJ J Ls xs K 655) (h16 : OKJ J Ls xs K 716) (h17 : OKJ J Ls xs K 765) (h18 : OKJ J Ls xs K 814) (h19 : OKJ J Ls xs K 851) (h20 : OKJ J Ls xs K 916) (h21 : OKJ J Ls xs K 941) (h22 : OKJ J Ls xs K 954) (h23 : OKJ J Ls xs K 967) (h24 : OKJ J Ls xs K 1028) (h25 : OKJ J Ls xs K 1077) (h26 : OKJ J Ls xs K 1144) (h27 : OKJ J Ls xs K 1217) (h28 : OKJ J Ls xs K 1242) (hK : ∀ S n, K (some (.int 1)) S n) (hL : Ls ≤ 3072) (hI : ∀ S, FW S → J th0 S) {S : Nat → pm_E} : PQ (j_SL Ls) (j_SV xs) j_EX mm_L_law 0 [.float 5, pm_un, pm_un, pm_un, pm_un, pm_un, pm_un, pm_un] [] S 0 0 0 K :=
  t_init (fun S hW => t_loop h0 h1 h2 h3 h4 h5 h6 h7 h8 h9 h10 h11 h12 h13 h14 h15 h16 h17 h18 h19 h20 h21 h22 h23 h24 h25 h26 h27 h28 hK (by omega) 512 0 (by omega) (by omega) th0 S 82 82 190091 pm_un pm_un pm_un (gs_init hW) (hI S hW) (by omega) (by omega))
end LP
