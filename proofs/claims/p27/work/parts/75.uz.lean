/-! the class's code against the reference's; case 1 of the law -/
section UZ
variable {θ : Th} {L Ls : Nat} {xs : Nat → Int32} {S : Nat → pm_E} {n : Nat} {K : q_K}
set_option maxHeartbeats 4000000 in
theorem c_ap {fs : List Value} {h : Int32} {ln : Nat → Int32} {X m : Nat} {k a v : Int32} (hG : GS θ S n) (k1 : S 1 = .inr (6, fs)) (f0 : fs[0]? = some (.int h)) (k3 : S 3 = .inl (0, 3, .inl ln)) (hX : X < 3) (h0 : 0 ≤ nI X ∧ nI X < h) (hl : ln X = nI m) (hm : m < 8) : PM (j_SL L) (j_SV xs) j_EX mm_X8_append [.ref 1, .int (nI X), .int k, .int a, .int v] S n (fun r S' n' => r = none ∧ n = n' ∧ GS θ S' n ∧ S' 0 = S 0 ∧ S' 1 = S 1 ∧ S' 3 = .inl (0, 3, .inl (upd ln X (nI (m + 1)))) ∧ fr1 [3, 4, 5, 6] S S' n ∧ ∀ l4 l5 l6 : Nat → Int32, S 4 = .inl (0, 24, .inl l4) → S 5 = .inl (0, 24, .inl l5) → S 6 = .inl (0, 24, .inl l6) → S' 4 = .inl (0, 24, .inl (upd l4 (8 * X + m) k)) ∧ S' 5 = .inl (0, 24, .inl (upd l5 (8 * X + m) a)) ∧ S' 6 = .inl (0, 24, .inl (upd l6 (8 * X + m) v))) := by
  have hn := gs_n hG
  obtain ⟨gs, g1, hg⟩ := gs_obj hG (k := 1) rfl
  rw [k1] at g1
  cases g1
  have f2 : fs[2]? = some (.ref 3) := fo_ref (hg 2 _ rfl) rfl
  have f3 : fs[3]? = some (.ref 4) := fo_ref (hg 3 _ rfl) rfl
  have f4 : fs[4]? = some (.ref 5) := fo_ref (hg 4 _ rfl) rfl
  have f5 : fs[5]? = some (.ref 6) := fo_ref (hg 5 _ rfl) rfl
  obtain ⟨l4, k4, -⟩ := gs_a1 hG (k := 4) rfl
  obtain ⟨l5, k5, -⟩ := gs_a1 hG (k := 5) rfl
  obtain ⟨l6, k6, -⟩ := gs_a1 hG (k := 6) rfl
  obtain ⟨ln', k3', hb3⟩ := gs_a1 hG (k := 3) rfl
  rw [k3] at k3'
  cases k3'
  have c8 : ¬ (8 : Int32) ≤ nI m := nI_ge (a := m) (b := 8) hm (by decide)
  change PQ (j_SL L) (j_SV xs) j_EX mm_X8_append 0 [.ref 1, .int (nI X), .int k, .int a, .int v, pm_un] [] S n 0 0 _
  refine q_aload_n rfl rfl rfl ?_
  refine q_iload_n rfl rfl rfl ?_
  refine q_cV rfl rfl (Or.inl rfl) rfl rfl rfl rfl (by omega) k1 trivial rfl rfl rfl rfl rfl (c_hh hn k1 f0) ?_
  rintro r _ _ ⟨rfl, rfl, hr⟩
  rcases hr with ⟨hr, -⟩ | ⟨-, rfl⟩
  · exact absurd h0 hr
  show PQ (j_SL L) (j_SV xs) j_EX mm_X8_append 5 _ [.int 1] S n 0 0 _
  refine q_ifeq rfl rfl (fun c => absurd c (by decide)) (fun _ => ?_)
  refine q_aload_n rfl rfl rfl ?_
  refine q_getf rfl rfl (by omega) k1 f2 ?_
  refine q_iload_n rfl rfl rfl ?_
  refine q_iald rfl rfl (by omega) k3 (q_inN hX (by decide)) (q_tn (z := nI m) (by rw [nI_clamp (by omega), hl]) ?_)
  refine q_bipush rfl rfl ?_
  refine q_iclt rfl rfl (fun _ => ?_) (fun c => absurd (i_nle c8) c)
  refine q_iload_n rfl rfl rfl ?_
  refine q_bipush rfl rfl ?_
  refine q_imul rfl rfl (q_tn (z := nI (X * 8)) (by rw [show (8 : Int32) = nI 8 from rfl, pk_mul]) ?_)
  refine q_aload_n rfl rfl rfl ?_
  refine q_getf rfl rfl (by omega) k1 f2 ?_
  refine q_iload_n rfl rfl rfl ?_
  refine q_iald rfl rfl (by omega) k3 (q_inN hX (by decide)) (q_tn (z := nI m) (by rw [nI_clamp (by omega), hl]) ?_)
  refine q_iadd rfl rfl (q_tn (z := nI (X * 8 + m)) (nI_add _ _) ?_)
  refine q_ist5 rfl rfl rfl rfl ?_
  refine q_aload_n rfl rfl rfl ?_
  refine q_getf rfl rfl (by omega) k1 f3 ?_
  refine q_iload rfl rfl rfl ?_
  refine q_iload_n rfl rfl rfl ?_
  refine q_iast rfl rfl (by omega) k4 (q_inN (by omega) (by decide)) ?_
  refine q_aload_n rfl rfl rfl ?_
  refine q_getf rfl rfl (by omega) ((u_ne (by decide)).trans k1) f4 ?_
  refine q_iload rfl rfl rfl ?_
  refine q_iload_n rfl rfl rfl ?_
  refine q_iast rfl rfl (by omega) ((u_ne (by decide)).trans k5) (q_inN (by omega) (by decide)) ?_
  refine q_aload_n rfl rfl rfl ?_
  refine q_getf rfl rfl (by omega) ((u_ne (by decide)).trans ((u_ne (by decide)).trans k1)) f5 ?_
  refine q_iload rfl rfl rfl ?_
  refine q_iload rfl rfl rfl ?_
  refine q_iast rfl rfl (by omega) ((u_ne (by decide)).trans ((u_ne (by decide)).trans k6)) (q_inN (by omega) (by decide)) ?_
  refine q_aload_n rfl rfl rfl ?_
  refine q_getf rfl rfl (by omega) ((u_ne (by decide)).trans ((u_ne (by decide)).trans ((u_ne (by decide)).trans k1))) f2 ?_
  refine q_iload_n rfl rfl rfl ?_
  refine q_dup2 rfl rfl ?_
  refine q_iald rfl rfl (by omega) ((u_ne (by decide)).trans ((u_ne (by decide)).trans ((u_ne (by decide)).trans k3))) (q_inN hX (by decide)) (q_tn (z := nI m) (by rw [nI_clamp (by omega), hl]) ?_)
  refine q_iconst rfl rfl ?_
  refine q_iadd rfl rfl (q_tn (z := nI (m + 1)) (nI_add m 1) ?_)
  refine q_iast rfl rfl (by omega) ((u_ne (by decide)).trans ((u_ne (by decide)).trans ((u_ne (by decide)).trans k3))) (q_inN hX (by decide)) ?_
  rw [nI_clamp (n := X) (by omega), nI_clamp (n := X * 8 + m) (by omega), Nat.mul_comm X 8]
  refine q_ret rfl rfl ⟨rfl, rfl, ?_, (u_ne (by decide)).trans ((u_ne (by decide)).trans ((u_ne (by decide)).trans (u_ne (by decide)))), (u_ne (by decide)).trans ((u_ne (by decide)).trans ((u_ne (by decide)).trans (u_ne (by decide)))), u_eq, fr1_up (fr1_up (fr1_up (fr1_up fr1_rf rfl) rfl) rfl) rfl, fun m4 m5 m6 q4 q5 q6 => ?_⟩
  rotate_left
  · rw [k4] at q4
    rw [k5] at q5
    rw [k6] at q6
    cases q4
    cases q5
    cases q6
    exact ⟨(u_ne (by decide)).trans ((u_ne (by decide)).trans ((u_ne (by decide)).trans u_eq)), (u_ne (by decide)).trans ((u_ne (by decide)).trans u_eq), (u_ne (by decide)).trans u_eq⟩
  refine gs_st (k := 3) (gs_st (k := 6) (gs_st (k := 5) (gs_st (k := 4) hG rfl rfl (cell_full rfl _) (pk_arr k4)) rfl rfl (cell_full rfl _) (pk_arr ((u_ne (by decide)).trans k5))) rfl rfl (cell_full rfl _) (pk_arr ((u_ne (by decide)).trans ((u_ne (by decide)).trans k6)))) rfl rfl ⟨_, rfl, fun i hi => ⟨(0, 0, 8), by show [((0 : Nat), (0 : Int), (8 : Int))][i % 1]? = _; rw [Nat.mod_one]; rfl, ?_⟩⟩ (pk_arr ((u_ne (by decide)).trans ((u_ne (by decide)).trans ((u_ne (by decide)).trans k3))))
  show (0 : Int) ≤ (upd ln X (nI (m + 1)) i).toInt ∧ (upd ln X (nI (m + 1)) i).toInt ≤ 8
  unfold upd
  split
  · rw [nI_toInt (by omega)]
    omega
  · exact hb3 i hi
end UZ
