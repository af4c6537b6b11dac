/-! the class's Orders: a state's number -/
section NB
variable {L : Nat} {xs : Nat → Int32} {S : Nat → pm_E} {n oc N sp : Nat} {sl : Int32} {en : Int64} {fo : Nat → Int64} {og mv so fw tb ce : Nat → Int32} {t : Int64} {c0 : Nat} {v1 v2 : Int32}
def OCo (oc N sp : Nat) (sl : Int32) (en : Int64) (fo : Nat → Int64) (og mv so fw tb ce : Nat → Int32) (S : Nat → pm_E) : Prop := ∃ os : List Value, S oc = .inr (5, os) ∧ os[0]? = some (.int (nI N)) ∧ os[1]? = some (.int (nI sp)) ∧ os[2]? = some (.int sl) ∧ os[3]? = some (.long en) ∧ os[4]? = some (.ref (oc + 1)) ∧ os[5]? = some (.ref (oc + 2)) ∧ os[6]? = some (.ref (oc + 3)) ∧ os[7]? = some (.ref (oc + 4)) ∧ os[8]? = some (.ref (oc + 5)) ∧ os[9]? = some (.ref (oc + 6)) ∧ os[10]? = some (.ref (oc + 7)) ∧ S (oc + 1) = .inl (1, 2000, .inr (.inl fo)) ∧ S (oc + 2) = .inl (0, 2000, .inl og) ∧ S (oc + 3) = .inl (0, 2000, .inl mv) ∧ S (oc + 4) = .inl (0, 2000, .inl so) ∧ S (oc + 5) = .inl (0, 6000, .inl fw) ∧ S (oc + 6) = .inl (0, 4096, .inl tb) ∧ S (oc + 7) = .inl (0, 2000, .inl ce)
theorem os_len {os : List Value} {i : Nat} {v : Value} (h : os[i]? = some v) : i < os.length := (List.getElem?_eq_some_iff.mp h).1
theorem os_ne {os : List Value} {i j : Nat} {v : Value} (h : i ≠ j) : (os.set i v)[j]? = os[j]? := List.getElem?_set_ne h
theorem os_at {os : List Value} {i : Nat} {v w : Value} (h : os[i]? = some w) : (os.set i v)[i]? = some v := List.getElem?_set_self (os_len h)
theorem vpL_at {f : Nat → Int64} {i : Nat} {v : Int64} : vp_updL f i v i = v := if_pos rfl
theorem vpL_ot {f : Nat → Int64} {i j : Nat} {v : Int64} (h : j ≠ i) : vp_updL f i v j = f j := if_neg h
/-- cells outside of an Orders' own -/
def frO (oc : Nat) (S S' : Nat → pm_E) : Prop := ∀ k, k < oc ∨ oc + 8 ≤ k → S' k = S k
theorem frO_tr {S1 S2 : Nat → pm_E} (h : frO oc S S1) (h' : frO oc S1 S2) : frO oc S S2 := fun k hk => (h' k hk).trans (h k hk)
set_option maxHeartbeats 4000000 in
theorem o_new (hn : oc + 8 ≤ n) (hO : OCo oc N sp sl en fo og mv so fw tb ce S) (hN : N < 2000) (hc : c0 < 4096) : PM (j_SL L) (j_SV xs) j_EX mm_X7_newNumber [.ref oc, .long t, .int (nI c0), .int v1, .int v2] S n (fun r S' n' => r = some (.int (nI N)) ∧ n = n' ∧ frO oc S S' ∧ OCo oc (N + 1) sp sl en (vp_updL fo N t) (upd og N v1) (upd mv N v2) so fw (upd tb c0 (nI (N + 1))) (upd ce N (nI c0)) S') := by
  obtain ⟨os, k0, o0, o1, o2, o3, o4, o5, o6, o7, o8, o9, o10, k1, k2, k3, k4, k5, k6, k7⟩ := hO
  change PQ (j_SL L) (j_SV xs) j_EX mm_X7_newNumber 0 [.ref oc, .long t, pm_un, .int (nI c0), .int v1, .int v2, pm_un] [] S n 0 0 _
  refine q_aload_n rfl rfl rfl ?_
  refine q_getf rfl rfl (by omega) k0 o0 ?_
  refine q_sipush rfl rfl ?_
  refine q_iclt rfl rfl (fun _ => ?_) (fun h => absurd ((m_lt (b := 2000) (by omega) (by decide)).mpr hN) h)
  refine q_aload_n rfl rfl rfl ?_
  refine q_dupr rfl rfl ?_
  refine q_getf rfl rfl (by omega) k0 o0 ?_
  refine q_dupx1 rfl rfl ?_
  refine q_iconst rfl rfl ?_
  refine q_iadd rfl rfl (q_tn (z := nI (N + 1)) (nI_add N 1) ?_)
  refine q_putf rfl rfl (by omega) k0 (os_len o0) rfl trivial ?_
  refine q_ist6 rfl rfl rfl rfl ?_
  have q4 := (os_ne (v := .int (nI (N + 1))) (show 0 ≠ 4 by decide)).trans o4
  have q5 := (os_ne (v := .int (nI (N + 1))) (show 0 ≠ 5 by decide)).trans o5
  have q6 := (os_ne (v := .int (nI (N + 1))) (show 0 ≠ 6 by decide)).trans o6
  have q9 := (os_ne (v := .int (nI (N + 1))) (show 0 ≠ 9 by decide)).trans o9
  have q10 := (os_ne (v := .int (nI (N + 1))) (show 0 ≠ 10 by decide)).trans o10
  refine q_aload_n rfl rfl rfl ?_
  refine q_getf rfl rfl (by omega) u_eq q4 ?_
  refine q_iload rfl rfl rfl ?_
  refine q_lload_n rfl rfl rfl ?_
  refine q_last rfl rfl (by omega) ((u_ne (by omega)).trans (k1)) (q_inN (by omega) (by decide)) ?_
  rw [nI_clamp (by omega)]
  refine q_aload_n rfl rfl rfl ?_
  refine q_getf rfl rfl (by omega) ((u_ne (by omega)).trans (u_eq)) q5 ?_
  refine q_iload rfl rfl rfl ?_
  refine q_iload rfl rfl rfl ?_
  refine q_iast rfl rfl (by omega) ((u_ne (by omega)).trans ((u_ne (by omega)).trans (k2))) (q_inN (by omega) (by decide)) ?_
  rw [nI_clamp (by omega)]
  refine q_aload_n rfl rfl rfl ?_
  refine q_getf rfl rfl (by omega) ((u_ne (by omega)).trans ((u_ne (by omega)).trans (u_eq))) q6 ?_
  refine q_iload rfl rfl rfl ?_
  refine q_iload rfl rfl rfl ?_
  refine q_iast rfl rfl (by omega) ((u_ne (by omega)).trans ((u_ne (by omega)).trans ((u_ne (by omega)).trans (k3)))) (q_inN (by omega) (by decide)) ?_
  rw [nI_clamp (by omega)]
  refine q_aload_n rfl rfl rfl ?_
  refine q_getf rfl rfl (by omega) ((u_ne (by omega)).trans ((u_ne (by omega)).trans ((u_ne (by omega)).trans (u_eq)))) q10 ?_
  refine q_iload rfl rfl rfl ?_
  refine q_iload_n rfl rfl rfl ?_
  refine q_iast rfl rfl (by omega) ((u_ne (by omega)).trans ((u_ne (by omega)).trans ((u_ne (by omega)).trans ((u_ne (by omega)).trans (k7))))) (q_inN (by omega) (by decide)) ?_
  rw [nI_clamp (by omega)]
  refine q_aload_n rfl rfl rfl ?_
  refine q_getf rfl rfl (by omega) ((u_ne (by omega)).trans ((u_ne (by omega)).trans ((u_ne (by omega)).trans ((u_ne (by omega)).trans (u_eq))))) q9 ?_
  refine q_iload_n rfl rfl rfl ?_
  refine q_iload rfl rfl rfl ?_
  refine q_iconst rfl rfl ?_
  refine q_iadd rfl rfl (q_tn (z := nI (N + 1)) (nI_add N 1) ?_)
  refine q_iast rfl rfl (by omega) ((u_ne (by omega)).trans ((u_ne (by omega)).trans ((u_ne (by omega)).trans ((u_ne (by omega)).trans ((u_ne (by omega)).trans (k6)))))) (q_inN (by omega) (by decide)) ?_
  rw [nI_clamp (by omega)]
  refine q_iload rfl rfl rfl ?_
  refine q_iret rfl rfl trivial ⟨rfl, rfl, fun k hk => (u_ne (by omega)).trans ((u_ne (by omega)).trans ((u_ne (by omega)).trans ((u_ne (by omega)).trans ((u_ne (by omega)).trans (u_ne (by omega)))))), ?_⟩
  exact ⟨os.set 0 (.int (nI (N + 1))), (u_ne (by omega)).trans ((u_ne (by omega)).trans ((u_ne (by omega)).trans ((u_ne (by omega)).trans ((u_ne (by omega)).trans (u_eq))))), os_at o0, (os_ne (by decide)).trans o1, (os_ne (by decide)).trans o2, (os_ne (by decide)).trans o3, q4, q5, q6, (os_ne (by decide)).trans o7, (os_ne (by decide)).trans o8, q9, q10, (u_ne (by omega)).trans ((u_ne (by omega)).trans ((u_ne (by omega)).trans ((u_ne (by omega)).trans (u_eq)))), (u_ne (by omega)).trans ((u_ne (by omega)).trans ((u_ne (by omega)).trans (u_eq))), (u_ne (by omega)).trans ((u_ne (by omega)).trans (u_eq)), (u_ne (by omega)).trans ((u_ne (by omega)).trans ((u_ne (by omega)).trans ((u_ne (by omega)).trans ((u_ne (by omega)).trans ((u_ne (by omega)).trans (k4)))))), (u_ne (by omega)).trans ((u_ne (by omega)).trans ((u_ne (by omega)).trans ((u_ne (by omega)).trans ((u_ne (by omega)).trans ((u_ne (by omega)).trans (k5)))))), u_eq, (u_ne (by omega)).trans (u_eq)⟩
theorem o_full (hn : oc + 8 ≤ n) (hO : OCo oc N sp sl en fo og mv so fw tb ce S) (hN : N = 2000) : PM (j_SL L) (j_SV xs) j_EX mm_X7_newNumber [.ref oc, .long t, .int (nI c0), .int v1, .int v2] S n (fun r S' n' => r = some (.int (-1)) ∧ n = n' ∧ frO oc S S' ∧ OCo oc N 1 sl en fo og mv so fw tb ce S') := by
  obtain ⟨os, k0, o0, o1, o2, o3, o4, o5, o6, o7, o8, o9, o10, k1, k2, k3, k4, k5, k6, k7⟩ := hO
  change PQ (j_SL L) (j_SV xs) j_EX mm_X7_newNumber 0 [.ref oc, .long t, pm_un, .int (nI c0), .int v1, .int v2, pm_un] [] S n 0 0 _
  refine q_aload_n rfl rfl rfl ?_
  refine q_getf rfl rfl (by omega) k0 o0 ?_
  refine q_sipush rfl rfl ?_
  refine q_iclt rfl rfl (fun h => absurd ((m_lt (b := 2000) (by omega) (by decide)).mp h) (by omega)) (fun _ => ?_)
  refine q_aload_n rfl rfl rfl ?_
  refine q_iconst rfl rfl ?_
  refine q_putf rfl rfl (by omega) k0 (os_len o1) rfl rfl ?_
  refine q_iconst rfl rfl ?_
  refine q_iret rfl rfl trivial ⟨rfl, rfl, fun k hk => u_ne (by omega), ?_⟩
  exact ⟨os.set 1 (.int 1), u_eq, (os_ne (by decide)).trans o0, os_at o1, (os_ne (by decide)).trans o2, (os_ne (by decide)).trans o3, (os_ne (by decide)).trans o4, (os_ne (by decide)).trans o5, (os_ne (by decide)).trans o6, (os_ne (by decide)).trans o7, (os_ne (by decide)).trans o8, (os_ne (by decide)).trans o9, (os_ne (by decide)).trans o10, (u_ne (by omega)).trans k1, (u_ne (by omega)).trans k2, (u_ne (by omega)).trans k3, (u_ne (by omega)).trans k4, (u_ne (by omega)).trans k5, (u_ne (by omega)).trans k6, (u_ne (by omega)).trans k7⟩
/-- what numberOf does -/
def nbK (oc N sp : Nat) (sl : Int32) (en : Int64) (fo : Nat → Int64) (og mv so fw tb ce : Nat → Int32) (t : Int64) (v1 v2 : Int32) (S : Nat → pm_E) (n : Nat) : q_K := fun r S' n' => n = n' ∧ frO oc S S' ∧ ((∃ j, j < N ∧ fo j = t ∧ r = some (.int (nI j)) ∧ S = S') ∨ ((∀ j, j < N → fo j ≠ t) ∧ ((N = 2000 ∧ r = some (.int (-1)) ∧ OCo oc N 1 sl en fo og mv so fw tb ce S') ∨ (N < 2000 ∧ r = some (.int (nI N)) ∧ ∃ tb' ce', HTb (N + 1) (vp_updL fo N t) tb' ce' ∧ OCo oc (N + 1) sp sl en (vp_updL fo N t) (upd og N v1) (upd mv N v2) so fw tb' ce' S'))))
theorem lcmp_0 {a b : Int64} : lg_cmp a b = 0 ↔ a = b := by
  unfold lg_cmp
  constructor
  · intro h
    split at h
    · exact absurd h (by decide)
    · split at h
      · assumption
      · exact absurd h (by decide)
  · rintro rfl
    simp
theorem and4095 {a : Nat} (ha : a < 8192) : nI a &&& 4095 = nI (a % 4096) := by
  refine e_i32_bt (by omega) (fun j hj => ?_)
  rw [Int32.toBitVec_and, BitVec.getLsbD_and]
  show ((BitVec.ofNat 32 a).getLsbD j && (BitVec.ofNat 32 4095).getLsbD j) = _
  rw [BitVec.getLsbD_ofNat, BitVec.getLsbD_ofNat, show (4096 : Nat) = 2 ^ 12 from rfl, Nat.testBit_mod_two_pow, show (4095 : Nat) = 2 ^ 12 - 1 from rfl, Nat.testBit_two_pow_sub_one]
  simp [hj, Bool.and_comm]
set_option maxHeartbeats 4000000 in
theorem o_num (hn : oc + 8 ≤ n) (hO : OCo oc N sp sl en fo og mv so fw tb ce S) (hN : N ≤ 2000) (hT : HTb N fo tb ce) : PM (j_SL L) (j_SV xs) j_EX mm_X7_numberOf [.ref oc, .long t, .int v1, .int v2] S n (nbK oc N sp sl en fo og mv so fw tb ce t v1 v2 S n) := by
  have hO0 := hO
  obtain ⟨os, k0, o0, o1, o2, o3, o4, o5, o6, o7, o8, o9, o10, k1, k2, k3, k4, k5, k6, k7⟩ := hO
  have hh := hsh_lt t
  change PQ (j_SL L) (j_SV xs) j_EX mm_X7_numberOf 0 [.ref oc, .long t, pm_un, .int v1, .int v2, pm_un, pm_un, pm_un] [] S n 0 0 _
  have key : ∀ p q : Nat, q + p = 4096 → (∀ q', q' < q → ∃ j, j < N ∧ tb ((hsh t + q') % 4096) = nI (j + 1) ∧ fo j ≠ t) → ∀ w : Value, PQ (j_SL L) (j_SV xs) j_EX mm_X7_numberOf 18 [.ref oc, .long t, pm_un, .int v1, .int v2, .int (nI ((hsh t + q) % 4096)), .int (nI q), w] [] S n 0 0 (nbK oc N sp sl en fo og mv so fw tb ce t v1 v2 S n) := by
    intro p
    induction p with
    | zero =>
      intro q hq hall w
      exfalso
      obtain ⟨c, hc, e0⟩ := ht_free hT hN
      obtain ⟨j, hj, e1, -⟩ := hall ((c + 4096 - hsh t) % 4096) (by have := Nat.mod_lt (c + 4096 - hsh t) (show 0 < 4096 by decide); omega)
      have ec : (hsh t + (c + 4096 - hsh t) % 4096) % 4096 = c := by omega
      rw [ec, e0] at e1
      exact absurd ((m_eq (a := 0) (by decide) (by omega)).mp e1) (by omega)
    | succ p ih =>
      intro q hqp hall w
      have hm : (hsh t + q) % 4096 < 4096 := Nat.mod_lt _ (by decide)
      refine q_iload rfl rfl rfl ?_
      refine q_sipush rfl rfl ?_
      refine q_icge rfl rfl (fun h => absurd h (nI_ge (a := q) (b := 4096) (by omega) (by decide))) (fun _ => ?_)
      refine q_aload_n rfl rfl rfl ?_
      refine q_getf rfl rfl (by omega) k0 o9 ?_
      refine q_iload rfl rfl rfl ?_
      refine q_iald rfl rfl (by omega) k6 (q_inN (by omega) (by decide)) (q_tn (z := tb ((hsh t + q) % 4096)) (by rw [nI_clamp (by omega)]) ?_)
      refine q_iconst rfl rfl ?_
      rcases hT.2.1 _ hm with h0 | ⟨j, hj, e1, e2⟩
      · rw [h0]
        refine q_isub rfl rfl ?_
        refine q_ist7 rfl rfl rfl rfl ?_
        refine q_iload rfl rfl rfl ?_
        refine q_ifge rfl rfl (fun h => absurd h (by decide)) (fun _ => ?_)
        have hnew := ht_new hT hN h0 hall
        have hnz : ∀ q', q' < q → tb ((hsh t + q') % 4096) ≠ 0 := fun q' hq' e => by
          obtain ⟨j, hj, e1, -⟩ := hall q' hq'
          rw [e] at e1
          exact absurd ((m_eq (a := 0) (by decide) (by omega)).mp e1) (by omega)
        refine q_aload_n rfl rfl rfl ?_
        refine q_lload_n rfl rfl rfl ?_
        refine q_iload rfl rfl rfl ?_
        refine q_iload_n rfl rfl rfl ?_
        refine q_iload rfl rfl rfl ?_
        by_cases hlt : N < 2000
        · refine q_cV rfl rfl (Or.inl rfl) rfl rfl rfl rfl (by omega) k0 trivial rfl rfl rfl rfl rfl (o_new hn hO0 hlt hm) ?_
          rintro r S1 n1 ⟨rfl, rfl, eF, hO1⟩
          show PQ (j_SL L) (j_SV xs) j_EX mm_X7_numberOf 52 _ [.int (nI N)] S1 n 0 0 _
          exact q_iret rfl rfl trivial ⟨rfl, eF, Or.inr ⟨hnew, Or.inr ⟨hlt, rfl, _, _, ht_ins hT hlt (by omega) h0 hnz hnew vpL_at (fun j hj => vpL_ot (by omega)), hO1⟩⟩⟩
        · have e2000 : N = 2000 := by omega
          refine q_cV rfl rfl (Or.inl rfl) rfl rfl rfl rfl (by omega) k0 trivial rfl rfl rfl rfl rfl (o_full hn hO0 e2000) ?_
          rintro r S1 n1 ⟨rfl, rfl, eF, hO1⟩
          show PQ (j_SL L) (j_SV xs) j_EX mm_X7_numberOf 52 _ [.int (-1)] S1 n 0 0 _
          exact q_iret rfl rfl trivial ⟨rfl, eF, Or.inr ⟨hnew, Or.inl ⟨e2000, rfl, hO1⟩⟩⟩
      · rw [e1]
        refine q_isub rfl rfl (q_tn (z := nI j) ((m_subx (by omega) (by omega)).mpr rfl) ?_)
        refine q_ist7 rfl rfl rfl rfl ?_
        refine q_iload rfl rfl rfl ?_
        refine q_ifge rfl rfl (fun _ => ?_) (fun h => absurd (i_nlt (m_n0 (by omega))) h)
        refine q_aload_n rfl rfl rfl ?_
        refine q_getf rfl rfl (by omega) k0 o4 ?_
        refine q_iload rfl rfl rfl ?_
        refine q_lald rfl rfl (by omega) k1 (q_inN (by omega) (by decide)) ?_
        refine q_lload_n rfl rfl rfl ?_
        refine q_lcmp rfl rfl ?_
        rw [nI_clamp (by omega)]
        refine q_ifne rfl rfl (fun h => ?_) (fun h => ?_)
        · refine q_iload rfl rfl rfl ?_
          exact q_iret rfl rfl trivial ⟨rfl, fun _ _ => rfl, Or.inl ⟨j, hj, lcmp_0.mp h, rfl, rfl⟩⟩
        · have hne : fo j ≠ t := fun e => h (lcmp_0.mpr e)
          refine q_iload rfl rfl rfl ?_
          refine q_iconst rfl rfl ?_
          refine q_iadd rfl rfl (q_tn (z := nI ((hsh t + q) % 4096 + 1)) (nI_add _ 1) ?_)
          refine q_sipush rfl rfl ?_
          refine q_iand rfl rfl (q_tn (z := nI ((hsh t + (q + 1)) % 4096)) ((and4095 (by omega)).trans (by congr 1; omega)) ?_)
          refine q_ist5 rfl rfl rfl rfl ?_
          refine q_inc6 rfl rfl rfl rfl ?_
          refine q_goto rfl ?_
          rw [show nI q + 1 = nI (q + 1) from nI_add q 1]
          refine ih (q + 1) (by omega) (fun q' hq' => ?_) _
          by_cases e : q' = q
          · rw [e]
            exact ⟨j, hj, e1, hne⟩
          · exact hall q' (by omega)
  refine q_lload_n rfl rfl rfl ?_
  refine q_ldc2 rfl rfl ?_
  refine q_lmul rfl rfl ?_
  refine q_bipush rfl rfl ?_
  refine q_lushr (y := nI 52) rfl rfl ?_
  refine q_l2i rfl rfl ?_
  refine q_sipush rfl rfl ?_
  refine q_iand rfl rfl (q_tn (z := nI (hsh t)) (e_b_get (t * hC) 52 12 (by decide) (by decide)) ?_)
  refine q_ist5 rfl rfl rfl rfl ?_
  refine q_iconst rfl rfl ?_
  refine q_ist6 rfl rfl rfl rfl ?_
  have := key 4096 0 rfl (fun q' h => absurd h (by omega)) pm_un
  rw [Nat.add_zero, Nat.mod_eq_of_lt hh] at this
  exact this
end NB
