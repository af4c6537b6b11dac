/-! the class's puzzle against the reference's; cases 0 and 2 of the law -/
section QZ
variable {θ : Th} {L : Nat} {xs : Nat → Int32} {S : Nat → pm_E} {n : Nat}
theorem c_fl {k m0 : Nat} {f : Nat → Int32} (hk : k < n) (hs : S k = .inl (0, m0, .inl f)) (hm : m0 < 2 ^ 31) : PM (j_SL L) (j_SV xs) j_EX mm_J7_fill_53178 [.ref k, .int 0] S n (fun r S' n' => r = none ∧ n = n' ∧ (∀ j, j ≠ k → S' j = S j) ∧ ∃ g : Nat → Int32, S' k = .inl (0, m0, .inl g) ∧ ∀ i, i < m0 → g i = 0) := by
  change PQ (j_SL L) (j_SV xs) j_EX mm_J7_fill_53178 0 [.ref k, .int 0, pm_un, pm_un] [] S n 0 0 _
  refine q_iconst rfl rfl ?_
  refine q_ist2n rfl rfl rfl rfl ?_
  refine q_aload_n rfl rfl rfl ?_
  refine q_alen rfl rfl hk hs rfl ?_
  refine q_ist3n rfl rfl rfl rfl ?_
  have key : ∀ q i : Nat, i + q = m0 → ∀ (T : Nat → pm_E) (g : Nat → Int32), (∀ j, j ≠ k → T j = S j) → T k = .inl (0, m0, .inl g) → (∀ j, j < i → g j = 0) → PQ (j_SL L) (j_SV xs) j_EX mm_J7_fill_53178 5 [.ref k, .int 0, .int (nI i), .int (nI m0)] [] T n 0 0 (fun r S' n' => r = none ∧ n = n' ∧ (∀ j, j ≠ k → S' j = S j) ∧ ∃ g : Nat → Int32, S' k = .inl (0, m0, .inl g) ∧ ∀ i, i < m0 → g i = 0) := by
    intro q
    induction q with
    | zero =>
      intro i hi T g t1 t2 t3
      refine q_iload_n rfl rfl rfl ?_
      refine q_iload_n rfl rfl rfl ?_
      refine q_icge rfl rfl (fun _ => ?_) (fun c => absurd (by
        have e : i = m0 := by omega
        rw [e, Int32.le_iff_toInt_le]; omega) c)
      exact q_ret rfl rfl ⟨rfl, rfl, t1, g, t2, fun j hj => t3 j (by omega)⟩
    | succ q ih =>
      intro i hi T g t1 t2 t3
      refine q_iload_n rfl rfl rfl ?_
      refine q_iload_n rfl rfl rfl ?_
      refine q_icge rfl rfl (fun c => absurd c (nI_ge (a := i) (b := m0) (by omega) hm)) (fun _ => ?_)
      refine q_aload_n rfl rfl rfl ?_
      refine q_iload_n rfl rfl rfl ?_
      refine q_iload_n rfl rfl rfl ?_
      refine q_iast rfl rfl hk t2 (q_inN (by omega) hm) ?_
      refine q_inc2 rfl rfl rfl rfl ?_
      refine q_goto rfl ?_
      rw [show nI i + 1 = nI (i + 1) from nI_add i 1]
      refine ih (i + 1) (by omega) _ _ (fun j hj => (u_ne hj).trans (t1 j hj)) u_eq (fun j hj => ?_)
      rw [nI_clamp (by omega)]
      unfold upd
      split
      · rfl
      · exact t3 j (by omega)
  exact key m0 0 (by omega) S f (fun _ _ => rfl) hs (fun j hj => absurd hj (by omega))
def sumN (ln : Nat → Int32) (acc : Int32) (k : Nat) : Nat → Int32
  | 0 => acc
  | m + 1 => sumN ln (acc + ln k) (k + 1) m
theorem c_ss {fs : List Value} {H : Nat} {ln : Nat → Int32} (hn : 82 ≤ n) (hH : H ≤ 3) (k1 : S 1 = .inr (6, fs)) (f0 : fs[0]? = some (.int (nI H))) (f2 : fs[2]? = some (.ref 3)) (k3 : S 3 = .inl (0, 3, .inl ln)) : PM (j_SL L) (j_SV xs) j_EX mm_X8_statements [.ref 1] S n (fun r S' n' => S = S' ∧ n = n' ∧ r = some (.int (sumN ln 0 0 H))) := by
  change PQ (j_SL L) (j_SV xs) j_EX mm_X8_statements 0 [.ref 1, pm_un, pm_un] [] S n 0 0 _
  refine q_iconst rfl rfl ?_
  refine q_ist1n rfl rfl rfl rfl ?_
  refine q_iconst rfl rfl ?_
  refine q_ist2n rfl rfl rfl rfl ?_
  have key : ∀ q k : Nat, k + q = H → ∀ acc : Int32, PQ (j_SL L) (j_SV xs) j_EX mm_X8_statements 4 [.ref 1, .int acc, .int (nI k)] [] S n 0 0 (fun r S' n' => S = S' ∧ n = n' ∧ r = some (.int (sumN ln acc k q))) := by
    intro q
    induction q with
    | zero =>
      intro k hk acc
      refine q_iload_n rfl rfl rfl ?_
      refine q_aload_n rfl rfl rfl ?_
      refine q_getf rfl rfl (by omega) k1 f0 ?_
      refine q_icge rfl rfl (fun _ => ?_) (fun c => absurd (by
        have e : k = H := by omega
        rw [e, Int32.le_iff_toInt_le]; omega) c)
      refine q_iload_n rfl rfl rfl ?_
      exact q_iret rfl rfl trivial ⟨rfl, rfl, rfl⟩
    | succ q ih =>
      intro k hk acc
      refine q_iload_n rfl rfl rfl ?_
      refine q_aload_n rfl rfl rfl ?_
      refine q_getf rfl rfl (by omega) k1 f0 ?_
      refine q_icge rfl rfl (fun c => absurd c (nI_ge (a := k) (b := H) (by omega) (by omega))) (fun _ => ?_)
      refine q_iload_n rfl rfl rfl ?_
      refine q_aload_n rfl rfl rfl ?_
      refine q_getf rfl rfl (by omega) k1 f2 ?_
      refine q_iload_n rfl rfl rfl ?_
      refine q_iald rfl rfl (by omega) k3 (q_inN (by omega) (by decide)) ?_
      refine q_iadd rfl rfl ?_
      refine q_ist1n rfl rfl rfl rfl ?_
      refine q_inc2 rfl rfl rfl rfl ?_
      refine q_goto rfl ?_
      rw [show nI k + 1 = nI (k + 1) from nI_add k 1, nI_clamp (by omega)]
      exact ih (k + 1) (by omega) _
  exact key H 0 (by omega) 0
theorem pz_sum {ln : Nat → Int32} {H : Nat} (h1 : 1 ≤ H) (h3 : H ≤ 3) (hh : θ.2.2.2.2 = nI H) (hln : ∀ x, x < 3 → ln x = θ.1 x) : sumN ln 0 0 H = pzS θ := by
  unfold pzS
  rw [hh]
  have a0 : ¬ nI H ≤ nI 0 := nI_ge (by omega) (by omega)
  rw [if_neg a0]
  rcases (show H = 1 ∨ H = 2 ∨ H = 3 by omega) with rfl | rfl | rfl
  · rw [if_pos (by decide), if_pos (by decide)]
    show 0 + ln 0 = _
    rw [hln 0 (by decide), Int32.add_zero, Int32.add_zero]
  · rw [if_neg (by decide), if_pos (by decide)]
    show 0 + ln 0 + ln 1 = _
    rw [hln 0 (by decide), hln 1 (by decide), Int32.add_zero]
  · rw [if_neg (by decide), if_neg (by decide)]
    show 0 + ln 0 + ln 1 + ln 2 = _
    rw [hln 0 (by decide), hln 1 (by decide), hln 2 (by decide)]
set_option maxHeartbeats 4000000 in
theorem c_rn {fs : List Value} {h : Int32} (hG : GS θ S n) (k1 : S 1 = .inr (6, fs)) (b1 : (1 : Int) ≤ h.toInt) (b3 : h.toInt ≤ 3) : PM (j_SL L) (j_SV xs) j_EX mm_X8_renew [.ref 1, .int h] S n (fun r S' n' => r = none ∧ n = n' ∧ GS θ S' n ∧ (∀ j, j ≠ 1 → j ≠ 2 → j ≠ 3 → S' j = S j) ∧ S' 1 = .inr (6, fs.set 0 (.int h)) ∧ (∃ g : Nat → Int32, S' 3 = .inl (0, 3, .inl g) ∧ ∀ i, i < 3 → g i = 0) ∧ ∃ g : Nat → Int32, S' 2 = .inl (0, 4, .inl g) ∧ ∀ i, i < 4 → g i = 0) := by
  have hn := gs_n hG
  obtain ⟨gs, g1, hg⟩ := gs_obj hG (k := 1) rfl
  rw [k1] at g1
  cases g1
  have f1 : fs[1]? = some (.ref 2) := fo_ref (hg 1 _ rfl) rfl
  have f2 : fs[2]? = some (.ref 3) := fo_ref (hg 2 _ rfl) rfl
  have hlen : 0 < fs.length := by
    obtain ⟨w, hw, -⟩ := hg 0 _ rfl
    exact (List.getElem?_eq_some_iff.mp hw).1
  obtain ⟨ln, k3, -⟩ := gs_a1 hG (k := 3) rfl
  obtain ⟨at0, k2, -⟩ := gs_a1 hG (k := 2) rfl
  have hG1 : GS θ (va_up S 1 (.inr (6, fs.set 0 (.int h)))) n := by
    refine gs_st (k := 1) (c := .inr (6, fs.set 0 (.int h))) hG rfl rfl ⟨_, rfl, fun b q hq => ?_⟩ (fun p fs0 hb _ => absurd hb (by show ¬ (0 : Nat).testBit p = true; simp))
    match b, hq with
    | 0, hq =>
      cases hq
      exact ⟨.int h, by rw [List.getElem?_set_self hlen], h, rfl, b1, b3⟩
    | b + 1, hq =>
      obtain ⟨w, hw, hf⟩ := hg (b + 1) q hq
      exact ⟨w, by rw [List.getElem?_set_ne (by omega)]; exact hw, hf⟩
  change PQ (j_SL L) (j_SV xs) j_EX mm_X8_renew 0 [.ref 1, .int h] [] S n 0 0 _
  refine q_aload_n rfl rfl rfl ?_
  refine q_iload_n rfl rfl rfl ?_
  refine q_putf rfl rfl (by omega) k1 hlen rfl trivial ?_
  refine q_aload_n rfl rfl rfl ?_
  refine q_getf rfl rfl (by omega) u_eq (by rw [List.getElem?_set_ne (by decide)]; exact f2) ?_
  refine q_iconst rfl rfl ?_
  refine q_cS rfl rfl (Or.inl rfl) rfl rfl trivial rfl rfl rfl rfl rfl (c_fl (k := 3) (by omega) ((u_ne (by decide)).trans k3) (by decide)) ?_
  rintro r T1 _ ⟨rfl, rfl, e1, g3, k31, z3⟩
  show PQ (j_SL L) (j_SV xs) j_EX mm_X8_renew 13 _ [] T1 n 0 0 _
  have t1 : T1 1 = .inr (6, fs.set 0 (.int h)) := (e1 1 (by decide)).trans u_eq
  have t2 : T1 2 = .inl (0, 4, .inl at0) := (e1 2 (by decide)).trans ((u_ne (by decide)).trans k2)
  refine q_aload_n rfl rfl rfl ?_
  refine q_getf rfl rfl (by omega) t1 (by rw [List.getElem?_set_ne (by decide)]; exact f1) ?_
  refine q_iconst rfl rfl ?_
  refine q_cS rfl rfl (Or.inl rfl) rfl rfl trivial rfl rfl rfl rfl rfl (c_fl (k := 2) (by omega) t2 (by decide)) ?_
  rintro r T2 _ ⟨rfl, rfl, e2, g2, k22, z2⟩
  show PQ (j_SL L) (j_SV xs) j_EX mm_X8_renew 21 _ [] T2 n 0 0 _
  have eT1 : T1 = va_up (va_up S 1 (.inr (6, fs.set 0 (.int h)))) 3 (.inl (0, 3, .inl g3)) := by
    funext j
    by_cases ej : j = 3
    · subst ej
      exact k31.trans u_eq.symm
    · exact (e1 j ej).trans (u_ne ej).symm
  have eT2 : T2 = va_up T1 2 (.inl (0, 4, .inl g2)) := by
    funext j
    by_cases ej : j = 2
    · subst ej
      exact k22.trans u_eq.symm
    · exact (e2 j ej).trans (u_ne ej).symm
  have hG2 : GS θ T1 n := by
    rw [eT1]
    refine gs_st (k := 3) (c := .inl (0, 3, .inl g3)) hG1 rfl rfl ⟨_, rfl, fun i hi => ⟨(0, 0, 8), by show [((0 : Nat), (0 : Int), (8 : Int))][i % 1]? = _; rw [Nat.mod_one]; rfl, ?_⟩⟩ (pk_arr ((u_ne (by decide)).trans k3))
    rw [z3 i hi]
    exact ⟨by decide, by decide⟩
  have hG3 : GS θ T2 n := by
    rw [eT2]
    exact gs_st (k := 2) (c := .inl (0, 4, .inl g2)) hG2 rfl rfl (cell_full rfl g2) (pk_arr t2)
  exact q_ret rfl rfl ⟨rfl, rfl, hG3, fun j h1 h2 h3 => (e2 j h2).trans ((e1 j h3).trans (u_ne h1)), (e2 1 (by decide)).trans t1, ⟨g3, (e2 3 (by decide)).trans k31, z3⟩, g2, k22, z2⟩
end QZ
