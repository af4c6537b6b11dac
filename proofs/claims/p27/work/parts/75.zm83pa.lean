/-! a program of the class, at cell c: 1 the puzzle's own, 33 the fixer's draft -/
section PA
variable {L : Nat} {xs : Nat → Int32} {S : Nat → pm_E} {n c m : Nat} {P : PG} {s : Int64} {x i j pic : Nat}
def JPc (c : Nat) (P : PG) (S : Nat → pm_E) : Prop := ∃ (fs : List Value) (fa ln l4 l5 l6 : Nat → Int32), S c = .inr (6, fs) ∧ fs[0]? = some (.int (nI (pH P))) ∧ fs[1]? = some (.ref (c + 1)) ∧ fs[2]? = some (.ref (c + 2)) ∧ fs[3]? = some (.ref (c + 3)) ∧ fs[4]? = some (.ref (c + 4)) ∧ fs[5]? = some (.ref (c + 5)) ∧ S (c + 1) = .inl (0, 4, .inl fa) ∧ S (c + 2) = .inl (0, 3, .inl ln) ∧ S (c + 3) = .inl (0, 24, .inl l4) ∧ S (c + 4) = .inl (0, 24, .inl l5) ∧ S (c + 5) = .inl (0, 24, .inl l6) ∧ (∀ p, p < 4 → fa p = nI (pV P p)) ∧ (∀ x, x < pH P → ln x = nI (pL P x)) ∧ ∀ x i, x < pH P → i < pL P x → l4 (8 * x + i) = nI (pK P x i) ∧ l5 (8 * x + i) = pO P x i ∧ l6 (8 * x + i) = pN P x i
def JMc (m c pic : Nat) (S : Nat → pm_E) : Prop := ∃ gs : List Value, S m = .inr (4, gs) ∧ gs[0]? = some (.ref c) ∧ gs[1]? = some (.int (nI pic))
theorem m_le {a b : Nat} (ha : a < 2 ^ 31) (hb : b < 2 ^ 31) : nI a ≤ nI b ↔ a ≤ b := by
  rw [Int32.le_iff_toInt_le, nI_toInt ha, nI_toInt hb]
  omega
theorem m_lt {a b : Nat} (ha : a < 2 ^ 31) (hb : b < 2 ^ 31) : nI a < nI b ↔ a < b := by
  rw [Int32.lt_iff_toInt_lt, nI_toInt ha, nI_toInt hb]
  omega
theorem m_eq {a b : Nat} (ha : a < 2 ^ 31) (hb : b < 2 ^ 31) : nI a = nI b ↔ a = b := ⟨fun h => nI_inj ha hb h, fun h => by rw [h]⟩
theorem m_n0 {a : Nat} (ha : a < 2 ^ 31) : ¬ nI a < 0 := by
  rw [Int32.lt_iff_toInt_lt, nI_toInt ha]
  show ¬ (a : Int) < 0
  omega
set_option maxHeartbeats 2000000 in
theorem p_cell (hW : WFP P) (hc : c + 6 ≤ n) (hj : JPc c P S) (hx : x < pH P) (hi : i < 16) : PM (j_SL L) (j_SV xs) j_EX mm_X8_cellOf [.ref c, .int (nI x), .int (nI i)] S n (fun r S' n' => S = S' ∧ n = n' ∧ ((i < pL P x ∧ r = some (.int (nI (8 * x + i)))) ∨ (pL P x ≤ i ∧ r = some (.int (-1))))) := by
  obtain ⟨fs, fa, ln, l4, l5, l6, k0, f0, f1, f2, f3, f4, f5, k1, k2, k3, k4, k5, h1, h2, h3⟩ := hj
  have hH := hW.2.1
  have hl8 := hW.2.2.1 x hx
  have e0 : (0 : Int32).toInt = 0 := rfl
  change PQ (j_SL L) (j_SV xs) j_EX mm_X8_cellOf 0 [.ref c, .int (nI x), .int (nI i), pm_un] [] S n 0 0 _
  refine q_iload_n rfl rfl rfl ?_
  refine q_iflt rfl rfl (fun c1 => absurd c1 (m_n0 (by omega))) (fun _ => ?_)
  refine q_iload_n rfl rfl rfl ?_
  refine q_aload_n rfl rfl rfl ?_
  refine q_getf rfl rfl (by omega) k0 f0 ?_
  refine q_icge rfl rfl (fun c2 => absurd ((m_le (by omega) (by omega)).mp c2) (by omega)) (fun _ => ?_)
  refine q_iload_n rfl rfl rfl ?_
  refine q_iflt rfl rfl (fun c1 => absurd c1 (m_n0 (by omega))) (fun _ => ?_)
  refine q_iload_n rfl rfl rfl ?_
  refine q_aload_n rfl rfl rfl ?_
  refine q_getf rfl rfl (by omega) k0 f2 ?_
  refine q_iload_n rfl rfl rfl ?_
  refine q_iald rfl rfl (by omega) k2 (q_inN (by omega) (by decide)) (q_tn (z := nI (pL P x)) (by rw [nI_clamp (by omega)]; exact h2 x hx) ?_)
  refine q_icge rfl rfl (fun c4 => ?_) (fun c4 => ?_)
  · have c4' := (m_le (by omega) (by omega)).mp c4
    refine q_iconst rfl rfl ?_
    refine q_ist3n rfl rfl rfl rfl ?_
    refine q_iload_n rfl rfl rfl ?_
    refine q_ifeq rfl rfl (fun _ => ?_) (fun c => absurd rfl c)
    refine q_iconst rfl rfl ?_
    exact q_iret rfl rfl trivial ⟨rfl, rfl, Or.inr ⟨c4', rfl⟩⟩
  · have c4' : i < pL P x := by
      rw [m_le (by omega) (by omega)] at c4
      omega
    refine q_iconst rfl rfl ?_
    refine q_goto rfl ?_
    refine q_ist3n rfl rfl rfl rfl ?_
    refine q_iload_n rfl rfl rfl ?_
    refine q_ifeq rfl rfl (fun c => absurd c (by decide)) (fun _ => ?_)
    refine q_iload_n rfl rfl rfl ?_
    refine q_bipush rfl rfl ?_
    refine q_imul rfl rfl (q_tn (z := nI (x * 8)) (by rw [show (8 : Int32) = nI 8 from rfl, pk_mul]) ?_)
    refine q_iload_n rfl rfl rfl ?_
    refine q_iadd rfl rfl (q_tn (z := nI (x * 8 + i)) (nI_add _ _) ?_)
    refine q_goto rfl ?_
    exact q_iret rfl rfl trivial ⟨rfl, rfl, Or.inl ⟨c4', by rw [Nat.mul_comm]⟩⟩
theorem p_kind (hW : WFP P) (hc : c + 6 ≤ n) (hj : JPc c P S) (hx : x < pH P) (hi : i < pL P x) : PM (j_SL L) (j_SV xs) j_EX mm_X8_kindIn [.ref c, .int (nI (8 * x + i))] S n (fun r S' n' => S = S' ∧ n = n' ∧ r = some (.int (nI (pK P x i)))) := by
  obtain ⟨fs, fa, ln, l4, l5, l6, k0, f0, f1, f2, f3, f4, f5, k1, k2, k3, k4, k5, h1, h2, h3⟩ := hj
  have hH := hW.2.1
  have hl8 := hW.2.2.1 x hx
  change PQ (j_SL L) (j_SV xs) j_EX mm_X8_kindIn 0 [.ref c, .int (nI (8 * x + i))] [] S n 0 0 _
  refine q_iload_n rfl rfl rfl ?_
  refine q_iflt rfl rfl (fun c1 => absurd c1 (m_n0 (by omega))) (fun _ => ?_)
  refine q_iload_n rfl rfl rfl ?_
  refine q_aload_n rfl rfl rfl ?_
  refine q_getf rfl rfl (by omega) k0 f3 ?_
  refine q_alen rfl rfl (by omega) k3 rfl ?_
  refine q_icge rfl rfl (fun c2 => absurd c2 (nI_ge (a := 8 * x + i) (b := 24) (by omega) (by decide))) (fun c2 => ?_)
  refine q_aload_n rfl rfl rfl ?_
  refine q_getf rfl rfl (by omega) k0 f3 ?_
  refine q_iload_n rfl rfl rfl ?_
  refine q_iald rfl rfl (by omega) k3 (q_inN (by omega) (by decide)) (q_tn (z := nI (pK P x i)) (by rw [nI_clamp (by omega)]; exact (h3 x i hx hi).1) ?_)
  refine q_goto rfl ?_
  exact q_iret rfl rfl trivial ⟨rfl, rfl, rfl⟩
theorem p_kindm (hc : c + 6 ≤ n) (hj : JPc c P S) : PM (j_SL L) (j_SV xs) j_EX mm_X8_kindIn [.ref c, .int (-1)] S n (fun r S' n' => S = S' ∧ n = n' ∧ r = some (.int (-1))) := by
  change PQ (j_SL L) (j_SV xs) j_EX mm_X8_kindIn 0 [.ref c, .int (-1)] [] S n 0 0 _
  refine q_iload_n rfl rfl rfl ?_
  refine q_iflt rfl rfl (fun _ => ?_) (fun c1 => absurd (by decide) c1)
  refine q_iconst rfl rfl ?_
  exact q_iret rfl rfl trivial ⟨rfl, rfl, rfl⟩
theorem p_oper (hW : WFP P) (hc : c + 6 ≤ n) (hj : JPc c P S) (hx : x < pH P) (hi : i < pL P x) : PM (j_SL L) (j_SV xs) j_EX mm_X8_operandIn [.ref c, .int (nI (8 * x + i))] S n (fun r S' n' => S = S' ∧ n = n' ∧ r = some (.int (pO P x i))) := by
  obtain ⟨fs, fa, ln, l4, l5, l6, k0, f0, f1, f2, f3, f4, f5, k1, k2, k3, k4, k5, h1, h2, h3⟩ := hj
  have hH := hW.2.1
  have hl8 := hW.2.2.1 x hx
  change PQ (j_SL L) (j_SV xs) j_EX mm_X8_operandIn 0 [.ref c, .int (nI (8 * x + i))] [] S n 0 0 _
  refine q_iload_n rfl rfl rfl ?_
  refine q_iflt rfl rfl (fun c1 => absurd c1 (m_n0 (by omega))) (fun _ => ?_)
  refine q_iload_n rfl rfl rfl ?_
  refine q_aload_n rfl rfl rfl ?_
  refine q_getf rfl rfl (by omega) k0 f4 ?_
  refine q_alen rfl rfl (by omega) k4 rfl ?_
  refine q_icge rfl rfl (fun c2 => absurd c2 (nI_ge (a := 8 * x + i) (b := 24) (by omega) (by decide))) (fun c2 => ?_)
  refine q_aload_n rfl rfl rfl ?_
  refine q_getf rfl rfl (by omega) k0 f4 ?_
  refine q_iload_n rfl rfl rfl ?_
  refine q_iald rfl rfl (by omega) k4 (q_inN (by omega) (by decide)) (q_tn (z := pO P x i) (by rw [nI_clamp (by omega)]; exact (h3 x i hx hi).2.1) ?_)
  refine q_goto rfl ?_
  exact q_iret rfl rfl trivial ⟨rfl, rfl, rfl⟩
theorem p_operm (hc : c + 6 ≤ n) (hj : JPc c P S) : PM (j_SL L) (j_SV xs) j_EX mm_X8_operandIn [.ref c, .int (-1)] S n (fun r S' n' => S = S' ∧ n = n' ∧ r = some (.int (-1))) := by
  change PQ (j_SL L) (j_SV xs) j_EX mm_X8_operandIn 0 [.ref c, .int (-1)] [] S n 0 0 _
  refine q_iload_n rfl rfl rfl ?_
  refine q_iflt rfl rfl (fun _ => ?_) (fun c1 => absurd (by decide) c1)
  refine q_iconst rfl rfl ?_
  exact q_iret rfl rfl trivial ⟨rfl, rfl, rfl⟩
theorem p_numb (hW : WFP P) (hc : c + 6 ≤ n) (hj : JPc c P S) (hx : x < pH P) (hi : i < pL P x) : PM (j_SL L) (j_SV xs) j_EX mm_X8_numberIn [.ref c, .int (nI (8 * x + i))] S n (fun r S' n' => S = S' ∧ n = n' ∧ r = some (.int (pN P x i))) := by
  obtain ⟨fs, fa, ln, l4, l5, l6, k0, f0, f1, f2, f3, f4, f5, k1, k2, k3, k4, k5, h1, h2, h3⟩ := hj
  have hH := hW.2.1
  have hl8 := hW.2.2.1 x hx
  change PQ (j_SL L) (j_SV xs) j_EX mm_X8_numberIn 0 [.ref c, .int (nI (8 * x + i))] [] S n 0 0 _
  refine q_iload_n rfl rfl rfl ?_
  refine q_iflt rfl rfl (fun c1 => absurd c1 (m_n0 (by omega))) (fun _ => ?_)
  refine q_iload_n rfl rfl rfl ?_
  refine q_aload_n rfl rfl rfl ?_
  refine q_getf rfl rfl (by omega) k0 f5 ?_
  refine q_alen rfl rfl (by omega) k5 rfl ?_
  refine q_icge rfl rfl (fun c2 => absurd c2 (nI_ge (a := 8 * x + i) (b := 24) (by omega) (by decide))) (fun c2 => ?_)
  refine q_aload_n rfl rfl rfl ?_
  refine q_getf rfl rfl (by omega) k0 f5 ?_
  refine q_iload_n rfl rfl rfl ?_
  refine q_iald rfl rfl (by omega) k5 (q_inN (by omega) (by decide)) (q_tn (z := pN P x i) (by rw [nI_clamp (by omega)]; exact (h3 x i hx hi).2.2) ?_)
  refine q_goto rfl ?_
  exact q_iret rfl rfl trivial ⟨rfl, rfl, rfl⟩
theorem p_numbm (hc : c + 6 ≤ n) (hj : JPc c P S) : PM (j_SL L) (j_SV xs) j_EX mm_X8_numberIn [.ref c, .int (-1)] S n (fun r S' n' => S = S' ∧ n = n' ∧ r = some (.int (-1))) := by
  change PQ (j_SL L) (j_SV xs) j_EX mm_X8_numberIn 0 [.ref c, .int (-1)] [] S n 0 0 _
  refine q_iload_n rfl rfl rfl ?_
  refine q_iflt rfl rfl (fun _ => ?_) (fun c1 => absurd (by decide) c1)
  refine q_iconst rfl rfl ?_
  exact q_iret rfl rfl trivial ⟨rfl, rfl, rfl⟩
theorem p_len (hW : WFP P) (hc : c + 6 ≤ n) (hj : JPc c P S) (hx : x < pH P) : PM (j_SL L) (j_SV xs) j_EX mm_X8_lengthOf [.ref c, .int (nI x)] S n (fun r S' n' => S = S' ∧ n = n' ∧ r = some (.int (nI (pL P x)))) := by
  obtain ⟨fs, fa, ln, l4, l5, l6, k0, f0, f1, f2, f3, f4, f5, k1, k2, k3, k4, k5, h1, h2, h3⟩ := hj
  have hH := hW.2.1
  change PQ (j_SL L) (j_SV xs) j_EX mm_X8_lengthOf 0 [.ref c, .int (nI x)] [] S n 0 0 _
  refine q_iload_n rfl rfl rfl ?_
  refine q_iflt rfl rfl (fun c1 => absurd c1 (m_n0 (by omega))) (fun _ => ?_)
  refine q_iload_n rfl rfl rfl ?_
  refine q_aload_n rfl rfl rfl ?_
  refine q_getf rfl rfl (by omega) k0 f0 ?_
  refine q_icge rfl rfl (fun c2 => absurd ((m_le (by omega) (by omega)).mp c2) (by omega)) (fun _ => ?_)
  refine q_aload_n rfl rfl rfl ?_
  refine q_getf rfl rfl (by omega) k0 f2 ?_
  refine q_iload_n rfl rfl rfl ?_
  refine q_iald rfl rfl (by omega) k2 (q_inN (by omega) (by decide)) (q_tn (z := nI (pL P x)) (by rw [nI_clamp (by omega)]; exact h2 x hx) ?_)
  refine q_goto rfl ?_
  exact q_iret rfl rfl trivial ⟨rfl, rfl, rfl⟩
theorem p_obj (hj : JPc c P S) : ∃ fs : List Value, S c = .inr (6, fs) ∧ fs[0]? = some (.int (nI (pH P))) ∧ fs[1]? = some (.ref (c + 1)) ∧ ∃ fa : Nat → Int32, S (c + 1) = .inl (0, 4, .inl fa) ∧ ∀ p, p < 4 → fa p = nI (pV P p) := by
  obtain ⟨fs, fa, ln, l4, l5, l6, k0, f0, f1, f2, f3, f4, f5, k1, k2, k3, k4, k5, h1, h2, h3⟩ := hj
  exact ⟨fs, k0, f0, f1, fa, k1, h1⟩
end PA
