/-! the reference: the states found -/
section FI
variable {L : Nat} {xs : Nat → Int32} {S : Nat → pm_E} {n R N : Nat} {st cf cb ch sp ct nt nx : Nat → Int32} {v1 v2 : Int32}
theorem rsH_cg {f g : Nat → Int32} : ∀ k, (∀ i, i < k → f i = g i) → rsH f k = rsH g k := by
  intro k
  induction k with
  | zero => intro _; rfl
  | succ k ih =>
    intro h
    show 31 * rsH f k + f k = 31 * rsH g k + g k
    rw [ih (fun i hi => h i (by omega)), h k (by omega)]
theorem rsV_cg {f g : Nat → Int32} (h : ∀ i, i < 20 → f i = g i) : rsV f = rsV g := by
  unfold rsV
  rw [rsH_cg 20 h]
def row (st : Nat → Int32) (R j : Nat) : Nat → Int32 := fun k => st (20 * (2000 * R + j) + k)
def ORo (R N : Nat) (st cf cb ch sp ct nt nx : Nat → Int32) (S : Nat → pm_E) : Prop := ∃ fs : List Value, S 46 = .inr (10, fs) ∧ fs[8]? = some (.ref 52) ∧ fs[9]? = some (.ref 53) ∧ fs[11]? = some (.ref 55) ∧ fs[12]? = some (.ref 56) ∧ fs[13]? = some (.ref 57) ∧ fs[14]? = some (.ref 58) ∧ fs[15]? = some (.ref 59) ∧ fs[16]? = some (.ref 60) ∧ fs[17]? = some (.ref 61) ∧ S 53 = .inl (0, 20, .inl nx) ∧ S 55 = .inl (0, 80000, .inl st) ∧ S 56 = .inl (0, 4000, .inl cf) ∧ S 57 = .inl (0, 4000, .inl cb) ∧ S 58 = .inl (0, 4000, .inl ch) ∧ S 59 = .inl (0, 12000, .inl sp) ∧ S 60 = .inl (0, 2, .inl ct) ∧ S 61 = .inl (0, 16384, .inl nt) ∧ ct R = nI N
/-- the greatest below N whose number is r, or none -/
def top (hv : Nat → Nat) (N r : Nat) (z : Int32) : Prop := (z = -1 ∧ ∀ j, j < N → hv j ≠ r) ∨ ∃ j, j < N ∧ z = nI j ∧ hv j = r ∧ ∀ j', j < j' → j' < N → hv j' ≠ r
def CHn (R N : Nat) (st ch nt : Nat → Int32) : Prop := (∀ r, r < 8192 → top (fun j => rsV (row st R j)) N r (nt (8192 * R + r))) ∧ ∀ k, k < N → top (fun j => rsV (row st R j)) k (rsV (row st R k)) (ch (2000 * R + k))
def same (st : Nat → Int32) (R j : Nat) (nx : Nat → Int32) : Prop := ∀ k, k < 20 → row st R j k = nx k
def fdK (R N : Nat) (st nx : Nat → Int32) (S : Nat → pm_E) (n : Nat) : q_K := fun r S' n' => S = S' ∧ n = n' ∧ ((∃ j, j < N ∧ same st R j nx ∧ r = some (.int (nI j))) ∨ ((∀ j, j < N → ¬ same st R j nx) ∧ r = some (.int (-1))))
set_option maxHeartbeats 4000000 in
theorem r_find (hn : 82 ≤ n) (hR : R ≤ 1) (hN : N ≤ 2000) (hO : ORo R N st cf cb ch sp ct nt nx S) (hC : CHn R N st ch nt) : PM (j_SL L) (j_SV xs) j_EX mm_X12_find [.ref 46, .int (nI R)] S n (fdK R N st nx S n) := by
  obtain ⟨fs, k46, f8, f9, f11, f12, f13, f14, f15, f16, f17, k53, k55, k56, k57, k58, k59, k60, k61, hct⟩ := hO
  have hv := rsV_lt nx
  change PQ (j_SL L) (j_SV xs) j_EX mm_X12_find 0 [.ref 46, .int (nI R), pm_un, pm_un, pm_un] [] S n 0 0 _
  have key : ∀ (d j0 : Nat) (z : Int32), j0 ≤ d → j0 ≤ N → top (fun j => rsV (row st R j)) j0 (rsV nx) z → (∀ j', j0 ≤ j' → j' < N → ¬ same st R j' nx) → ∀ w3 w4 : Value, PQ (j_SL L) (j_SV xs) j_EX mm_X12_find 11 [.ref 46, .int (nI R), .int z, w3, w4] [] S n 0 0 (fdK R N st nx S n) := by
    intro d
    induction d with
    | zero =>
      intro j0 z hd hj hz hall w3 w4
      rcases hz with ⟨rfl, -⟩ | ⟨j, h1, -⟩
      · refine q_iload_n rfl rfl rfl ?_
        refine q_iflt rfl rfl (fun _ => ?_) (fun h => absurd (by decide) h)
        refine q_iconst rfl rfl ?_
        exact q_iret rfl rfl trivial ⟨rfl, rfl, Or.inr ⟨fun j hj => hall j (by omega) hj, rfl⟩⟩
      · omega
    | succ d ih =>
      intro j0 z hd hj0 hz hall w3 w4
      rcases hz with ⟨rfl, hno⟩ | ⟨j, h1, rfl, h3, h4⟩
      · refine q_iload_n rfl rfl rfl ?_
        refine q_iflt rfl rfl (fun _ => ?_) (fun h => absurd (by decide) h)
        refine q_iconst rfl rfl ?_
        refine q_iret rfl rfl trivial ⟨rfl, rfl, Or.inr ⟨fun j hj hs => ?_, rfl⟩⟩
        by_cases c : j0 ≤ j
        · exact hall j c hj hs
        · exact hno j (by omega) (rsV_cg hs)
      have hjN : j < N := by omega
      refine q_iload_n rfl rfl rfl ?_
      refine q_iflt rfl rfl (fun h => absurd h (m_n0 (by omega))) (fun _ => ?_)
      refine q_iconst rfl rfl ?_
      refine q_ist3n rfl rfl rfl rfl ?_
      refine q_iconst rfl rfl ?_
      refine q_ist4 rfl rfl rfl rfl ?_
      have next : ¬ same st R j nx → ∀ w4 : Value, PQ (j_SL L) (j_SV xs) j_EX mm_X12_find 77 [.ref 46, .int (nI R), .int (nI j), .int 0, w4] [] S n 0 0 (fdK R N st nx S n) := by
        intro hns w4
        refine q_aload_n rfl rfl rfl ?_
        refine q_getf rfl rfl (by omega) k46 f14 ?_
        refine q_sipush rfl rfl ?_
        refine q_iload_n rfl rfl rfl ?_
        refine q_imul rfl rfl (q_tn (z := nI (2000 * R)) (by rw [show (2000 : Int32) = nI 2000 from rfl, pk_mul]) ?_)
        refine q_iload_n rfl rfl rfl ?_
        refine q_iadd rfl rfl (q_tn (z := nI (2000 * R + j)) (nI_add _ _) ?_)
        refine q_iald rfl rfl (by omega) k58 (q_inN (by omega) (by decide)) (q_tn (z := ch (2000 * R + j)) (by rw [nI_clamp (by omega)]) ?_)
        refine q_ist2n rfl rfl rfl rfl ?_
        refine q_goto rfl ?_
        have h3' : rsV (row st R j) = rsV nx := h3
        have hc := hC.2 j hjN
        rw [h3'] at hc
        refine ih j _ (by omega) (by omega) hc (fun j' g1 g2 hs => ?_) _ _
        by_cases e : j' = j
        · rw [e] at hs
          exact hns hs
        · by_cases c : j0 ≤ j'
          · exact hall j' c g2 hs
          · exact h4 j' (by omega) (by omega) (rsV_cg hs)
      have fin : ∀ (a : Int32) (w4 : Value), ((a = 1 ∧ same st R j nx) ∨ (a = 0 ∧ ¬ same st R j nx)) → PQ (j_SL L) (j_SV xs) j_EX mm_X12_find 71 [.ref 46, .int (nI R), .int (nI j), .int a, w4] [] S n 0 0 (fdK R N st nx S n) := by
        intro a w4 ha
        refine q_iload_n rfl rfl rfl ?_
        rcases ha with ⟨rfl, ha⟩ | ⟨rfl, ha⟩
        · refine q_ifeq rfl rfl (fun h => absurd h (by decide)) (fun _ => ?_)
          refine q_iload_n rfl rfl rfl ?_
          exact q_iret rfl rfl trivial ⟨rfl, rfl, Or.inl ⟨j, hjN, ha, rfl⟩⟩
        · exact q_ifeq rfl rfl (fun _ => next ha _) (fun h => absurd rfl h)
      have inner : ∀ q k : Nat, k + q = 20 → (∀ i, i < k → row st R j i = nx i) → PQ (j_SL L) (j_SV xs) j_EX mm_X12_find 20 [.ref 46, .int (nI R), .int (nI j), .int 1, .int (nI k)] [] S n 0 0 (fdK R N st nx S n) := by
        intro q
        induction q with
        | zero =>
          intro k hk hs
          have e : k = 20 := by omega
          subst e
          refine q_iload rfl rfl rfl ?_
          refine q_bipush rfl rfl ?_
          refine q_icge rfl rfl (fun _ => fin 1 _ (Or.inl ⟨rfl, hs⟩)) (fun h => absurd (by decide) h)
        | succ q ihq =>
          intro k hkq hs
          have hk20 : k < 20 := by omega
          refine q_iload rfl rfl rfl ?_
          refine q_bipush rfl rfl ?_
          refine q_icge rfl rfl (fun h => absurd h (nI_ge (a := k) (b := 20) hk20 (by decide))) (fun _ => ?_)
          refine q_iload_n rfl rfl rfl ?_
          refine q_ifeq rfl rfl (fun h => absurd h (by decide)) (fun _ => ?_)
          refine q_aload_n rfl rfl rfl ?_
          refine q_getf rfl rfl (by omega) k46 f11 ?_
          refine q_bipush rfl rfl ?_
          refine q_sipush rfl rfl ?_
          refine q_iload_n rfl rfl rfl ?_
          refine q_imul rfl rfl (q_tn (z := nI (2000 * R)) (by rw [show (2000 : Int32) = nI 2000 from rfl, pk_mul]) ?_)
          refine q_iload_n rfl rfl rfl ?_
          refine q_iadd rfl rfl (q_tn (z := nI (2000 * R + j)) (nI_add _ _) ?_)
          refine q_imul rfl rfl (q_tn (z := nI (20 * (2000 * R + j))) (by rw [show (20 : Int32) = nI 20 from rfl, pk_mul]) ?_)
          refine q_iload rfl rfl rfl ?_
          refine q_iadd rfl rfl (q_tn (z := nI (20 * (2000 * R + j) + k)) (nI_add _ _) ?_)
          refine q_iald rfl rfl (by omega) k55 (q_inN (by omega) (by decide)) (q_tn (z := row st R j k) (by rw [nI_clamp (by omega)]; rfl) ?_)
          refine q_aload_n rfl rfl rfl ?_
          refine q_getf rfl rfl (by omega) k46 f9 ?_
          refine q_iload rfl rfl rfl ?_
          refine q_iald rfl rfl (by omega) k53 (q_inN (by omega) (by decide)) (q_tn (z := nx k) (by rw [nI_clamp (by omega)]) ?_)
          refine q_icne rfl rfl (fun h => ?_) (fun h => ?_)
          · refine q_iconst rfl rfl ?_
            refine q_goto rfl ?_
            refine q_ist3n rfl rfl rfl rfl ?_
            refine q_inc4 rfl rfl rfl rfl ?_
            refine q_goto rfl ?_
            rw [show nI k + 1 = nI (k + 1) from nI_add k 1]
            refine ihq (k + 1) (by omega) (fun i hi => ?_)
            by_cases e : i = k
            · rw [e]
              exact h
            · exact hs i (by omega)
          · refine q_iconst rfl rfl ?_
            refine q_ist3n rfl rfl rfl rfl ?_
            refine q_inc4 rfl rfl rfl rfl ?_
            refine q_goto rfl ?_
            rw [show nI k + 1 = nI (k + 1) from nI_add k 1]
            have hn0 : ¬ same st R j nx := fun h9 => h (h9 k hk20)
            refine q_iload rfl rfl rfl ?_
            refine q_bipush rfl rfl ?_
            refine q_icge rfl rfl (fun _ => fin 0 _ (Or.inr ⟨rfl, hn0⟩)) (fun _ => ?_)
            refine q_iload_n rfl rfl rfl ?_
            exact q_ifeq rfl rfl (fun _ => fin 0 _ (Or.inr ⟨rfl, hn0⟩)) (fun h => absurd rfl h)
      exact inner 20 0 rfl (fun i h => absurd h (by omega))
  refine q_aload_n rfl rfl rfl ?_
  refine q_getf rfl rfl (by omega) k46 f17 ?_
  refine q_aload_n rfl rfl rfl ?_
  refine q_iload_n rfl rfl rfl ?_
  refine q_cV rfl rfl (Or.inl rfl) rfl rfl rfl rfl (by omega) k46 trivial rfl rfl rfl rfl rfl (l_rest (K := fun r S' n' => S = S' ∧ n = n' ∧ r = some (.int (nI (8192 * R + rsV nx)))) rfl hn k46 f9 k53 ⟨rfl, rfl, rfl⟩) ?_
  rintro r _ _ ⟨rfl, rfl, rfl⟩
  show PQ (j_SL L) (j_SV xs) j_EX mm_X12_find 9 [.ref 46, .int (nI R), pm_un, pm_un, pm_un] [.int (nI (8192 * R + rsV nx)), .ref 61] S n 0 0 _
  refine q_iald rfl rfl (by omega) k61 (q_inN (by omega) (by decide)) (q_tn (z := nt (8192 * R + rsV nx)) (by rw [nI_clamp (by omega)]) ?_)
  refine q_ist2n rfl rfl rfl rfl ?_
  exact key N N _ (Nat.le_refl N) (Nat.le_refl N) (hC.1 _ hv) (fun j' g1 g2 => absurd g1 (by omega)) _ _
theorem top_in {hv hv' : Nat → Nat} {N r : Nat} {z : Int32} (h : top hv N r z) (e : ∀ j, j < N → hv' j = hv j) : top hv' N r z := by
  rcases h with ⟨h1, h2⟩ | ⟨j, h1, h2, h3, h4⟩
  · exact Or.inl ⟨h1, fun j hj => by rw [e j hj]; exact h2 j hj⟩
  · exact Or.inr ⟨j, h1, h2, (e j h1).trans h3, fun j' g1 g2 => by rw [e j' g2]; exact h4 j' g1 g2⟩
/-- one more in the chains -/
theorem ch_put {st' nt' ch' : Nat → Int32} (hC : CHn R N st ch nt) (hN : N < 2000) (hR : R ≤ 1) (h1 : ∀ j, j < N → ∀ k, k < 20 → row st' R j k = row st R j k) (h2 : ∀ k, k < 20 → row st' R N k = nx k) (h3 : ch' = upd ch (2000 * R + N) (nt (8192 * R + rsV nx))) (h4 : nt' = upd nt (8192 * R + rsV nx) (nI N)) : CHn R (N + 1) st' ch' nt' := by
  have e1 : ∀ j, j < N → rsV (row st' R j) = rsV (row st R j) := fun j hj => rsV_cg (h1 j hj)
  have e2 : rsV (row st' R N) = rsV nx := rsV_cg h2
  have hv := rsV_lt nx
  subst h3 h4
  constructor
  · intro r hr
    by_cases e : r = rsV nx
    · rw [e, u32_at]
      exact Or.inr ⟨N, by omega, rfl, e2, fun j' g1 g2 => by omega⟩
    · rw [u32_ot (by omega)]
      rcases hC.1 r hr with ⟨g1, g2⟩ | ⟨j, g1, g2, g3, g4⟩
      · refine Or.inl ⟨g1, fun j hj => ?_⟩
        by_cases ej : j = N
        · rw [ej]
          show rsV (row st' R N) ≠ r
          rw [e2]
          exact fun h => e h.symm
        · show rsV (row st' R j) ≠ r
          rw [e1 j (by omega)]
          exact g2 j (by omega)
      · refine Or.inr ⟨j, by omega, g2, (e1 j g1).trans g3, fun j' q1 q2 => ?_⟩
        by_cases ej : j' = N
        · rw [ej]
          show rsV (row st' R N) ≠ r
          rw [e2]
          exact fun h => e h.symm
        · show rsV (row st' R j') ≠ r
          rw [e1 j' (by omega)]
          exact g4 j' q1 (by omega)
  · intro k hk
    by_cases e : k = N
    · rw [e, u32_at, e2]
      exact top_in (hC.1 _ hv) (fun j hj => e1 j hj)
    · rw [u32_ot (by omega), e1 k (by omega)]
      exact top_in (hC.2 k (by omega)) (fun j hj => e1 j (by omega))
/-- cells that put leaves -/
def frP (S S' : Nat → pm_E) : Prop := ∀ k, k ≠ 55 → k ≠ 56 → k ≠ 57 → k ≠ 58 → k ≠ 60 → k ≠ 61 → S' k = S k
/-- what lies before a room stays -/
def low (R m : Nat) (f f' : Nat → Int32) : Prop := ∀ q, q < m * R → f' q = f q
theorem low_rf {m : Nat} {f : Nat → Int32} : low R m f f := fun _ _ => rfl
theorem low_up {m i : Nat} {f f' : Nat → Int32} {v : Int32} (h : low R m f f') (hi : m * R ≤ i) : low R m f (upd f' i v) := fun q hq => (u32_ot (by omega)).trans (h q hq)
theorem low_tr {m : Nat} {f f' f'' : Nat → Int32} (h : low R m f f') (h' : low R m f' f'') : low R m f f'' := fun q hq => (h' q hq).trans (h q hq)
def ptK (R N : Nat) (st cf cb ch sp ct nt nx : Nat → Int32) (v1 v2 : Int32) (S : Nat → pm_E) (n : Nat) : q_K := fun r S' n' => n = n' ∧ frP S S' ∧ ((N = 2000 ∧ r = some (.int (-1)) ∧ S = S') ∨ (N < 2000 ∧ r = some (.int (nI N)) ∧ ∃ st' ch' nt' ct', CHn R (N + 1) st' ch' nt' ∧ ORo R (N + 1) st' (upd cf (2000 * R + N) v1) (upd cb (2000 * R + N) v2) ch' sp ct' nt' nx S' ∧ (∀ j, j < N → ∀ k, k < 20 → row st' R j k = row st R j k) ∧ (∀ k, k < 20 → row st' R N k = nx k) ∧ low R 40000 st st' ∧ low R 2000 ch ch' ∧ low R 8192 nt nt' ∧ low R 1 ct ct'))
set_option maxHeartbeats 4000000 in
theorem r_put (hn : 82 ≤ n) (hR : R ≤ 1) (hN : N ≤ 2000) (hO : ORo R N st cf cb ch sp ct nt nx S) (hC : CHn R N st ch nt) : PM (j_SL L) (j_SV xs) j_EX mm_X12_put [.ref 46, .int (nI R), .int v1, .int v2] S n (ptK R N st cf cb ch sp ct nt nx v1 v2 S n) := by
  obtain ⟨fs, k46, f8, f9, f11, f12, f13, f14, f15, f16, f17, k53, k55, k56, k57, k58, k59, k60, k61, hct⟩ := hO
  have hv := rsV_lt nx
  change PQ (j_SL L) (j_SV xs) j_EX mm_X12_put 0 [.ref 46, .int (nI R), .int v1, .int v2, pm_un, pm_un, pm_un] [] S n 0 0 _
  refine q_aload_n rfl rfl rfl ?_
  refine q_getf rfl rfl (by omega) k46 f16 ?_
  refine q_iload_n rfl rfl rfl ?_
  refine q_iald rfl rfl (by omega) k60 (q_inN (by omega) (by decide)) (q_tn (z := nI N) (by rw [nI_clamp (by omega)]; exact hct) ?_)
  refine q_ist4 rfl rfl rfl rfl ?_
  refine q_iload rfl rfl rfl ?_
  refine q_sipush rfl rfl ?_
  refine q_icne rfl rfl (fun h => ?_) (fun h => ?_)
  · refine q_iconst rfl rfl ?_
    exact q_iret rfl rfl trivial ⟨rfl, fun _ _ _ _ _ _ _ => rfl, Or.inl ⟨(m_eq (b := 2000) (by omega) (by decide)).mp h, rfl, rfl⟩⟩
  have hlt : N < 2000 := by
    have : ¬ N = 2000 := fun e => h (by rw [e]; rfl)
    omega
  refine q_sipush rfl rfl ?_
  refine q_iload_n rfl rfl rfl ?_
  refine q_imul rfl rfl (q_tn (z := nI (2000 * R)) (by rw [show (2000 : Int32) = nI 2000 from rfl, pk_mul]) ?_)
  refine q_iload rfl rfl rfl ?_
  refine q_iadd rfl rfl (q_tn (z := nI (2000 * R + N)) (nI_add _ _) ?_)
  refine q_ist5 rfl rfl rfl rfl ?_
  refine q_iconst rfl rfl ?_
  refine q_ist6 rfl rfl rfl rfl ?_
  have tail : ∀ (T : Nat → pm_E) (st' : Nat → Int32) (w : Value), pm_c2 w = false → (∀ k, k ≠ 55 → T k = S k) → T 55 = .inl (0, 80000, .inl st') → (∀ j, j < N → ∀ k, k < 20 → row st' R j k = row st R j k) → (∀ k, k < 20 → row st' R N k = nx k) → low R 40000 st st' → PQ (j_SL L) (j_SV xs) j_EX mm_X12_put 64 [.ref 46, .int (nI R), .int v1, .int v2, .int (nI N), .int (nI (2000 * R + N)), w] [] T n 0 0 (ptK R N st cf cb ch sp ct nt nx v1 v2 S n) := by
    intro T st' w _ eT t55 hr1 hr2 hlo
    have t46 := (eT 46 (by decide)).trans k46
    refine q_aload_n rfl rfl rfl ?_
    refine q_getf rfl rfl (by omega) t46 f12 ?_
    refine q_iload rfl rfl rfl ?_
    refine q_iload_n rfl rfl rfl ?_
    refine q_iast rfl rfl (by omega) ((eT 56 (by decide)).trans k56) (q_inN (by omega) (by decide)) ?_
    rw [nI_clamp (by omega)]
    refine q_aload_n rfl rfl rfl ?_
    refine q_getf rfl rfl (by omega) ((u_ne (by decide)).trans t46) f13 ?_
    refine q_iload rfl rfl rfl ?_
    refine q_iload_n rfl rfl rfl ?_
    refine q_iast rfl rfl (by omega) ((u_ne (by decide)).trans ((eT 57 (by decide)).trans k57)) (q_inN (by omega) (by decide)) ?_
    rw [nI_clamp (by omega)]
    have eU : ∀ k, k ≠ 56 → k ≠ 57 → va_up (va_up T 56 (.inl (0, 4000, .inl (upd cf (2000 * R + N) v1)))) 57 (.inl (0, 4000, .inl (upd cb (2000 * R + N) v2))) k = T k := fun k h1 h2 => (u_ne h2).trans (u_ne h1)
    have u56 : va_up (va_up T 56 (.inl (0, 4000, .inl (upd cf (2000 * R + N) v1)))) 57 (.inl (0, 4000, .inl (upd cb (2000 * R + N) v2))) 56 = .inl (0, 4000, .inl (upd cf (2000 * R + N) v1)) := (u_ne (by decide)).trans u_eq
    have u57 : va_up (va_up T 56 (.inl (0, 4000, .inl (upd cf (2000 * R + N) v1)))) 57 (.inl (0, 4000, .inl (upd cb (2000 * R + N) v2))) 57 = .inl (0, 4000, .inl (upd cb (2000 * R + N) v2)) := u_eq
    generalize va_up (va_up T 56 (.inl (0, 4000, .inl (upd cf (2000 * R + N) v1)))) 57 (.inl (0, 4000, .inl (upd cb (2000 * R + N) v2))) = U at eU u56 u57 ⊢
    have uT : ∀ k, k ≠ 55 → k ≠ 56 → k ≠ 57 → U k = S k := fun k h0 h1 h2 => (eU k h1 h2).trans (eT k h0)
    have u46 := (uT 46 (by decide) (by decide) (by decide)).trans k46
    refine q_aload_n rfl rfl rfl ?_
    refine q_iload_n rfl rfl rfl ?_
    refine q_cV rfl rfl (Or.inl rfl) rfl rfl rfl rfl (by omega) u46 trivial rfl rfl rfl rfl rfl (l_rest (K := fun r S' n' => U = S' ∧ n = n' ∧ r = some (.int (nI (8192 * R + rsV nx)))) rfl hn u46 f9 ((uT 53 (by decide) (by decide) (by decide)).trans k53) ⟨rfl, rfl, rfl⟩) ?_
    rintro r _ _ ⟨rfl, rfl, rfl⟩
    show PQ (j_SL L) (j_SV xs) j_EX mm_X12_put 85 [.ref 46, .int (nI R), .int v1, .int v2, .int (nI N), .int (nI (2000 * R + N)), w] [.int (nI (8192 * R + rsV nx))] U n 0 0 _
    refine q_ist6 rfl rfl rfl rfl ?_
    refine q_aload_n rfl rfl rfl ?_
    refine q_getf rfl rfl (by omega) u46 f14 ?_
    refine q_iload rfl rfl rfl ?_
    refine q_aload_n rfl rfl rfl ?_
    refine q_getf rfl rfl (by omega) u46 f17 ?_
    refine q_iload rfl rfl rfl ?_
    refine q_iald rfl rfl (by omega) ((uT 61 (by decide) (by decide) (by decide)).trans k61) (q_inN (by omega) (by decide)) (q_tn (z := nt (8192 * R + rsV nx)) (by rw [nI_clamp (by omega)]) ?_)
    refine q_iast rfl rfl (by omega) ((uT 58 (by decide) (by decide) (by decide)).trans k58) (q_inN (by omega) (by decide)) ?_
    rw [nI_clamp (by omega)]
    refine q_aload_n rfl rfl rfl ?_
    refine q_getf rfl rfl (by omega) ((u_ne (by decide)).trans u46) f17 ?_
    refine q_iload rfl rfl rfl ?_
    refine q_iload rfl rfl rfl ?_
    refine q_iast rfl rfl (by omega) ((u_ne (by decide)).trans ((uT 61 (by decide) (by decide) (by decide)).trans k61)) (q_inN (by omega) (by decide)) ?_
    rw [nI_clamp (by omega)]
    refine q_aload_n rfl rfl rfl ?_
    refine q_getf rfl rfl (by omega) ((u_ne (by decide)).trans ((u_ne (by decide)).trans u46)) f16 ?_
    refine q_iload_n rfl rfl rfl ?_
    refine q_dup2 rfl rfl ?_
    refine q_iald rfl rfl (by omega) ((u_ne (by decide)).trans ((u_ne (by decide)).trans ((uT 60 (by decide) (by decide) (by decide)).trans k60))) (q_inN (by omega) (by decide)) (q_tn (z := nI N) (by rw [nI_clamp (by omega)]; exact hct) ?_)
    refine q_iconst rfl rfl ?_
    refine q_iadd rfl rfl (q_tn (z := nI (N + 1)) (nI_add N 1) ?_)
    refine q_iast rfl rfl (by omega) ((u_ne (by decide)).trans ((u_ne (by decide)).trans ((uT 60 (by decide) (by decide) (by decide)).trans k60))) (q_inN (by omega) (by decide)) ?_
    rw [nI_clamp (by omega)]
    refine q_iload rfl rfl rfl ?_
    refine q_iret rfl rfl trivial ⟨rfl, fun k h1 h2 h3 h4 h5 h6 => (u_ne h5).trans ((u_ne h6).trans ((u_ne h4).trans (uT k h1 h2 h3))), Or.inr ⟨hlt, rfl, st', _, _, upd ct R (nI (N + 1)), ch_put hC hlt hR hr1 hr2 rfl rfl, ?_, hr1, hr2, hlo, low_up low_rf (by omega), low_up low_rf (by omega), low_up low_rf (by omega)⟩⟩
    have V : ∀ k, k ≠ 58 → k ≠ 61 → k ≠ 60 → va_up (va_up (va_up U 58 (.inl (0, 4000, .inl (upd ch (2000 * R + N) (nt (8192 * R + rsV nx)))))) 61 (.inl (0, 16384, .inl (upd nt (8192 * R + rsV nx) (nI N))))) 60 (.inl (0, 2, .inl (upd ct R (nI (N + 1))))) k = U k := fun k h1 h2 h3 => (u_ne h3).trans ((u_ne h2).trans (u_ne h1))
    exact ⟨fs, (V 46 (by decide) (by decide) (by decide)).trans u46, f8, f9, f11, f12, f13, f14, f15, f16, f17, (V 53 (by decide) (by decide) (by decide)).trans ((uT 53 (by decide) (by decide) (by decide)).trans k53), (V 55 (by decide) (by decide) (by decide)).trans ((eU 55 (by decide) (by decide)).trans t55), (V 56 (by decide) (by decide) (by decide)).trans u56, (V 57 (by decide) (by decide) (by decide)).trans u57, (u_ne (by decide)).trans ((u_ne (by decide)).trans u_eq), (V 59 (by decide) (by decide) (by decide)).trans ((uT 59 (by decide) (by decide) (by decide)).trans k59), u_eq, (u_ne (by decide)).trans u_eq, u32_at⟩
  have loop : ∀ q k : Nat, k + q = 20 → ∀ (T : Nat → pm_E) (st' : Nat → Int32), (∀ k, k ≠ 55 → T k = S k) → T 55 = .inl (0, 80000, .inl st') → (∀ j, j < N → ∀ k, k < 20 → row st' R j k = row st R j k) → (∀ i, i < k → row st' R N i = nx i) → low R 40000 st st' → PQ (j_SL L) (j_SV xs) j_EX mm_X12_put 31 [.ref 46, .int (nI R), .int v1, .int v2, .int (nI N), .int (nI (2000 * R + N)), .int (nI k)] [] T n 0 0 (ptK R N st cf cb ch sp ct nt nx v1 v2 S n) := by
    intro q
    induction q with
    | zero =>
      intro k hk T st' eT t55 hr1 hr2 hlo
      have e : k = 20 := by omega
      subst e
      refine q_iload rfl rfl rfl ?_
      refine q_bipush rfl rfl ?_
      refine q_icge rfl rfl (fun _ => tail T st' _ rfl eT t55 hr1 hr2 hlo) (fun h => absurd (by decide) h)
    | succ q ih =>
      intro k hkq T st' eT t55 hr1 hr2 hlo
      have hk20 : k < 20 := by omega
      have t46 := (eT 46 (by decide)).trans k46
      refine q_iload rfl rfl rfl ?_
      refine q_bipush rfl rfl ?_
      refine q_icge rfl rfl (fun h => absurd h (nI_ge (a := k) (b := 20) hk20 (by decide))) (fun _ => ?_)
      refine q_aload_n rfl rfl rfl ?_
      refine q_getf rfl rfl (by omega) t46 f11 ?_
      refine q_bipush rfl rfl ?_
      refine q_iload rfl rfl rfl ?_
      refine q_imul rfl rfl (q_tn (z := nI (20 * (2000 * R + N))) (by rw [show (20 : Int32) = nI 20 from rfl, pk_mul]) ?_)
      refine q_iload rfl rfl rfl ?_
      refine q_iadd rfl rfl (q_tn (z := nI (20 * (2000 * R + N) + k)) (nI_add _ _) ?_)
      refine q_aload_n rfl rfl rfl ?_
      refine q_getf rfl rfl (by omega) t46 f9 ?_
      refine q_iload rfl rfl rfl ?_
      refine q_iald rfl rfl (by omega) ((eT 53 (by decide)).trans k53) (q_inN (by omega) (by decide)) (q_tn (z := nx k) (by rw [nI_clamp (by omega)]) ?_)
      refine q_iast rfl rfl (by omega) t55 (q_inN (by omega) (by decide)) ?_
      refine q_inc6 rfl rfl rfl rfl ?_
      refine q_goto rfl ?_
      rw [nI_clamp (by omega), show nI k + 1 = nI (k + 1) from nI_add k 1]
      refine ih (k + 1) (by omega) _ _ (fun i hi => (u_ne hi).trans (eT i hi)) u_eq (fun j hj i hi => ?_) (fun i hi => ?_) (low_up hlo (by omega))
      · exact (u32_ot (by omega)).trans (hr1 j hj i hi)
      · by_cases e : i = k
        · rw [e]
          exact u32_at
        · exact (u32_ot (by omega)).trans (hr2 i (by omega))
  exact loop 20 0 rfl S st (fun _ _ => rfl) k55 (fun _ _ _ _ => rfl) (fun i h => absurd h (by omega)) low_rf
end FI
