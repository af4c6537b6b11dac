/-! the reference: a state stood at, the first one, explore -/
section GE
variable {L : Nat} {xs : Nat → Int32} {S : Nat → pm_E} {n R N b pic i : Nat} {P : PG} {X : XT} {st cf cb ch sp ct nt nx nw : Nat → Int32}
theorem ra_inj {D D' : Nat → Nat} (hW : WFP P) (h : WFD P pic D) (h' : WFD P pic D') (e : ∀ k, k < 20 → ra P D k = ra P D' k) : ∀ k, k < 21 → D k = D' k := by
  have hH := hW.2.1
  have bd : ∀ (D : Nat → Nat), WFD P pic D → ∀ k, k < 21 → D k < 16 := fun D h k hk => by
    by_cases c : k < 4 * pH P
    · have hx : k / 4 < pH P := by omega
      have hw := h.1 (k / 4) hx
      have hl := hW.2.2.1 (k / 4) hx
      unfold WFh at hw
      rcases (show k = 4 * (k / 4) ∨ k = 4 * (k / 4) + 1 ∨ k = 4 * (k / 4) + 2 ∨ k = 4 * (k / 4) + 3 by omega) with q | q | q | q <;> rw [q] <;> omega
    · by_cases c2 : k < 12
      · rw [h.2.1 k (by omega) c2]
        decide
      · by_cases c3 : k < 16
        · have := h.2.2.1 (k - 12) (by omega)
          rw [show 12 + (k - 12) = k by omega] at this
          omega
        · by_cases c4 : k < 19
          · have := h.2.2.2.1 (k - 16) (by omega)
            rw [show 16 + (k - 16) = k by omega] at this
            omega
          · by_cases c5 : k = 19
            · rw [c5]
              have := h.2.2.2.2.1
              omega
            · rw [show k = 20 by omega, h.2.2.2.2.2.2]
              decide
  intro k hk
  by_cases c20 : k = 20
  · rw [c20, h.2.2.2.2.2.2, h'.2.2.2.2.2.2]
  have ek := e k (by omega)
  have b1 := bd D h k hk
  have b2 := bd D' h' k hk
  by_cases c : k < 4 * pH P ∧ k % 4 = 0
  · have hx : k / 4 < pH P := by omega
    have hl := hW.2.2.1 (k / 4) hx
    have q : k = 4 * (k / 4) := by omega
    rw [q, ra_0 hx, ra_0 hx] at ek
    have w1 := (h.1 (k / 4) hx).1
    have w2 := (h'.1 (k / 4) hx).1
    have er : rp P D (k / 4) = rp P D' (k / 4) := by
      refine nI_inj ?_ ?_ ek <;> unfold rp <;> split
      · omega
      · split <;> omega
      · omega
      · split <;> omega
    rw [q]
    unfold rp at er
    split at er <;> split at er <;> (try split at er) <;> (try split at er) <;> omega
  · unfold ra at ek
    rw [if_neg c, if_neg c] at ek
    exact nI_inj (by omega) (by omega) ek
theorem n_ext {D D' : Nat → Nat} (h1 : ∀ i, 21 ≤ i → D i = 0) (h2 : ∀ i, 21 ≤ i → D' i = 0) (e : ∀ k, k < 21 → D k = D' k) : D = D' := by
  funext k
  by_cases c : k < 21
  · exact e k c
  · rw [h1 k (by omega), h2 k (by omega)]
theorem nrm_hi {D : Nat → Nat} {i : Nat} (hi : 21 ≤ i) : nrm D i = 0 := if_neg (by omega)
def nwK (S : Nat → pm_E) (n : Nat) (f : Nat → Int32) : q_K := fun r S' n' => r = none ∧ n = n' ∧ (∀ k, k ≠ 52 → S' k = S k) ∧ ∃ nw', S' 52 = .inl (0, 20, .inl nw') ∧ ∀ k, k < 20 → nw' k = f k
set_option maxHeartbeats 4000000 in
theorem r_stand (hn : 82 ≤ n) (hR : R ≤ 1) (hi : i < 2000) (hO : ORo R N st cf cb ch sp ct nt nx S) (t52 : S 52 = .inl (0, 20, .inl nw)) : PM (j_SL L) (j_SV xs) j_EX mm_X12_standAt [.ref 46, .int (nI R), .int (nI i)] S n (nwK S n (row st R i)) := by
  obtain ⟨fs, k46, f8, f9, f11, f12, f13, f14, f15, f16, f17, k53, k55, k56, k57, k58, k59, k60, k61, hct⟩ := hO
  change PQ (j_SL L) (j_SV xs) j_EX mm_X12_standAt 0 [.ref 46, .int (nI R), .int (nI i), pm_un] [] S n 0 0 _
  have loop : ∀ q k : Nat, k + q = 20 → ∀ (T : Nat → pm_E) (nw1 : Nat → Int32), (∀ j, j ≠ 52 → T j = S j) → T 52 = .inl (0, 20, .inl nw1) → (∀ j, j < k → nw1 j = row st R i j) → PQ (j_SL L) (j_SV xs) j_EX mm_X12_standAt 2 [.ref 46, .int (nI R), .int (nI i), .int (nI k)] [] T n 0 0 (nwK S n (row st R i)) := by
    intro q
    induction q with
    | zero =>
      intro k hk T nw1 eT t52 hs
      have e : k = 20 := by omega
      subst e
      refine q_iload_n rfl rfl rfl ?_
      refine q_bipush rfl rfl ?_
      refine q_icge rfl rfl (fun _ => ?_) (fun h => absurd (by decide) h)
      exact q_ret rfl rfl ⟨rfl, rfl, eT, nw1, t52, hs⟩
    | succ q ih =>
      intro k hkq T nw1 eT t52 hs
      have hk20 : k < 20 := by omega
      have t46 := (eT 46 (by decide)).trans k46
      refine q_iload_n rfl rfl rfl ?_
      refine q_bipush rfl rfl ?_
      refine q_icge rfl rfl (fun h => absurd h (nI_ge (a := k) (b := 20) hk20 (by decide))) (fun _ => ?_)
      refine q_aload_n rfl rfl rfl ?_
      refine q_getf rfl rfl (by omega) t46 f8 ?_
      refine q_iload_n rfl rfl rfl ?_
      refine q_aload_n rfl rfl rfl ?_
      refine q_getf rfl rfl (by omega) t46 f11 ?_
      refine q_bipush rfl rfl ?_
      refine q_sipush rfl rfl ?_
      refine q_iload_n rfl rfl rfl ?_
      refine q_imul rfl rfl (q_tn (z := nI (2000 * R)) (by rw [show (2000 : Int32) = nI 2000 from rfl, pk_mul]) ?_)
      refine q_iload_n rfl rfl rfl ?_
      refine q_iadd rfl rfl (q_tn (z := nI (2000 * R + i)) (nI_add _ _) ?_)
      refine q_imul rfl rfl (q_tn (z := nI (20 * (2000 * R + i))) (by rw [show (20 : Int32) = nI 20 from rfl, pk_mul]) ?_)
      refine q_iload_n rfl rfl rfl ?_
      refine q_iadd rfl rfl (q_tn (z := nI (20 * (2000 * R + i) + k)) (nI_add _ _) ?_)
      refine q_iald rfl rfl (by omega) ((eT 55 (by decide)).trans k55) (q_inN (by omega) (by decide)) (q_tn (z := row st R i k) (by rw [nI_clamp (by omega)]; rfl) ?_)
      refine q_iast rfl rfl (by omega) t52 (q_inN (by omega) (by decide)) ?_
      refine q_inc3 rfl rfl rfl rfl ?_
      refine q_goto rfl ?_
      rw [nI_clamp (by omega), show nI k + 1 = nI (k + 1) from nI_add k 1]
      refine ih (k + 1) (by omega) _ _ (fun j hj => (u_ne hj).trans (eT j hj)) u_eq (fun j hj => ?_)
      by_cases e : j = k
      · rw [e, u32_at]
      · rw [u32_ot e]
        exact hs j (by omega)
  refine q_iconst rfl rfl ?_
  refine q_ist3n rfl rfl rfl rfl ?_
  exact loop 20 0 rfl S nw (fun _ _ => rfl) t52 (fun j h => absurd h (by omega))
set_option maxHeartbeats 4000000 in
theorem r_first (hW : WFP P) (hn : 82 ≤ n) (hb : b ≤ 3) (hJR : JR b P S) (t52 : S 52 = .inl (0, 20, .inl nw)) : PM (j_SL L) (j_SV xs) j_EX mm_X12_firstState [.ref 46] S n (nwK S n (ra P (nrm (firD P)))) := by
  have hH := hW.2.1
  obtain ⟨fs, mn, fk, fa, fn, vl, k46, f1, f2, f3, f4, f5, f6, f7, f8, f9, f10, k47, k48, k49, k50, k51, hmn, hpr, hvl⟩ := hJR
  have hf : ∀ j, j < 21 → nrm (firD P) j = firD P j := fun j hj => if_pos hj
  have z : ∀ j, j < 12 ∨ 16 ≤ j → firD P j = 0 := fun j hj => if_neg (by omega)
  change PQ (j_SL L) (j_SV xs) j_EX mm_X12_firstState 0 [.ref 46, pm_un] [] S n 0 0 _
  have l3 : ∀ q p : Nat, p + q = 4 → ∀ (T : Nat → pm_E) (nw1 : Nat → Int32), (∀ j, j ≠ 52 → T j = S j) → T 52 = .inl (0, 20, .inl nw1) → (∀ j, j < 20 → (j < 12 + p ∨ 16 ≤ j) → nw1 j = ra P (nrm (firD P)) j) → PQ (j_SL L) (j_SV xs) j_EX mm_X12_firstState 67 [.ref 46, .int (nI p)] [] T n 0 0 (nwK S n (ra P (nrm (firD P)))) := by
    intro q
    induction q with
    | zero =>
      intro p hp T nw1 eT t52 hs
      have e : p = 4 := by omega
      subst e
      refine q_iload_n rfl rfl rfl ?_
      refine q_iconst rfl rfl ?_
      refine q_icge rfl rfl (fun _ => ?_) (fun h => absurd (by decide) h)
      exact q_ret rfl rfl ⟨rfl, rfl, eT, nw1, t52, fun j hj => hs j hj (by omega)⟩
    | succ q ih =>
      intro p hpq T nw1 eT t52 hs
      have hp4 : p < 4 := by omega
      have t46 := (eT 46 (by decide)).trans k46
      refine q_iload_n rfl rfl rfl ?_
      refine q_iconst rfl rfl ?_
      refine q_icge rfl rfl (fun h => absurd h (nI_ge (a := p) (b := 4) hp4 (by decide))) (fun _ => ?_)
      refine q_aload_n rfl rfl rfl ?_
      refine q_getf rfl rfl (by omega) t46 f8 ?_
      refine q_bipush rfl rfl ?_
      refine q_iload_n rfl rfl rfl ?_
      refine q_iadd rfl rfl (q_tn (z := nI (12 + p)) (nI_add 12 p) ?_)
      refine q_aload_n rfl rfl rfl ?_
      refine q_getf rfl rfl (by omega) t46 f6 ?_
      refine q_iload_n rfl rfl rfl ?_
      refine q_iald rfl rfl (by omega) ((eT 51 (by decide)).trans k51) (q_inN (by omega) (by decide)) (q_tn (z := nI (pV P p)) (by rw [nI_clamp (by omega)]; exact hvl p hp4) ?_)
      refine q_iast rfl rfl (by omega) t52 (q_inN (by omega) (by decide)) ?_
      refine q_inc1 rfl rfl rfl rfl ?_
      refine q_goto rfl ?_
      rw [nI_clamp (by omega), show nI p + 1 = nI (p + 1) from nI_add p 1]
      refine ih (p + 1) (by omega) _ _ (fun j hj => (u_ne hj).trans (eT j hj)) u_eq (fun j hj hc => ?_)
      by_cases e : j = 12 + p
      · rw [e, u32_at, ra_h hH (by omega), hf _ (by omega)]
        unfold firD
        rw [if_pos (by omega), Nat.add_sub_cancel_left]
      · rw [u32_ot e]
        exact hs j hj (by omega)
  have l2 : ∀ q x : Nat, x + q = pH P → ∀ (T : Nat → pm_E) (nw1 : Nat → Int32), (∀ j, j ≠ 52 → T j = S j) → T 52 = .inl (0, 20, .inl nw1) → (∀ j, j < 20 → (4 * x ≤ j → nw1 j = 0) ∧ (j < 4 * x → nw1 j = ra P (nrm (firD P)) j)) → PQ (j_SL L) (j_SV xs) j_EX mm_X12_firstState 23 [.ref 46, .int (nI x)] [] T n 0 0 (nwK S n (ra P (nrm (firD P)))) := by
    intro q
    induction q with
    | zero =>
      intro x hx T nw1 eT t52 hs
      have t46 := (eT 46 (by decide)).trans k46
      refine q_iload_n rfl rfl rfl ?_
      refine q_aload_n rfl rfl rfl ?_
      refine q_getf rfl rfl (by omega) t46 f1 ?_
      refine q_icge rfl rfl (fun _ => ?_) (fun h => absurd ((m_le (by omega) (by omega)).mpr (by omega)) h)
      refine q_iconst rfl rfl ?_
      refine q_ist1n rfl rfl rfl rfl ?_
      refine l3 4 0 rfl T nw1 eT t52 (fun j hj hc => ?_)
      by_cases c : j < 4 * x
      · exact (hs j hj).2 c
      · rw [(hs j hj).1 (by omega), ra_z (by omega), hf _ (by omega), z j (by omega)]
        rfl
    | succ q ih =>
      intro x hxq T nw1 eT t52 hs
      have hx : x < pH P := by omega
      have hl8 := hW.2.2.1 x hx
      have t46 := (eT 46 (by decide)).trans k46
      refine q_iload_n rfl rfl rfl ?_
      refine q_aload_n rfl rfl rfl ?_
      refine q_getf rfl rfl (by omega) t46 f1 ?_
      refine q_icge rfl rfl (fun h => absurd ((m_le (by omega) (by omega)).mp h) (by omega)) (fun _ => ?_)
      refine q_aload_n rfl rfl rfl ?_
      refine q_getf rfl rfl (by omega) t46 f8 ?_
      refine q_iconst rfl rfl ?_
      refine q_iload_n rfl rfl rfl ?_
      refine q_imul rfl rfl (q_tn (z := nI (4 * x)) (by rw [show (4 : Int32) = nI 4 from rfl, pk_mul]) ?_)
      refine q_aload_n rfl rfl rfl ?_
      refine q_getf rfl rfl (by omega) t46 f2 ?_
      refine q_aload_n rfl rfl rfl ?_
      refine q_getf rfl rfl (by omega) t46 f7 ?_
      refine q_iload_n rfl rfl rfl ?_
      refine q_iadd rfl rfl (q_tn (z := nI (b + x)) (nI_add _ _) ?_)
      refine q_iald rfl rfl (by omega) ((eT 47 (by decide)).trans k47) (q_inN (by omega) (by decide)) (q_tn (z := nI (pL P x)) (by rw [nI_clamp (by omega)]; exact hmn x hx) ?_)
      have tl : ∀ v : Nat, v = rp P (nrm (firD P)) x → PQ (j_SL L) (j_SV xs) j_EX mm_X12_firstState 58 [.ref 46, .int (nI x)] [.int (nI v), .int (nI (4 * x)), .ref 52] T n 0 0 (nwK S n (ra P (nrm (firD P)))) := by
        rintro v rfl
        refine q_iast rfl rfl (by omega) t52 (q_inN (by omega) (by decide)) ?_
        refine q_inc1 rfl rfl rfl rfl ?_
        refine q_goto rfl ?_
        rw [nI_clamp (by omega), show nI x + 1 = nI (x + 1) from nI_add x 1]
        refine ih (x + 1) (by omega) _ _ (fun j hj => (u_ne hj).trans (eT j hj)) u_eq (fun j hj => ⟨fun hc => ?_, fun hc => ?_⟩)
        · rw [u32_ot (by omega)]
          exact (hs j hj).1 (by omega)
        · by_cases e : j = 4 * x
          · rw [e, u32_at, ra_0 hx]
          · rw [u32_ot e]
            by_cases c : j < 4 * x
            · exact (hs j hj).2 c
            · rw [(hs j hj).1 (by omega), ra_k (by omega), hf _ (by omega), z j (by omega)]
              rfl
      have e0 : nrm (firD P) (4 * x) = 0 := (hf _ (by omega)).trans (z _ (by omega))
      refine q_ifne rfl rfl (fun h => ?_) (fun h => ?_)
      · have h0 := (m_eq (b := 0) (by omega) (by decide)).mp h
        refine q_bipush rfl rfl ?_
        refine q_goto rfl ?_
        refine tl 10 ?_
        unfold rp
        rw [e0, if_neg (by omega), if_neg (by decide)]
      · have h0 : ¬ pL P x = 0 := fun e => h (by rw [e]; rfl)
        refine q_iconst rfl rfl ?_
        refine tl 0 ?_
        unfold rp
        rw [e0, if_pos (by omega)]
  have l1 : ∀ q k : Nat, k + q = 20 → ∀ (T : Nat → pm_E) (nw1 : Nat → Int32), (∀ j, j ≠ 52 → T j = S j) → T 52 = .inl (0, 20, .inl nw1) → (∀ j, j < k → nw1 j = 0) → PQ (j_SL L) (j_SV xs) j_EX mm_X12_firstState 2 [.ref 46, .int (nI k)] [] T n 0 0 (nwK S n (ra P (nrm (firD P)))) := by
    intro q
    induction q with
    | zero =>
      intro k hk T nw1 eT t52 hs
      have e : k = 20 := by omega
      subst e
      refine q_iload_n rfl rfl rfl ?_
      refine q_bipush rfl rfl ?_
      refine q_icge rfl rfl (fun _ => ?_) (fun h => absurd (by decide) h)
      refine q_iconst rfl rfl ?_
      refine q_ist1n rfl rfl rfl rfl ?_
      exact l2 (pH P) 0 (by omega) T nw1 eT t52 (fun j hj => ⟨fun _ => hs j hj, fun h => absurd h (by omega)⟩)
    | succ q ih =>
      intro k hkq T nw1 eT t52 hs
      have hk20 : k < 20 := by omega
      have t46 := (eT 46 (by decide)).trans k46
      refine q_iload_n rfl rfl rfl ?_
      refine q_bipush rfl rfl ?_
      refine q_icge rfl rfl (fun h => absurd h (nI_ge (a := k) (b := 20) hk20 (by decide))) (fun _ => ?_)
      refine q_aload_n rfl rfl rfl ?_
      refine q_getf rfl rfl (by omega) t46 f8 ?_
      refine q_iload_n rfl rfl rfl ?_
      refine q_iconst rfl rfl ?_
      refine q_iast rfl rfl (by omega) t52 (q_inN (by omega) (by decide)) ?_
      refine q_inc1 rfl rfl rfl rfl ?_
      refine q_goto rfl ?_
      rw [nI_clamp (by omega), show nI k + 1 = nI (k + 1) from nI_add k 1]
      refine ih (k + 1) (by omega) _ _ (fun j hj => (u_ne hj).trans (eT j hj)) u_eq (fun j hj => ?_)
      by_cases e : j = k
      · rw [e, u32_at]
      · rw [u32_ot e]
        exact hs j (by omega)
  refine q_iconst rfl rfl ?_
  refine q_ist1n rfl rfl rfl rfl ?_
  exact l1 20 0 rfl S nw (fun _ _ => rfl) t52 (fun j h => absurd h (by omega))
end GE
