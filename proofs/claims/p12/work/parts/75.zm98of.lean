/-! count, nth: the reference -/
section OF
variable {θ : Th} {P : PG} {S S' : Nat → pm_E} {n k i w N : Nat} {L : Nat} {xs : Nat → Int32} {x y : Int32} {A : Nat → Prop} {fs : List Value}
theorem pq_hp {M : pm_M} {pc : Nat} {l st : List Value} {K : q_K} {R : q_K} (h : PQ (j_SL L) (j_SV xs) j_EX M pc l st S n 0 0 K) (hK : ∀ r S' n', K r S' n' → R r S' n') : PQ (j_SL L) (j_SV xs) j_EX M pc l st S n 0 0 R := q_weak h hK
/-- the state of room 0 that a number has is put; what the reference read stays -/
def R52 (P : PG) (S S' : Nat → pm_E) : Prop := (∀ k, k ≠ 52 → S' k = S k) ∧ RSo P S'
theorem srt_i2 {pic : Nat} {D : Nat → Nat} : srt P pic D = 2 ↔ (¬ ∃ x, x < pH P ∧ mayP P pic D x) ∧ ¬ endP P D := by
  by_cases h : ∃ x, x < pH P ∧ mayP P pic D x
  · exact ⟨fun e => (by rw [srt_0 h] at e; cases e), fun e => absurd h e.1⟩
  · by_cases h2 : endP P D
    · exact ⟨fun e => (by rw [srt_1 h h2] at e; cases e), fun e => absurd h2 e.2⟩
    · exact ⟨fun _ => ⟨h, h2⟩, fun _ => srt_2 h h2⟩
theorem no_may (hW : WFP P) (hp1 : xP (xE P 0) = false) (hi : i < xN (xE P 0)) : (∀ x, x < 3 → xL (xE P 0) (3 * i + x) < 0) ↔ ¬ ∃ x, x < pH P ∧ mayP P 0 (xS (xE P 0) i) x := by
  have hM := xe_m9 hW hp1
  have hR := (xe_r9 hW hp1).2
  have h3 := hW.2.1
  have hN := (xe_wx (k := 0) hW).1.2.1
  have key : ∀ x, x < 3 → (xL (xE P 0) (3 * i + x) < 0 ↔ ¬ (x < pH P ∧ mayP P 0 (xS (xE P 0) i) x)) := fun x hx => by
    have h := hM (3 * i + x) (by omega)
    rw [show (3 * i + x) % 3 = x by omega, show (3 * i + x) / 3 = i by omega] at h
    rw [← h]
    rcases hR (3 * i + x) (by omega) with e | ⟨j, hj, e⟩
    · rw [e]
      exact ⟨fun _ => rfl, fun _ => by decide⟩
    · rw [e]
      refine ⟨fun c => ?_, fun c => absurd c (nI_nm (by omega))⟩
      have := nI_p0 (a := j) (by omega)
      rw [Int32.lt_iff_toInt_lt] at c
      rw [Int32.le_iff_toInt_le] at this
      omega
  refine ⟨fun h ⟨x, hx, hm⟩ => (key x (by omega)).mp (h x (by omega)) ⟨hx, hm⟩, fun h x hx => (key x hx).mpr (fun c => h ⟨x, c.1, c.2⟩)⟩
/-- what count and nth stand on, in the reference -/
def RQ9 (P : PG) (w : Nat) (S : Nat → pm_E) : Prop := RSo P S ∧ (w = 2 → BR (xE P 0) S) ∧ ∃ fs : List Value, S 46 = .inr (10, fs) ∧ fs[22]? = some (.ref 65)
set_option maxHeartbeats 4000000 in
theorem l_stuck (hW : WFP P) (hp1 : xP (xE P 0) = false) (hn : 82 ≤ n) (hi : i < xN (xE P 0)) (h : RSo P S) : PM (j_SL L) (j_SV xs) j_EX mm_X12_isStuck [.ref 46, .int (nI 0), .int (nI i)] S n (fun r S' n' => n = n' ∧ R52 P S S' ∧ ((srt P 0 (xS (xE P 0) i) = 2 ∧ r = some (.int 1)) ∨ (¬ srt P 0 (xS (xE P 0) i) = 2 ∧ r = some (.int 0)))) := by
  have hN := (xe_wx (k := 0) hW).1.2.1
  have h9 := h
  obtain ⟨st, cf, cb, ch, sp, ct, nt, nx, nw0, ⟨gs, u46, g8, g9, g11, g12, g13, g14, g15, g16, g17, t53, t55, t56, t57, t58, t59, t60, t61, hct⟩, t52, hJ, h1, h2, h3⟩ := h
  change PQ (j_SL L) (j_SV xs) j_EX mm_X12_isStuck 0 [.ref 46, .int (nI 0), .int (nI i), pm_un, pm_un] [] S n 0 0 _
  have tail : ∀ v : Int32, ((v = 1 ∧ ∀ x, x < 3 → xL (xE P 0) (3 * i + x) < 0) ∨ (v = 0 ∧ ¬ ∀ x, x < 3 → xL (xE P 0) (3 * i + x) < 0)) → PQ (j_SL L) (j_SV xs) j_EX mm_X12_isStuck 47 [.ref 46, .int (nI 0), .int (nI i), .int v, .int 3] [] S n 0 0 (fun r S' n' => n = n' ∧ R52 P S S' ∧ ((srt P 0 (xS (xE P 0) i) = 2 ∧ r = some (.int 1)) ∨ (¬ srt P 0 (xS (xE P 0) i) = 2 ∧ r = some (.int 0)))) := by
    intro v hv
    refine q_aload_n rfl rfl rfl ?_
    refine q_iload_n rfl rfl rfl ?_
    refine q_iload_n rfl rfl rfl ?_
    refine q_cV rfl rfl (Or.inl rfl) rfl rfl rfl rfl (by omega) u46 trivial rfl rfl rfl rfl rfl (l_std hW hn h9 hi) ?_
    rintro r T _ ⟨rfl, rfl, eT, hT, nw, v52, hnw⟩
    show PQ (j_SL L) (j_SV xs) j_EX mm_X12_isStuck 53 [.ref 46, .int (nI 0), .int (nI i), .int v, .int 3] [] T n 0 0 _
    have hT9 : R52 P S T := ⟨eT, hT⟩
    obtain ⟨_, _, _, _, _, _, _, _, _, -, -, hJ9, -⟩ := id hT
    have v46 := (eT 46 (by decide)).trans u46
    refine q_iload_n rfl rfl rfl ?_
    rcases hv with ⟨rfl, hv⟩ | ⟨rfl, hv⟩
    rotate_left
    · refine q_ifeq rfl rfl (fun _ => ?_) (fun c => absurd rfl c)
      refine q_iconst rfl rfl ?_
      exact q_iret rfl rfl rfl ⟨rfl, hT9, Or.inr ⟨fun e => hv ((no_may hW hp1 hi).mpr (srt_i2.mp e).1), rfl⟩⟩
    refine q_ifeq rfl rfl (fun c => absurd c (by decide)) (fun _ => ?_)
    refine q_aload_n rfl rfl rfl ?_
    refine q_cV rfl rfl (Or.inl rfl) rfl rfl rfl rfl (by omega) v46 trivial rfl rfl rfl rfl rfl (l_isend (b := 0) hW hn (by decide) hJ9 v52 hnw) ?_
    rintro r _ _ ⟨rfl, rfl, hr⟩
    rcases hr with ⟨q, rfl⟩ | ⟨q, rfl⟩
    · show PQ (j_SL L) (j_SV xs) j_EX mm_X12_isStuck 61 [.ref 46, .int (nI 0), .int (nI i), .int 1, .int 3] [.int 1] T n 0 0 _
      refine q_fne rfl rfl (fun _ => ?_) (fun c => absurd (by decide) c)
      refine q_iconst rfl rfl ?_
      exact q_iret rfl rfl rfl ⟨rfl, hT9, Or.inr ⟨fun e => (srt_i2.mp e).2 q, rfl⟩⟩
    · show PQ (j_SL L) (j_SV xs) j_EX mm_X12_isStuck 61 [.ref 46, .int (nI 0), .int (nI i), .int 1, .int 3] [.int 0] T n 0 0 _
      refine q_fne rfl rfl (fun c => absurd rfl c) (fun _ => ?_)
      refine q_iconst rfl rfl ?_
      refine q_goto rfl ?_
      exact q_iret rfl rfl rfl ⟨rfl, hT9, Or.inl ⟨srt_i2.mpr ⟨(no_may hW hp1 hi).mp hv, q⟩, rfl⟩⟩
  have loop : ∀ q k : Nat, k + q = 3 → ∀ v : Int32, ((v = 1 ∧ ∀ x, x < k → xL (xE P 0) (3 * i + x) < 0) ∨ (v = 0 ∧ ¬ ∀ x, x < 3 → xL (xE P 0) (3 * i + x) < 0)) → PQ (j_SL L) (j_SV xs) j_EX mm_X12_isStuck 5 [.ref 46, .int (nI 0), .int (nI i), .int v, .int (nI k)] [] S n 0 0 (fun r S' n' => n = n' ∧ R52 P S S' ∧ ((srt P 0 (xS (xE P 0) i) = 2 ∧ r = some (.int 1)) ∨ (¬ srt P 0 (xS (xE P 0) i) = 2 ∧ r = some (.int 0)))) := by
    intro q
    induction q with
    | zero =>
      intro k hk v hv
      have e : k = 3 := by omega
      subst e
      refine q_iload rfl rfl rfl ?_
      refine q_iconst rfl rfl ?_
      refine q_icge rfl rfl (fun _ => ?_) (fun c => absurd (by decide) c)
      exact tail v hv
    | succ q ih =>
      intro k hkq v hv
      refine q_iload rfl rfl rfl ?_
      refine q_iconst rfl rfl ?_
      refine q_icge rfl rfl (fun c => absurd c (nI_ge (a := k) (b := 3) (by omega) (by decide))) (fun _ => ?_)
      have go : ∀ v' v0 : Int32, ((v' = 1 ∧ ∀ x, x < k + 1 → xL (xE P 0) (3 * i + x) < 0) ∨ (v' = 0 ∧ ¬ ∀ x, x < 3 → xL (xE P 0) (3 * i + x) < 0)) → PQ (j_SL L) (j_SV xs) j_EX mm_X12_isStuck 40 [.ref 46, .int (nI 0), .int (nI i), .int v0, .int (nI k)] [.int v'] S n 0 0 (fun r S' n' => n = n' ∧ R52 P S S' ∧ ((srt P 0 (xS (xE P 0) i) = 2 ∧ r = some (.int 1)) ∨ (¬ srt P 0 (xS (xE P 0) i) = 2 ∧ r = some (.int 0)))) := by
        intro v' v0 h
        refine q_ist3n rfl rfl rfl rfl ?_
        refine q_icc4 rfl rfl rfl rfl (z := nI (k + 1)) (nI_add k 1) ?_
        refine q_goto rfl ?_
        exact ih (k + 1) (by omega) v' h
      refine q_iload_n rfl rfl rfl ?_
      rcases hv with ⟨rfl, hv⟩ | ⟨rfl, hv⟩
      rotate_left
      · refine q_ifeq rfl rfl (fun _ => ?_) (fun c => absurd rfl c)
        refine q_iconst rfl rfl ?_
        exact go 0 0 (Or.inr ⟨rfl, hv⟩)
      refine q_ifeq rfl rfl (fun c => absurd c (by decide)) (fun _ => ?_)
      refine q_aload_n rfl rfl rfl ?_
      refine q_getf rfl rfl (by omega) u46 g15 ?_
      refine q_iconst rfl rfl ?_
      refine q_sipush rfl rfl ?_
      refine q_iload_n rfl rfl rfl ?_
      refine q_imul rfl rfl (q_tn (z := nI (2000 * 0)) (by rw [show (2000 : Int32) = nI 2000 from rfl, pk_mul]) ?_)
      refine q_iload_n rfl rfl rfl ?_
      refine q_iadd rfl rfl (q_tn (z := nI (2000 * 0 + i)) (nI_add _ _) ?_)
      refine q_imul rfl rfl (q_tn (z := nI (3 * (2000 * 0 + i))) (by rw [show (3 : Int32) = nI 3 from rfl, pk_mul]) ?_)
      refine q_iload rfl rfl rfl ?_
      refine q_iadd rfl rfl (q_tn (z := nI (3 * (2000 * 0 + i) + k)) (nI_add _ _) ?_)
      refine q_iald rfl rfl (by omega) t59 (q_inN (by omega) (by decide)) (q_tn (z := xL (xE P 0) (3 * i + k)) (by rw [nI_clamp (by omega)]; exact by rw [show 3 * (2000 * 0 + i) + k = 6000 * 0 + (3 * i + k) by omega]; exact h3 _ (by omega)) ?_)
      by_cases c : xL (xE P 0) (3 * i + k) < 0
      · refine q_ifge rfl rfl (fun c9 => absurd c (by rw [Int32.lt_iff_toInt_lt]; rw [Int32.le_iff_toInt_le] at c9; omega)) (fun _ => ?_)
        refine q_iconst rfl rfl ?_
        refine q_goto rfl ?_
        refine go 1 1 (Or.inl ⟨rfl, fun x hx => ?_⟩)
        rcases Nat.lt_or_eq_of_le (Nat.le_of_lt_succ hx) with c9 | c9
        · exact hv x c9
        · rw [c9]
          exact c
      · refine q_ifge rfl rfl (fun _ => ?_) (fun c9 => absurd (by rw [Int32.lt_iff_toInt_lt] at c; rw [Int32.le_iff_toInt_le]; omega) c9)
        refine q_iconst rfl rfl ?_
        exact go 0 1 (Or.inr ⟨rfl, fun h => c (h k (by omega))⟩)
  refine q_iconst rfl rfl ?_
  refine q_ist3n rfl rfl rfl rfl ?_
  refine q_iconst rfl rfl ?_
  refine q_ist4 rfl rfl rfl rfl ?_
  exact loop 3 0 rfl 1 (Or.inl ⟨rfl, fun x hx => absurd hx (by omega)⟩)
set_option maxHeartbeats 4000000 in
theorem l_such (hW : WFP P) (hp1 : xP (xE P 0) = false) (hn : 82 ≤ n) (hw : w < 3) (hi : i < xN (xE P 0)) (h : RQ9 P w S) : PM (j_SL L) (j_SV xs) j_EX mm_X12_isSuch [.ref 46, .int (nI w), .int (nI i)] S n (fun r S' n' => n = n' ∧ R52 P S S' ∧ ((soP P w i ∧ r = some (.int 1)) ∨ (¬ soP P w i ∧ r = some (.int 0)))) := by
  have hN := (xe_wx (k := 0) hW).1.2.1
  obtain ⟨hR, hB, fs, k46, f22⟩ := h
  change PQ (j_SL L) (j_SV xs) j_EX mm_X12_isSuch 0 [.ref 46, .int (nI w), .int (nI i)] [] S n 0 0 _
  refine q_iload_n rfl rfl rfl ?_
  refine q_iconst rfl rfl ?_
  by_cases e2 : w = 2
  · subst e2
    refine q_cne rfl rfl (fun c => absurd rfl c) (fun _ => ?_)
    obtain ⟨bf, k65, hbf⟩ := hB rfl
    refine q_aload_n rfl rfl rfl ?_
    refine q_getf rfl rfl (by omega) k46 f22 ?_
    refine q_iload_n rfl rfl rfl ?_
    refine q_zald rfl rfl (by omega) k65 (q_inN (by omega) (by decide)) (q_tn (z := b2 (bkE (xE P 0) i)) (by rw [nI_clamp (by omega)]; exact hbf i hi) ?_)
    have sob : soP P 2 i ↔ bkE (xE P 0) i = true := ⟨fun h => by
      rcases h with ⟨h, -⟩ | ⟨h, -⟩ | ⟨-, h⟩
      · omega
      · omega
      · exact h, fun h => Or.inr (Or.inr ⟨rfl, h⟩)⟩
    cases hb : bkE (xE P 0) i
    · exact q_iret rfl rfl rfl ⟨rfl, ⟨fun _ _ => rfl, hR⟩, Or.inr ⟨fun h => (by rw [sob, hb] at h; cases h), rfl⟩⟩
    · exact q_iret rfl rfl rfl ⟨rfl, ⟨fun _ _ => rfl, hR⟩, Or.inl ⟨sob.mpr hb, rfl⟩⟩
  refine q_cne rfl rfl (fun _ => ?_) (fun c => absurd (fun c9 => e2 ((m_eq (b := 2) (by omega) (by decide)).mp c9)) c)
  refine q_iload_n rfl rfl rfl ?_
  refine q_iconst rfl rfl ?_
  by_cases e1 : w = 1
  · subst e1
    refine q_cne rfl rfl (fun c => absurd rfl c) (fun _ => ?_)
    refine q_aload_n rfl rfl rfl ?_
    refine q_iconst rfl rfl ?_
    refine q_iload_n rfl rfl rfl ?_
    have so1 : soP P 1 i ↔ srt P 0 (xS (xE P 0) i) = 2 := ⟨fun h => by
      rcases h with ⟨h, -⟩ | ⟨-, h⟩ | ⟨h, -⟩
      · omega
      · exact h
      · omega, fun h => Or.inr (Or.inl ⟨rfl, h⟩)⟩
    refine q_cV rfl rfl (Or.inl rfl) rfl rfl rfl rfl (by omega) k46 trivial rfl rfl rfl rfl rfl (l_stuck hW hp1 hn hi hR) ?_
    rintro r T _ ⟨rfl, hT, hr⟩
    rcases hr with ⟨q, rfl⟩ | ⟨q, rfl⟩
    · exact q_iret rfl rfl rfl ⟨rfl, hT, Or.inl ⟨so1.mpr q, rfl⟩⟩
    · exact q_iret rfl rfl rfl ⟨rfl, hT, Or.inr ⟨fun h => q (so1.mp h), rfl⟩⟩
  refine q_cne rfl rfl (fun _ => ?_) (fun c => absurd (fun c9 => e1 ((m_eq (b := 1) (by omega) (by decide)).mp c9)) c)
  have e0 : w = 0 := by omega
  subst e0
  have so0 : soP P 0 i ↔ endP P (xS (xE P 0) i) := ⟨fun h => by
    rcases h with ⟨-, h⟩ | ⟨h, -⟩ | ⟨h, -⟩
    · exact srt_end.mp h
    · omega
    · omega, fun h => Or.inl ⟨rfl, srt_end.mpr h⟩⟩
  refine q_aload_n rfl rfl rfl ?_
  refine q_iconst rfl rfl ?_
  refine q_iload_n rfl rfl rfl ?_
  refine q_cV rfl rfl (Or.inl rfl) rfl rfl rfl rfl (by omega) k46 trivial rfl rfl rfl rfl rfl (l_std hW hn hR hi) ?_
  rintro r T _ ⟨rfl, rfl, eT, hT, nw, v52, hnw⟩
  show PQ (j_SL L) (j_SV xs) j_EX mm_X12_isSuch 30 [.ref 46, .int (nI 0), .int (nI i)] [] T n 0 0 _
  obtain ⟨_, _, _, _, _, _, _, _, _, -, -, hJ9, -⟩ := id hT
  have v46 := (eT 46 (by decide)).trans k46
  refine q_aload_n rfl rfl rfl ?_
  refine q_cV rfl rfl (Or.inl rfl) rfl rfl rfl rfl (by omega) v46 trivial rfl rfl rfl rfl rfl (l_isend (b := 0) hW hn (by decide) hJ9 v52 hnw) ?_
  rintro r _ _ ⟨rfl, rfl, hr⟩
  rcases hr with ⟨q, rfl⟩ | ⟨q, rfl⟩
  · exact q_iret rfl rfl rfl ⟨rfl, ⟨eT, hT⟩, Or.inl ⟨so0.mpr q, rfl⟩⟩
  · exact q_iret rfl rfl rfl ⟨rfl, ⟨eT, hT⟩, Or.inr ⟨fun h => q (so0.mp h), rfl⟩⟩
theorem rso_F (h : RSo P S) (e : frF S S') : RSo P S' := by
  obtain ⟨st, cf, cb, ch, sp, ct, nt, nx, nw, hO, t52, hJ, h1, h2, h3⟩ := h
  exact ⟨st, cf, cb, ch, sp, ct, nt, nx, nw, or_fr hO (e 46 (by omega)) (e 53 (by omega)) (fun k a b => e k (by omega)), (e 52 (by omega)).trans t52, JR_same hJ (fun k a b => e k (by omega)), h1, h2, h3⟩
set_option maxHeartbeats 8000000 in
theorem l_back (hW : WFP P) (hp1 : xP (xE P 0) = false) (hG : GS θ S n) (hR : RSo P S) : PM (j_SL L) (j_SV xs) j_EX mm_X12_findBacks [.ref 46] S n (FK S n (BR (xE P 0))) := by
  have hn := gs_n hG
  have hX := (xe_wx (k := 0) hW).1
  have hN := hX.2.1
  obtain ⟨hE, hR9⟩ := xe_r9 hW hp1
  obtain ⟨fs, k46, hf⟩ := gs_obj hG (k := 46) rfl
  have hfs : FF fs := ⟨fo_ref (hf 15 _ rfl) rfl, fo_ref (hf 16 _ rfl) rfl, fo_ref (hf 22 _ rfl) rfl, fo_ref (hf 23 _ rfl) rfl, fo_ref (hf 24 _ rfl) rfl, fo_ref (hf 25 _ rfl) rfl, fo_ref (hf 26 _ rfl) rfl, fo_ref (hf 27 _ rfl) rfl, fo_ref (hf 28 _ rfl) rfl⟩
  obtain ⟨f15, f16, f22, f23, f24, f25, f26, f27, f28⟩ := id hfs
  obtain ⟨bf, k65, -⟩ := gs_arr hG (k := 65) rfl
  obtain ⟨sn, k66, -⟩ := gs_arr hG (k := 66) rfl
  obtain ⟨lf, k67, -⟩ := gs_arr hG (k := 67) rfl
  obtain ⟨pf, k68, -⟩ := gs_arr hG (k := 68) rfl
  obtain ⟨sf, k69, -⟩ := gs_arr hG (k := 69) rfl
  obtain ⟨tf, k70, -⟩ := gs_arr hG (k := 70) rfl
  obtain ⟨nf, k71, -⟩ := gs_arr hG (k := 71) rfl
  obtain ⟨st, cf, cb, ch, sp, ct, nt, nx, nw0, ⟨gs, u46, g8, g9, g11, g12, g13, g14, g15, g16, g17, t53, t55, t56, t57, t58, t59, t60, t61, hct⟩, t52, hJ, h1, h2, h3⟩ := hR
  have hsp : ∀ q, q < 3 * xN (xE P 0) → sp q = xL (xE P 0) q := fun q hq => by
    have h := h3 q hq
    rw [Nat.mul_zero, Nat.zero_add] at h
    exact h
  change PQ (j_SL L) (j_SV xs) j_EX mm_X12_findBacks 0 [.ref 46, pm_un, pm_un, pm_un, pm_un, pm_un, pm_un, pm_un, pm_un] [] S n 0 0 _
  refine q_aload_n rfl rfl rfl ?_
  refine q_getf rfl rfl (by omega) k46 f16 ?_
  refine q_iconst rfl rfl ?_
  refine q_iald rfl rfl (by omega) t60 rfl (q_tn (z := nI (xN (xE P 0))) hct ?_)
  refine q_ist1n rfl rfl rfl rfl ?_
  refine q_iconst rfl rfl ?_
  refine q_ist2n rfl rfl rfl rfl ?_
  have tail : ∀ (T : Nat → pm_E) (c : Value) (bf sn lf pf sf tf nf : Nat → Int32), (∀ j, j < 65 ∨ 72 ≤ j → T j = S j) → T 65 = .inl (2, 2000, .inl bf) → T 66 = .inl (0, 2000, .inl sn) → T 67 = .inl (0, 2000, .inl lf) → T 68 = .inl (0, 2000, .inl pf) → T 69 = .inl (0, 2000, .inl sf) → T 70 = .inl (0, 2000, .inl tf) → T 71 = .inl (2, 2000, .inl nf) → (∀ j, j < xN (xE P 0) → bf j = 0) → (∀ j, j < xN (xE P 0) → sn j = -1) → PQ (j_SL L) (j_SV xs) j_EX mm_X12_findBacks 41 [.ref 46, .int (nI (xN (xE P 0))), c, pm_un, pm_un, pm_un, pm_un, pm_un, pm_un] [] T n 0 0 (FK S n (BR (xE P 0))) := by
    clear k65 k66 k67 k68 k69 k70 k71
    intro T c bf sn lf pf sf tf nf fr k65 k66 k67 k68 k69 k70 k71 hbf hsn
    have k46 := (fr 46 (by omega)).trans k46
    have t60 := (fr 60 (by omega)).trans t60
    refine q_iconst rfl rfl ?_
    refine q_ist2n rfl rfl rfl rfl ?_
    refine q_iconst rfl rfl ?_
    refine q_ist3n rfl rfl rfl rfl ?_
    refine q_iconst rfl rfl ?_
    refine q_ist4 rfl rfl rfl rfl ?_
    refine q_aload_n rfl rfl rfl ?_
    refine q_getf rfl rfl (by omega) k46 f25 ?_
    refine q_iconst rfl rfl ?_
    refine q_iconst rfl rfl ?_
    refine q_iast rfl rfl (by omega) k68 (by decide) ?_
    rw [show Int32.toNatClampNeg 0 = 0 from rfl]
    have e1 : ∀ j, j ≠ 68 → va_up T 68 (.inl (0, 2000, .inl (upd pf 0 0))) j = T j := fun j hj => u_ne hj
    have x1 : va_up T 68 (.inl (0, 2000, .inl (upd pf 0 0))) 68 = .inl (0, 2000, .inl (upd pf 0 0)) := u_eq
    generalize va_up T 68 (.inl (0, 2000, .inl (upd pf 0 0))) = S1 at e1 x1 ⊢
    have k46 := (e1 46 (by decide)).trans k46
    have k65 := (e1 65 (by decide)).trans k65
    have k66 := (e1 66 (by decide)).trans k66
    have k67 := (e1 67 (by decide)).trans k67
    have k69 := (e1 69 (by decide)).trans k69
    have k70 := (e1 70 (by decide)).trans k70
    have k71 := (e1 71 (by decide)).trans k71
    have t60 := (e1 60 (by decide)).trans t60
    have fr : ∀ j, j < 65 ∨ 72 ≤ j → S1 j = S j := fun j hj => (e1 j (by omega)).trans (fr j hj)
    refine q_aload_n rfl rfl rfl ?_
    refine q_getf rfl rfl (by omega) k46 f23 ?_
    refine q_iconst rfl rfl ?_
    refine q_iconst rfl rfl ?_
    refine q_iast rfl rfl (by omega) k66 (by decide) ?_
    rw [show Int32.toNatClampNeg 0 = 0 from rfl]
    have e2 : ∀ j, j ≠ 66 → va_up S1 66 (.inl (0, 2000, .inl (upd sn 0 0))) j = S1 j := fun j hj => u_ne hj
    have x2 : va_up S1 66 (.inl (0, 2000, .inl (upd sn 0 0))) 66 = .inl (0, 2000, .inl (upd sn 0 0)) := u_eq
    generalize va_up S1 66 (.inl (0, 2000, .inl (upd sn 0 0))) = S2 at e2 x2 ⊢
    have k46 := (e2 46 (by decide)).trans k46
    have k65 := (e2 65 (by decide)).trans k65
    have k67 := (e2 67 (by decide)).trans k67
    have x1 := (e2 68 (by decide)).trans x1
    have k69 := (e2 69 (by decide)).trans k69
    have k70 := (e2 70 (by decide)).trans k70
    have k71 := (e2 71 (by decide)).trans k71
    have t60 := (e2 60 (by decide)).trans t60
    have fr : ∀ j, j < 65 ∨ 72 ≤ j → S2 j = S j := fun j hj => (e2 j (by omega)).trans (fr j hj)
    refine q_aload_n rfl rfl rfl ?_
    refine q_getf rfl rfl (by omega) k46 f24 ?_
    refine q_iconst rfl rfl ?_
    refine q_iconst rfl rfl ?_
    refine q_iast rfl rfl (by omega) k67 (by decide) ?_
    rw [show Int32.toNatClampNeg 0 = 0 from rfl]
    have e3 : ∀ j, j ≠ 67 → va_up S2 67 (.inl (0, 2000, .inl (upd lf 0 0))) j = S2 j := fun j hj => u_ne hj
    have x3 : va_up S2 67 (.inl (0, 2000, .inl (upd lf 0 0))) 67 = .inl (0, 2000, .inl (upd lf 0 0)) := u_eq
    generalize va_up S2 67 (.inl (0, 2000, .inl (upd lf 0 0))) = S3 at e3 x3 ⊢
    have k46 := (e3 46 (by decide)).trans k46
    have k65 := (e3 65 (by decide)).trans k65
    have x2 := (e3 66 (by decide)).trans x2
    have x1 := (e3 68 (by decide)).trans x1
    have k69 := (e3 69 (by decide)).trans k69
    have k70 := (e3 70 (by decide)).trans k70
    have k71 := (e3 71 (by decide)).trans k71
    have t60 := (e3 60 (by decide)).trans t60
    have fr : ∀ j, j < 65 ∨ 72 ≤ j → S3 j = S j := fun j hj => (e3 j (by omega)).trans (fr j hj)
    refine q_aload_n rfl rfl rfl ?_
    refine q_getf rfl rfl (by omega) k46 f27 ?_
    refine q_iconst rfl rfl ?_
    refine q_iconst rfl rfl ?_
    refine q_iast rfl rfl (by omega) k70 (by decide) ?_
    rw [show Int32.toNatClampNeg 0 = 0 from rfl]
    have e4 : ∀ j, j ≠ 70 → va_up S3 70 (.inl (0, 2000, .inl (upd tf 0 0))) j = S3 j := fun j hj => u_ne hj
    have x4 : va_up S3 70 (.inl (0, 2000, .inl (upd tf 0 0))) 70 = .inl (0, 2000, .inl (upd tf 0 0)) := u_eq
    generalize va_up S3 70 (.inl (0, 2000, .inl (upd tf 0 0))) = S4 at e4 x4 ⊢
    have k46 := (e4 46 (by decide)).trans k46
    have k65 := (e4 65 (by decide)).trans k65
    have x2 := (e4 66 (by decide)).trans x2
    have x3 := (e4 67 (by decide)).trans x3
    have x1 := (e4 68 (by decide)).trans x1
    have k69 := (e4 69 (by decide)).trans k69
    have k71 := (e4 71 (by decide)).trans k71
    have t60 := (e4 60 (by decide)).trans t60
    have fr : ∀ j, j < 65 ∨ 72 ≤ j → S4 j = S j := fun j hj => (e4 j (by omega)).trans (fr j hj)
    refine q_aload_n rfl rfl rfl ?_
    refine q_getf rfl rfl (by omega) k46 f26 ?_
    refine q_iconst rfl rfl ?_
    refine q_iconst rfl rfl ?_
    refine q_iast rfl rfl (by omega) k69 (by decide) ?_
    rw [show Int32.toNatClampNeg 0 = 0 from rfl]
    have e5 : ∀ j, j ≠ 69 → va_up S4 69 (.inl (0, 2000, .inl (upd sf 0 0))) j = S4 j := fun j hj => u_ne hj
    have x5 : va_up S4 69 (.inl (0, 2000, .inl (upd sf 0 0))) 69 = .inl (0, 2000, .inl (upd sf 0 0)) := u_eq
    generalize va_up S4 69 (.inl (0, 2000, .inl (upd sf 0 0))) = S5 at e5 x5 ⊢
    have k46 := (e5 46 (by decide)).trans k46
    have k65 := (e5 65 (by decide)).trans k65
    have x2 := (e5 66 (by decide)).trans x2
    have x3 := (e5 67 (by decide)).trans x3
    have x1 := (e5 68 (by decide)).trans x1
    have x4 := (e5 70 (by decide)).trans x4
    have k71 := (e5 71 (by decide)).trans k71
    have t60 := (e5 60 (by decide)).trans t60
    have fr : ∀ j, j < 65 ∨ 72 ≤ j → S5 j = S j := fun j hj => (e5 j (by omega)).trans (fr j hj)
    refine q_iconst rfl rfl ?_
    refine q_ist3n rfl rfl rfl rfl ?_
    refine q_aload_n rfl rfl rfl ?_
    refine q_getf rfl rfl (by omega) k46 f28 ?_
    refine q_iconst rfl rfl ?_
    refine q_iconst rfl rfl ?_
    refine q_zast rfl rfl (by omega) k71 (by decide) ?_
    rw [show Int32.toNatClampNeg 0 = 0 from rfl]
    have e6 : ∀ j, j ≠ 71 → va_up S5 71 (.inl (2, 2000, .inl (upd nf 0 (vp_nar .boolean 1)))) j = S5 j := fun j hj => u_ne hj
    have x6 : va_up S5 71 (.inl (2, 2000, .inl (upd nf 0 (vp_nar .boolean 1)))) 71 = .inl (2, 2000, .inl (upd nf 0 (vp_nar .boolean 1))) := u_eq
    generalize va_up S5 71 (.inl (2, 2000, .inl (upd nf 0 (vp_nar .boolean 1)))) = S6 at e6 x6 ⊢
    have k46 := (e6 46 (by decide)).trans k46
    have k65 := (e6 65 (by decide)).trans k65
    have x2 := (e6 66 (by decide)).trans x2
    have x3 := (e6 67 (by decide)).trans x3
    have x1 := (e6 68 (by decide)).trans x1
    have x5 := (e6 69 (by decide)).trans x5
    have x4 := (e6 70 (by decide)).trans x4
    have t60 := (e6 60 (by decide)).trans t60
    have fr : ∀ j, j < 65 ∨ 72 ≤ j → S6 j = S j := fun j hj => (e6 j (by omega)).trans (fr j hj)
    refine q_iconst rfl rfl ?_
    refine q_ist2n rfl rfl rfl rfl ?_
    refine l_search (S0 := S) hn hfs rfl ⟨hX.1, hN⟩ hE hR9 t59 hsp (fun V a b => ⟨rfl, rfl, a, b⟩) 10000 0 1 1 1 _ _ _ _ _ _ _ _ _ _ _ _ (by omega) rfl rfl rfl (tk_0 ⟨hX.1, hN⟩) ?_ fr
    refine ⟨_, _, _, _, _, _, _, k46, k65, x2, x3, x1, x5, x4, x6, fun j hj => ?_, fun j hj => ?_, fun j hj => ?_, fun j hj => ?_, fun j hj => ?_, fun j hj => ?_, fun j hj => ?_⟩
    · by_cases e : j = 0
      · rw [e, u32_at, un_eq]
        rfl
      · rw [u32_ot e, un_ne e]
        exact hsn j hj
    · by_cases e : j = 0
      · rw [e, u32_at, un_eq]
        rfl
      · exact absurd (un_ne e) hj
    · by_cases e : j = 0
      · rw [e, u32_at, un_eq]
        rfl
      · exact absurd (un_ne e) hj
    · have e : j = 0 := by omega
      rw [e, u32_at, un_eq]
      rfl
    · have e : j = 0 := by omega
      rw [e, u32_at, un_eq]
      rfl
    · by_cases e : j = 0
      · rw [e, u32_at, un_eq]
        decide
      · exact absurd (un_ne e) hj
    · rw [hbf j hj]
      by_cases e : j = 0
      · rw [e, un_eq]
        rfl
      · rw [un_ne e]
        rfl
  have loop : ∀ q j0 : Nat, j0 + q = xN (xE P 0) → ∀ (T : Nat → pm_E) (bf sn nf : Nat → Int32), (∀ j, j < 65 ∨ 72 ≤ j → T j = S j) → T 65 = .inl (2, 2000, .inl bf) → T 66 = .inl (0, 2000, .inl sn) → T 67 = .inl (0, 2000, .inl lf) → T 68 = .inl (0, 2000, .inl pf) → T 69 = .inl (0, 2000, .inl sf) → T 70 = .inl (0, 2000, .inl tf) → T 71 = .inl (2, 2000, .inl nf) → (∀ j, j < j0 → bf j = 0) → (∀ j, j < j0 → sn j = -1) → PQ (j_SL L) (j_SV xs) j_EX mm_X12_findBacks 9 [.ref 46, .int (nI (xN (xE P 0))), .int (nI j0), pm_un, pm_un, pm_un, pm_un, pm_un, pm_un] [] T n 0 0 (FK S n (BR (xE P 0))) := by
    clear k65 k66 k67 k68 k69 k70 k71
    intro q
    induction q with
    | zero =>
      intro j0 hj T bf sn nf fr k65 k66 k67 k68 k69 k70 k71 hbf hsn
      have e : j0 = xN (xE P 0) := by omega
      subst e
      refine q_iload_n rfl rfl rfl ?_
      refine q_iload_n rfl rfl rfl ?_
      refine q_icge rfl rfl (fun _ => ?_) (fun c => absurd (Int32.le_refl _) c)
      exact tail T _ bf sn lf pf sf tf nf fr k65 k66 k67 k68 k69 k70 k71 hbf hsn
    | succ q ih =>
      intro j0 hj T bf sn nf fr k65 k66 k67 k68 k69 k70 k71 hbf hsn
      have k46 := (fr 46 (by omega)).trans k46
      have t60 := (fr 60 (by omega)).trans t60
      refine q_iload_n rfl rfl rfl ?_
      refine q_iload_n rfl rfl rfl ?_
      refine q_icge rfl rfl (fun c => absurd c (nI_ge (a := j0) (b := xN (xE P 0)) (by omega) (by omega))) (fun _ => ?_)
      refine q_aload_n rfl rfl rfl ?_
      refine q_getf rfl rfl (by omega) k46 f22 ?_
      refine q_iload_n rfl rfl rfl ?_
      refine q_iconst rfl rfl ?_
      refine q_zast rfl rfl (by omega) k65 (q_inN (by omega) (by decide)) ?_
      rw [nI_clamp (by omega)]
      have e7 : ∀ j, j ≠ 65 → va_up T 65 (.inl (2, 2000, .inl (upd bf j0 (vp_nar .boolean 0)))) j = T j := fun j hj => u_ne hj
      have x7 : va_up T 65 (.inl (2, 2000, .inl (upd bf j0 (vp_nar .boolean 0)))) 65 = .inl (2, 2000, .inl (upd bf j0 (vp_nar .boolean 0))) := u_eq
      generalize va_up T 65 (.inl (2, 2000, .inl (upd bf j0 (vp_nar .boolean 0)))) = S7 at e7 x7 ⊢
      have k46 := (e7 46 (by decide)).trans k46
      have k66 := (e7 66 (by decide)).trans k66
      have k67 := (e7 67 (by decide)).trans k67
      have k68 := (e7 68 (by decide)).trans k68
      have k69 := (e7 69 (by decide)).trans k69
      have k70 := (e7 70 (by decide)).trans k70
      have k71 := (e7 71 (by decide)).trans k71
      have t60 := (e7 60 (by decide)).trans t60
      have fr : ∀ j, j < 65 ∨ 72 ≤ j → S7 j = S j := fun j hj => (e7 j (by omega)).trans (fr j hj)
      refine q_aload_n rfl rfl rfl ?_
      refine q_getf rfl rfl (by omega) k46 f23 ?_
      refine q_iload_n rfl rfl rfl ?_
      refine q_iconst rfl rfl ?_
      refine q_iast rfl rfl (by omega) k66 (q_inN (by omega) (by decide)) ?_
      rw [nI_clamp (by omega)]
      have e8 : ∀ j, j ≠ 66 → va_up S7 66 (.inl (0, 2000, .inl (upd sn j0 (-1)))) j = S7 j := fun j hj => u_ne hj
      have x8 : va_up S7 66 (.inl (0, 2000, .inl (upd sn j0 (-1)))) 66 = .inl (0, 2000, .inl (upd sn j0 (-1))) := u_eq
      generalize va_up S7 66 (.inl (0, 2000, .inl (upd sn j0 (-1)))) = S8 at e8 x8 ⊢
      have k46 := (e8 46 (by decide)).trans k46
      have x7 := (e8 65 (by decide)).trans x7
      have k67 := (e8 67 (by decide)).trans k67
      have k68 := (e8 68 (by decide)).trans k68
      have k69 := (e8 69 (by decide)).trans k69
      have k70 := (e8 70 (by decide)).trans k70
      have k71 := (e8 71 (by decide)).trans k71
      have t60 := (e8 60 (by decide)).trans t60
      have fr : ∀ j, j < 65 ∨ 72 ≤ j → S8 j = S j := fun j hj => (e8 j (by omega)).trans (fr j hj)
      refine q_aload_n rfl rfl rfl ?_
      refine q_getf rfl rfl (by omega) k46 f28 ?_
      refine q_iload_n rfl rfl rfl ?_
      refine q_iconst rfl rfl ?_
      refine q_zast rfl rfl (by omega) k71 (q_inN (by omega) (by decide)) ?_
      rw [nI_clamp (by omega)]
      have e9 : ∀ j, j ≠ 71 → va_up S8 71 (.inl (2, 2000, .inl (upd nf j0 (vp_nar .boolean 0)))) j = S8 j := fun j hj => u_ne hj
      have x9 : va_up S8 71 (.inl (2, 2000, .inl (upd nf j0 (vp_nar .boolean 0)))) 71 = .inl (2, 2000, .inl (upd nf j0 (vp_nar .boolean 0))) := u_eq
      generalize va_up S8 71 (.inl (2, 2000, .inl (upd nf j0 (vp_nar .boolean 0)))) = S9 at e9 x9 ⊢
      have k46 := (e9 46 (by decide)).trans k46
      have x7 := (e9 65 (by decide)).trans x7
      have x8 := (e9 66 (by decide)).trans x8
      have k67 := (e9 67 (by decide)).trans k67
      have k68 := (e9 68 (by decide)).trans k68
      have k69 := (e9 69 (by decide)).trans k69
      have k70 := (e9 70 (by decide)).trans k70
      have t60 := (e9 60 (by decide)).trans t60
      have fr : ∀ j, j < 65 ∨ 72 ≤ j → S9 j = S j := fun j hj => (e9 j (by omega)).trans (fr j hj)
      refine q_icc2 rfl rfl rfl rfl (z := nI (j0 + 1)) (nI_add j0 1) ?_
      refine q_goto rfl ?_
      refine ih (j0 + 1) (by omega) _ _ _ _ fr x7 x8 k67 k68 k69 k70 x9 (fun j hj => ?_) (fun j hj => ?_)
      · by_cases e : j = j0
        · rw [e, u32_at]
          decide
        · rw [u32_ot e]
          exact hbf j (by omega)
      · by_cases e : j = j0
        · rw [e, u32_at]
        · rw [u32_ot e]
          exact hsn j (by omega)
  exact loop (xN (xE P 0)) 0 (by omega) S bf sn nf (fun _ _ => rfl) k65 k66 k67 k68 k69 k70 k71 (fun j hj => absurd hj (by omega)) (fun j hj => absurd hj (by omega))
set_option maxHeartbeats 4000000 in
theorem l_count (hG : GS θ S n) (hT : tie θ P) (hZ : JZ P S) : PM (j_SL L) (j_SV xs) j_EX mm_X12_count [.ref 46, .int x] S n (fun r S' n' => r = some (.int (epR (coQ P x)))) := by
  have hn := gs_n hG
  have hN := (xe_wx (k := 0) hZ.1).1.2.1
  obtain ⟨fs0, k46, -⟩ := gs_obj hG (k := 46) rfl
  change PQ (j_SL L) (j_SV xs) j_EX mm_X12_count 0 [.ref 46, .int x, pm_un, pm_un] [] S n 0 0 _
  refine q_aload_n rfl rfl rfl ?_
  refine q_iload_n rfl rfl rfl ?_
  refine q_iconst rfl rfl ?_
  refine q_iconst rfl rfl ?_
  refine q_cV rfl rfl (Or.inl rfl) rfl rfl rfl rfl (by omega) k46 trivial rfl rfl rfl rfl rfl (l_in) ?_
  rintro r S1 n1 ⟨e1, e2, hr⟩
  obtain rfl := e1.symm
  obtain rfl := e2.symm
  rcases hr with ⟨q, rfl⟩ | ⟨q, rfl⟩
  · show PQ (j_SL L) (j_SV xs) j_EX mm_X12_count 7 [.ref 46, .int x, pm_un, pm_un] [.int 0] S n 0 0 _
    refine q_fne rfl rfl (fun c => absurd rfl c) (fun _ => ?_)
    refine q_iconst rfl rfl ?_
    exact q_iret rfl rfl trivial (ep_r co_fn (Or.inl ⟨fun h => q ((inw (a := 2) (b := 3) (by decide)).mpr (n3 h)), rfl⟩))
  show PQ (j_SL L) (j_SV xs) j_EX mm_X12_count 7 [.ref 46, .int x, pm_un, pm_un] [.int 1] S n 0 0 _
  refine q_fne rfl rfl (fun _ => ?_) (fun c => absurd (by decide) c)
  obtain ⟨w, hw, rfl⟩ := in3 ((inw (a := 2) (b := 3) (by decide)).mp q)
  refine q_aload_n rfl rfl rfl ?_
  refine q_iconst rfl rfl ?_
  refine q_cV rfl rfl (Or.inl rfl) rfl rfl rfl rfl (by omega) k46 trivial rfl rfl rfl rfl rfl (l_sp3 hG hT hZ) ?_
  rintro r T _ ⟨rfl, rfl, gT, -, -, hRS⟩
  show PQ (j_SL L) (j_SV xs) j_EX mm_X12_count 17 [.ref 46, .int (nI w), pm_un, pm_un] [.int (spR P 0)] T n 0 0 _
  cases hp1 : xP (xE P 0)
  rotate_left
  · rw [spR_t hp1]
    refine q_ifeq rfl rfl (fun c => absurd c (by decide)) (fun _ => ?_)
    refine q_bipush rfl rfl ?_
    exact q_iret rfl rfl trivial (ep_r co_fn (Or.inr ⟨w, hw, rfl, Or.inl ⟨hp1, rfl⟩⟩))
  rw [spR_f hp1]
  refine q_ifeq rfl rfl (fun _ => ?_) (fun c => absurd rfl c)
  have hRT := hRS hp1
  obtain ⟨fs, y46, hf⟩ := gs_obj gT (k := 46) rfl
  have f22 : fs[22]? = some (.ref 65) := fo_ref (hf 22 _ rfl) rfl
  have main : ∀ U : Nat → pm_E, RQ9 P w U → PQ (j_SL L) (j_SV xs) j_EX mm_X12_count 32 [.ref 46, .int (nI w), pm_un, pm_un] [] U n 0 0 (fun r S' n' => r = some (.int (epR (coQ P (nI w))))) := by
    clear y46 f22 hf gT hRS hRT
    intro U hQ
    have loop : ∀ q s : Nat, s + q = xN (xE P 0) → ∀ T : Nat → pm_E, RQ9 P w T → PQ (j_SL L) (j_SV xs) j_EX mm_X12_count 36 [.ref 46, .int (nI w), .int (nI (cntN (soP P w) s)), .int (nI s)] [] T n 0 0 (fun r S' n' => r = some (.int (epR (coQ P (nI w))))) := by
      clear hQ
      intro q
      induction q with
      | zero =>
        intro s hs T hQ
        have e : s = xN (xE P 0) := by omega
        subst e
        obtain ⟨⟨st, cf, cb, ch, sp, ct, nt, nx9, nw0, ⟨gs, u46, g8, g9, g11, g12, g13, g14, g15, g16, g17, t53, t55, t56, t57, t58, t59, t60, t61, hct⟩, t52, hJ, h1, h2, h3⟩, hB9, fs9, y46, f22⟩ := id hQ
        refine q_iload_n rfl rfl rfl ?_
        refine q_aload_n rfl rfl rfl ?_
        refine q_getf rfl rfl (by omega) u46 g16 ?_
        refine q_iconst rfl rfl ?_
        refine q_iald rfl rfl (by omega) t60 rfl (q_tn (z := nI (xN (xE P 0))) hct ?_)
        refine q_icge rfl rfl (fun _ => ?_) (fun c => absurd (Int32.le_refl _) c)
        refine q_iload_n rfl rfl rfl ?_
        exact q_iret rfl rfl trivial (ep_r co_fn (Or.inr ⟨w, hw, rfl, Or.inr ⟨hp1, rfl⟩⟩))
      | succ q ih =>
        intro s hsq T hQ
        have hs : s < xN (xE P 0) := by omega
        obtain ⟨⟨st, cf, cb, ch, sp, ct, nt, nx9, nw0, ⟨gs, u46, g8, g9, g11, g12, g13, g14, g15, g16, g17, t53, t55, t56, t57, t58, t59, t60, t61, hct⟩, t52, hJ, h1, h2, h3⟩, hB9, fs9, y46, f22⟩ := id hQ
        refine q_iload_n rfl rfl rfl ?_
        refine q_aload_n rfl rfl rfl ?_
        refine q_getf rfl rfl (by omega) u46 g16 ?_
        refine q_iconst rfl rfl ?_
        refine q_iald rfl rfl (by omega) t60 rfl (q_tn (z := nI (xN (xE P 0))) hct ?_)
        refine q_icge rfl rfl (fun c => absurd c (nI_ge (a := s) (b := xN (xE P 0)) (by omega) (by omega))) (fun _ => ?_)
        refine q_iload_n rfl rfl rfl ?_
        refine q_aload_n rfl rfl rfl ?_
        refine q_iload_n rfl rfl rfl ?_
        refine q_iload_n rfl rfl rfl ?_
        refine q_cV rfl rfl (Or.inl rfl) rfl rfl rfl rfl (by omega) u46 trivial rfl rfl rfl rfl rfl (l_such hZ.1 hp1 hn hw hs hQ) ?_
        rintro r V _ ⟨rfl, hV, hr⟩
        have hVQ : RQ9 P w V := ⟨hV.2, fun c => by
          obtain ⟨bf, a, b⟩ := hB9 c
          exact ⟨bf, (hV.1 65 (by decide)).trans a, b⟩, fs9, (hV.1 46 (by decide)).trans y46, f22⟩
        have nx : ∀ (z : Nat) (v : Int32), nI (cntN (soP P w) s) + v = nI z → cntN (soP P w) (s + 1) = z → PQ (j_SL L) (j_SV xs) j_EX mm_X12_count 61 [.ref 46, .int (nI w), .int (nI (cntN (soP P w) s)), .int (nI s)] [.int v, .int (nI (cntN (soP P w) s))] V n 0 0 (fun r S' n' => r = some (.int (epR (coQ P (nI w))))) := by
          intro z v hv hz
          refine q_iadd rfl rfl (q_tn (z := nI z) hv ?_)
          refine q_ist2n rfl rfl rfl rfl ?_
          refine q_icc3 rfl rfl rfl rfl (z := nI (s + 1)) (nI_add s 1) ?_
          refine q_goto rfl ?_
          rw [← hz]
          exact ih (s + 1) (by omega) V hVQ
        rcases hr with ⟨hA, rfl⟩ | ⟨hA, rfl⟩
        · show PQ (j_SL L) (j_SV xs) j_EX mm_X12_count 53 [.ref 46, .int (nI w), .int (nI (cntN (soP P w) s)), .int (nI s)] [.int 1, .int (nI (cntN (soP P w) s))] V n 0 0 _
          refine q_ifeq rfl rfl (fun c => absurd c (by decide)) (fun _ => ?_)
          refine q_iconst rfl rfl ?_
          refine q_goto rfl ?_
          exact nx _ 1 (nI_add _ 1) (cn_y hA)
        · show PQ (j_SL L) (j_SV xs) j_EX mm_X12_count 53 [.ref 46, .int (nI w), .int (nI (cntN (soP P w) s)), .int (nI s)] [.int 0, .int (nI (cntN (soP P w) s))] V n 0 0 _
          refine q_ifeq rfl rfl (fun _ => ?_) (fun c => absurd rfl c)
          refine q_iconst rfl rfl ?_
          exact nx _ 0 (nI_add _ 0) (cn_n hA)
    refine q_iconst rfl rfl ?_
    refine q_ist2n rfl rfl rfl rfl ?_
    refine q_iconst rfl rfl ?_
    refine q_ist3n rfl rfl rfl rfl ?_
    exact loop (xN (xE P 0)) 0 (by omega) U hQ
  refine q_iload_n rfl rfl rfl ?_
  refine q_iconst rfl rfl ?_
  by_cases e2 : w = 2
  · subst e2
    refine q_cne rfl rfl (fun c => absurd rfl c) (fun _ => ?_)
    refine q_aload_n rfl rfl rfl ?_
    refine q_cV rfl rfl (Or.inl rfl) rfl rfl rfl rfl (by omega) y46 trivial rfl rfl rfl rfl rfl (l_back hZ.1 hp1 gT hRT) ?_
    rintro r V _ ⟨rfl, rfl, eV, hB⟩
    show PQ (j_SL L) (j_SV xs) j_EX mm_X12_count 32 [.ref 46, .int (nI 2), pm_un, pm_un] [] V n 0 0 _
    exact main V ⟨rso_F hRT eV, fun _ => hB, fs, (eV 46 (by omega)).trans y46, f22⟩
  refine q_cne rfl rfl (fun _ => ?_) (fun c => absurd (fun c9 => e2 ((m_eq (b := 2) (by omega) (by decide)).mp c9)) c)
  exact main T ⟨hRT, fun c => absurd c e2, fs, y46, f22⟩
set_option maxHeartbeats 4000000 in
theorem l_nth (hG : GS θ S n) (hT : tie θ P) (hZ : JZ P S) : PM (j_SL L) (j_SV xs) j_EX mm_X12_nth [.ref 46, .int x, .int y] S n (fun r S' n' => r = some (.int (epR (ntQ P x y)))) := by
  have hn := gs_n hG
  have hN := (xe_wx (k := 0) hZ.1).1.2.1
  obtain ⟨fs0, k46, -⟩ := gs_obj hG (k := 46) rfl
  change PQ (j_SL L) (j_SV xs) j_EX mm_X12_nth 0 [.ref 46, .int x, .int y, pm_un, pm_un] [] S n 0 0 _
  have bad : (¬ ∃ w i, w < 3 ∧ x = nI w ∧ i < 2 ^ 31 ∧ y = nI i) → PQ (j_SL L) (j_SV xs) j_EX mm_X12_nth 14 [.ref 46, .int x, .int y, pm_un, pm_un] [] S n 0 0 (fun r S' n' => r = some (.int (epR (ntQ P x y)))) := by
    intro h
    refine q_iconst rfl rfl ?_
    exact q_iret rfl rfl trivial (ep_r nt_fn (Or.inl ⟨h, rfl⟩))
  refine q_aload_n rfl rfl rfl ?_
  refine q_iload_n rfl rfl rfl ?_
  refine q_iconst rfl rfl ?_
  refine q_iconst rfl rfl ?_
  refine q_cV rfl rfl (Or.inl rfl) rfl rfl rfl rfl (by omega) k46 trivial rfl rfl rfl rfl rfl (l_in) ?_
  rintro r S1 n1 ⟨e1, e2, hr⟩
  obtain rfl := e1.symm
  obtain rfl := e2.symm
  rcases hr with ⟨q, rfl⟩ | ⟨q, rfl⟩
  · show PQ (j_SL L) (j_SV xs) j_EX mm_X12_nth 7 [.ref 46, .int x, .int y, pm_un, pm_un] [.int 0] S n 0 0 _
    refine q_ifeq rfl rfl (fun _ => ?_) (fun c => absurd rfl c)
    exact bad (fun ⟨w, _, h1, h2, _⟩ => q ((inw (a := 2) (b := 3) (by decide)).mpr (n3 ⟨w, h1, h2⟩)))
  show PQ (j_SL L) (j_SV xs) j_EX mm_X12_nth 7 [.ref 46, .int x, .int y, pm_un, pm_un] [.int 1] S n 0 0 _
  refine q_ifeq rfl rfl (fun c => absurd c (by decide)) (fun _ => ?_)
  refine q_iload_n rfl rfl rfl ?_
  by_cases hy : 0 ≤ y
  rotate_left
  · refine q_ifge rfl rfl (fun c => absurd c hy) (fun _ => bad (fun ⟨_, i, _, _, h3, h4⟩ => hy (by rw [h4]; exact nI_p0 h3)))
  refine q_ifge rfl rfl (fun _ => ?_) (fun c => absurd hy c)
  clear bad
  obtain ⟨w, hw, rfl⟩ := in3 ((inw (a := 2) (b := 3) (by decide)).mp q)
  obtain ⟨i, hi, rfl⟩ := ge0 hy
  refine q_aload_n rfl rfl rfl ?_
  refine q_iconst rfl rfl ?_
  refine q_cV rfl rfl (Or.inl rfl) rfl rfl rfl rfl (by omega) k46 trivial rfl rfl rfl rfl rfl (l_sp3 hG hT hZ) ?_
  rintro r T _ ⟨rfl, rfl, gT, -, -, hRS⟩
  show PQ (j_SL L) (j_SV xs) j_EX mm_X12_nth 21 [.ref 46, .int (nI w), .int (nI i), pm_un, pm_un] [.int (spR P 0)] T n 0 0 _
  cases hp1 : xP (xE P 0)
  rotate_left
  · rw [spR_t hp1]
    refine q_ifeq rfl rfl (fun c => absurd c (by decide)) (fun _ => ?_)
    refine q_bipush rfl rfl ?_
    exact q_iret rfl rfl trivial (ep_r nt_fn (Or.inr ⟨w, i, hw, rfl, hi, rfl, Or.inl ⟨hp1, rfl⟩⟩))
  rw [spR_f hp1]
  refine q_ifeq rfl rfl (fun _ => ?_) (fun c => absurd rfl c)
  have hRT := hRS hp1
  obtain ⟨fs, y46, hf⟩ := gs_obj gT (k := 46) rfl
  have f22 : fs[22]? = some (.ref 65) := fo_ref (hf 22 _ rfl) rfl
  have main : ∀ U : Nat → pm_E, RQ9 P w U → PQ (j_SL L) (j_SV xs) j_EX mm_X12_nth 36 [.ref 46, .int (nI w), .int (nI i), pm_un, pm_un] [] U n 0 0 (fun r S' n' => r = some (.int (epR (ntQ P (nI w) (nI i))))) := by
    clear y46 f22 hf gT hRS hRT
    intro U hQ
    have loop : ∀ q s l : Nat, s + q = xN (xE P 0) → l + cntN (soP P w) s = i → ∀ T : Nat → pm_E, RQ9 P w T → PQ (j_SL L) (j_SV xs) j_EX mm_X12_nth 41 [.ref 46, .int (nI w), .int (nI i), .int (nI l), .int (nI s)] [] T n 0 0 (fun r S' n' => r = some (.int (epR (ntQ P (nI w) (nI i))))) := by
      clear hQ
      intro q
      induction q with
      | zero =>
        intro s l hs hl T hQ
        have e : s = xN (xE P 0) := by omega
        subst e
        obtain ⟨⟨st, cf, cb, ch, sp, ct, nt, nx9, nw0, ⟨gs, u46, g8, g9, g11, g12, g13, g14, g15, g16, g17, t53, t55, t56, t57, t58, t59, t60, t61, hct⟩, t52, hJ, h1, h2, h3⟩, hB9, fs9, y46, f22⟩ := id hQ
        refine q_iload rfl rfl rfl ?_
        refine q_aload_n rfl rfl rfl ?_
        refine q_getf rfl rfl (by omega) u46 g16 ?_
        refine q_iconst rfl rfl ?_
        refine q_iald rfl rfl (by omega) t60 rfl (q_tn (z := nI (xN (xE P 0))) hct ?_)
        refine q_icge rfl rfl (fun _ => ?_) (fun c => absurd (Int32.le_refl _) c)
        refine q_bipush rfl rfl ?_
        exact q_iret rfl rfl trivial (ep_r nt_fn (Or.inr ⟨w, i, hw, rfl, hi, rfl, Or.inr ⟨hp1, Or.inr ⟨by omega, rfl⟩⟩⟩))
      | succ q ih =>
        intro s l hsq hl T hQ
        have hs : s < xN (xE P 0) := by omega
        obtain ⟨⟨st, cf, cb, ch, sp, ct, nt, nx9, nw0, ⟨gs, u46, g8, g9, g11, g12, g13, g14, g15, g16, g17, t53, t55, t56, t57, t58, t59, t60, t61, hct⟩, t52, hJ, h1, h2, h3⟩, hB9, fs9, y46, f22⟩ := id hQ
        refine q_iload rfl rfl rfl ?_
        refine q_aload_n rfl rfl rfl ?_
        refine q_getf rfl rfl (by omega) u46 g16 ?_
        refine q_iconst rfl rfl ?_
        refine q_iald rfl rfl (by omega) t60 rfl (q_tn (z := nI (xN (xE P 0))) hct ?_)
        refine q_icge rfl rfl (fun c => absurd c (nI_ge (a := s) (b := xN (xE P 0)) (by omega) (by omega))) (fun _ => ?_)
        refine q_aload_n rfl rfl rfl ?_
        refine q_iload_n rfl rfl rfl ?_
        refine q_iload rfl rfl rfl ?_
        refine q_cV rfl rfl (Or.inl rfl) rfl rfl rfl rfl (by omega) u46 trivial rfl rfl rfl rfl rfl (l_such hZ.1 hp1 hn hw hs hQ) ?_
        rintro r V _ ⟨rfl, hV, hr⟩
        have hVQ : RQ9 P w V := ⟨hV.2, fun c => by
          obtain ⟨bf, a, b⟩ := hB9 c
          exact ⟨bf, (hV.1 65 (by decide)).trans a, b⟩, fs9, (hV.1 46 (by decide)).trans y46, f22⟩
        have nx : ∀ z : Nat, z + cntN (soP P w) (s + 1) = i → PQ (j_SL L) (j_SV xs) j_EX mm_X12_nth 75 [.ref 46, .int (nI w), .int (nI i), .int (nI z), .int (nI s)] [] V n 0 0 (fun r S' n' => r = some (.int (epR (ntQ P (nI w) (nI i))))) := by
          intro z hz
          refine q_icc4 rfl rfl rfl rfl (z := nI (s + 1)) (nI_add s 1) ?_
          refine q_goto rfl ?_
          exact ih (s + 1) z (by omega) hz V hVQ
        rcases hr with ⟨hA, rfl⟩ | ⟨hA, rfl⟩
        · show PQ (j_SL L) (j_SV xs) j_EX mm_X12_nth 59 [.ref 46, .int (nI w), .int (nI i), .int (nI l), .int (nI s)] [.int 1] V n 0 0 _
          refine q_fne rfl rfl (fun _ => ?_) (fun c => absurd (by decide) c)
          refine q_iload_n rfl rfl rfl ?_
          cases l with
          | zero =>
            refine q_fne rfl rfl (fun c => absurd rfl c) (fun _ => ?_)
            refine q_iload rfl rfl rfl ?_
            exact q_iret rfl rfl trivial (ep_r nt_fn (Or.inr ⟨w, i, hw, rfl, hi, rfl, Or.inr ⟨hp1, Or.inl ⟨s, hs, hA, by omega, rfl⟩⟩⟩))
          | succ l =>
            refine q_fne rfl rfl (fun _ => ?_) (fun c => absurd (fun c9 => absurd ((m_eq (b := 0) (by omega) (by decide)).mp c9) (by omega)) c)
            refine q_icc3 rfl rfl rfl rfl (z := nI l) (pk_m1 l) ?_
            exact nx l (by rw [cn_y hA]; omega)
        · show PQ (j_SL L) (j_SV xs) j_EX mm_X12_nth 59 [.ref 46, .int (nI w), .int (nI i), .int (nI l), .int (nI s)] [.int 0] V n 0 0 _
          refine q_fne rfl rfl (fun c => absurd rfl c) (fun _ => ?_)
          refine q_goto rfl ?_
          exact nx l (by rw [cn_n hA]; exact hl)
    refine q_iload_n rfl rfl rfl ?_
    refine q_ist3n rfl rfl rfl rfl ?_
    refine q_iconst rfl rfl ?_
    refine q_ist4 rfl rfl rfl rfl ?_
    exact loop (xN (xE P 0)) 0 i (by omega) (by show i + 0 = i; rfl) U hQ
  refine q_iload_n rfl rfl rfl ?_
  refine q_iconst rfl rfl ?_
  by_cases e2 : w = 2
  · subst e2
    refine q_cne rfl rfl (fun c => absurd rfl c) (fun _ => ?_)
    refine q_aload_n rfl rfl rfl ?_
    refine q_cV rfl rfl (Or.inl rfl) rfl rfl rfl rfl (by omega) y46 trivial rfl rfl rfl rfl rfl (l_back hZ.1 hp1 gT hRT) ?_
    rintro r V _ ⟨rfl, rfl, eV, hB⟩
    show PQ (j_SL L) (j_SV xs) j_EX mm_X12_nth 36 [.ref 46, .int (nI 2), .int (nI i), pm_un, pm_un] [] V n 0 0 _
    exact main V ⟨rso_F hRT eV, fun _ => hB, fs, (eV 46 (by omega)).trans y46, f22⟩
  refine q_cne rfl rfl (fun _ => ?_) (fun c => absurd (fun c9 => e2 ((m_eq (b := 2) (by omega) (by decide)).mp c9)) c)
  exact main T ⟨hRT, fun c => absurd c e2, fs, y46, f22⟩
end OF
section OG
variable {θ : Th} {P : PG} {S S' : Nat → pm_E} {n : Nat} {v : Int32} {L : Nat} {xs : Nat → Int32}
theorem ro_c {Y : pm_M} {as : List Value} {l : List Nat} (hn : 82 ≤ n) (h1 : PM (j_SL L) (j_SV xs) j_EX Y as S n (RIJ θ P l S n)) (h2 : PM (j_SL L) (j_SV xs) j_EX Y as S n (fun r S' n' => r = some (.int v) ∧ JLp P S')) : PM (j_SL L) (j_SV xs) j_EX Y as S n (fun r S' n' => n = n' ∧ GJ θ P S' n ∧ fr1 l S S' n ∧ JLp P S' ∧ ∃ z : Int32, r = some (.int z) ∧ z = v) := pm_weak (pm_and h1 h2) (fun r S' n' h => by
  obtain ⟨⟨rfl, ⟨z, hz⟩, b, c⟩, S2, e2, hr, hJ⟩ := h
  rw [hz] at hr
  cases hr
  exact ⟨rfl, b, c, jlp_fr hJ (hp_cell (by omega) e2) (hp_cell (by omega) e2), _, hz, rfl⟩)
theorem jao_cnt {T1 T2 : Nat → pm_E} {f : Nat → Int32} {l l' : List Nat} (hn : 82 ≤ n) (hj : JAo θ S) (k2 : S 2 = .inl (0, 4, .inl f)) (g : GJ θ (PGo θ f) T2 n) (e1 : fr1 l S T1 n) (e2 : fr1 l' T1 T2 n) (q1 : [1, 2, 3, 4, 5, 6].all (fun k => !(l.contains k)) = true) (q2 : [1, 2, 3, 4, 5, 6].all (fun k => !(l'.contains k)) = true) (q0 : l'.contains 0 = false) (q31 : l'.contains 31 = false) (hJ : JLp (PGo θ f) T1) : JAo θ T2 := by
  refine ⟨ja_back hn hj.1 k2 g e1 e2 q1 q2, fun f9 k29 => ?_⟩
  have e : T2 2 = S 2 := (e2 2 (by omega) (by simpa using List.all_eq_true.mp q2 2 (by decide))).trans (e1 2 (by omega) (by simpa using List.all_eq_true.mp q1 2 (by decide)))
  rw [e, k2] at k29
  cases k29
  exact jlp_fr hJ (e2 0 (by omega) q0) (e2 31 (by omega) q31)
end OG
