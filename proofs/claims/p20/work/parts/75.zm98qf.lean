/-! fix: the reference, whether a program is good -/
section QF9
variable {P : PG} {pic : Nat} {X : XT} {S S' T W : Nat → pm_E} {n l c d x i k q t : Nat} {p v : Nat} {L : Nat} {xs : Nat → Int32} {fs : List Value}
def RSb (P : PG) (S : Nat → pm_E) : Prop := ∃ st cf cb ch sp ct nt nx nw : Nat → Int32, ORo 1 (xN (xE P 0)) st cf cb ch sp ct nt nx S ∧ S 52 = .inl (0, 20, .inl nw) ∧ JR 3 P S ∧ (∀ j, j < xN (xE P 0) → ∀ i, i < 20 → row st 1 j i = ra P (xS (xE P 0) j) i) ∧ ∀ q, q < 3 * xN (xE P 0) → sp (6000 * 1 + q) = xL (xE P 0) q
theorem rsb_52 {nw : Nat → Int32} (h : RSb P S) (e : ∀ k, k ≠ 52 → S' k = S k) (t : S' 52 = .inl (0, 20, .inl nw)) : RSb P S' := by
  obtain ⟨st, cf, cb, ch, sp, ct, nt, nx, nw0, hO, -, hJ, h1, h3⟩ := h
  exact ⟨st, cf, cb, ch, sp, ct, nt, nx, nw, or_fr hO (e 46 (by decide)) (e 53 (by decide)) (fun k a b => e k (by omega)), t, JR_same hJ (fun k a b => e k (by omega)), h1, h3⟩
theorem r_stdb {j : Nat} (hW : WFP P) (hn : 82 ≤ n) (h : RSb P S) (hj : j < xN (xE P 0)) : PM (j_SL L) (j_SV xs) j_EX mm_X12_standAt [.ref 46, .int (nI 1), .int (nI j)] S n (fun r S' n' => r = none ∧ n = n' ∧ (∀ k, k ≠ 52 → S' k = S k) ∧ RSb P S' ∧ ∃ nw : Nat → Int32, S' 52 = .inl (0, 20, .inl nw) ∧ ∀ i, i < 20 → nw i = ra P (xS (xE P 0) j) i) := by
  have h9 := h
  obtain ⟨st, cf, cb, ch, sp, ct, nt, nx, nw0, hO, t52, hJ, h1, h3⟩ := h
  have hN := (xe_wx (k := 0) hW).1.2.1
  refine pm_weak (r_stand (R := 1) hn (by decide) (by omega) hO t52) (fun r T m h => ?_)
  obtain ⟨rfl, rfl, e, nw, a, b⟩ := h
  exact ⟨rfl, rfl, e, rsb_52 h9 e a, nw, a, fun i hi => (b i hi).trans (h1 j hj i hi)⟩
def R5b (P : PG) (i : Nat) (S S' : Nat → pm_E) : Prop := (∀ k, k ≠ 52 → S' k = S k) ∧ RSb P S' ∧ ∃ nw : Nat → Int32, S' 52 = .inl (0, 20, .inl nw) ∧ ∀ j, j < 20 → nw j = ra P (xS (xE P 0) i) j
theorem srt_i9 {pic : Nat} {D : Nat → Nat} : srt P pic D = 2 ↔ (¬ ∃ x, x < pH P ∧ mayP P pic D x) ∧ ¬ endP P D := by
  by_cases h : ∃ x, x < pH P ∧ mayP P pic D x
  · exact ⟨fun e => (by rw [srt_0 h] at e; cases e), fun e => absurd h e.1⟩
  · by_cases h2 : endP P D
    · exact ⟨fun e => (by rw [srt_1 h h2] at e; cases e), fun e => absurd h2 e.2⟩
    · exact ⟨fun _ => ⟨h, h2⟩, fun _ => srt_2 h h2⟩
theorem srt_i1 {pic : Nat} {D : Nat → Nat} : srt P pic D = 1 ↔ endP P D := by
  constructor
  · intro e
    by_cases h : ∃ x, x < pH P ∧ mayP P pic D x
    · rw [srt_0 h] at e
      cases e
    · by_cases h2 : endP P D
      · exact h2
      · rw [srt_2 h h2] at e
        cases e
  · intro h
    refine srt_1 (fun h9 => ?_) h
    obtain ⟨x, hx, hm⟩ := h9
    exact hm.1.1 (h x hx)
/-- a follower is -1 just where the hand may not step -/
def XM9 (P : PG) (pic : Nat) (X : XT) (q : Nat) : Prop := ∀ r, r < q → (xL X r = -1 ↔ ¬ (r % 3 < pH P ∧ mayP P pic (xS X (r / 3)) (r % 3)))
theorem nI_nm {j : Nat} (hj : j < 2000) : nI j ≠ -1 := fun e => by
  have h9 := congrArg Int32.toInt e
  rw [nI_toInt (by omega)] at h9
  have h8 : (-1 : Int32).toInt = -1 := rfl
  omega
theorem xm9_up {xt : Nat} {X' : XT} (ho : XM9 P pic X (3 * i + xt)) (hx : xt < 3) (hi : i < xN X) (hN : xN X ≤ 2000) (eS : ∀ j, j < xN X → xS X' j = xS X j) (eL : ∀ r, r ≠ 3 * i + xt → xL X' r = xL X r) (h : xL X' (3 * i + xt) = -1 ↔ ¬ (xt < pH P ∧ mayP P pic (xS X i) xt)) : XM9 P pic X' (3 * i + xt + 1) := fun r hr => by
  by_cases e : r = 3 * i + xt
  · rw [e, show (3 * i + xt) % 3 = xt by omega, show (3 * i + xt) / 3 = i by omega, eS i hi]
    exact h
  · rw [eL r e, eS _ (by omega)]
    exact ho r (by omega)
theorem xm9_st {xt : Nat} (h : WX P pic X) (hi : i < xN X) (hx : xt < 3) (ho : XM9 P pic X (3 * i + xt)) (hq : xP (xStep P pic X i xt) = false) : XM9 P pic (xStep P pic X i xt) (3 * i + xt + 1) := by
  have hp := xP_bk hq
  have h2 := h.2.1
  by_cases hm : xt < pH P ∧ mayP P pic (xS X i) xt
  rotate_left
  · rw [xS_n hp hm]
    exact xm9_up ho hx hi h2 (fun _ _ => rfl) (fun r e => if_neg e) ⟨fun _ => hm, fun _ => if_pos rfl⟩
  rw [xS_y hp hm] at hq ⊢
  by_cases hj : ∃ j, j < xN X ∧ xS X j = nxD P pic (xS X i) xt
  · obtain ⟨j, h3, h4⟩ := hj
    rw [xP_o h.2.2.2 h3 h4]
    refine xm9_up ho hx hi h2 (fun _ _ => rfl) (fun r e => if_neg e) ⟨fun e => absurd ((if_pos rfl).symm.trans e) (nI_nm (j := j) (by omega)), fun e => absurd hm e⟩
  · have hn : ∀ j, j < xN X → xS X j ≠ nxD P pic (xS X i) xt := fun j h1 h2 => hj ⟨j, h1, h2⟩
    by_cases hN : xN X < 2000
    · rw [xP_n hn hN]
      refine xm9_up ho hx hi h2 (fun j hj => if_neg (by omega)) (fun r e => if_neg e) ⟨fun e => absurd ((if_pos rfl).symm.trans e) (nI_nm hN), fun e => absurd hm e⟩
    · have h2000 : xN X = 2000 := by omega
      rw [xP_f hn h2000] at hq
      cases hq
theorem xm9_all (hW : WFP P) : ∀ k, xP (xAll P pic k) = false → XM9 P pic (xAll P pic k) (3 * min k (xN (xAll P pic k))) := by
  intro k
  induction k with
  | zero =>
    intro _ r hr
    omega
  | succ k ih =>
    unfold xAll
    split
    · rename_i h
      intro hp
      rcases h with h | h
      · exact fun r hr => ih hp r (by omega)
      · rw [hp] at h
        cases h
    · rename_i h
      intro hp
      have hk : k < xN (xAll P pic k) := Classical.byContradiction (fun h9 => h (Or.inl (by omega)))
      have w0 := (wx_all (pic := pic) hW k).1
      unfold xRow at hp ⊢
      have a0 := wx_st (x := 0) hW w0 hk
      have k1 : k < xN (xStep P pic (xAll P pic k) k 0) := Nat.lt_of_lt_of_le hk a0.2.1
      have a1 := wx_st (x := 1) hW a0.1 k1
      have k2 : k < xN (xStep P pic (xStep P pic (xAll P pic k) k 0) k 1) := Nat.lt_of_lt_of_le k1 a1.2.1
      have p1 := xP_bk hp
      have p0 := xP_bk p1
      have pp := xP_bk p0
      have b0 := xm9_st (xt := 0) w0 hk (by decide) (fun r hr => ih pp r (by omega)) p0
      have b1 := xm9_st (xt := 1) a0.1 k1 (by decide) b0 p1
      have b2 := xm9_st (xt := 2) a1.1 k2 (by decide) b1 hp
      exact fun r hr => b2 r (by omega)
theorem xe_m9 (hW : WFP P) (hp : xP (xE P 0) = false) : XM9 P 0 (xE P 0) (3 * xN (xE P 0)) := by
  have h1 := (wx_all (pic := 0) hW 2000).1.2.1
  have h3 := xm9_all (pic := 0) hW 2000
  rw [xE_d] at hp ⊢
  exact fun r hr => h3 hp r (by omega)
theorem no_mayb (hW : WFP P) (hp1 : xP (xE P 0) = false) (hi : i < xN (xE P 0)) : (∀ x, x < 3 → xL (xE P 0) (3 * i + x) < 0) ↔ ¬ ∃ x, x < pH P ∧ mayP P 0 (xS (xE P 0) i) x := by
  have hM := xe_m9 hW hp1
  have hR := (xe_r9 hW hp1).2
  have h3 := hW.2.1
  have hN := (xe_wx (k := 0) hW).1.2.1
  have key : ∀ x, x < 3 → (xL (xE P 0) (3 * i + x) < 0 ↔ ¬ (x < pH P ∧ mayP P 0 (xS (xE P 0) i) x)) := fun x hx => by
    have h := hM (3 * i + x) (by omega)
    rw [show (3 * i + x) % 3 = x by omega, show (3 * i + x) / 3 = i by omega] at h
    rw [← h]
    rcases hR (3 * i + x) (by omega) with e | ⟨j, hj, e⟩
    · rw [e]
      exact ⟨fun _ => rfl, fun _ => by decide⟩
    · rw [e]
      refine ⟨fun c => ?_, fun c => absurd c (nI_nm (by omega))⟩
      have := nI_p0 (a := j) (by omega)
      rw [Int32.lt_iff_toInt_lt] at c
      rw [Int32.le_iff_toInt_le] at this
      omega
  refine ⟨fun h ⟨x, hx, hm⟩ => (key x (by omega)).mp (h x (by omega)) ⟨hx, hm⟩, fun h x hx => (key x hx).mpr (fun c => h ⟨x, c.1, c.2⟩)⟩
set_option maxHeartbeats 4000000 in
theorem r_stuckb (hW : WFP P) (hp1 : xP (xE P 0) = false) (hn : 82 ≤ n) (hi : i < xN (xE P 0)) (h : RSb P S) : PM (j_SL L) (j_SV xs) j_EX mm_X12_isStuck [.ref 46, .int (nI 1), .int (nI i)] S n (fun r S' n' => n = n' ∧ R5b P i S S' ∧ ((srt P 0 (xS (xE P 0) i) = 2 ∧ r = some (.int 1)) ∨ (¬ srt P 0 (xS (xE P 0) i) = 2 ∧ r = some (.int 0)))) := by
  have hN := (xe_wx (k := 0) hW).1.2.1
  have h9 := h
  obtain ⟨st, cf, cb, ch, sp, ct, nt, nx, nw0, ⟨gs, u46, g8, g9, g11, g12, g13, g14, g15, g16, g17, t53, t55, t56, t57, t58, t59, t60, t61, hct⟩, t52, hJ, h1, h3⟩ := h
  change PQ (j_SL L) (j_SV xs) j_EX mm_X12_isStuck 0 [.ref 46, .int (nI 1), .int (nI i), pm_un, pm_un] [] S n 0 0 _
  have tail : ∀ v : Int32, ((v = 1 ∧ ∀ x, x < 3 → xL (xE P 0) (3 * i + x) < 0) ∨ (v = 0 ∧ ¬ ∀ x, x < 3 → xL (xE P 0) (3 * i + x) < 0)) → PQ (j_SL L) (j_SV xs) j_EX mm_X12_isStuck 47 [.ref 46, .int (nI 1), .int (nI i), .int v, .int 3] [] S n 0 0 (fun r S' n' => n = n' ∧ R5b P i S S' ∧ ((srt P 0 (xS (xE P 0) i) = 2 ∧ r = some (.int 1)) ∨ (¬ srt P 0 (xS (xE P 0) i) = 2 ∧ r = some (.int 0)))) := by
    intro v hv
    refine q_aload_n rfl rfl rfl ?_
    refine q_iload_n rfl rfl rfl ?_
    refine q_iload_n rfl rfl rfl ?_
    refine q_cV rfl rfl (Or.inl rfl) rfl rfl rfl rfl (by omega) u46 trivial rfl rfl rfl rfl rfl (r_stdb hW hn h9 hi) ?_
    rintro r T _ ⟨rfl, rfl, eT, hT, nw, v52, hnw⟩
    show PQ (j_SL L) (j_SV xs) j_EX mm_X12_isStuck 53 [.ref 46, .int (nI 1), .int (nI i), .int v, .int 3] [] T n 0 0 _
    have hT9 : R5b P i S T := ⟨eT, hT, nw, v52, hnw⟩
    obtain ⟨_, _, _, _, _, _, _, _, _, -, -, hJ9, -⟩ := id hT
    have v46 := (eT 46 (by decide)).trans u46
    refine q_iload_n rfl rfl rfl ?_
    rcases hv with ⟨rfl, hv⟩ | ⟨rfl, hv⟩
    rotate_left
    · refine q_ifeq rfl rfl (fun _ => ?_) (fun c => absurd rfl c)
      refine q_iconst rfl rfl ?_
      exact q_iret rfl rfl rfl ⟨rfl, hT9, Or.inr ⟨fun e => hv ((no_mayb hW hp1 hi).mpr (srt_i9.mp e).1), rfl⟩⟩
    refine q_ifeq rfl rfl (fun c => absurd c (by decide)) (fun _ => ?_)
    refine q_aload_n rfl rfl rfl ?_
    refine q_cV rfl rfl (Or.inl rfl) rfl rfl rfl rfl (by omega) v46 trivial rfl rfl rfl rfl rfl (l_isend (b := 3) hW hn (by decide) hJ9 v52 hnw) ?_
    rintro r _ _ ⟨rfl, rfl, hr⟩
    rcases hr with ⟨q, rfl⟩ | ⟨q, rfl⟩
    · show PQ (j_SL L) (j_SV xs) j_EX mm_X12_isStuck 61 [.ref 46, .int (nI 1), .int (nI i), .int 1, .int 3] [.int 1] T n 0 0 _
      refine q_fne rfl rfl (fun _ => ?_) (fun c => absurd (by decide) c)
      refine q_iconst rfl rfl ?_
      exact q_iret rfl rfl rfl ⟨rfl, hT9, Or.inr ⟨fun e => (srt_i9.mp e).2 q, rfl⟩⟩
    · show PQ (j_SL L) (j_SV xs) j_EX mm_X12_isStuck 61 [.ref 46, .int (nI 1), .int (nI i), .int 1, .int 3] [.int 0] T n 0 0 _
      refine q_fne rfl rfl (fun c => absurd rfl c) (fun _ => ?_)
      refine q_iconst rfl rfl ?_
      refine q_goto rfl ?_
      exact q_iret rfl rfl rfl ⟨rfl, hT9, Or.inl ⟨srt_i9.mpr ⟨(no_mayb hW hp1 hi).mp hv, q⟩, rfl⟩⟩
  have loop : ∀ q k : Nat, k + q = 3 → ∀ v : Int32, ((v = 1 ∧ ∀ x, x < k → xL (xE P 0) (3 * i + x) < 0) ∨ (v = 0 ∧ ¬ ∀ x, x < 3 → xL (xE P 0) (3 * i + x) < 0)) → PQ (j_SL L) (j_SV xs) j_EX mm_X12_isStuck 5 [.ref 46, .int (nI 1), .int (nI i), .int v, .int (nI k)] [] S n 0 0 (fun r S' n' => n = n' ∧ R5b P i S S' ∧ ((srt P 0 (xS (xE P 0) i) = 2 ∧ r = some (.int 1)) ∨ (¬ srt P 0 (xS (xE P 0) i) = 2 ∧ r = some (.int 0)))) := by
    intro q
    induction q with
    | zero =>
      intro k hk v hv
      have e : k = 3 := by omega
      subst e
      refine q_iload rfl rfl rfl ?_
      refine q_iconst rfl rfl ?_
      refine q_icge rfl rfl (fun _ => ?_) (fun c => absurd (by decide) c)
      exact tail v hv
    | succ q ih =>
      intro k hkq v hv
      refine q_iload rfl rfl rfl ?_
      refine q_iconst rfl rfl ?_
      refine q_icge rfl rfl (fun c => absurd c (nI_ge (a := k) (b := 3) (by omega) (by decide))) (fun _ => ?_)
      have go : ∀ v' v0 : Int32, ((v' = 1 ∧ ∀ x, x < k + 1 → xL (xE P 0) (3 * i + x) < 0) ∨ (v' = 0 ∧ ¬ ∀ x, x < 3 → xL (xE P 0) (3 * i + x) < 0)) → PQ (j_SL L) (j_SV xs) j_EX mm_X12_isStuck 40 [.ref 46, .int (nI 1), .int (nI i), .int v0, .int (nI k)] [.int v'] S n 0 0 (fun r S' n' => n = n' ∧ R5b P i S S' ∧ ((srt P 0 (xS (xE P 0) i) = 2 ∧ r = some (.int 1)) ∨ (¬ srt P 0 (xS (xE P 0) i) = 2 ∧ r = some (.int 0)))) := by
        intro v' v0 h
        refine q_ist3n rfl rfl rfl rfl ?_
        refine q_icc4 rfl rfl rfl rfl (z := nI (k + 1)) (nI_add k 1) ?_
        refine q_goto rfl ?_
        exact ih (k + 1) (by omega) v' h
      refine q_iload_n rfl rfl rfl ?_
      rcases hv with ⟨rfl, hv⟩ | ⟨rfl, hv⟩
      rotate_left
      · refine q_ifeq rfl rfl (fun _ => ?_) (fun c => absurd rfl c)
        refine q_iconst rfl rfl ?_
        exact go 0 0 (Or.inr ⟨rfl, hv⟩)
      refine q_ifeq rfl rfl (fun c => absurd c (by decide)) (fun _ => ?_)
      refine q_aload_n rfl rfl rfl ?_
      refine q_getf rfl rfl (by omega) u46 g15 ?_
      refine q_iconst rfl rfl ?_
      refine q_sipush rfl rfl ?_
      refine q_iload_n rfl rfl rfl ?_
      refine q_imul rfl rfl (q_tn (z := nI (2000 * 1)) (by rw [show (2000 : Int32) = nI 2000 from rfl, pk_mul]) ?_)
      refine q_iload_n rfl rfl rfl ?_
      refine q_iadd rfl rfl (q_tn (z := nI (2000 * 1 + i)) (nI_add _ _) ?_)
      refine q_imul rfl rfl (q_tn (z := nI (3 * (2000 * 1 + i))) (by rw [show (3 : Int32) = nI 3 from rfl, pk_mul]) ?_)
      refine q_iload rfl rfl rfl ?_
      refine q_iadd rfl rfl (q_tn (z := nI (3 * (2000 * 1 + i) + k)) (nI_add _ _) ?_)
      refine q_iald rfl rfl (by omega) t59 (q_inN (by omega) (by decide)) (q_tn (z := xL (xE P 0) (3 * i + k)) (by rw [nI_clamp (by omega)]; exact by rw [show 3 * (2000 * 1 + i) + k = 6000 * 1 + (3 * i + k) by omega]; exact h3 _ (by omega)) ?_)
      by_cases c : xL (xE P 0) (3 * i + k) < 0
      · refine q_ifge rfl rfl (fun c9 => absurd c (by rw [Int32.lt_iff_toInt_lt]; rw [Int32.le_iff_toInt_le] at c9; omega)) (fun _ => ?_)
        refine q_iconst rfl rfl ?_
        refine q_goto rfl ?_
        refine go 1 1 (Or.inl ⟨rfl, fun x hx => ?_⟩)
        rcases Nat.lt_or_eq_of_le (Nat.le_of_lt_succ hx) with c9 | c9
        · exact hv x c9
        · rw [c9]
          exact c
      · refine q_ifge rfl rfl (fun _ => ?_) (fun c9 => absurd (by rw [Int32.lt_iff_toInt_lt] at c; rw [Int32.le_iff_toInt_le]; omega) c9)
        refine q_iconst rfl rfl ?_
        exact go 0 1 (Or.inr ⟨rfl, fun h => c (h k (by omega))⟩)
  refine q_iconst rfl rfl ?_
  refine q_ist3n rfl rfl rfl rfl ?_
  refine q_iconst rfl rfl ?_
  refine q_ist4 rfl rfl rfl rfl ?_
  exact loop 3 0 rfl 1 (Or.inl ⟨rfl, fun x hx => absurd hx (by omega)⟩)
/-- the reference, as isGood finds it: the program's rows from 3 on, the rooms -/
def G9 (P : PG) (fs : List Value) (S : Nat → pm_E) : Prop := ∃ (mn fk fa fn vl : Nat → Int32) (z : Int32), S 46 = .inr (10, fs) ∧ fs[1]? = some (.int (nI (pH P))) ∧ fs[2]? = some (.ref 47) ∧ fs[3]? = some (.ref 48) ∧ fs[4]? = some (.ref 49) ∧ fs[5]? = some (.ref 50) ∧ fs[6]? = some (.ref 51) ∧ fs[7]? = some (.int z) ∧ fs[8]? = some (.ref 52) ∧ fs[9]? = some (.ref 53) ∧ fs[10]? = some (.ref 54) ∧ fs[11]? = some (.ref 55) ∧ fs[12]? = some (.ref 56) ∧ fs[13]? = some (.ref 57) ∧ fs[14]? = some (.ref 58) ∧ fs[15]? = some (.ref 59) ∧ fs[16]? = some (.ref 60) ∧ fs[17]? = some (.ref 61) ∧ S 47 = .inl (0, 6, .inl mn) ∧ S 48 = .inl (0, 48, .inl fk) ∧ S 49 = .inl (0, 48, .inl fa) ∧ S 50 = .inl (0, 48, .inl fn) ∧ S 51 = .inl (0, 4, .inl vl) ∧ (∀ x, x < pH P → mn (3 + x) = nI (pL P x)) ∧ (∀ x i, x < pH P → i < pL P x → fk (8 * (3 + x) + i) = nI (pK P x i) ∧ fa (8 * (3 + x) + i) = pO P x i ∧ fn (8 * (3 + x) + i) = pN P x i) ∧ (∀ p, p < 4 → vl p = nI (pV P p)) ∧ RWs 1 S
def frG (S S' : Nat → pm_E) : Prop := ∀ j, j ≠ 46 → j ≠ 52 → j ≠ 53 → (j < 55 ∨ 61 < j) → S' j = S j
def FK9 (fs fs' : List Value) : Prop := (∀ p, p ≠ 7 → fs'[p]? = fs[p]?) ∧ ∃ z : Int32, fs'[7]? = some (.int z)
def gdK (P : PG) (p v : Nat) (fs : List Value) (S : Nat → pm_E) (n : Nat) : q_K := fun r S' n' => n = n' ∧ frG S S' ∧ (∃ fs', S' 46 = .inr (10, fs') ∧ FK9 fs fs') ∧ RWs 1 S' ∧ ((good9 P p v ∧ r = some (.int 1)) ∨ (¬ good9 P p v ∧ r = some (.int 0)))
theorem rws_of {N : Nat} {st cf cb ch sp ct nt nx nw : Nat → Int32} (h : ORo 1 N st cf cb ch sp ct nt nx S) (t : S 52 = .inl (0, 20, .inl nw)) (e : ∀ j, j ≠ 46 → T j = S j) : RWs 1 T := by
  obtain ⟨gs, -, -, -, -, -, -, -, -, -, -, k53, k55, k56, k57, k58, k59, k60, k61, hct⟩ := h
  exact ⟨N, st, cf, cb, ch, sp, ct, nt, nx, nw, (e 52 (by decide)).trans t, (e 53 (by decide)).trans k53, (e 55 (by decide)).trans k55, (e 56 (by decide)).trans k56, (e 57 (by decide)).trans k57, (e 58 (by decide)).trans k58, (e 59 (by decide)).trans k59, (e 60 (by decide)).trans k60, (e 61 (by decide)).trans k61, hct⟩
def okj (P : PG) (p v j : Nat) : Prop := ¬ spb P 0 (xS (xE P 0) j) ∧ (srt P 0 (xS (xE P 0) j) = 1 → xS (xE P 0) j (12 + p) = v)
theorem good_i (h : xP (xE P 0) = false) : good9 P p v ↔ ∀ j, j < xN (xE P 0) → okj P p v j := ⟨fun g j hj => ⟨g.2.1 j hj, g.2.2 j hj⟩, fun g => ⟨h, fun j hj => (g j hj).1, fun j hj => (g j hj).2⟩⟩
set_option maxHeartbeats 16000000 in
theorem r_good9 (hW : WFP P) (hp : p < 4) (hv : v < 10) (hn : 82 ≤ n) (H : G9 P fs S) : PM (j_SL L) (j_SV xs) j_EX mm_X12_isGood [.ref 46, .int (nI p), .int (nI v)] S n (gdK P p v fs S n) := by
  obtain ⟨mn, fk, fa, fn, vl, z, k46, f1, f2, f3, f4, f5, f6, f7, f8, f9, f10, f11, f12, f13, f14, f15, f16, f17, k47, k48, k49, k50, k51, hmn, hpr, hvl, hR⟩ := H
  obtain ⟨N, st, cf, cb, ch, sp, ct, nt, nx, nw, k52, k53, k55, k56, k57, k58, k59, k60, k61, hct⟩ := hR
  have h3 := hW.2.1
  have hN2 := (xe_wx (k := 0) hW).1.2.1
  change PQ (j_SL L) (j_SV xs) j_EX mm_X12_isGood 0 [.ref 46, .int (nI p), .int (nI v), pm_un, pm_un, pm_un] [] S n 0 0 _
  refine q_aload_n rfl rfl rfl ?_
  refine q_iconst rfl rfl ?_
  refine q_putf rfl rfl (by omega) k46 (List.getElem?_eq_some_iff.mp f7).1 rfl trivial ?_
  have eA : ∀ j, j ≠ 46 → va_up S 46 (.inr (10, fs.set 7 (.int 3))) j = S j := fun j hj => u_ne hj
  have a46 : va_up S 46 (.inr (10, fs.set 7 (.int 3))) 46 = .inr (10, fs.set 7 (.int 3)) := u_eq
  generalize va_up S 46 (.inr (10, fs.set 7 (.int 3))) = A at eA a46 ⊢
  have hJR : JR 3 P A := ⟨_, mn, fk, fa, fn, vl, a46, (os_ne (by decide)).trans f1, (os_ne (by decide)).trans f2, (os_ne (by decide)).trans f3, (os_ne (by decide)).trans f4, (os_ne (by decide)).trans f5, (os_ne (by decide)).trans f6, os_at f7, (os_ne (by decide)).trans f8, (os_ne (by decide)).trans f9, (os_ne (by decide)).trans f10, (eA 47 (by decide)).trans k47, (eA 48 (by decide)).trans k48, (eA 49 (by decide)).trans k49, (eA 50 (by decide)).trans k50, (eA 51 (by decide)).trans k51, hmn, hpr, hvl⟩
  have hOA : ORo 1 N st cf cb ch sp ct nt nx A := ⟨_, a46, (os_ne (by decide)).trans f8, (os_ne (by decide)).trans f9, (os_ne (by decide)).trans f11, (os_ne (by decide)).trans f12, (os_ne (by decide)).trans f13, (os_ne (by decide)).trans f14, (os_ne (by decide)).trans f15, (os_ne (by decide)).trans f16, (os_ne (by decide)).trans f17, (eA 53 (by decide)).trans k53, (eA 55 (by decide)).trans k55, (eA 56 (by decide)).trans k56, (eA 57 (by decide)).trans k57, (eA 58 (by decide)).trans k58, (eA 59 (by decide)).trans k59, (eA 60 (by decide)).trans k60, (eA 61 (by decide)).trans k61, hct⟩
  have a52 := (eA 52 (by decide)).trans k52
  refine q_aload_n rfl rfl rfl ?_
  refine q_iconst rfl rfl ?_
  refine q_iconst rfl rfl ?_
  refine q_cV rfl rfl (Or.inl rfl) rfl rfl rfl rfl (by omega) a46 trivial rfl rfl rfl rfl rfl (r_expl (b := 3) (R := 1) (pic := 0) hW hn (by decide) (by decide) (by decide) hJR hOA a52) ?_
  rintro r B _ ⟨rfl, eB, -, hB⟩
  have ext : ∀ (C : Nat → pm_E) (b : Bool) (w4 w5 : Value), (∀ j, j ≠ 52 → j ≠ 53 → j < 55 ∨ 61 < j → C j = A j) → RWs 1 C → (b = true ↔ good9 P p v) → PQ (j_SL L) (j_SV xs) j_EX mm_X12_isGood 124 [.ref 46, .int (nI p), .int (nI v), .int (b2i b), w4, w5] [] C n 0 0 (gdK P p v fs S n) := by
    intro C b w4 w5 eC hC hb
    have c46 := (eC 46 (by decide) (by decide) (by decide)).trans a46
    refine q_aload_n rfl rfl rfl ?_
    refine q_iconst rfl rfl ?_
    refine q_putf rfl rfl (by omega) c46 (List.getElem?_eq_some_iff.mp (os_at f7)).1 rfl trivial ?_
    refine q_iload_n rfl rfl rfl ?_
    have eE : ∀ j, j ≠ 46 → va_up C 46 (.inr (10, (fs.set 7 (.int 3)).set 7 (.int 0))) j = C j := fun j hj => u_ne hj
    refine q_iret rfl rfl (by cases b <;> rfl) ⟨rfl, fun j h1 h2 h3 h4 => (eE j h1).trans ((eC j h2 h3 h4).trans (eA j h1)), ⟨_, u_eq, fun p hp9 => (os_ne (Ne.symm hp9)).trans (os_ne (Ne.symm hp9)), 0, os_at (os_at f7)⟩, ?_, ?_⟩
    · obtain ⟨N9, q1, q2, q3, q4, q5, q6, q7, q8, q9, d1, d2, d3, d4, d5, d6, d7, d8, d9, d10⟩ := hC
      exact ⟨N9, q1, q2, q3, q4, q5, q6, q7, q8, q9, (eE 52 (by decide)).trans d1, (eE 53 (by decide)).trans d2, (eE 55 (by decide)).trans d3, (eE 56 (by decide)).trans d4, (eE 57 (by decide)).trans d5, (eE 58 (by decide)).trans d6, (eE 59 (by decide)).trans d7, (eE 60 (by decide)).trans d8, (eE 61 (by decide)).trans d9, d10⟩
    · cases b
      · exact Or.inr ⟨fun h => absurd (hb.mpr h) (by decide), rfl⟩
      · exact Or.inl ⟨hb.mp rfl, rfl⟩
  have fB : ∀ j, j ≠ 52 → j ≠ 53 → j < 55 ∨ 61 < j → B j = A j := fun j h1 h2 h3 => eB j (by omega) (by omega) (by omega) (by omega) (by omega) (by omega) (by omega) (by omega) (by omega)
  have b46 := (fB 46 (by decide) (by decide) (by decide)).trans a46
  rcases hB with ⟨hx, rfl, hX⟩ | ⟨hx, rfl, hX⟩
  · show PQ (j_SL L) (j_SV xs) j_EX mm_X12_isGood 11 [.ref 46, .int (nI p), .int (nI v), pm_un, pm_un, pm_un] [.int 0] B n 0 0 _
    obtain ⟨st9, cf9, cb9, ch9, sp9, ct9, nt9, nx9, nw9, hO9, t52, -⟩ := hX
    have hRB := rws_of hO9 t52 (fun _ _ => rfl)
    obtain ⟨gs, u46, g8, g9, g11, g12, g13, g14, g15, g16, g17, t53, t55, t56, t57, t58, t59, t60, t61, hct9⟩ := hO9
    refine q_ist3n rfl rfl rfl rfl ?_
    refine q_iconst rfl rfl ?_
    show PQ (j_SL L) (j_SV xs) j_EX mm_X12_isGood 13 [.ref 46, .int (nI p), .int (nI v), .int 0, pm_un, pm_un] [.int (nI 0)] B n 0 0 _
    refine q_ist4 rfl rfl rfl rfl ?_
    refine q_iload rfl rfl rfl ?_
    refine q_aload_n rfl rfl rfl ?_
    refine q_getf rfl rfl (by omega) u46 g16 ?_
    refine q_iconst rfl rfl ?_
    show PQ (j_SL L) (j_SV xs) j_EX mm_X12_isGood 22 [.ref 46, .int (nI p), .int (nI v), .int 0, .int (nI 0), pm_un] [.int (nI 1), .ref 60, .int (nI 0)] B n 0 0 _
    refine q_iald rfl rfl (by omega) t60 (q_inN (by omega) (by decide)) (q_tn (z := nI (xN (xE P 0))) (by rw [nI_clamp (by omega)]; exact hct9) ?_)
    have ng : ¬ good9 P p v := fun g => by rw [g.1] at hx; cases hx
    refine q_icge rfl rfl (fun _ => ext B false _ _ fB hRB ⟨fun h => (by cases h), fun h => absurd h ng⟩) (fun _ => ?_)
    refine q_iload_n rfl rfl rfl ?_
    exact q_ifeq rfl rfl (fun _ => ext B false _ _ fB hRB ⟨fun h => (by cases h), fun h => absurd h ng⟩) (fun c9 => absurd rfl c9)
  show PQ (j_SL L) (j_SV xs) j_EX mm_X12_isGood 11 [.ref 46, .int (nI p), .int (nI v), pm_un, pm_un, pm_un] [.int 1] B n 0 0 _
  have hRS : RSb P B := by
    obtain ⟨st9, cf9, cb9, ch9, sp9, ct9, nt9, nx9, nw9, hO9, t52, -, hrw, -, hsp, -⟩ := hX
    exact ⟨st9, cf9, cb9, ch9, sp9, ct9, nt9, nx9, nw9, hO9, t52, JR_frE hJR eB, hrw, hsp⟩
  have loop : ∀ q i : Nat, i + q = xN (xE P 0) → ∀ (C : Nat → pm_E) (b : Bool) (w5 : Value), (∀ j, j ≠ 52 → j ≠ 53 → j < 55 ∨ 61 < j → C j = A j) → RSb P C → (b = true ↔ ∀ j, j < i → okj P p v j) → PQ (j_SL L) (j_SV xs) j_EX mm_X12_isGood 15 [.ref 46, .int (nI p), .int (nI v), .int (b2i b), .int (nI i), w5] [] C n 0 0 (gdK P p v fs S n) := by
    intro q
    induction q with
    | zero =>
      intro i hi C b w5 eC hC hb
      have e : i = xN (xE P 0) := by omega
      subst e
      obtain ⟨st9, cf9, cb9, ch9, sp9, ct9, nt9, nx9, nw9, hO9, t52, -⟩ := id hC
      have hRC := rws_of hO9 t52 (fun _ _ => rfl)
      obtain ⟨gs, u46, g8, g9, g11, g12, g13, g14, g15, g16, g17, t53, t55, t56, t57, t58, t59, t60, t61, hct9⟩ := hO9
      refine q_iload rfl rfl rfl ?_
      refine q_aload_n rfl rfl rfl ?_
      refine q_getf rfl rfl (by omega) u46 g16 ?_
      refine q_iconst rfl rfl ?_
      show PQ (j_SL L) (j_SV xs) j_EX mm_X12_isGood 22 [.ref 46, .int (nI p), .int (nI v), .int (b2i b), .int (nI (xN (xE P 0))), w5] [.int (nI 1), .ref 60, .int (nI (xN (xE P 0)))] C n 0 0 _
      refine q_iald rfl rfl (by omega) t60 (q_inN (by omega) (by decide)) (q_tn (z := nI (xN (xE P 0))) (by rw [nI_clamp (by omega)]; exact hct9) ?_)
      exact q_icge rfl rfl (fun _ => ext C b _ _ eC hRC (hb.trans (good_i hx).symm)) (fun c9 => absurd (Int32.le_refl _) c9)
    | succ q ih =>
      intro i hiq C b w5 eC hC hb
      have hi : i < xN (xE P 0) := by omega
      obtain ⟨st9, cf9, cb9, ch9, sp9, ct9, nt9, nx9, nw9, hO9, t52, -⟩ := id hC
      have hRC := rws_of hO9 t52 (fun _ _ => rfl)
      obtain ⟨gs, u46, g8, g9, g11, g12, g13, g14, g15, g16, g17, t53, t55, t56, t57, t58, t59, t60, t61, hct9⟩ := hO9
      refine q_iload rfl rfl rfl ?_
      refine q_aload_n rfl rfl rfl ?_
      refine q_getf rfl rfl (by omega) u46 g16 ?_
      refine q_iconst rfl rfl ?_
      show PQ (j_SL L) (j_SV xs) j_EX mm_X12_isGood 22 [.ref 46, .int (nI p), .int (nI v), .int (b2i b), .int (nI i), w5] [.int (nI 1), .ref 60, .int (nI i)] C n 0 0 _
      refine q_iald rfl rfl (by omega) t60 (q_inN (by omega) (by decide)) (q_tn (z := nI (xN (xE P 0))) (by rw [nI_clamp (by omega)]; exact hct9) ?_)
      refine q_icge rfl rfl (fun c9 => absurd c9 (nI_ge (a := i) (b := xN (xE P 0)) (by omega) (by omega))) (fun _ => ?_)
      refine q_iload_n rfl rfl rfl ?_
      cases b
      · exact q_ifeq rfl rfl (fun _ => ext C false _ _ eC hRC ⟨fun h => (by cases h), fun h => absurd (hb.mpr (fun j hj => (good_i hx).mp h j (by omega))) (by decide)⟩) (fun c9 => absurd rfl c9)
      have hb9 := hb.mp rfl
      refine q_ifeq rfl rfl (fun c9 => absurd c9 (by decide)) (fun _ => ?_)
      refine q_aload_n rfl rfl rfl ?_
      refine q_iconst rfl rfl ?_
      refine q_iload rfl rfl rfl ?_
      refine q_cV rfl rfl (Or.inl rfl) rfl rfl rfl rfl (by omega) u46 trivial rfl rfl rfl rfl rfl (r_stuckb hW hx hn hi hC) ?_
      rintro r D _ ⟨rfl, hD, hs⟩
      obtain ⟨eD, hDR, nw, d52, hnw⟩ := hD
      have d46 := (eD 46 (by decide)).trans u46
      have hWD := (xe_wx (k := 0) hW).1.2.2.1 i hi
      have fD : ∀ j, j ≠ 52 → j ≠ 53 → j < 55 ∨ 61 < j → D j = A j := fun j h1 h2 h3 => (eD j h1).trans (eC j h1 h2 h3)
      obtain ⟨_, _, _, _, _, _, _, _, _, -, -, hJD, -⟩ := id hDR
      have hJD2 := hJD
      obtain ⟨es, _, _, _, _, _, c46, q1, _, _, _, _, _, _, q8, -⟩ := hJD2
      have nxt : ∀ (b : Bool) (w3 w5 : Value), pm_c2 w3 = false → (b = true ↔ okj P p v i) → PQ (j_SL L) (j_SV xs) j_EX mm_X12_isGood 117 [.ref 46, .int (nI p), .int (nI v), w3, .int (nI i), w5] [.int (b2i b)] D n 0 0 (gdK P p v fs S n) := by
        intro b w3 w5 b3 hb3
        refine q_ist3n rfl rfl rfl rfl ?_
        refine q_icc4 rfl rfl rfl rfl (z := nI (i + 1)) (nI_add i 1) ?_
        refine q_goto rfl ?_
        refine ih (i + 1) (by omega) D b _ fD hDR (hb3.trans ⟨fun h j hj => ?_, fun h => h i (by omega)⟩)
        rcases Nat.lt_or_eq_of_le (Nat.le_of_lt_succ hj) with c9 | c9
        · exact hb9 j c9
        · rw [c9]
          exact h
      have aft : ∀ (b : Bool) (w5 : Value), (b = true ↔ ¬ spb P 0 (xS (xE P 0) i)) → PQ (j_SL L) (j_SV xs) j_EX mm_X12_isGood 88 [.ref 46, .int (nI p), .int (nI v), .int (b2i b), .int (nI i), w5] [] D n 0 0 (gdK P p v fs S n) := by
        intro b w5 hb5
        refine q_iload_n rfl rfl rfl ?_
        cases b
        · refine q_ifeq rfl rfl (fun _ => ?_) (fun c9 => absurd rfl c9)
          refine q_iconst rfl rfl ?_
          exact nxt false (.int (b2i false)) w5 rfl ⟨fun h => (by cases h), fun h => absurd (hb5.mpr h.1) (by decide)⟩
        refine q_ifeq rfl rfl (fun c9 => absurd c9 (by decide)) (fun _ => ?_)
        have ns := hb5.mp rfl
        refine q_aload_n rfl rfl rfl ?_
        refine q_cV rfl rfl (Or.inl rfl) rfl rfl rfl rfl (by omega) c46 trivial rfl rfl rfl rfl rfl (l_isend (b := 3) hW hn (by decide) hJD d52 hnw) ?_
        rintro r _ _ ⟨rfl, rfl, hr⟩
        rcases hr with ⟨he, rfl⟩ | ⟨he, rfl⟩
        rotate_left
        · show PQ (j_SL L) (j_SV xs) j_EX mm_X12_isGood 96 [.ref 46, .int (nI p), .int (nI v), .int (b2i true), .int (nI i), w5] [.int 0] D n 0 0 _
          refine q_ifeq rfl rfl (fun _ => ?_) (fun c => absurd rfl c)
          refine q_iconst rfl rfl ?_
          refine q_goto rfl ?_
          exact nxt true (.int (b2i true)) w5 rfl ⟨fun _ => ⟨ns, fun h => absurd (srt_i1.mp h) he⟩, fun _ => rfl⟩
        show PQ (j_SL L) (j_SV xs) j_EX mm_X12_isGood 96 [.ref 46, .int (nI p), .int (nI v), .int (b2i true), .int (nI i), w5] [.int 1] D n 0 0 _
        refine q_ifeq rfl rfl (fun c => absurd c (by decide)) (fun _ => ?_)
        refine q_aload_n rfl rfl rfl ?_
        refine q_getf rfl rfl (by omega) c46 q8 ?_
        refine q_bipush rfl rfl ?_
        refine q_iload_n rfl rfl rfl ?_
        refine q_iadd rfl rfl (q_tn (z := nI (12 + p)) (nI_add 12 p) ?_)
        have hpv := hWD.2.2.1 p hp
        refine q_iald rfl rfl (by omega) d52 (q_inN (by omega) (by decide)) (q_tn (z := nI (xS (xE P 0) i (12 + p))) (by rw [nI_clamp (by omega)]; exact (hnw _ (by omega)).trans (ra_h h3 (by omega))) ?_)
        refine q_iload_n rfl rfl rfl ?_
        by_cases ev : xS (xE P 0) i (12 + p) = v
        · refine q_cne rfl rfl (fun c9 => absurd (by rw [ev]) c9) (fun _ => ?_)
          refine q_iconst rfl rfl ?_
          refine q_goto rfl ?_
          exact nxt true (.int (b2i true)) w5 rfl ⟨fun _ => ⟨ns, fun _ => ev⟩, fun _ => rfl⟩
        refine q_cne rfl rfl (fun _ => ?_) (fun c9 => absurd (fun h => ev ((m_eq (by omega) (by omega)).mp h)) c9)
        refine q_iconst rfl rfl ?_
        exact nxt false (.int (b2i true)) w5 rfl ⟨fun h => (by cases h), fun h => absurd (h.2 (srt_i1.mpr he)) ev⟩
      have hands : ∀ q x : Nat, x + q = pH P → ∀ b : Bool, (b = true ↔ (srt P 0 (xS (xE P 0) i) ≠ 2 ∧ ∀ y, y < x → xS (xE P 0) i (4 * y) ≠ 15)) → PQ (j_SL L) (j_SV xs) j_EX mm_X12_isGood 49 [.ref 46, .int (nI p), .int (nI v), .int (b2i b), .int (nI i), .int (nI x)] [] D n 0 0 (gdK P p v fs S n) := by
        intro q
        induction q with
        | zero =>
          intro x hxq b hb5
          have e : x = pH P := by omega
          subst e
          refine q_iload rfl rfl rfl ?_
          refine q_aload_n rfl rfl rfl ?_
          refine q_getf rfl rfl (by omega) c46 q1 ?_
          refine q_icge rfl rfl (fun _ => ?_) (fun c => absurd (Int32.le_refl _) c)
          refine aft b _ (hb5.trans ⟨fun h h9 => ?_, fun h => ⟨fun e9 => h (Or.inl e9), fun y hy e9 => h (Or.inr ⟨y, hy, e9⟩)⟩⟩)
          rcases h9 with h9 | ⟨y, hy, h9⟩
          · exact h.1 h9
          · exact h.2 y hy h9
        | succ q ihh =>
          intro x hxq b hb5
          have hxp : x < pH P := by omega
          refine q_iload rfl rfl rfl ?_
          refine q_aload_n rfl rfl rfl ?_
          refine q_getf rfl rfl (by omega) c46 q1 ?_
          refine q_icge rfl rfl (fun c => absurd c (nI_ge (a := x) (b := pH P) (by omega) (by omega))) (fun _ => ?_)
          have go9 : ∀ (b' : Bool) (w3 : Value), pm_c2 w3 = false → (b' = true ↔ (srt P 0 (xS (xE P 0) i) ≠ 2 ∧ ∀ y, y < x + 1 → xS (xE P 0) i (4 * y) ≠ 15)) → PQ (j_SL L) (j_SV xs) j_EX mm_X12_isGood 81 [.ref 46, .int (nI p), .int (nI v), w3, .int (nI i), .int (nI x)] [.int (b2i b')] D n 0 0 (gdK P p v fs S n) := by
            intro b' w3 b3 h9
            refine q_ist3n rfl rfl rfl rfl ?_
            refine q_icc5 rfl rfl rfl rfl (z := nI (x + 1)) (nI_add x 1) ?_
            refine q_goto rfl ?_
            exact ihh (x + 1) (by omega) b' h9
          refine q_iload_n rfl rfl rfl ?_
          cases b
          · refine q_ifeq rfl rfl (fun _ => ?_) (fun c9 => absurd rfl c9)
            refine q_iconst rfl rfl ?_
            exact go9 false _ rfl ⟨fun h => (by cases h), fun h => absurd (hb5.mpr ⟨h.1, fun y hy => h.2 y (by omega)⟩) (by decide)⟩
          refine q_ifeq rfl rfl (fun c9 => absurd c9 (by decide)) (fun _ => ?_)
          have hb6 := hb5.mp rfl
          refine q_aload_n rfl rfl rfl ?_
          refine q_getf rfl rfl (by omega) c46 q8 ?_
          refine q_iconst rfl rfl ?_
          refine q_iload rfl rfl rfl ?_
          refine q_imul rfl rfl (q_tn (z := nI (4 * x)) (by rw [show (4 : Int32) = nI 4 from rfl, pk_mul]) ?_)
          refine q_iald rfl rfl (by omega) d52 (q_inN (by omega) (by decide)) (q_tn (z := nI (rp P (xS (xE P 0) i) x)) (by rw [nI_clamp (by omega)]; exact (hnw _ (by omega)).trans (ra_0 hxp)) ?_)
          refine q_bipush rfl rfl ?_
          have h8 := hW.2.2.1 x hxp
          have hr11 : nI (rp P (xS (xE P 0) i) x) = 11 ↔ xS (xE P 0) i (4 * x) = 15 := by
            unfold rp
            by_cases c1 : xS (xE P 0) i (4 * x) < pL P x
            · rw [if_pos c1, show (11 : Int32) = nI 11 from rfl, m_eq (by omega) (by decide)]
              omega
            · rw [if_neg c1]
              by_cases c2 : xS (xE P 0) i (4 * x) = 15
              · rw [if_pos c2]
                exact ⟨fun _ => c2, fun _ => rfl⟩
              · rw [if_neg c2]
                exact ⟨fun h => absurd h (by decide), fun h => absurd h c2⟩
          by_cases e15 : xS (xE P 0) i (4 * x) = 15
          · refine q_iceq rfl rfl (fun _ => ?_) (fun c9 => absurd (hr11.mpr e15) c9)
            refine q_iconst rfl rfl ?_
            exact go9 false _ rfl ⟨fun h => (by cases h), fun h => absurd e15 (h.2 x (by omega))⟩
          refine q_iceq rfl rfl (fun c9 => absurd (hr11.mp c9) e15) (fun _ => ?_)
          refine q_iconst rfl rfl ?_
          refine q_goto rfl ?_
          refine go9 true _ rfl ⟨fun _ => ⟨hb6.1, fun y hy => ?_⟩, fun _ => rfl⟩
          rcases Nat.lt_or_eq_of_le (Nat.le_of_lt_succ hy) with c9 | c9
          · exact hb6.2 y c9
          · rw [c9]
            exact e15
      rcases hs with ⟨hs, rfl⟩ | ⟨hs, rfl⟩
      · show PQ (j_SL L) (j_SV xs) j_EX mm_X12_isGood 37 [.ref 46, .int (nI p), .int (nI v), .int (b2i true), .int (nI i), w5] [.int 1] D n 0 0 _
        refine q_fne rfl rfl (fun _ => ?_) (fun c9 => absurd (by decide) c9)
        refine q_iconst rfl rfl ?_
        refine q_ist3n rfl rfl rfl rfl ?_
        refine q_iconst rfl rfl ?_
        show PQ (j_SL L) (j_SV xs) j_EX mm_X12_isGood 47 [.ref 46, .int (nI p), .int (nI v), .int (b2i false), .int (nI i), w5] [.int (nI 0)] D n 0 0 _
        refine q_ist5 rfl rfl rfl rfl ?_
        exact hands (pH P) 0 (by omega) false ⟨fun h => (by cases h), fun h => absurd hs h.1⟩
      · show PQ (j_SL L) (j_SV xs) j_EX mm_X12_isGood 37 [.ref 46, .int (nI p), .int (nI v), .int (b2i true), .int (nI i), w5] [.int 0] D n 0 0 _
        refine q_fne rfl rfl (fun c9 => absurd rfl c9) (fun _ => ?_)
        refine q_iconst rfl rfl ?_
        refine q_goto rfl ?_
        refine q_ist3n rfl rfl rfl rfl ?_
        refine q_iconst rfl rfl ?_
        show PQ (j_SL L) (j_SV xs) j_EX mm_X12_isGood 47 [.ref 46, .int (nI p), .int (nI v), .int (b2i true), .int (nI i), w5] [.int (nI 0)] D n 0 0 _
        refine q_ist5 rfl rfl rfl rfl ?_
        exact hands (pH P) 0 (by omega) true ⟨fun _ => ⟨hs, fun y hy => absurd hy (by omega)⟩, fun _ => rfl⟩
  refine q_ist3n rfl rfl rfl rfl ?_
  refine q_iconst rfl rfl ?_
  show PQ (j_SL L) (j_SV xs) j_EX mm_X12_isGood 13 [.ref 46, .int (nI p), .int (nI v), .int (b2i true), pm_un, pm_un] [.int (nI 0)] B n 0 0 _
  refine q_ist4 rfl rfl rfl rfl ?_
  exact loop (xN (xE P 0)) 0 (by omega) B true _ fB hRS ⟨fun _ j hj => absurd hj (by omega), fun _ => rfl⟩
end QF9
