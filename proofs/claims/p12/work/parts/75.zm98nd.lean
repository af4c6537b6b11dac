/-! the reference's findBacks: a turn of Tarjan's search -/
section ND
variable {L : Nat} {xs : Nat → Int32} {S S' : Nat → pm_E} {n : Nat} {X : XT} {k q h d i w v N t : Nat} {cm lw tr pt sk : Nat → Nat} {on bk : Nat → Bool} {fs : List Value} {θ : Th} {P : PG} {f : Nat → Int32} {g : Nat → Nat} {A A' : Nat → Prop}
def z1 (c : Nat) : Int32 := match c with
  | 0 => -1
  | c + 1 => nI c
theorem z1_s {c : Nat} (h : c ≠ 0) : z1 c = nI (c - 1) := by
  cases c with
  | zero => exact absurd rfl h
  | succ c => rfl
theorem z1_neg {c : Nat} (hc : c ≤ 2000) : 0 ≤ z1 c ↔ c ≠ 0 := by
  cases c with
  | zero => exact ⟨fun h => absurd h (by decide), fun h => absurd rfl h⟩
  | succ c => exact ⟨fun _ => by omega, fun _ => nI_p0 (by omega)⟩
theorem z1_lt {a b : Nat} (ha : a ≠ 0) (hb : b ≠ 0) (ha2 : a ≤ 2000) (hb2 : b ≤ 2000) : z1 b ≤ z1 a ↔ b ≤ a := by
  rw [z1_s ha, z1_s hb, m_le (by omega) (by omega)]
  omega
theorem z1_eq {a b : Nat} (ha : a ≠ 0) (hb : b ≠ 0) (ha2 : a ≤ 2000) (hb2 : b ≤ 2000) : z1 a = z1 b ↔ a = b := by
  rw [z1_s ha, z1_s hb, m_eq (by omega) (by omega)]
  omega
def agZ (f : Nat → Int32) (g : Nat → Nat) (A : Nat → Prop) : Prop := ∀ j, A j → f j = z1 (g j)
def agM (f : Nat → Int32) (g : Nat → Nat) (A : Nat → Prop) : Prop := ∀ j, A j → f j = nI (g j)
def agC (f : Nat → Int32) (g : Nat → Bool) (A : Nat → Prop) : Prop := ∀ j, A j → f j = b2 (g j)
theorem agz_up {x : Int32} (h : agZ f g A) (e : x = z1 v) (hA : ∀ j, j ≠ w → A' j → A j) : agZ (upd f w x) (un g w v) A' := fun j a => by
  by_cases c : j = w
  · rw [c, u32_at, un_eq, e]
  · rw [u32_ot c, un_ne c]
    exact h j (hA j c a)
theorem agm_up {x : Int32} (h : agM f g A) (e : x = nI v) (hA : ∀ j, j ≠ w → A' j → A j) : agM (upd f w x) (un g w v) A' := fun j a => by
  by_cases c : j = w
  · rw [c, u32_at, un_eq, e]
  · rw [u32_ot c, un_ne c]
    exact h j (hA j c a)
theorem agc_up {gb : Nat → Bool} {b : Bool} {x : Int32} (h : agC f gb A) (e : x = b2 b) (hA : ∀ j, j ≠ w → A' j → A j) : agC (upd f w x) (un gb w b) A' := fun j a => by
  by_cases c : j = w
  · rw [c, u32_at, un_eq, e]
  · rw [u32_ot c, un_ne c]
    exact h j (hA j c a)
theorem un_id {α : Type} {f : Nat → α} {i : Nat} {v : α} (h : v = f i) : un f i v = f := by
  funext x
  unfold un
  split
  · rename_i e
    rw [e, h]
  · rfl
/-- the reference's fields that findBacks reads -/
def FF (fs : List Value) : Prop := fs[15]? = some (.ref 59) ∧ fs[16]? = some (.ref 60) ∧ fs[22]? = some (.ref 65) ∧ fs[23]? = some (.ref 66) ∧ fs[24]? = some (.ref 67) ∧ fs[25]? = some (.ref 68) ∧ fs[26]? = some (.ref 69) ∧ fs[27]? = some (.ref 70) ∧ fs[28]? = some (.ref 71)
def RO (N : Nat) (fs : List Value) (S : Nat → pm_E) (cm lw tr pt sk : Nat → Nat) (on bk : Nat → Bool) (h d : Nat) : Prop := ∃ (sn lf pf sf tf nf bf : Nat → Int32), S 46 = .inr (10, fs) ∧ S 65 = .inl (2, 2000, .inl bf) ∧ S 66 = .inl (0, 2000, .inl sn) ∧ S 67 = .inl (0, 2000, .inl lf) ∧ S 68 = .inl (0, 2000, .inl pf) ∧ S 69 = .inl (0, 2000, .inl sf) ∧ S 70 = .inl (0, 2000, .inl tf) ∧ S 71 = .inl (2, 2000, .inl nf) ∧
  agZ sn cm (fun j => j < N) ∧ agZ lf lw (fun j => cm j ≠ 0) ∧ agM tf tr (fun j => cm j ≠ 0) ∧ agM pf pt (fun j => j < d) ∧ agM sf sk (fun j => j < h) ∧ agC nf on (fun j => cm j ≠ 0) ∧ agC bf bk (fun j => j < N)
def frF (S S' : Nat → pm_E) : Prop := ∀ j, j < 65 ∨ 72 ≤ j → S' j = S j
theorem frF_t {S1 S2 S3 : Nat → pm_E} (h : frF S1 S2) (h' : frF S2 S3) : frF S1 S3 := fun j hj => (h' j hj).trans (h j hj)
def FK (S : Nat → pm_E) (n : Nat) (Q : (Nat → pm_E) → Prop) : q_K := fun r S' n' => r = none ∧ n = n' ∧ frF S S' ∧ Q S'
def BR (X : XT) (S : Nat → pm_E) : Prop := ∃ bf : Nat → Int32, S 65 = .inl (2, 2000, .inl bf) ∧ ∀ j, j < xN X → bf j = b2 (bkE X j)
/-- the loop that empties a component -/
theorem l_pop {sv : Bool} {a1 : Value} {K : q_K} (hn : 82 ≤ n) (hfs : FF fs) (hi : i < N) (hN : N ≤ 2000) (ha1 : pm_c2 a1 = false) : ∀ (h : Nat) (S : Nat → pm_E) (on bk : Nat → Bool) (l8 : Value), h ≤ 2000 → (∀ j, j < h → sk j < N ∧ cm (sk j) ≠ 0) → (∃ p, p < h ∧ sk p = i) → RO N fs S cm lw tr pt sk on bk h d → (∀ (S' : Nat → pm_E) (l7 l8 : Value), pm_c2 l7 = false → frF S S' → RO N fs S' cm lw tr pt sk (tPop i sv sk h on bk).2.1 (tPop i sv sk h on bk).2.2 (tPop i sv sk h on bk).1 d → PQ (j_SL L) (j_SV xs) j_EX mm_X12_findBacks 94 [.ref 46, a1, .int (nI q), .int (nI (tPop i sv sk h on bk).1), .int (nI d), .int (nI i), .int (b2 (!sv)), l7, l8] [] S' n 0 0 K) → PQ (j_SL L) (j_SV xs) j_EX mm_X12_findBacks 385 [.ref 46, a1, .int (nI q), .int (nI h), .int (nI d), .int (nI i), .int (b2 (!sv)), .int 1, l8] [] S n 0 0 K := by
  intro h
  induction h with
  | zero =>
    intro S on bk l8 _ _ hP
    obtain ⟨p, hp, -⟩ := hP
    omega
  | succ h ih =>
    intro S on bk l8 hh hk hP H hK
    obtain ⟨sn, lf, pf, sf, tf, nf, bf, k46, k65, k66, k67, k68, k69, k70, k71, hc, hl, ht, hp, hs, hn2, hb⟩ := H
    obtain ⟨f15, f16, f22, f23, f24, f25, f26, f27, f28⟩ := id hfs
    have fr : ∀ j, j < 65 ∨ 72 ≤ j → S j = S j := fun _ _ => rfl
    obtain ⟨hs1, hs2⟩ := hk h (by omega)
    refine q_iload rfl rfl rfl ?_
    refine q_ifeq rfl rfl (fun c => absurd c (by decide)) (fun _ => ?_)
    refine q_icc3 rfl rfl rfl rfl (z := nI h) (pk_m1 h) ?_
    refine q_aload_n rfl rfl rfl ?_
    refine q_getf rfl rfl (by omega) k46 f26 ?_
    refine q_iload_n rfl rfl rfl ?_
    refine q_iald rfl rfl (by omega) k69 (q_inN (by omega) (by decide)) (q_tn (z := nI (sk h)) (by rw [nI_clamp (by omega)]; exact hs h (by omega)) ?_)
    refine q_ist8 rfl rfl rfl rfl ?_
    refine q_aload_n rfl rfl rfl ?_
    refine q_getf rfl rfl (by omega) k46 f28 ?_
    refine q_iload rfl rfl rfl ?_
    refine q_iconst rfl rfl ?_
    refine q_zast rfl rfl (by omega) k71 (q_inN (by omega) (by decide)) ?_
    rw [nI_clamp (by omega)]
    have e1 : ∀ j, j ≠ 71 → va_up S 71 (.inl (2, 2000, .inl (upd nf ((sk h)) (vp_nar .boolean 0)))) j = S j := fun j hj => u_ne hj
    have x1 : va_up S 71 (.inl (2, 2000, .inl (upd nf ((sk h)) (vp_nar .boolean 0)))) 71 = .inl (2, 2000, .inl (upd nf ((sk h)) (vp_nar .boolean 0))) := u_eq
    generalize va_up S 71 (.inl (2, 2000, .inl (upd nf ((sk h)) (vp_nar .boolean 0)))) = S1 at e1 x1 ⊢
    have k46 := (e1 46 (by decide)).trans k46
    have k65 := (e1 65 (by decide)).trans k65
    have k66 := (e1 66 (by decide)).trans k66
    have k67 := (e1 67 (by decide)).trans k67
    have k68 := (e1 68 (by decide)).trans k68
    have k69 := (e1 69 (by decide)).trans k69
    have k70 := (e1 70 (by decide)).trans k70
    have fr : ∀ j, j < 65 ∨ 72 ≤ j → S1 j = S j := fun j hj => (e1 j (by omega)).trans (fr j hj)
    refine q_aload_n rfl rfl rfl ?_
    refine q_getf rfl rfl (by omega) k46 f22 ?_
    refine q_iload rfl rfl rfl ?_
    refine q_aload_n rfl rfl rfl ?_
    refine q_getf rfl rfl (by omega) k46 f22 ?_
    refine q_iload rfl rfl rfl ?_
    refine q_zald rfl rfl (by omega) k65 (q_inN (by omega) (by decide)) (q_tn (z := b2 (bk (sk h))) (by rw [nI_clamp (by omega)]; exact hb (sk h) (by omega)) ?_)
    have fin : PQ (j_SL L) (j_SV xs) j_EX mm_X12_findBacks 435 [.ref 46, a1, .int (nI q), .int (nI h), .int (nI d), .int (nI i), .int (b2 (!sv)), .int 1, .int (nI (sk h))] [.int (b2 (bk (sk h) || sv)), .int (nI (sk h)), .ref 65] S1 n 0 0 K := by
      refine q_zast rfl rfl (by omega) k65 (q_inN (by omega) (by decide)) ?_
      rw [nI_clamp (by omega)]
      have e2 : ∀ j, j ≠ 65 → va_up S1 65 (.inl (2, 2000, .inl (upd bf ((sk h)) (vp_nar .boolean (b2 (bk (sk h) || sv)))))) j = S1 j := fun j hj => u_ne hj
      have x2 : va_up S1 65 (.inl (2, 2000, .inl (upd bf ((sk h)) (vp_nar .boolean (b2 (bk (sk h) || sv)))))) 65 = .inl (2, 2000, .inl (upd bf ((sk h)) (vp_nar .boolean (b2 (bk (sk h) || sv))))) := u_eq
      generalize va_up S1 65 (.inl (2, 2000, .inl (upd bf ((sk h)) (vp_nar .boolean (b2 (bk (sk h) || sv)))))) = S2 at e2 x2 ⊢
      have k46 := (e2 46 (by decide)).trans k46
      have k66 := (e2 66 (by decide)).trans k66
      have k67 := (e2 67 (by decide)).trans k67
      have k68 := (e2 68 (by decide)).trans k68
      have k69 := (e2 69 (by decide)).trans k69
      have k70 := (e2 70 (by decide)).trans k70
      have x1 := (e2 71 (by decide)).trans x1
      have fr : ∀ j, j < 65 ∨ 72 ≤ j → S2 j = S j := fun j hj => (e2 j (by omega)).trans (fr j hj)
      refine q_iload rfl rfl rfl ?_
      refine q_iload rfl rfl rfl ?_
      have H1 : RO N fs S2 cm lw tr pt sk (un on (sk h) false) (un bk (sk h) (bk (sk h) || sv)) h d := ⟨_, _, _, _, _, _, _, k46, x2, k66, k67, k68, k69, k70, x1, hc, hl, ht, hp, fun j a => hs j (by omega), agc_up hn2 (by decide) (fun j _ a => a), agc_up hb b2_nar (fun j _ a => a)⟩
      by_cases e : sk h = i
      · refine q_iceq rfl rfl (fun _ => ?_) (fun c => absurd (by rw [e]) c)
        refine q_iconst rfl rfl ?_
        refine q_ist7 rfl rfl rfl rfl ?_
        refine q_goto rfl ?_
        refine q_iload rfl rfl rfl ?_
        refine q_ifeq rfl rfl (fun _ => ?_) (fun c => absurd rfl c)
        refine q_goto rfl ?_
        have ep : tPop i sv sk (h + 1) on bk = (h, un on (sk h) false, un bk (sk h) (bk (sk h) || sv)) := by
          unfold tPop
          rw [if_pos e]
        rw [ep] at hK
        exact hK _ _ _ rfl fr H1
      · refine q_iceq rfl rfl (fun c => absurd ((m_eq (by omega) (by omega)).mp c) e) (fun _ => ?_)
        refine q_iconst rfl rfl ?_
        refine q_goto rfl ?_
        refine q_ist7 rfl rfl rfl rfl ?_
        refine q_goto rfl ?_
        have ep : tPop i sv sk (h + 1) on bk = tPop i sv sk h (un on (sk h) false) (un bk (sk h) (bk (sk h) || sv)) := by
          show (if sk h = i then _ else _) = _
          rw [if_neg e]
        rw [ep] at hK
        refine ih _ _ _ _ (by omega) (fun j hj => hk j (by omega)) ?_ H1 (fun S' l7 l8 a b c => hK S' l7 l8 a (frF_t fr b) c)
        obtain ⟨p, p1, p2⟩ := hP
        refine ⟨p, ?_, p2⟩
        rcases Nat.lt_or_eq_of_le (Nat.le_of_lt_succ p1) with c | c
        · exact c
        · rw [c] at p2
          exact absurd p2 e
    cases hbk : bk (sk h)
    · rw [hbk] at fin
      refine q_ifne rfl rfl (fun _ => ?_) (fun c => absurd rfl c)
      refine q_iload rfl rfl rfl ?_
      cases sv
      · refine q_ifne rfl rfl (fun c => absurd c (by decide)) (fun _ => ?_)
        refine q_iconst rfl rfl ?_
        exact fin
      · refine q_ifne rfl rfl (fun _ => ?_) (fun c => absurd rfl c)
        refine q_iconst rfl rfl ?_
        refine q_goto rfl ?_
        exact fin
    · rw [hbk] at fin
      refine q_ifne rfl rfl (fun c => absurd c (by decide)) (fun _ => ?_)
      refine q_iconst rfl rfl ?_
      refine q_goto rfl ?_
      exact fin
theorem tlow_d (H : TI X k cm lw tr pt sk bk q h (d + 1)) : tLow lw pt d (pt d) (pt d) = lw (pt d) := by
  cases d with
  | zero => rfl
  | succ e =>
    show un lw (pt e) (min (lw (pt e)) (lw (pt (e + 1)))) (pt (e + 1)) = lw (pt (e + 1))
    unfold un
    split
    · rename_i h9
      rw [← h9, Nat.min_self]
    · rfl
set_option maxHeartbeats 8000000 in
theorem l_search {a1 : Value} {K : q_K} {S0 : Nat → pm_E} (hn : 82 ≤ n) (hfs : FF fs) (ha1 : pm_c2 a1 = false) (hX : 1 ≤ xN X ∧ xN X ≤ 2000) (hE : XE9 X (3 * xN X)) (hR : XR9 X (3 * xN X)) {sp : Nat → Int32} (k59 : S0 59 = .inl (0, 12000, .inl sp)) (hsp : ∀ q, q < 3 * xN X → sp q = xL X q) (hK : ∀ S, frF S0 S → BR X S → K none S n) :
    ∀ (m k q h d : Nat) (cm lw tr pt sk : Nat → Nat) (on bk : Nat → Bool) (S : Nat → pm_E) (b5 b6 b7 b8 : Value), k + m = 10000 → pm_c2 b5 = false → pm_c2 b6 = false → pm_c2 b7 = false → TK X k cm lw tr pt sk on bk q h d → RO (xN X) fs S cm lw tr pt sk on bk h d → frF S0 S → PQ (j_SL L) (j_SV xs) j_EX mm_X12_findBacks 94 [.ref 46, a1, .int (nI q), .int (nI h), .int (nI d), b5, b6, b7, b8] [] S n 0 0 K := by
  intro m
  induction m with
  | zero =>
    intro k q h d cm lw tr pt sk on bk S b5 b6 b7 b8 hk h5 h6 h7 hT H hr
    have hd : d = 0 := by
      have := hT.2.1.2.2.2.2.2.1
      omega
    subst hd
    refine q_iload rfl rfl rfl ?_
    refine q_ifle rfl rfl (fun _ => ?_) (fun c => absurd (by decide) c)
    have e1 := tk_end hT
    obtain ⟨sn, lf, pf, sf, tf, nf, bf, k46, k65, k66, k67, k68, k69, k70, k71, hc, hl, ht, hp, hs, hn2, hb⟩ := H
    exact q_ret rfl rfl (hK S hr ⟨bf, k65, by rw [e1]; exact hb⟩)
  | succ m ih =>
    intro k q h d cm lw tr pt sk on bk S b5 b6 b7 b8 hk h5 h6 h7 hT H hr
    have H9 := H
    obtain ⟨sn, lf, pf, sf, tf, nf, bf, k46, k65, k66, k67, k68, k69, k70, k71, hc, hl, ht, hp, hs, hn2, hb⟩ := H
    obtain ⟨f15, f16, f22, f23, f24, f25, f26, f27, f28⟩ := id hfs
    refine q_iload rfl rfl rfl ?_
    cases d with
    | zero =>
      refine q_ifle rfl rfl (fun _ => ?_) (fun c => absurd (by decide) c)
      have e1 := tk_end hT
      exact q_ret rfl rfl (hK S hr ⟨bf, k65, by rw [e1]; exact hb⟩)
    | succ d =>
      have hI := hT.2.1
      have sd := hI.2.1 d (by omega)
      obtain ⟨n1, n2, n3, n4, n5, n6, n7⟩ := hI.2.2.2.2.1 _ sd
      have hq := cwN_le cm
      have hq2 := hI.1
      have cmb : ∀ j, cm j ≤ 2000 := fun j => by
        by_cases e : cm j = 0
        · omega
        · have := (hI.2.2.2.2.1 j e).2.2.2.2.1
          omega
      have k59' := (hr 59 (by omega)).trans k59
      have nxt : ∀ (q' h' d' : Nat) (cm' lw' tr' pt' sk' : Nat → Nat) (on' bk' : Nat → Bool) (V : Nat → pm_E) (b5 b6 b7 b8 : Value), pm_c2 b5 = false → pm_c2 b6 = false → pm_c2 b7 = false → TK X (k + 1) cm' lw' tr' pt' sk' on' bk' q' h' d' → RO (xN X) fs V cm' lw' tr' pt' sk' on' bk' h' d' → frF S V → PQ (j_SL L) (j_SV xs) j_EX mm_X12_findBacks 94 [.ref 46, a1, .int (nI q'), .int (nI h'), .int (nI d'), b5, b6, b7, b8] [] V n 0 0 K := fun q' h' d' cm' lw' tr' pt' sk' on' bk' V b5 b6 b7 b8 x5 x6 x7 a1 a2 a3 => ih (k + 1) q' h' d' cm' lw' tr' pt' sk' on' bk' V b5 b6 b7 b8 (by omega) x5 x6 x7 a1 a2 (frF_t hr a3)
      have fr : ∀ j, j < 65 ∨ 72 ≤ j → S j = S j := fun _ _ => rfl
      refine q_ifle rfl rfl (fun c => absurd ((m_le (b := 0) (by omega) (by decide)).mp c) (by omega)) (fun _ => ?_)
      refine q_aload_n rfl rfl rfl ?_
      refine q_getf rfl rfl (by omega) k46 f25 ?_
      refine q_iload rfl rfl rfl ?_
      refine q_iconst rfl rfl ?_
      refine q_isub rfl rfl (q_tn (z := nI d) (nI_pred d) ?_)
      refine q_iald rfl rfl (by omega) k68 (q_inN (by omega) (by decide)) (q_tn (z := nI (pt d)) (by rw [nI_clamp (by omega)]; exact hp d (by omega)) ?_)
      refine q_ist5 rfl rfl rfl rfl ?_
      refine q_aload_n rfl rfl rfl ?_
      refine q_getf rfl rfl (by omega) k46 f27 ?_
      refine q_iload rfl rfl rfl ?_
      refine q_iald rfl rfl (by omega) k70 (q_inN (by omega) (by decide)) (q_tn (z := nI (tr (pt d))) (by rw [nI_clamp (by omega)]; exact ht _ sd) ?_)
      refine q_iconst rfl rfl ?_
      refine q_icge rfl rfl (fun c => ?_) (fun c => ?_)
      · have ht3 : ¬ tr (pt d) < 3 := fun c9 => absurd c (nI_ge (a := tr (pt d)) (b := 3) c9 (by decide))
        refine q_icc4 rfl rfl rfl rfl (z := nI d) (pk_m1 d) ?_
        have tail : ∀ V : Nat → pm_E, frF S V → RO (xN X) fs V cm (tLow lw pt d (pt d)) tr pt sk on bk h d → PQ (j_SL L) (j_SV xs) j_EX mm_X12_findBacks 342 [.ref 46, a1, .int (nI q), .int (nI h), .int (nI d), .int (nI (pt d)), b6, b7, b8] [] V n 0 0 K := by
          intro V fr H
          have lwd : tLow lw pt d (pt d) (pt d) = lw (pt d) := tlow_d hI
          have H8 := H
          clear k46 k65 k66 k67 k68 k69 k70 k71 hc hl ht hp hs hn2 hb
          obtain ⟨sn, lf, pf, sf, tf, nf, bf, k46, k65, k66, k67, k68, k69, k70, k71, hc, hl, ht, hp, hs, hn2, hb⟩ := H
          refine q_aload_n rfl rfl rfl ?_
          refine q_getf rfl rfl (by omega) k46 f24 ?_
          refine q_iload rfl rfl rfl ?_
          refine q_iald rfl rfl (by omega) k67 (q_inN (by omega) (by decide)) (q_tn (z := z1 (lw (pt d))) (by rw [nI_clamp (by omega)]; exact by rw [hl _ sd, lwd]) ?_)
          refine q_aload_n rfl rfl rfl ?_
          refine q_getf rfl rfl (by omega) k46 f23 ?_
          refine q_iload rfl rfl rfl ?_
          refine q_iald rfl rfl (by omega) k66 (q_inN (by omega) (by decide)) (q_tn (z := z1 (cm (pt d))) (by rw [nI_clamp (by omega)]; exact hc _ n1) ?_)
          have zz := z1_eq (a := lw (pt d)) (b := cm (pt d)) (by omega) sd (by have := cmb (pt d); omega) (cmb _)
          by_cases e : lw (pt d) = cm (pt d)
          · refine q_iceq rfl rfl (fun _ => ?_) (fun c => absurd (zz.mpr e) c)
            obtain ⟨pos, hpos⟩ := hI.2.2.2.1
            have hpd := hpos d (by omega)
            obtain ⟨h0, rfl⟩ : ∃ h0, h = h0 + 1 := ⟨h - 1, by omega⟩
            have hk9 : ∀ j, j < h0 + 1 → sk j < xN X ∧ cm (sk j) ≠ 0 := fun j hj => ⟨(hI.2.2.2.2.1 _ (hI.2.2.1 j hj)).1, hI.2.2.1 j hj⟩
            refine q_aload_n rfl rfl rfl ?_
            refine q_getf rfl rfl (by omega) k46 f26 ?_
            refine q_iload_n rfl rfl rfl ?_
            refine q_iconst rfl rfl ?_
            refine q_isub rfl rfl (q_tn (z := nI h0) (nI_pred h0) ?_)
            refine q_iald rfl rfl (by omega) k69 (q_inN (by omega) (by decide)) (q_tn (z := nI (sk h0)) (by rw [nI_clamp (by omega)]; exact hs h0 (by omega)) ?_)
            refine q_iload rfl rfl rfl ?_
            have go : ∀ sv : Bool, sv = decide (sk (h0 + 1 - 1) ≠ pt d) → PQ (j_SL L) (j_SV xs) j_EX mm_X12_findBacks 380 [.ref 46, a1, .int (nI q), .int (nI (h0 + 1)), .int (nI d), .int (nI (pt d)), b6, b7, b8] [.int (b2 (!sv))] V n 0 0 K := by
              intro sv hsv
              refine q_ist6 rfl rfl rfl rfl ?_
              refine q_iconst rfl rfl ?_
              refine q_ist7 rfl rfl rfl rfl ?_
              refine l_pop (N := xN X) hn hfs n1 hX.2 ha1 (h0 + 1) V on bk _ (by omega) hk9 ⟨pos d, by omega, hpd.2.1⟩ H8 (fun V' l7 l8 c7 f7 r7 => ?_)
              rw [hsv] at r7 ⊢
              exact nxt q _ d _ _ _ _ _ _ _ V' _ _ _ _ rfl rfl c7 (tk_close hT ht3 e rfl) r7 (frF_t fr f7)
            by_cases e9 : sk h0 = pt d
            · refine q_cne rfl rfl (fun c => absurd (by rw [e9]) c) (fun _ => ?_)
              refine q_iconst rfl rfl ?_
              refine q_goto rfl ?_
              exact go false (by rw [Nat.add_sub_cancel, decide_eq_false (fun c => c e9)])
            · refine q_cne rfl rfl (fun _ => ?_) (fun c => absurd (fun c9 => e9 ((m_eq (by have := (hk9 h0 (by omega)).1; omega) (by omega)).mp c9)) c)
              refine q_iconst rfl rfl ?_
              exact go true (by rw [Nat.add_sub_cancel, decide_eq_true e9])
          · refine q_iceq rfl rfl (fun c => absurd (zz.mp c) e) (fun _ => ?_)
            refine q_goto rfl ?_
            exact nxt q h d _ _ _ _ _ _ _ V _ _ _ _ rfl h6 h7 (tk_leave hT ht3 e) H8 fr
        refine q_iload rfl rfl rfl ?_
        cases d with
        | zero =>
          refine q_ifle rfl rfl (fun _ => ?_) (fun c => absurd (by decide) c)
          exact tail S fr ⟨sn, lf, pf, sf, tf, nf, bf, k46, k65, k66, k67, k68, k69, k70, k71, hc, hl, ht, fun j a => absurd a (by omega), hs, hn2, hb⟩
        | succ e =>
          have se := hI.2.1 e (by omega)
          obtain ⟨m1, m2, m3, m4, m5, m6, m7⟩ := hI.2.2.2.2.1 _ se
          refine q_ifle rfl rfl (fun c => absurd ((m_le (b := 0) (by omega) (by decide)).mp c) (by omega)) (fun _ => ?_)
          refine q_aload_n rfl rfl rfl ?_
          refine q_getf rfl rfl (by omega) k46 f24 ?_
          refine q_iload rfl rfl rfl ?_
          refine q_iald rfl rfl (by omega) k67 (q_inN (by omega) (by decide)) (q_tn (z := z1 (lw (pt (e + 1)))) (by rw [nI_clamp (by omega)]; exact hl _ sd) ?_)
          refine q_aload_n rfl rfl rfl ?_
          refine q_getf rfl rfl (by omega) k46 f24 ?_
          refine q_aload_n rfl rfl rfl ?_
          refine q_getf rfl rfl (by omega) k46 f25 ?_
          refine q_iload rfl rfl rfl ?_
          refine q_iconst rfl rfl ?_
          refine q_isub rfl rfl (q_tn (z := nI e) (nI_pred e) ?_)
          refine q_iald rfl rfl (by omega) k68 (q_inN (by omega) (by decide)) (q_tn (z := nI (pt e)) (by rw [nI_clamp (by omega)]; exact hp e (by omega)) ?_)
          refine q_iald rfl rfl (by omega) k67 (q_inN (by omega) (by decide)) (q_tn (z := z1 (lw (pt e))) (by rw [nI_clamp (by omega)]; exact hl _ se) ?_)
          have zl := z1_lt (a := lw (pt (e + 1))) (b := lw (pt e)) (by omega) (by omega) (by have := cmb (pt (e + 1)); omega) (by have := cmb (pt e); omega)
          by_cases c : lw (pt e) ≤ lw (pt (e + 1))
          · refine q_icge rfl rfl (fun _ => ?_) (fun c9 => absurd (zl.mpr c) c9)
            have el : tLow lw pt (e + 1) (pt (e + 1)) = lw := un_id (Nat.min_eq_left c)
            refine tail S fr ?_
            rw [el]
            exact ⟨sn, lf, pf, sf, tf, nf, bf, k46, k65, k66, k67, k68, k69, k70, k71, hc, hl, ht, fun j a => hp j (by omega), hs, hn2, hb⟩
          · refine q_icge rfl rfl (fun c9 => absurd (zl.mp c9) c) (fun _ => ?_)
            refine q_aload_n rfl rfl rfl ?_
            refine q_getf rfl rfl (by omega) k46 f24 ?_
            refine q_aload_n rfl rfl rfl ?_
            refine q_getf rfl rfl (by omega) k46 f25 ?_
            refine q_iload rfl rfl rfl ?_
            refine q_iconst rfl rfl ?_
            refine q_isub rfl rfl (q_tn (z := nI e) (nI_pred e) ?_)
            refine q_iald rfl rfl (by omega) k68 (q_inN (by omega) (by decide)) (q_tn (z := nI (pt e)) (by rw [nI_clamp (by omega)]; exact hp e (by omega)) ?_)
            refine q_aload_n rfl rfl rfl ?_
            refine q_getf rfl rfl (by omega) k46 f24 ?_
            refine q_iload rfl rfl rfl ?_
            refine q_iald rfl rfl (by omega) k67 (q_inN (by omega) (by decide)) (q_tn (z := z1 (lw (pt (e + 1)))) (by rw [nI_clamp (by omega)]; exact hl _ sd) ?_)
            refine q_iast rfl rfl (by omega) k67 (q_inN (by omega) (by decide)) ?_
            rw [nI_clamp (by omega)]
            have e3 : ∀ j, j ≠ 67 → va_up S 67 (.inl (0, 2000, .inl (upd lf ((pt e)) (z1 (lw (pt (e + 1))))))) j = S j := fun j hj => u_ne hj
            have x3 : va_up S 67 (.inl (0, 2000, .inl (upd lf ((pt e)) (z1 (lw (pt (e + 1))))))) 67 = .inl (0, 2000, .inl (upd lf ((pt e)) (z1 (lw (pt (e + 1)))))) := u_eq
            generalize va_up S 67 (.inl (0, 2000, .inl (upd lf ((pt e)) (z1 (lw (pt (e + 1))))))) = S3 at e3 x3 ⊢
            have k46 := (e3 46 (by decide)).trans k46
            have k65 := (e3 65 (by decide)).trans k65
            have k66 := (e3 66 (by decide)).trans k66
            have k68 := (e3 68 (by decide)).trans k68
            have k69 := (e3 69 (by decide)).trans k69
            have k70 := (e3 70 (by decide)).trans k70
            have k71 := (e3 71 (by decide)).trans k71
            have fr : ∀ j, j < 65 ∨ 72 ≤ j → S3 j = S j := fun j hj => (e3 j (by omega)).trans (fr j hj)
            refine tail _ fr ?_
            have el : tLow lw pt (e + 1) (pt (e + 1)) = un lw (pt e) (lw (pt (e + 1))) := by
              show un lw (pt e) (min (lw (pt e)) (lw (pt (e + 1)))) = _
              rw [Nat.min_eq_right (by omega)]
            rw [el]
            exact ⟨_, _, _, _, _, _, _, k46, k65, k66, x3, k68, k69, k70, k71, hc, agz_up hl rfl (fun j _ a => a), ht, fun j a => hp j (by omega), hs, hn2, hb⟩
      · have ht3 : tr (pt d) < 3 := by
          rcases Nat.lt_or_ge (tr (pt d)) 3 with c9 | c9
          · exact c9
          · exact absurd ((m_le (a := 3) (by decide) (by omega)).mpr c9) c
        refine q_aload_n rfl rfl rfl ?_
        refine q_getf rfl rfl (by omega) k46 f15 ?_
        refine q_iconst rfl rfl ?_
        refine q_iload rfl rfl rfl ?_
        refine q_imul rfl rfl (q_tn (z := nI (3 * pt d)) (by rw [show (3 : Int32) = nI 3 from rfl, pk_mul]) ?_)
        refine q_aload_n rfl rfl rfl ?_
        refine q_getf rfl rfl (by omega) k46 f27 ?_
        refine q_iload rfl rfl rfl ?_
        refine q_iald rfl rfl (by omega) k70 (q_inN (by omega) (by decide)) (q_tn (z := nI (tr (pt d))) (by rw [nI_clamp (by omega)]; exact ht _ sd) ?_)
        refine q_iadd rfl rfl (q_tn (z := nI (3 * pt d + tr (pt d))) (nI_add _ _) ?_)
        refine q_iald rfl rfl (by omega) k59' (q_inN (by omega) (by decide)) (q_tn (z := xL X (3 * pt d + tr (pt d))) (by rw [nI_clamp (by omega)]; exact hsp _ (by omega)) ?_)
        refine q_ist6 rfl rfl rfl rfl ?_
        refine q_aload_n rfl rfl rfl ?_
        refine q_getf rfl rfl (by omega) k46 f27 ?_
        refine q_iload rfl rfl rfl ?_
        refine q_dup2 rfl rfl ?_
        refine q_iald rfl rfl (by omega) k70 (q_inN (by omega) (by decide)) (q_tn (z := nI (tr (pt d))) (by rw [nI_clamp (by omega)]; exact ht _ sd) ?_)
        refine q_iconst rfl rfl ?_
        refine q_iadd rfl rfl (q_tn (z := nI (tr (pt d) + 1)) (nI_add _ 1) ?_)
        refine q_iast rfl rfl (by omega) k70 (q_inN (by omega) (by decide)) ?_
        rw [nI_clamp (by omega)]
        have e4 : ∀ j, j ≠ 70 → va_up S 70 (.inl (0, 2000, .inl (upd tf ((pt d)) (nI (tr (pt d) + 1))))) j = S j := fun j hj => u_ne hj
        have x4 : va_up S 70 (.inl (0, 2000, .inl (upd tf ((pt d)) (nI (tr (pt d) + 1))))) 70 = .inl (0, 2000, .inl (upd tf ((pt d)) (nI (tr (pt d) + 1)))) := u_eq
        generalize va_up S 70 (.inl (0, 2000, .inl (upd tf ((pt d)) (nI (tr (pt d) + 1))))) = S4 at e4 x4 ⊢
        have k46 := (e4 46 (by decide)).trans k46
        have k65 := (e4 65 (by decide)).trans k65
        have k66 := (e4 66 (by decide)).trans k66
        have k67 := (e4 67 (by decide)).trans k67
        have k68 := (e4 68 (by decide)).trans k68
        have k69 := (e4 69 (by decide)).trans k69
        have k71 := (e4 71 (by decide)).trans k71
        have k59' := (e4 59 (by decide)).trans k59'
        have fr : ∀ j, j < 65 ∨ 72 ≤ j → S4 j = S j := fun j hj => (e4 j (by omega)).trans (fr j hj)
        have H1 : RO (xN X) fs S4 cm lw (un tr (pt d) (tr (pt d) + 1)) pt sk on bk h (d + 1) := ⟨_, _, _, _, _, _, _, k46, k65, k66, k67, k68, k69, x4, k71, hc, hl, agm_up ht rfl (fun j _ a => a), hp, hs, hn2, hb⟩
        rcases tk_fl hR hT ht3 with hx | ⟨w, hw, hx⟩
        · rw [hx]
          refine q_iload rfl rfl rfl ?_
          refine q_ifge rfl rfl (fun c => absurd c (by decide)) (fun _ => ?_)
          refine q_goto rfl ?_
          exact nxt q h (d + 1) _ _ _ _ _ _ _ _ _ _ _ _ rfl rfl h7 (tk_none hX.2 hT ht3 hx) H1 fr
        · rw [hx]
          refine q_iload rfl rfl rfl ?_
          refine q_ifge rfl rfl (fun _ => ?_) (fun c => absurd (nI_p0 (by omega)) c)
          refine q_iload rfl rfl rfl ?_
          refine q_iload rfl rfl rfl ?_
          have zc := z1_neg (c := cm w) (cmb w)
          by_cases e : w = pt d
          · rw [e] at hx ⊢
            refine q_cne rfl rfl (fun c => absurd rfl c) (fun _ => ?_)
            refine q_aload_n rfl rfl rfl ?_
            refine q_getf rfl rfl (by omega) k46 f22 ?_
            refine q_iload rfl rfl rfl ?_
            refine q_iconst rfl rfl ?_
            refine q_zast rfl rfl (by omega) k65 (q_inN (by omega) (by decide)) ?_
            rw [nI_clamp (by omega)]
            have e5 : ∀ j, j ≠ 65 → va_up S4 65 (.inl (2, 2000, .inl (upd bf ((pt d)) (vp_nar .boolean 1)))) j = S4 j := fun j hj => u_ne hj
            have x5 : va_up S4 65 (.inl (2, 2000, .inl (upd bf ((pt d)) (vp_nar .boolean 1)))) 65 = .inl (2, 2000, .inl (upd bf ((pt d)) (vp_nar .boolean 1))) := u_eq
            generalize va_up S4 65 (.inl (2, 2000, .inl (upd bf ((pt d)) (vp_nar .boolean 1)))) = S5 at e5 x5 ⊢
            have k46 := (e5 46 (by decide)).trans k46
            have k66 := (e5 66 (by decide)).trans k66
            have k67 := (e5 67 (by decide)).trans k67
            have k68 := (e5 68 (by decide)).trans k68
            have k69 := (e5 69 (by decide)).trans k69
            have x4 := (e5 70 (by decide)).trans x4
            have k71 := (e5 71 (by decide)).trans k71
            have k59' := (e5 59 (by decide)).trans k59'
            have fr : ∀ j, j < 65 ∨ 72 ≤ j → S5 j = S j := fun j hj => (e5 j (by omega)).trans (fr j hj)
            refine q_aload_n rfl rfl rfl ?_
            refine q_getf rfl rfl (by omega) k46 f23 ?_
            refine q_iload rfl rfl rfl ?_
            refine q_iald rfl rfl (by omega) k66 (q_inN (by omega) (by decide)) (q_tn (z := z1 (cm (pt d))) (by rw [nI_clamp (by omega)]; exact hc _ n1) ?_)
            have zd := z1_neg (c := cm (pt d)) (cmb _)
            refine q_ifge rfl rfl (fun _ => ?_) (fun c => absurd (zd.mpr sd) c)
            have H2 : RO (xN X) fs S5 cm lw (un tr (pt d) (tr (pt d) + 1)) pt sk on (un bk (pt d) true) h (d + 1) := ⟨_, _, _, _, _, _, _, k46, x5, k66, k67, k68, k69, x4, k71, hc, hl, agm_up ht rfl (fun j _ a => a), hp, hs, hn2, agc_up hb (by decide) (fun j _ a => a)⟩
            have nx9 := nxt q h (d + 1) _ _ _ _ _ _ _ _ (.int (nI (pt d))) (.int (nI (pt d))) _ b8 rfl rfl h7 (tk_self hX.2 hT ht3 hx) H2 fr
            refine q_aload_n rfl rfl rfl ?_
            refine q_getf rfl rfl (by omega) k46 f28 ?_
            refine q_iload rfl rfl rfl ?_
            refine q_zald rfl rfl (by omega) k71 (q_inN (by omega) (by decide)) (q_tn (z := b2 (on (pt d))) (by rw [nI_clamp (by omega)]; exact hn2 _ sd) ?_)
            cases on (pt d)
            · refine q_ifeq rfl rfl (fun _ => ?_) (fun c => absurd rfl c)
              exact nx9
            · refine q_ifeq rfl rfl (fun c => absurd c (by decide)) (fun _ => ?_)
              refine q_aload_n rfl rfl rfl ?_
              refine q_getf rfl rfl (by omega) k46 f23 ?_
              refine q_iload rfl rfl rfl ?_
              refine q_iald rfl rfl (by omega) k66 (q_inN (by omega) (by decide)) (q_tn (z := z1 (cm (pt d))) (by rw [nI_clamp (by omega)]; exact hc _ n1) ?_)
              refine q_aload_n rfl rfl rfl ?_
              refine q_getf rfl rfl (by omega) k46 f24 ?_
              refine q_iload rfl rfl rfl ?_
              refine q_iald rfl rfl (by omega) k67 (q_inN (by omega) (by decide)) (q_tn (z := z1 (lw (pt d))) (by rw [nI_clamp (by omega)]; exact hl _ sd) ?_)
              refine q_icge rfl rfl (fun _ => ?_) (fun c => absurd ((z1_lt (a := cm (pt d)) (b := lw (pt d)) sd (by omega) (cmb _) (by have := cmb (pt d); omega)).mpr n4) c)
              exact nx9
          · refine q_cne rfl rfl (fun _ => ?_) (fun c => absurd (fun c9 => e ((m_eq (by omega) (by omega)).mp c9)) c)
            refine q_aload_n rfl rfl rfl ?_
            refine q_getf rfl rfl (by omega) k46 f23 ?_
            refine q_iload rfl rfl rfl ?_
            refine q_iald rfl rfl (by omega) k66 (q_inN (by omega) (by decide)) (q_tn (z := z1 (cm w)) (by rw [nI_clamp (by omega)]; exact hc w hw) ?_)
            by_cases e0 : cm w = 0
            · refine q_ifge rfl rfl (fun c => absurd (zc.mp c) (fun c9 => c9 e0)) (fun _ => ?_)
              have hc2 := cwN_lt (cm := cm) (w := w) (by omega) e0
              refine q_aload_n rfl rfl rfl ?_
              refine q_getf rfl rfl (by omega) k46 f23 ?_
              refine q_iload rfl rfl rfl ?_
              refine q_iload_n rfl rfl rfl ?_
              refine q_iast rfl rfl (by omega) k66 (q_inN (by omega) (by decide)) ?_
              rw [nI_clamp (by omega)]
              have e6 : ∀ j, j ≠ 66 → va_up S4 66 (.inl (0, 2000, .inl (upd sn w (nI q)))) j = S4 j := fun j hj => u_ne hj
              have x6 : va_up S4 66 (.inl (0, 2000, .inl (upd sn w (nI q)))) 66 = .inl (0, 2000, .inl (upd sn w (nI q))) := u_eq
              generalize va_up S4 66 (.inl (0, 2000, .inl (upd sn w (nI q)))) = S6 at e6 x6 ⊢
              have k46 := (e6 46 (by decide)).trans k46
              have k65 := (e6 65 (by decide)).trans k65
              have k67 := (e6 67 (by decide)).trans k67
              have k68 := (e6 68 (by decide)).trans k68
              have k69 := (e6 69 (by decide)).trans k69
              have x4 := (e6 70 (by decide)).trans x4
              have k71 := (e6 71 (by decide)).trans k71
              have k59' := (e6 59 (by decide)).trans k59'
              have fr : ∀ j, j < 65 ∨ 72 ≤ j → S6 j = S j := fun j hj => (e6 j (by omega)).trans (fr j hj)
              refine q_aload_n rfl rfl rfl ?_
              refine q_getf rfl rfl (by omega) k46 f24 ?_
              refine q_iload rfl rfl rfl ?_
              refine q_iload_n rfl rfl rfl ?_
              refine q_iast rfl rfl (by omega) k67 (q_inN (by omega) (by decide)) ?_
              rw [nI_clamp (by omega)]
              have e7 : ∀ j, j ≠ 67 → va_up S6 67 (.inl (0, 2000, .inl (upd lf w (nI q)))) j = S6 j := fun j hj => u_ne hj
              have x7 : va_up S6 67 (.inl (0, 2000, .inl (upd lf w (nI q)))) 67 = .inl (0, 2000, .inl (upd lf w (nI q))) := u_eq
              generalize va_up S6 67 (.inl (0, 2000, .inl (upd lf w (nI q)))) = S7 at e7 x7 ⊢
              have k46 := (e7 46 (by decide)).trans k46
              have k65 := (e7 65 (by decide)).trans k65
              have x6 := (e7 66 (by decide)).trans x6
              have k68 := (e7 68 (by decide)).trans k68
              have k69 := (e7 69 (by decide)).trans k69
              have x4 := (e7 70 (by decide)).trans x4
              have k71 := (e7 71 (by decide)).trans k71
              have k59' := (e7 59 (by decide)).trans k59'
              have fr : ∀ j, j < 65 ∨ 72 ≤ j → S7 j = S j := fun j hj => (e7 j (by omega)).trans (fr j hj)
              refine q_icc2 rfl rfl rfl ha1 (z := nI (q + 1)) (nI_add q 1) ?_
              refine q_aload_n rfl rfl rfl ?_
              refine q_getf rfl rfl (by omega) k46 f27 ?_
              refine q_iload rfl rfl rfl ?_
              refine q_iconst rfl rfl ?_
              refine q_iast rfl rfl (by omega) x4 (q_inN (by omega) (by decide)) ?_
              rw [nI_clamp (by omega)]
              have e8 : ∀ j, j ≠ 70 → va_up S7 70 (.inl (0, 2000, .inl (upd (upd tf ((pt d)) (nI (tr (pt d) + 1))) w 0))) j = S7 j := fun j hj => u_ne hj
              have x8 : va_up S7 70 (.inl (0, 2000, .inl (upd (upd tf ((pt d)) (nI (tr (pt d) + 1))) w 0))) 70 = .inl (0, 2000, .inl (upd (upd tf ((pt d)) (nI (tr (pt d) + 1))) w 0)) := u_eq
              generalize va_up S7 70 (.inl (0, 2000, .inl (upd (upd tf ((pt d)) (nI (tr (pt d) + 1))) w 0))) = S8 at e8 x8 ⊢
              have k46 := (e8 46 (by decide)).trans k46
              have k65 := (e8 65 (by decide)).trans k65
              have x6 := (e8 66 (by decide)).trans x6
              have x7 := (e8 67 (by decide)).trans x7
              have k68 := (e8 68 (by decide)).trans k68
              have k69 := (e8 69 (by decide)).trans k69
              have k71 := (e8 71 (by decide)).trans k71
              have k59' := (e8 59 (by decide)).trans k59'
              have fr : ∀ j, j < 65 ∨ 72 ≤ j → S8 j = S j := fun j hj => (e8 j (by omega)).trans (fr j hj)
              refine q_aload_n rfl rfl rfl ?_
              refine q_getf rfl rfl (by omega) k46 f26 ?_
              refine q_iload_n rfl rfl rfl ?_
              refine q_iload rfl rfl rfl ?_
              refine q_iast rfl rfl (by omega) k69 (q_inN (by omega) (by decide)) ?_
              rw [nI_clamp (by omega)]
              have e9 : ∀ j, j ≠ 69 → va_up S8 69 (.inl (0, 2000, .inl (upd sf h (nI w)))) j = S8 j := fun j hj => u_ne hj
              have x9 : va_up S8 69 (.inl (0, 2000, .inl (upd sf h (nI w)))) 69 = .inl (0, 2000, .inl (upd sf h (nI w))) := u_eq
              generalize va_up S8 69 (.inl (0, 2000, .inl (upd sf h (nI w)))) = S9 at e9 x9 ⊢
              have k46 := (e9 46 (by decide)).trans k46
              have k65 := (e9 65 (by decide)).trans k65
              have x6 := (e9 66 (by decide)).trans x6
              have x7 := (e9 67 (by decide)).trans x7
              have k68 := (e9 68 (by decide)).trans k68
              have x8 := (e9 70 (by decide)).trans x8
              have k71 := (e9 71 (by decide)).trans k71
              have k59' := (e9 59 (by decide)).trans k59'
              have fr : ∀ j, j < 65 ∨ 72 ≤ j → S9 j = S j := fun j hj => (e9 j (by omega)).trans (fr j hj)
              refine q_icc3 rfl rfl rfl rfl (z := nI (h + 1)) (nI_add h 1) ?_
              refine q_aload_n rfl rfl rfl ?_
              refine q_getf rfl rfl (by omega) k46 f28 ?_
              refine q_iload rfl rfl rfl ?_
              refine q_iconst rfl rfl ?_
              refine q_zast rfl rfl (by omega) k71 (q_inN (by omega) (by decide)) ?_
              rw [nI_clamp (by omega)]
              have e10 : ∀ j, j ≠ 71 → va_up S9 71 (.inl (2, 2000, .inl (upd nf w (vp_nar .boolean 1)))) j = S9 j := fun j hj => u_ne hj
              have x10 : va_up S9 71 (.inl (2, 2000, .inl (upd nf w (vp_nar .boolean 1)))) 71 = .inl (2, 2000, .inl (upd nf w (vp_nar .boolean 1))) := u_eq
              generalize va_up S9 71 (.inl (2, 2000, .inl (upd nf w (vp_nar .boolean 1)))) = S10 at e10 x10 ⊢
              have k46 := (e10 46 (by decide)).trans k46
              have k65 := (e10 65 (by decide)).trans k65
              have x6 := (e10 66 (by decide)).trans x6
              have x7 := (e10 67 (by decide)).trans x7
              have k68 := (e10 68 (by decide)).trans k68
              have x9 := (e10 69 (by decide)).trans x9
              have x8 := (e10 70 (by decide)).trans x8
              have k59' := (e10 59 (by decide)).trans k59'
              have fr : ∀ j, j < 65 ∨ 72 ≤ j → S10 j = S j := fun j hj => (e10 j (by omega)).trans (fr j hj)
              refine q_aload_n rfl rfl rfl ?_
              refine q_getf rfl rfl (by omega) k46 f25 ?_
              refine q_iload rfl rfl rfl ?_
              refine q_iload rfl rfl rfl ?_
              refine q_iast rfl rfl (by omega) k68 (q_inN (by omega) (by decide)) ?_
              rw [nI_clamp (by omega)]
              have e11 : ∀ j, j ≠ 68 → va_up S10 68 (.inl (0, 2000, .inl (upd pf ((d + 1)) (nI w)))) j = S10 j := fun j hj => u_ne hj
              have x11 : va_up S10 68 (.inl (0, 2000, .inl (upd pf ((d + 1)) (nI w)))) 68 = .inl (0, 2000, .inl (upd pf ((d + 1)) (nI w))) := u_eq
              generalize va_up S10 68 (.inl (0, 2000, .inl (upd pf ((d + 1)) (nI w)))) = S11 at e11 x11 ⊢
              have k46 := (e11 46 (by decide)).trans k46
              have k65 := (e11 65 (by decide)).trans k65
              have x6 := (e11 66 (by decide)).trans x6
              have x7 := (e11 67 (by decide)).trans x7
              have x9 := (e11 69 (by decide)).trans x9
              have x8 := (e11 70 (by decide)).trans x8
              have x10 := (e11 71 (by decide)).trans x10
              have k59' := (e11 59 (by decide)).trans k59'
              have fr : ∀ j, j < 65 ∨ 72 ≤ j → S11 j = S j := fun j hj => (e11 j (by omega)).trans (fr j hj)
              refine q_icc4 rfl rfl rfl rfl (z := nI (d + 1 + 1)) (nI_add (d + 1) 1) ?_
              refine q_goto rfl ?_
              refine nxt (q + 1) (h + 1) (d + 1 + 1) _ _ _ _ _ _ _ _ _ _ _ _ rfl rfl h7 (tk_new hX.2 hT ht3 hw hx e0) ⟨_, _, _, _, _, _, _, k46, k65, x6, x7, x11, x9, x8, x10, agz_up hc rfl (fun j _ a => a), agz_up hl rfl a_cm, agm_up (agm_up ht rfl (fun j _ a => a)) rfl a_cm, agm_up hp rfl (fun j e a => by omega), agm_up hs rfl (fun j e a => by omega), agc_up hn2 (by decide) a_cm, ?_⟩ fr
              rw [un_id (hI.2.2.2.2.2.2 w e0).symm]
              exact hb
            · refine q_ifge rfl rfl (fun _ => ?_) (fun c => absurd (zc.mpr e0) c)
              refine q_aload_n rfl rfl rfl ?_
              refine q_getf rfl rfl (by omega) k46 f28 ?_
              refine q_iload rfl rfl rfl ?_
              refine q_zald rfl rfl (by omega) k71 (q_inN (by omega) (by decide)) (q_tn (z := b2 (on w)) (by rw [nI_clamp (by omega)]; exact hn2 _ e0) ?_)
              cases eo : on w
              · refine q_ifeq rfl rfl (fun _ => ?_) (fun c => absurd rfl c)
                exact nxt q h (d + 1) _ _ _ _ _ _ _ _ _ _ _ _ rfl rfl h7 (tk_old hX.2 hT ht3 hw hx e e0 eo) H1 fr
              · refine q_ifeq rfl rfl (fun c => absurd c (by decide)) (fun _ => ?_)
                refine q_aload_n rfl rfl rfl ?_
                refine q_getf rfl rfl (by omega) k46 f23 ?_
                refine q_iload rfl rfl rfl ?_
                refine q_iald rfl rfl (by omega) k66 (q_inN (by omega) (by decide)) (q_tn (z := z1 (cm w)) (by rw [nI_clamp (by omega)]; exact hc w hw) ?_)
                refine q_aload_n rfl rfl rfl ?_
                refine q_getf rfl rfl (by omega) k46 f24 ?_
                refine q_iload rfl rfl rfl ?_
                refine q_iald rfl rfl (by omega) k67 (q_inN (by omega) (by decide)) (q_tn (z := z1 (lw (pt d))) (by rw [nI_clamp (by omega)]; exact hl _ sd) ?_)
                have zl := z1_lt (a := cm w) (b := lw (pt d)) e0 (by omega) (cmb _) (by have := cmb (pt d); omega)
                have tl := tk_low hX.2 hT ht3 hw hx e e0 eo
                by_cases c : lw (pt d) ≤ cm w
                · refine q_icge rfl rfl (fun _ => ?_) (fun c9 => absurd (zl.mpr c) c9)
                  rw [un_id (Nat.min_eq_left c)] at tl
                  exact nxt q h (d + 1) _ _ _ _ _ _ _ _ _ _ _ _ rfl rfl h7 tl H1 fr
                · refine q_icge rfl rfl (fun c9 => absurd (zl.mp c9) c) (fun _ => ?_)
                  rw [Nat.min_eq_right (by omega)] at tl
                  refine q_aload_n rfl rfl rfl ?_
                  refine q_getf rfl rfl (by omega) k46 f24 ?_
                  refine q_iload rfl rfl rfl ?_
                  refine q_aload_n rfl rfl rfl ?_
                  refine q_getf rfl rfl (by omega) k46 f23 ?_
                  refine q_iload rfl rfl rfl ?_
                  refine q_iald rfl rfl (by omega) k66 (q_inN (by omega) (by decide)) (q_tn (z := z1 (cm w)) (by rw [nI_clamp (by omega)]; exact hc w hw) ?_)
                  refine q_iast rfl rfl (by omega) k67 (q_inN (by omega) (by decide)) ?_
                  rw [nI_clamp (by omega)]
                  have e12 : ∀ j, j ≠ 67 → va_up S4 67 (.inl (0, 2000, .inl (upd lf ((pt d)) (z1 (cm w))))) j = S4 j := fun j hj => u_ne hj
                  have x12 : va_up S4 67 (.inl (0, 2000, .inl (upd lf ((pt d)) (z1 (cm w))))) 67 = .inl (0, 2000, .inl (upd lf ((pt d)) (z1 (cm w)))) := u_eq
                  generalize va_up S4 67 (.inl (0, 2000, .inl (upd lf ((pt d)) (z1 (cm w))))) = S12 at e12 x12 ⊢
                  have k46 := (e12 46 (by decide)).trans k46
                  have k65 := (e12 65 (by decide)).trans k65
                  have k66 := (e12 66 (by decide)).trans k66
                  have k68 := (e12 68 (by decide)).trans k68
                  have k69 := (e12 69 (by decide)).trans k69
                  have x4 := (e12 70 (by decide)).trans x4
                  have k71 := (e12 71 (by decide)).trans k71
                  have k59' := (e12 59 (by decide)).trans k59'
                  have fr : ∀ j, j < 65 ∨ 72 ≤ j → S12 j = S j := fun j hj => (e12 j (by omega)).trans (fr j hj)
                  refine q_goto rfl ?_
                  exact nxt q h (d + 1) _ _ _ _ _ _ _ _ _ _ _ _ rfl rfl h7 tl ⟨_, _, _, _, _, _, _, k46, k65, k66, x12, k68, k69, x4, k71, hc, agz_up hl rfl (fun j _ a => a), agm_up ht rfl (fun j _ a => a), hp, hs, hn2, hb⟩ fr
end ND
