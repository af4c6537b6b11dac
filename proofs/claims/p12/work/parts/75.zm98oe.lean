/-! count, nth: class and reference -/
section OE
variable {θ : Th} {P : PG} {pic : Nat} {S S' : Nat → pm_E} {n k i w N : Nat} {X : XT} {L : Nat} {xs : Nat → Int32} {x y : Int32} {A : Nat → Prop}
/-- a follower is -1 just where the hand may not step -/
def XM9 (P : PG) (pic : Nat) (X : XT) (q : Nat) : Prop := ∀ r, r < q → (xL X r = -1 ↔ ¬ (r % 3 < pH P ∧ mayP P pic (xS X (r / 3)) (r % 3)))
theorem nI_nm {j : Nat} (hj : j < 2000) : nI j ≠ -1 := fun e => by
  have h9 := congrArg Int32.toInt e
  rw [nI_toInt (by omega)] at h9
  have h8 : (-1 : Int32).toInt = -1 := rfl
  omega
theorem xm9_up {xt : Nat} {X' : XT} (ho : XM9 P pic X (3 * i + xt)) (hx : xt < 3) (hi : i < xN X) (hN : xN X ≤ 2000) (eS : ∀ j, j < xN X → xS X' j = xS X j) (eL : ∀ r, r ≠ 3 * i + xt → xL X' r = xL X r) (h : xL X' (3 * i + xt) = -1 ↔ ¬ (xt < pH P ∧ mayP P pic (xS X i) xt)) : XM9 P pic X' (3 * i + xt + 1) := fun r hr => by
  by_cases e : r = 3 * i + xt
  · rw [e, show (3 * i + xt) % 3 = xt by omega, show (3 * i + xt) / 3 = i by omega, eS i hi]
    exact h
  · rw [eL r e, eS _ (by omega)]
    exact ho r (by omega)
theorem xm9_st {xt : Nat} (h : WX P pic X) (hi : i < xN X) (hx : xt < 3) (ho : XM9 P pic X (3 * i + xt)) (hq : xP (xStep P pic X i xt) = false) : XM9 P pic (xStep P pic X i xt) (3 * i + xt + 1) := by
  have hp := xP_bk hq
  have h2 := h.2.1
  by_cases hm : xt < pH P ∧ mayP P pic (xS X i) xt
  rotate_left
  · rw [xS_n hp hm]
    exact xm9_up ho hx hi h2 (fun _ _ => rfl) (fun r e => if_neg e) ⟨fun _ => hm, fun _ => if_pos rfl⟩
  rw [xS_y hp hm] at hq ⊢
  by_cases hj : ∃ j, j < xN X ∧ xS X j = nxD P pic (xS X i) xt
  · obtain ⟨j, h3, h4⟩ := hj
    rw [xP_o h.2.2.2 h3 h4]
    refine xm9_up ho hx hi h2 (fun _ _ => rfl) (fun r e => if_neg e) ⟨fun e => absurd ((if_pos rfl).symm.trans e) (nI_nm (j := j) (by omega)), fun e => absurd hm e⟩
  · have hn : ∀ j, j < xN X → xS X j ≠ nxD P pic (xS X i) xt := fun j h1 h2 => hj ⟨j, h1, h2⟩
    by_cases hN : xN X < 2000
    · rw [xP_n hn hN]
      refine xm9_up ho hx hi h2 (fun j hj => if_neg (by omega)) (fun r e => if_neg e) ⟨fun e => absurd ((if_pos rfl).symm.trans e) (nI_nm hN), fun e => absurd hm e⟩
    · have h2000 : xN X = 2000 := by omega
      rw [xP_f hn h2000] at hq
      cases hq
theorem xm9_all (hW : WFP P) : ∀ k, xP (xAll P pic k) = false → XM9 P pic (xAll P pic k) (3 * min k (xN (xAll P pic k))) := by
  intro k
  induction k with
  | zero =>
    intro _ r hr
    omega
  | succ k ih =>
    unfold xAll
    split
    · rename_i h
      intro hp
      rcases h with h | h
      · exact fun r hr => ih hp r (by omega)
      · rw [hp] at h
        cases h
    · rename_i h
      intro hp
      have hk : k < xN (xAll P pic k) := Classical.byContradiction (fun h9 => h (Or.inl (by omega)))
      have w0 := (wx_all (pic := pic) hW k).1
      unfold xRow at hp ⊢
      have a0 := wx_st (x := 0) hW w0 hk
      have k1 : k < xN (xStep P pic (xAll P pic k) k 0) := Nat.lt_of_lt_of_le hk a0.2.1
      have a1 := wx_st (x := 1) hW a0.1 k1
      have k2 : k < xN (xStep P pic (xStep P pic (xAll P pic k) k 0) k 1) := Nat.lt_of_lt_of_le k1 a1.2.1
      have p1 := xP_bk hp
      have p0 := xP_bk p1
      have pp := xP_bk p0
      have b0 := xm9_st (xt := 0) w0 hk (by decide) (fun r hr => ih pp r (by omega)) p0
      have b1 := xm9_st (xt := 1) a0.1 k1 (by decide) b0 p1
      have b2 := xm9_st (xt := 2) a1.1 k2 (by decide) b1 hp
      exact fun r hr => b2 r (by omega)
theorem xe_m9 (hW : WFP P) (hp : xP (xE P 0) = false) : XM9 P 0 (xE P 0) (3 * xN (xE P 0)) := by
  have h1 := (wx_all (pic := 0) hW 2000).1.2.1
  have h3 := xm9_all (pic := 0) hW 2000
  rw [xE_d] at hp ⊢
  exact fun r hr => h3 hp r (by omega)
/-- a state is an end, stuck, comes back -/
def soP (P : PG) (w i : Nat) : Prop := (w = 0 ∧ srt P 0 (xS (xE P 0) i) = 1) ∨ (w = 1 ∧ srt P 0 (xS (xE P 0) i) = 2) ∨ (w = 2 ∧ bkE (xE P 0) i = true)
noncomputable def cntN (A : Nat → Prop) : Nat → Nat
  | 0 => 0
  | k + 1 => cntN A k + @ite Nat (A k) (Classical.propDecidable _) 1 0
theorem cn_y (h : A k) : cntN A (k + 1) = cntN A k + 1 := by
  show cntN A k + _ = _
  rw [if_pos h]
theorem cn_n (h : ¬ A k) : cntN A (k + 1) = cntN A k := by
  show cntN A k + _ = _
  rw [if_neg h, Nat.add_zero]
theorem cn_le : cntN A k ≤ k := by
  induction k with
  | zero => exact Nat.le_refl 0
  | succ k ih =>
    by_cases h : A k
    · rw [cn_y h]
      omega
    · rw [cn_n h]
      omega
theorem cn_mono {a b : Nat} (h : a ≤ b) : cntN A a ≤ cntN A b := by
  induction b with
  | zero =>
    have : a = 0 := by omega
    rw [this]
    exact Nat.le_refl _
  | succ b ih =>
    by_cases e : a = b + 1
    · rw [e]
      exact Nat.le_refl _
    · have h1 := ih (by omega)
      by_cases c : A b
      · rw [cn_y c]
        omega
      · rw [cn_n c]
        exact h1
/-- the i-th of them -/
def nthQ (A : Nat → Prop) (N i : Nat) (r : Int32) : Prop := (∃ j, j < N ∧ A j ∧ cntN A j = i ∧ r = nI j) ∨ (cntN A N ≤ i ∧ r = -3)
theorem nth_fn {r r' : Int32} (h : nthQ A N i r) (h' : nthQ A N i r') : r = r' := by
  rcases h with ⟨j, h1, h2, h3, rfl⟩ | ⟨h1, rfl⟩ <;> rcases h' with ⟨j', g1, g2, g3, rfl⟩ | ⟨g1, rfl⟩
  · have e : j = j' := by
      rcases Nat.lt_trichotomy j j' with c | c | c
      · have a := cn_mono (A := A) (a := j + 1) (b := j') c
        rw [cn_y h2] at a
        omega
      · exact c
      · have a := cn_mono (A := A) (a := j' + 1) (b := j) c
        rw [cn_y g2] at a
        omega
    rw [e]
  · have a := cn_mono (A := A) (a := j + 1) (b := N) h1
    rw [cn_y h2] at a
    omega
  · have a := cn_mono (A := A) (a := j' + 1) (b := N) g1
    rw [cn_y g2] at a
    omega
  · rfl
def coQ (P : PG) (x r : Int32) : Prop := ((¬ ∃ w, w < 3 ∧ x = nI w) ∧ r = -1) ∨ ∃ w, w < 3 ∧ x = nI w ∧ ((xP (xE P 0) = true ∧ r = -5) ∨ (xP (xE P 0) = false ∧ r = nI (cntN (soP P w) (xN (xE P 0)))))
def ntQ (P : PG) (x y r : Int32) : Prop := ((¬ ∃ w i, w < 3 ∧ x = nI w ∧ i < 2 ^ 31 ∧ y = nI i) ∧ r = -1) ∨ ∃ w i, w < 3 ∧ x = nI w ∧ i < 2 ^ 31 ∧ y = nI i ∧ ((xP (xE P 0) = true ∧ r = -5) ∨ (xP (xE P 0) = false ∧ nthQ (soP P w) (xN (xE P 0)) i r))
theorem co_fn (r r' : Int32) (h : coQ P x r) (h' : coQ P x r') : r = r' := by
  rcases h with ⟨a, rfl⟩ | ⟨w, a1, a2, a3⟩ <;> rcases h' with ⟨b, rfl⟩ | ⟨v, b1, b2, b3⟩
  · rfl
  · exact absurd ⟨v, b1, b2⟩ a
  · exact absurd ⟨w, a1, a2⟩ b
  · have e := nI_inj (by omega) (by omega) (a2.symm.trans b2)
    subst e
    rcases a3 with ⟨c, rfl⟩ | ⟨c, rfl⟩ <;> rcases b3 with ⟨d, rfl⟩ | ⟨d, rfl⟩
    · rfl
    · rw [c] at d
      cases d
    · rw [c] at d
      cases d
    · rfl
theorem nt_fn (r r' : Int32) (h : ntQ P x y r) (h' : ntQ P x y r') : r = r' := by
  rcases h with ⟨a, rfl⟩ | ⟨w, i, a1, a2, i1, i2, a3⟩ <;> rcases h' with ⟨b, rfl⟩ | ⟨v, j, b1, b2, j1, j2, b3⟩
  · rfl
  · exact absurd ⟨v, j, b1, b2, j1, j2⟩ a
  · exact absurd ⟨w, i, a1, a2, i1, i2⟩ b
  · have e := nI_inj (by omega) (by omega) (a2.symm.trans b2)
    have e2 := nI_inj i1 j1 (i2.symm.trans j2)
    subst e e2
    rcases a3 with ⟨c, rfl⟩ | ⟨c, c2⟩ <;> rcases b3 with ⟨d, rfl⟩ | ⟨d, d2⟩
    · rfl
    · rw [c] at d
      cases d
    · rw [c] at d
      cases d
    · exact nth_fn c2 d2
theorem in3 (h : 0 ≤ x ∧ x < 3) : ∃ w, w < 3 ∧ x = nI w := by
  obtain ⟨p, hp, e⟩ := in_b (b := 2) rfl (by decide) h
  exact ⟨p, by omega, e⟩
theorem n3 (h : ∃ w, w < 3 ∧ x = nI w) : 0 ≤ x ∧ x < 3 := by
  obtain ⟨w, hw, rfl⟩ := h
  exact n_in (b := 3) rfl (by decide) hw
theorem ge0 (h : 0 ≤ y) : ∃ i, i < 2 ^ 31 ∧ y = nI i := by
  have h2 := (fullI y).2
  rw [Int32.le_iff_toInt_le] at h
  have e0 : (0 : Int32).toInt = 0 := rfl
  have h3 : y.toInt ≤ 2147483647 := h2
  exact ⟨y.toInt.toNat, by omega, nI_ofI (k := y.toInt.toNat) (by omega) (by omega)⟩
theorem c_sort {u8 : List Value} {so : Nat → Int32} (hn : 82 ≤ n) (k8 : S 8 = .inr (5, u8)) (u0 : u8[0]? = some (.int (nI N))) (u7 : u8[7]? = some (.ref 12)) (k12 : S 12 = .inl (0, 2000, .inl so)) (hN : N ≤ 2000) (hi : i < N) : PM (j_SL L) (j_SV xs) j_EX mm_X7_sortOf [.ref 8, .int (nI i)] S n (fun r S' n' => S = S' ∧ n = n' ∧ r = some (.int (so i))) := by
  change PQ (j_SL L) (j_SV xs) j_EX mm_X7_sortOf 0 [.ref 8, .int (nI i)] [] S n 0 0 _
  refine q_iload_n rfl rfl rfl ?_
  refine q_aload_n rfl rfl rfl ?_
  refine q_getf rfl rfl (by omega) k8 u0 ?_
  refine q_cS rfl rfl (Or.inr rfl) rfl rfl trivial rfl rfl rfl rfl rfl (c_wi) ?_
  rintro r _ _ ⟨rfl, rfl, hr⟩
  rcases hr with ⟨c, rfl⟩ | ⟨c, rfl⟩
  · exact (c_out c ⟨nI_p0 (by omega), (m_lt (b := N) (by omega) (by omega)).mpr hi⟩).elim
  show PQ (j_SL L) (j_SV xs) j_EX mm_X7_sortOf 8 [.ref 8, .int (nI i)] [.int 1] S n 0 0 _
  refine q_ifeq rfl rfl (fun c => absurd c (by decide)) (fun _ => ?_)
  refine q_aload_n rfl rfl rfl ?_
  refine q_getf rfl rfl (by omega) k8 u7 ?_
  refine q_iload_n rfl rfl rfl ?_
  refine q_iald rfl rfl (by omega) k12 (q_inN (by omega) (by decide)) (q_tn (z := (so) i) (by rw [nI_clamp (by omega)]) ?_)
  refine q_goto rfl ?_
  exact q_iret rfl rfl trivial ⟨rfl, rfl, rfl⟩
/-- what count and nth stand on, in the class -/
def CQ (P : PG) (S : Nat → pm_E) : Prop := CSo P S ∧ L0 S ∧ JLp P S ∧ ∃ fs : List Value, S 0 = .inr (9, fs) ∧ fs[4]? = some (.ref 24)
theorem cso_fo (h : CSo P S) : FO (xE P 0) S := by
  obtain ⟨ts, os, fo, og, mv, so, fw, t0, u1, u2, t8, o0, o4, o5, o6, o7, o8, t9, t10, t11, t12, t13, hfo, hog, hso, hfw⟩ := h
  exact ⟨os, fw, t8, o0, o8, t13, hfw⟩
theorem cso_fr (h : CSo P S) (e : frL S S') (p0 : ∀ fs : List Value, S 0 = .inr (9, fs) → ∃ fs' : List Value, S' 0 = .inr (9, fs') ∧ fs'[1]? = fs[1]? ∧ fs'[2]? = fs[2]?) : CSo P S' := by
  obtain ⟨ts, os, fo, og, mv, so, fw, t0, u1, u2, t8, o0, o4, o5, o6, o7, o8, t9, t10, t11, t12, t13, hfo, hog, hso, hfw⟩ := h
  obtain ⟨ts', t0', e1, e2⟩ := p0 ts t0
  exact ⟨ts', os, fo, og, mv, so, fw, t0', e1.trans u1, e2.trans u2, (e 8 (by omega)).trans t8, o0, o4, o5, o6, o7, o8, (e 9 (by omega)).trans t9, (e 10 (by omega)).trans t10, (e 11 (by omega)).trans t11, (e 12 (by omega)).trans t12, (e 13 (by omega)).trans t13, hfo, hog, hso, hfw⟩
theorem l0_fr (h : L0 S) (e : ∀ j, 24 ≤ j → j < 32 → S' j = S j) : L0 S' := by
  obtain ⟨os, cf, lf, tf, pf, sf, nf, bf, a, b, c, h⟩ := h
  rw [← e 24 (by decide) (by decide), ← e 25 (by decide) (by decide), ← e 26 (by decide) (by decide), ← e 27 (by decide) (by decide), ← e 28 (by decide) (by decide), ← e 29 (by decide) (by decide), ← e 30 (by decide) (by decide), ← e 31 (by decide) (by decide)] at h
  exact ⟨os, cf, lf, tf, pf, sf, nf, bf, a, b, c, h⟩
set_option maxHeartbeats 4000000 in
theorem c_iso (hW : WFP P) (hp1 : xP (xE P 0) = false) (hn : 82 ≤ n) (hw : w < 3) (hi : i < xN (xE P 0)) (H : CQ P S) : PM (j_SL L) (j_SV xs) j_EX mm_X11_isOfSort [.ref 0, .int (nI i), .int (nI w)] S n (fun r S' n' => n = n' ∧ CQ P S' ∧ ((soP P w i ∧ r = some (.int 1)) ∨ (¬ soP P w i ∧ r = some (.int 0)))) := by
  have hX := (xe_wx (k := 0) hW).1
  have hN := hX.2.1
  have H9 := H
  obtain ⟨hC, hL0, hJ, fs, k0, f4⟩ := H
  have hC9 := hC
  obtain ⟨ts, os, fo, og, mv, so, fw, t0, u1, u2, t8, o0, o4, o5, o6, o7, o8, t9, t10, t11, t12, t13, hfo, hog, hso, hfw⟩ := hC
  have ef := (Prod.mk.inj (Sum.inr.inj (t0.symm.trans k0))).2
  subst ef
  change PQ (j_SL L) (j_SV xs) j_EX mm_X11_isOfSort 0 [.ref 0, .int (nI i), .int (nI w)] [] S n 0 0 _
  refine q_iload_n rfl rfl rfl ?_
  refine q_iconst rfl rfl ?_
  by_cases e2 : w = 2
  rotate_left
  · refine q_iceq rfl rfl (fun c => absurd ((m_eq (b := 2) (by omega) (by decide)).mp c) e2) (fun _ => ?_)
    refine q_aload_n rfl rfl rfl ?_
    refine q_getf rfl rfl (by omega) k0 u2 ?_
    refine q_iload_n rfl rfl rfl ?_
    refine q_cV rfl rfl (Or.inl rfl) rfl rfl rfl rfl (by omega) t8 trivial rfl rfl rfl rfl rfl (c_sort hn t8 o0 o7 t12 hN hi) ?_
    rintro r _ _ ⟨rfl, rfl, rfl⟩
    show PQ (j_SL L) (j_SV xs) j_EX mm_X11_isOfSort 13 [.ref 0, .int (nI i), .int (nI w)] [.int (so i)] S n 0 0 _
    rw [hso i hi]
    have hs2 : srt P 0 (xS (xE P 0) i) ≤ 2 := by
      unfold srt
      split
      · omega
      · split <;> omega
    refine q_iload_n rfl rfl rfl ?_
    have fin : ∀ v : Nat, v = 1 ∨ v = 2 → (soP P w i ↔ srt P 0 (xS (xE P 0) i) = v) → PQ (j_SL L) (j_SV xs) j_EX mm_X11_isOfSort 22 [.ref 0, .int (nI i), .int (nI w)] [.int (nI v), .int (nI (srt P 0 (xS (xE P 0) i)))] S n 0 0 (fun r S' n' => n = n' ∧ CQ P S' ∧ ((soP P w i ∧ r = some (.int 1)) ∨ (¬ soP P w i ∧ r = some (.int 0)))) := by
      intro v hv hs
      by_cases e : srt P 0 (xS (xE P 0) i) = v
      · refine q_cne rfl rfl (fun c => absurd (by rw [e]) c) (fun _ => ?_)
        refine q_iconst rfl rfl ?_
        refine q_goto rfl ?_
        exact q_iret rfl rfl rfl ⟨rfl, H9, Or.inl ⟨hs.mpr e, rfl⟩⟩
      · refine q_cne rfl rfl (fun _ => ?_) (fun c => absurd (fun c9 => e ((m_eq (by omega) (by omega)).mp c9)) c)
        refine q_iconst rfl rfl ?_
        exact q_iret rfl rfl rfl ⟨rfl, H9, Or.inr ⟨fun c => e (hs.mp c), rfl⟩⟩
    by_cases e0 : w = 0
    · subst e0
      refine q_fne rfl rfl (fun c => absurd rfl c) (fun _ => ?_)
      refine q_iconst rfl rfl ?_
      refine q_goto rfl ?_
      refine fin 1 (Or.inl rfl) ⟨fun h => ?_, fun h => Or.inl ⟨rfl, h⟩⟩
      rcases h with ⟨-, h⟩ | ⟨h, -⟩ | ⟨h, -⟩
      · exact h
      · omega
      · omega
    · refine q_fne rfl rfl (fun _ => ?_) (fun c => absurd (fun c9 => e0 ((m_eq (b := 0) (by omega) (by decide)).mp c9)) c)
      refine q_iconst rfl rfl ?_
      have e1 : w = 1 := by omega
      refine fin 2 (Or.inr rfl) ⟨fun h => ?_, fun h => Or.inr (Or.inl ⟨e1, h⟩)⟩
      rcases h with ⟨h, -⟩ | ⟨-, h⟩ | ⟨h, -⟩
      · omega
      · exact h
      · omega
  subst e2
  refine q_iceq rfl rfl (fun _ => ?_) (fun c => absurd rfl c)
  have sob : soP P 2 i ↔ bkE (xE P 0) i = true := ⟨fun h => by
    rcases h with ⟨h, -⟩ | ⟨h, -⟩ | ⟨-, h⟩
    · omega
    · omega
    · exact h, fun h => Or.inr (Or.inr ⟨rfl, h⟩)⟩
  have tail : ∀ T : Nat → pm_E, CQ P T → BK (xE P 0) T → PQ (j_SL L) (j_SV xs) j_EX mm_X11_isOfSort 54 [.ref 0, .int (nI i), .int (nI 2)] [] T n 0 0 (fun r S' n' => n = n' ∧ CQ P S' ∧ ((soP P 2 i ∧ r = some (.int 1)) ∨ (¬ soP P 2 i ∧ r = some (.int 0)))) := by
    intro T hT hB
    obtain ⟨-, -, -, gs, y0, g4⟩ := id hT
    have hB9 := hB
    obtain ⟨os9, bf9, z24, -⟩ := hB9
    refine q_aload_n rfl rfl rfl ?_
    refine q_getf rfl rfl (by omega) y0 g4 ?_
    refine q_iload_n rfl rfl rfl ?_
    refine q_cV rfl rfl (Or.inl rfl) rfl rfl rfl rfl (by omega) z24 trivial rfl rfl rfl rfl rfl (c_back hn hB hN hi) ?_
    rintro r _ _ ⟨rfl, rfl, rfl⟩
    show PQ (j_SL L) (j_SV xs) j_EX mm_X11_isOfSort 62 [.ref 0, .int (nI i), .int (nI 2)] [.int (b2 (bkE (xE P 0) i))] T n 0 0 _
    cases hb : bkE (xE P 0) i
    · exact q_iret rfl rfl rfl ⟨rfl, hT, Or.inr ⟨fun h => (by rw [sob, hb] at h; cases h), rfl⟩⟩
    · exact q_iret rfl rfl rfl ⟨rfl, hT, Or.inl ⟨sob.mpr hb, rfl⟩⟩
  obtain ⟨gs, x0, bf, j0, j10, j31, hj⟩ := hJ
  have ef := (Prod.mk.inj (Sum.inr.inj (k0.symm.trans j0))).2
  subst ef
  refine q_aload_n rfl rfl rfl ?_
  refine q_getf rfl rfl (by omega) k0 j10 ?_
  by_cases ex : x0 = 0
  rotate_left
  · refine q_fne rfl rfl (fun _ => ?_) (fun c => absurd ex c)
    obtain ⟨os9, cf, lf, tf, pf, sf, nf, bf2, a7, a8, a9, z24, z0, z1, z2, z3, z4, z5, z6, -⟩ := id hL0
    exact tail S H9 ⟨os9, bf, z24, z6, j31, (hj ex).2⟩
  refine q_fne rfl rfl (fun c => absurd ex c) (fun _ => ?_)
  obtain ⟨os9, cf, lf, tf, pf, sf, nf, bf2, a7, a8, a9, z24, zz⟩ := id hL0
  obtain ⟨hE, hR⟩ := xe_r9 hW hp1
  refine q_aload_n rfl rfl rfl ?_
  refine q_getf rfl rfl (by omega) k0 f4 ?_
  refine q_aload_n rfl rfl rfl ?_
  refine q_getf rfl rfl (by omega) k0 u2 ?_
  refine q_cV rfl rfl (Or.inl rfl) rfl rfl rfl rfl (by omega) z24 trivial rfl rfl rfl rfl rfl (c_find2 hn ⟨hX.1, hN⟩ hE hR (cso_fo hC9) hL0) ?_
  rintro r T _ ⟨rfl, rfl, eT, hB, hLT⟩
  show PQ (j_SL L) (j_SV xs) j_EX mm_X11_isOfSort 49 [.ref 0, .int (nI i), .int (nI 2)] [] T n 0 0 _
  have y0 := (eT 0 (by omega)).trans k0
  refine q_aload_n rfl rfl rfl ?_
  refine q_iconst rfl rfl ?_
  refine q_putf rfl rfl (by omega) y0 (List.getElem?_eq_some_iff.mp j10).1 rfl rfl ?_
  have eV : ∀ j, j ≠ 0 → va_up T 0 (.inr (9, ts.set 10 (.int 1))) j = T j := fun j hj => u_ne hj
  have v0 : va_up T 0 (.inr (9, ts.set 10 (.int 1))) 0 = .inr (9, ts.set 10 (.int 1)) := u_eq
  generalize va_up T 0 (.inr (9, ts.set 10 (.int 1))) = V at eV v0 ⊢
  obtain ⟨os5, bf5, w24, w6, w31, hw5⟩ := id hB
  have hBV : BK (xE P 0) V := ⟨os5, bf5, (eV 24 (by decide)).trans w24, w6, (eV 31 (by decide)).trans w31, hw5⟩
  refine tail V ⟨?_, ?_, ⟨_, 1, bf5, v0, os_at j10, (eV 31 (by decide)).trans w31, fun _ => ⟨hp1, hw5⟩⟩, _, v0, (os_ne (by decide)).trans f4⟩ hBV
  · obtain ⟨ts9, os, fo, og, mv, so, fw, t0, u1, u2, t8, o0, o4, o5, o6, o7, o8, t9, t10, t11, t12, t13, hfo, hog, hso, hfw⟩ := hC9
    have ef := (Prod.mk.inj (Sum.inr.inj (t0.symm.trans k0))).2
    subst ef
    have e : ∀ j, j ≠ 0 → j < 24 → V j = S j := fun j h1 h2 => (eV j h1).trans (eT j (by omega))
    exact ⟨_, os, fo, og, mv, so, fw, v0, (os_ne (by decide)).trans u1, (os_ne (by decide)).trans u2, (e 8 (by decide) (by decide)).trans t8, o0, o4, o5, o6, o7, o8, (e 9 (by decide) (by decide)).trans t9, (e 10 (by decide) (by decide)).trans t10, (e 11 (by decide) (by decide)).trans t11, (e 12 (by decide) (by decide)).trans t12, (e 13 (by decide) (by decide)).trans t13, hfo, hog, hso, hfw⟩
  · exact l0_fr hLT (fun j h1 h2 => eV j (by omega))
set_option maxHeartbeats 4000000 in
theorem c_count (hG : GS θ S n) (hZ : JZ P S) (hJ : JLp P S) : PM (j_SL L) (j_SV xs) j_EX mm_X11_count [.ref 0, .int x] S n (fun r S' n' => r = some (.int (epR (coQ P x))) ∧ JLp P S') := by
  have hn := gs_n hG
  obtain ⟨ts0, k0, hf⟩ := gs_obj hG (k := 0) rfl
  have f4 : ts0[4]? = some (.ref 24) := fo_ref (hf 4 _ rfl) rfl
  have hX := (xe_wx (k := 0) hZ.1).1
  have hN := hX.2.1
  change PQ (j_SL L) (j_SV xs) j_EX mm_X11_count 0 [.ref 0, .int x, pm_un, pm_un] [] S n 0 0 _
  refine q_iload_n rfl rfl rfl ?_
  refine q_iconst rfl rfl ?_
  refine q_cS rfl rfl (Or.inl rfl) rfl rfl trivial rfl rfl rfl rfl rfl (c_wi) ?_
  rintro r _ _ ⟨rfl, rfl, hr⟩
  rcases hr with ⟨q, rfl⟩ | ⟨q, rfl⟩
  · show PQ (j_SL L) (j_SV xs) j_EX mm_X11_count 5 [.ref 0, .int x, pm_un, pm_un] [.int 0] S n 0 0 _
    refine q_fne rfl rfl (fun c => absurd rfl c) (fun _ => ?_)
    refine q_iconst rfl rfl ?_
    exact q_iret rfl rfl trivial ⟨ep_r co_fn (Or.inl ⟨fun h => c_out q (n3 h), rfl⟩), hJ⟩
  show PQ (j_SL L) (j_SV xs) j_EX mm_X11_count 5 [.ref 0, .int x, pm_un, pm_un] [.int 1] S n 0 0 _
  refine q_fne rfl rfl (fun _ => ?_) (fun c => absurd (by decide) c)
  obtain ⟨w, hw, rfl⟩ := in3 q
  refine q_aload_n rfl rfl rfl ?_
  refine q_iconst rfl rfl ?_
  refine q_cV rfl rfl (Or.inl rfl) rfl rfl rfl rfl (by omega) k0 trivial rfl rfl rfl rfl rfl (c_sz3 hG hZ) ?_
  rintro r T _ ⟨rfl, rfl, hC, hF, hCS⟩
  show PQ (j_SL L) (j_SV xs) j_EX mm_X11_count 15 [.ref 0, .int (nI w), pm_un, pm_un] [.int (szR P 0)] T n 0 0 _
  have y0 := (hF 0 (by decide) (by omega) (by decide) (by decide)).trans k0
  have hJT : JLp P T := jlp_fr hJ (hF 0 (by decide) (by omega) (by decide) (by decide)) (hF 31 (by decide) (by omega) (by decide) (by decide))
  have hLT : L0 T := l0_fr (gs_L0 hG) (fun j h1 h2 => hF j (by omega) (by omega) (by omega) (by omega))
  refine q_bipush rfl rfl ?_
  cases hp1 : xP (xE P 0)
  rotate_left
  · rw [szR_t hp1]
    refine q_cne rfl rfl (fun c => absurd rfl c) (fun _ => ?_)
    refine q_bipush rfl rfl ?_
    exact q_iret rfl rfl trivial ⟨ep_r co_fn (Or.inr ⟨w, hw, rfl, Or.inl ⟨hp1, rfl⟩⟩), hJT⟩
  rw [szR_f hp1]
  refine q_cne rfl rfl (fun _ => ?_) (fun c => absurd (fun h => ?_) c)
  rotate_left
  · have e9 := congrArg Int32.toInt h
    rw [nI_toInt (by omega)] at e9
    have e5 : (-5 : Int32).toInt = -5 := rfl
    omega
  have hQ : CQ P T := ⟨hCS hp1, hLT, hJT, ts0, y0, f4⟩
  refine q_iconst rfl rfl ?_
  refine q_ist2n rfl rfl rfl rfl ?_
  refine q_iconst rfl rfl ?_
  refine q_ist3n rfl rfl rfl rfl ?_
  have loop : ∀ q s : Nat, s + q = xN (xE P 0) → ∀ T : Nat → pm_E, CQ P T → PQ (j_SL L) (j_SV xs) j_EX mm_X11_count 27 [.ref 0, .int (nI w), .int (nI (cntN (soP P w) s)), .int (nI s)] [] T n 0 0 (fun r S' n' => r = some (.int (epR (coQ P (nI w)))) ∧ JLp P S') := by
    intro q
    induction q with
    | zero =>
      intro s hs T hQ
      have e : s = xN (xE P 0) := by omega
      subst e
      obtain ⟨⟨ts, os, fo, og, mv, so, fw, t0, u1, u2, t8, o0, o4, o5, o6, o7, o8, t9, t10, t11, t12, t13, hfo, hog, hso, hfw⟩, hL, hJ9, gs9, g0, g4⟩ := id hQ
      refine q_iload_n rfl rfl rfl ?_
      refine q_aload_n rfl rfl rfl ?_
      refine q_getf rfl rfl (by omega) t0 u2 ?_
      refine q_getf rfl rfl (by omega) t8 o0 ?_
      refine q_icge rfl rfl (fun _ => ?_) (fun c => absurd (Int32.le_refl _) c)
      refine q_iload_n rfl rfl rfl ?_
      exact q_iret rfl rfl trivial ⟨ep_r co_fn (Or.inr ⟨w, hw, rfl, Or.inr ⟨hp1, rfl⟩⟩), hJ9⟩
    | succ q ih =>
      intro s hsq T hQ
      have hs : s < xN (xE P 0) := by omega
      obtain ⟨⟨ts, os, fo, og, mv, so, fw, t0, u1, u2, t8, o0, o4, o5, o6, o7, o8, t9, t10, t11, t12, t13, hfo, hog, hso, hfw⟩, hL, hJ9, gs9, g0, g4⟩ := id hQ
      refine q_iload_n rfl rfl rfl ?_
      refine q_aload_n rfl rfl rfl ?_
      refine q_getf rfl rfl (by omega) t0 u2 ?_
      refine q_getf rfl rfl (by omega) t8 o0 ?_
      refine q_icge rfl rfl (fun c => absurd c (nI_ge (a := s) (b := xN (xE P 0)) (by omega) (by omega))) (fun _ => ?_)
      refine q_aload_n rfl rfl rfl ?_
      refine q_iload_n rfl rfl rfl ?_
      refine q_iload_n rfl rfl rfl ?_
      refine q_cV rfl rfl (Or.inl rfl) rfl rfl rfl rfl (by omega) t0 trivial rfl rfl rfl rfl rfl (c_iso hZ.1 hp1 hn hw hs hQ) ?_
      rintro r V _ ⟨rfl, hV, hr⟩
      have nx : ∀ z : Nat, cntN (soP P w) (s + 1) = z → PQ (j_SL L) (j_SV xs) j_EX mm_X11_count 50 [.ref 0, .int (nI w), .int (nI z), .int (nI s)] [] V n 0 0 (fun r S' n' => r = some (.int (epR (coQ P (nI w)))) ∧ JLp P S') := by
        intro z hz
        refine q_icc3 rfl rfl rfl rfl (z := nI (s + 1)) (nI_add s 1) ?_
        refine q_goto rfl ?_
        rw [← hz]
        exact ih (s + 1) (by omega) V hV
      rcases hr with ⟨hA, rfl⟩ | ⟨hA, rfl⟩
      · show PQ (j_SL L) (j_SV xs) j_EX mm_X11_count 44 [.ref 0, .int (nI w), .int (nI (cntN (soP P w) s)), .int (nI s)] [.int 1] V n 0 0 _
        refine q_ifeq rfl rfl (fun c => absurd c (by decide)) (fun _ => ?_)
        refine q_icc2 rfl rfl rfl rfl (z := nI (cntN (soP P w) s + 1)) (nI_add _ 1) ?_
        exact nx _ (cn_y hA)
      · show PQ (j_SL L) (j_SV xs) j_EX mm_X11_count 44 [.ref 0, .int (nI w), .int (nI (cntN (soP P w) s)), .int (nI s)] [.int 0] V n 0 0 _
        refine q_ifeq rfl rfl (fun _ => ?_) (fun c => absurd rfl c)
        exact nx _ (cn_n hA)
  exact loop (xN (xE P 0)) 0 (by omega) T hQ
set_option maxHeartbeats 4000000 in
theorem c_nth (hG : GS θ S n) (hZ : JZ P S) (hJ : JLp P S) : PM (j_SL L) (j_SV xs) j_EX mm_X11_nth [.ref 0, .int x, .int y] S n (fun r S' n' => r = some (.int (epR (ntQ P x y))) ∧ JLp P S') := by
  have hn := gs_n hG
  obtain ⟨ts0, k0, hf⟩ := gs_obj hG (k := 0) rfl
  have f4 : ts0[4]? = some (.ref 24) := fo_ref (hf 4 _ rfl) rfl
  have hX := (xe_wx (k := 0) hZ.1).1
  have hN := hX.2.1
  change PQ (j_SL L) (j_SV xs) j_EX mm_X11_nth 0 [.ref 0, .int x, .int y, pm_un, pm_un] [] S n 0 0 _
  have bad : (¬ ∃ w i, w < 3 ∧ x = nI w ∧ i < 2 ^ 31 ∧ y = nI i) → PQ (j_SL L) (j_SV xs) j_EX mm_X11_nth 12 [.ref 0, .int x, .int y, pm_un, pm_un] [] S n 0 0 (fun r S' n' => r = some (.int (epR (ntQ P x y))) ∧ JLp P S') := by
    intro h
    refine q_iconst rfl rfl ?_
    exact q_iret rfl rfl trivial ⟨ep_r nt_fn (Or.inl ⟨h, rfl⟩), hJ⟩
  refine q_iload_n rfl rfl rfl ?_
  refine q_iconst rfl rfl ?_
  refine q_cS rfl rfl (Or.inl rfl) rfl rfl trivial rfl rfl rfl rfl rfl (c_wi) ?_
  rintro r _ _ ⟨rfl, rfl, hr⟩
  rcases hr with ⟨q, rfl⟩ | ⟨q, rfl⟩
  · show PQ (j_SL L) (j_SV xs) j_EX mm_X11_nth 5 [.ref 0, .int x, .int y, pm_un, pm_un] [.int 0] S n 0 0 _
    refine q_ifeq rfl rfl (fun _ => ?_) (fun c => absurd rfl c)
    exact bad (fun ⟨w, _, h1, h2, _⟩ => c_out q (n3 ⟨w, h1, h2⟩))
  show PQ (j_SL L) (j_SV xs) j_EX mm_X11_nth 5 [.ref 0, .int x, .int y, pm_un, pm_un] [.int 1] S n 0 0 _
  refine q_ifeq rfl rfl (fun c => absurd c (by decide)) (fun _ => ?_)
  refine q_iload_n rfl rfl rfl ?_
  by_cases hy : 0 ≤ y
  rotate_left
  · refine q_ifge rfl rfl (fun c => absurd c hy) (fun _ => bad (fun ⟨_, i, _, _, h3, h4⟩ => hy (by rw [h4]; exact nI_p0 h3)))
  refine q_ifge rfl rfl (fun _ => ?_) (fun c => absurd hy c)
  clear bad
  obtain ⟨w, hw, rfl⟩ := in3 q
  obtain ⟨i, hi, rfl⟩ := ge0 hy
  refine q_aload_n rfl rfl rfl ?_
  refine q_iconst rfl rfl ?_
  refine q_cV rfl rfl (Or.inl rfl) rfl rfl rfl rfl (by omega) k0 trivial rfl rfl rfl rfl rfl (c_sz3 hG hZ) ?_
  rintro r T _ ⟨rfl, rfl, hC, hF, hCS⟩
  show PQ (j_SL L) (j_SV xs) j_EX mm_X11_nth 19 [.ref 0, .int (nI w), .int (nI i), pm_un, pm_un] [.int (szR P 0)] T n 0 0 _
  have y0 := (hF 0 (by decide) (by omega) (by decide) (by decide)).trans k0
  have hJT : JLp P T := jlp_fr hJ (hF 0 (by decide) (by omega) (by decide) (by decide)) (hF 31 (by decide) (by omega) (by decide) (by decide))
  have hLT : L0 T := l0_fr (gs_L0 hG) (fun j h1 h2 => hF j (by omega) (by omega) (by omega) (by omega))
  refine q_bipush rfl rfl ?_
  cases hp1 : xP (xE P 0)
  rotate_left
  · rw [szR_t hp1]
    refine q_cne rfl rfl (fun c => absurd rfl c) (fun _ => ?_)
    refine q_bipush rfl rfl ?_
    exact q_iret rfl rfl trivial ⟨ep_r nt_fn (Or.inr ⟨w, i, hw, rfl, hi, rfl, Or.inl ⟨hp1, rfl⟩⟩), hJT⟩
  rw [szR_f hp1]
  refine q_cne rfl rfl (fun _ => ?_) (fun c => absurd (fun h => ?_) c)
  rotate_left
  · have e9 := congrArg Int32.toInt h
    rw [nI_toInt (by omega)] at e9
    have e5 : (-5 : Int32).toInt = -5 := rfl
    omega
  have hQ : CQ P T := ⟨hCS hp1, hLT, hJT, ts0, y0, f4⟩
  refine q_iload_n rfl rfl rfl ?_
  refine q_ist3n rfl rfl rfl rfl ?_
  refine q_iconst rfl rfl ?_
  refine q_ist4 rfl rfl rfl rfl ?_
  have loop : ∀ q s l : Nat, s + q = xN (xE P 0) → l + cntN (soP P w) s = i → ∀ T : Nat → pm_E, CQ P T → PQ (j_SL L) (j_SV xs) j_EX mm_X11_nth 32 [.ref 0, .int (nI w), .int (nI i), .int (nI l), .int (nI s)] [] T n 0 0 (fun r S' n' => r = some (.int (epR (ntQ P (nI w) (nI i)))) ∧ JLp P S') := by
    intro q
    induction q with
    | zero =>
      intro s l hs hl T hQ
      have e : s = xN (xE P 0) := by omega
      subst e
      obtain ⟨⟨ts, os, fo, og, mv, so, fw, t0, u1, u2, t8, o0, o4, o5, o6, o7, o8, t9, t10, t11, t12, t13, hfo, hog, hso, hfw⟩, hL, hJ9, gs9, g0, g4⟩ := id hQ
      refine q_iload rfl rfl rfl ?_
      refine q_aload_n rfl rfl rfl ?_
      refine q_getf rfl rfl (by omega) t0 u2 ?_
      refine q_getf rfl rfl (by omega) t8 o0 ?_
      refine q_icge rfl rfl (fun _ => ?_) (fun c => absurd (Int32.le_refl _) c)
      refine q_bipush rfl rfl ?_
      exact q_iret rfl rfl trivial ⟨ep_r nt_fn (Or.inr ⟨w, i, hw, rfl, hi, rfl, Or.inr ⟨hp1, Or.inr ⟨by omega, rfl⟩⟩⟩), hJ9⟩
    | succ q ih =>
      intro s l hsq hl T hQ
      have hs : s < xN (xE P 0) := by omega
      obtain ⟨⟨ts, os, fo, og, mv, so, fw, t0, u1, u2, t8, o0, o4, o5, o6, o7, o8, t9, t10, t11, t12, t13, hfo, hog, hso, hfw⟩, hL, hJ9, gs9, g0, g4⟩ := id hQ
      refine q_iload rfl rfl rfl ?_
      refine q_aload_n rfl rfl rfl ?_
      refine q_getf rfl rfl (by omega) t0 u2 ?_
      refine q_getf rfl rfl (by omega) t8 o0 ?_
      refine q_icge rfl rfl (fun c => absurd c (nI_ge (a := s) (b := xN (xE P 0)) (by omega) (by omega))) (fun _ => ?_)
      refine q_aload_n rfl rfl rfl ?_
      refine q_iload rfl rfl rfl ?_
      refine q_iload_n rfl rfl rfl ?_
      refine q_cV rfl rfl (Or.inl rfl) rfl rfl rfl rfl (by omega) t0 trivial rfl rfl rfl rfl rfl (c_iso hZ.1 hp1 hn hw hs hQ) ?_
      rintro r V _ ⟨rfl, hV, hr⟩
      have nx : ∀ z : Nat, z + cntN (soP P w) (s + 1) = i → PQ (j_SL L) (j_SV xs) j_EX mm_X11_nth 64 [.ref 0, .int (nI w), .int (nI i), .int (nI z), .int (nI s)] [] V n 0 0 (fun r S' n' => r = some (.int (epR (ntQ P (nI w) (nI i)))) ∧ JLp P S') := by
        intro z hz
        refine q_icc4 rfl rfl rfl rfl (z := nI (s + 1)) (nI_add s 1) ?_
        refine q_goto rfl ?_
        exact ih (s + 1) z (by omega) hz V hV
      rcases hr with ⟨hA, rfl⟩ | ⟨hA, rfl⟩
      · show PQ (j_SL L) (j_SV xs) j_EX mm_X11_nth 51 [.ref 0, .int (nI w), .int (nI i), .int (nI l), .int (nI s)] [.int 1] V n 0 0 _
        refine q_ifeq rfl rfl (fun c => absurd c (by decide)) (fun _ => ?_)
        refine q_iload_n rfl rfl rfl ?_
        cases l with
        | zero =>
          refine q_fne rfl rfl (fun c => absurd rfl c) (fun _ => ?_)
          refine q_iload rfl rfl rfl ?_
          exact q_iret rfl rfl trivial ⟨ep_r nt_fn (Or.inr ⟨w, i, hw, rfl, hi, rfl, Or.inr ⟨hp1, Or.inl ⟨s, hs, hA, by omega, rfl⟩⟩⟩), hV.2.2.1⟩
        | succ l =>
          refine q_fne rfl rfl (fun _ => ?_) (fun c => absurd (fun c9 => absurd ((m_eq (b := 0) (by omega) (by decide)).mp c9) (by omega)) c)
          refine q_icc3 rfl rfl rfl rfl (z := nI l) (pk_m1 l) ?_
          exact nx l (by rw [cn_y hA]; omega)
      · show PQ (j_SL L) (j_SV xs) j_EX mm_X11_nth 51 [.ref 0, .int (nI w), .int (nI i), .int (nI l), .int (nI s)] [.int 0] V n 0 0 _
        refine q_ifeq rfl rfl (fun _ => ?_) (fun c => absurd rfl c)
        exact nx l (by rw [cn_n hA]; exact hl)
  exact loop (xN (xE P 0)) 0 i (by omega) (by show i + 0 = i; rfl) T hQ
end OE
