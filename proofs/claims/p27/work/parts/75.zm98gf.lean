/-! the reference's explore is the spec's -/
section GF
variable {L : Nat} {xs : Nat → Int32} {S S' S'' : Nat → pm_E} {n R N b pic i k c l m q : Nat} {P : PG} {X : XT} {st cf cb ch sp ct nt nx nw f f' : Nat → Int32} {v : Int32}
def frE (S S' : Nat → pm_E) : Prop := ∀ k, k ≠ 52 → k ≠ 53 → k ≠ 55 → k ≠ 56 → k ≠ 57 → k ≠ 58 → k ≠ 59 → k ≠ 60 → k ≠ 61 → S' k = S k
theorem frE_tr (h : frE S S') (h' : frE S' S'') : frE S S'' := fun k h1 h2 h3 h4 h5 h6 h7 h8 h9 => (h' k h1 h2 h3 h4 h5 h6 h7 h8 h9).trans (h k h1 h2 h3 h4 h5 h6 h7 h8 h9)
def loC (R c l m : Nat) (S S' : Nat → pm_E) : Prop := ∀ f : Nat → Int32, S c = .inl (0, l, .inl f) → ∃ f' : Nat → Int32, S' c = .inl (0, l, .inl f') ∧ low R m f f'
theorem lo_rf (e : S' c = S c) : loC R c l m S S' := fun f h => ⟨f, e.trans h, low_rf⟩
theorem lo_tr (h : loC R c l m S S') (h' : loC R c l m S' S'') : loC R c l m S S'' := fun f hf => by
  obtain ⟨f1, e1, l1⟩ := h f hf
  obtain ⟨f2, e2, l2⟩ := h' f1 e1
  exact ⟨f2, e2, low_tr l1 l2⟩
theorem lo_mk (e : S c = .inl (0, l, .inl f)) (e' : S' c = .inl (0, l, .inl f')) (h : low R m f f') : loC R c l m S S' := fun g hg => by
  rw [e] at hg
  cases hg
  exact ⟨f', e', h⟩
def loE (R : Nat) (S S' : Nat → pm_E) : Prop := loC R 55 80000 40000 S S' ∧ loC R 56 4000 2000 S S' ∧ loC R 57 4000 2000 S S' ∧ loC R 58 4000 2000 S S' ∧ loC R 59 12000 6000 S S' ∧ loC R 60 2 1 S S' ∧ loC R 61 16384 8192 S S'
theorem loE_rf (e : ∀ k, 55 ≤ k → k ≤ 61 → S' k = S k) : loE R S S' := ⟨lo_rf (e 55 (by decide) (by decide)), lo_rf (e 56 (by decide) (by decide)), lo_rf (e 57 (by decide) (by decide)), lo_rf (e 58 (by decide) (by decide)), lo_rf (e 59 (by decide) (by decide)), lo_rf (e 60 (by decide) (by decide)), lo_rf (e 61 (by decide) (by decide))⟩
theorem loE_tr (h : loE R S S') (h' : loE R S' S'') : loE R S S'' := ⟨lo_tr h.1 h'.1, lo_tr h.2.1 h'.2.1, lo_tr h.2.2.1 h'.2.2.1, lo_tr h.2.2.2.1 h'.2.2.2.1, lo_tr h.2.2.2.2.1 h'.2.2.2.2.1, lo_tr h.2.2.2.2.2.1 h'.2.2.2.2.2.1, lo_tr h.2.2.2.2.2.2 h'.2.2.2.2.2.2⟩
theorem loE_59 (e : S 59 = .inl (0, 12000, .inl f)) (h : 6000 * R ≤ q) : loE R S (va_up S 59 (.inl (0, 12000, .inl (upd f q v)))) := ⟨lo_rf (u_ne (by decide)), lo_rf (u_ne (by decide)), lo_rf (u_ne (by decide)), lo_rf (u_ne (by decide)), lo_mk e u_eq (low_up low_rf h), lo_rf (u_ne (by decide)), lo_rf (u_ne (by decide))⟩
theorem or_fr (h : ORo R N st cf cb ch sp ct nt nx S) (e46 : S' 46 = S 46) (e53 : S' 53 = S 53) (e : ∀ k, 55 ≤ k → k ≤ 61 → S' k = S k) : ORo R N st cf cb ch sp ct nt nx S' := by
  obtain ⟨fs, k46, f8, f9, f11, f12, f13, f14, f15, f16, f17, k53, k55, k56, k57, k58, k59, k60, k61, hct⟩ := h
  exact ⟨fs, e46.trans k46, f8, f9, f11, f12, f13, f14, f15, f16, f17, e53.trans k53, (e 55 (by decide) (by decide)).trans k55, (e 56 (by decide) (by decide)).trans k56, (e 57 (by decide) (by decide)).trans k57, (e 58 (by decide) (by decide)).trans k58, (e 59 (by decide) (by decide)).trans k59, (e 60 (by decide) (by decide)).trans k60, (e 61 (by decide) (by decide)).trans k61, hct⟩
theorem or_sp (h : ORo R N st cf cb ch sp ct nt nx S) : ORo R N st cf cb ch f ct nt nx (va_up S 59 (.inl (0, 12000, .inl f))) := by
  obtain ⟨fs, k46, f8, f9, f11, f12, f13, f14, f15, f16, f17, k53, k55, k56, k57, k58, k59, k60, k61, hct⟩ := h
  exact ⟨fs, (u_ne (by decide)).trans k46, f8, f9, f11, f12, f13, f14, f15, f16, f17, (u_ne (by decide)).trans k53, (u_ne (by decide)).trans k55, (u_ne (by decide)).trans k56, (u_ne (by decide)).trans k57, (u_ne (by decide)).trans k58, u_eq, (u_ne (by decide)).trans k60, (u_ne (by decide)).trans k61, hct⟩
theorem or_nx (h : ORo R N st cf cb ch sp ct nt nx S) (e53 : S' 53 = .inl (0, 20, .inl f)) (e : ∀ k, k ≠ 53 → S' k = S k) : ORo R N st cf cb ch sp ct nt f S' := by
  obtain ⟨fs, k46, f8, f9, f11, f12, f13, f14, f15, f16, f17, k53, k55, k56, k57, k58, k59, k60, k61, hct⟩ := h
  exact ⟨fs, (e 46 (by decide)).trans k46, f8, f9, f11, f12, f13, f14, f15, f16, f17, e53, (e 55 (by decide)).trans k55, (e 56 (by decide)).trans k56, (e 57 (by decide)).trans k57, (e 58 (by decide)).trans k58, (e 59 (by decide)).trans k59, (e 60 (by decide)).trans k60, (e 61 (by decide)).trans k61, hct⟩
theorem ra_nrm {D : Nat → Nat} (hk : k < 20) : ra P (nrm D) k = ra P D k := by
  by_cases h : k < 4 * pH P ∧ k % 4 = 0
  · have e : nrm D (4 * (k / 4)) = D (4 * (k / 4)) := if_pos (by omega)
    unfold ra rp
    rw [if_pos h, if_pos h, e]
  · have e : nrm D k = D k := if_pos (by omega)
    unfold ra
    rw [if_neg h, if_neg h, e]
def ORX (R : Nat) (P : PG) (X : XT) (k : Nat) (S : Nat → pm_E) : Prop := ∃ st cf cb ch sp ct nt nx nw : Nat → Int32, ORo R (xN X) st cf cb ch sp ct nt nx S ∧ S 52 = .inl (0, 20, .inl nw) ∧ CHn R (xN X) st ch nt ∧ (∀ j, j < xN X → ∀ i, i < 20 → row st R j i = ra P (xS X j) i) ∧ (∀ j, j < xN X → cf (2000 * R + j) = xF X j ∧ cb (2000 * R + j) = xB X j) ∧ (∀ q, q < k → sp (6000 * R + q) = xL X q) ∧ ∀ j, j < xN X → ∀ i, 21 ≤ i → xS X j i = 0
noncomputable def xE (P : PG) (pic : Nat) : XT := Classical.choose (⟨xAll P pic 2000, rfl⟩ : ∃ X : XT, X = xAll P pic 2000)
theorem xE_d : xE P pic = xAll P pic 2000 := Classical.choose_spec (⟨xAll P pic 2000, rfl⟩ : ∃ X : XT, X = xAll P pic 2000)
theorem xe_of (hk : k ≤ 2000) (h : xN (xAll P pic k) ≤ k ∨ xP (xAll P pic k) = true) : xE P pic = xAll P pic k := by
  have e := xall_e h (2000 - k)
  rw [show k + (2000 - k) = 2000 by omega] at e
  exact xE_d.trans e
theorem xSt_t {y : Nat} (h : xP (xSt P pic X i y) = true) (d : Nat) : xSt P pic X i (y + d) = xSt P pic X i y := by
  induction d with
  | zero => rfl
  | succ d ih =>
    show xStep P pic (xSt P pic X i (y + d)) i (y + d) = _
    rw [ih]
    exact xS_t h
def erK (R : Nat) (P : PG) (pic : Nat) (S : Nat → pm_E) (n : Nat) : q_K := fun r S' n' => n = n' ∧ frE S S' ∧ loE R S S' ∧ ((xP (xE P pic) = true ∧ r = some (.int 0) ∧ ORX R P (xE P pic) 0 S') ∨ (xP (xE P pic) = false ∧ r = some (.int 1) ∧ ORX R P (xE P pic) (3 * xN (xE P pic)) S'))
theorem JR_frE (h : JR b P S) (e : frE S S') : JR b P S' := JR_same h (fun k h1 h2 => e k (by omega) (by omega) (by omega) (by omega) (by omega) (by omega) (by omega) (by omega) (by omega))
theorem nI_p0 {a : Nat} (h : a < 2 ^ 31) : (0 : Int32) ≤ nI a := by
  rw [show (0 : Int32) = nI 0 from rfl, m_le (by decide) h]
  exact Nat.zero_le a
set_option maxHeartbeats 8000000 in
/-- the hands of one state -/
theorem r_row (hW : WFP P) (hn : 82 ≤ n) (hb : b ≤ 3) (hR : R ≤ 1) (hp5 : pic < 5) (hJR : JR b P S) (hi2 : i < 2000) (hlt : i < xN (xAll P pic i)) (hp : xP (xAll P pic i) = false)
    (on : ∀ (T : Nat → pm_E) (b6 b7 : Value), frE S T → loE R S T → xP (xAll P pic (i + 1)) = false → ORX R P (xAll P pic (i + 1)) (3 * (i + 1)) T → PQ (j_SL L) (j_SV xs) j_EX mm_X12_explore 200 [.ref 46, .int (nI R), .int (nI pic), .int (nI 0), .int (nI i), .int (nI 3), b6, b7] [] T n 0 0 (erK R P pic S n)) :
    ∀ d x : Nat, x + d = 3 → ∀ (T : Nat → pm_E) (b6 b7 : Value), frE S T → loE R S T → xP (xSt P pic (xAll P pic i) i x) = false → ORX R P (xSt P pic (xAll P pic i) i x) (3 * i + x) T → PQ (j_SL L) (j_SV xs) j_EX mm_X12_explore 90 [.ref 46, .int (nI R), .int (nI pic), .int (nI 0), .int (nI i), .int (nI x), b6, b7] [] T n 0 0 (erK R P pic S n) := by
  obtain ⟨hWX, hPN⟩ := wx_all (pic := pic) hW i
  have hX1 := xall_s hlt hp
  intro d
  induction d with
  | zero =>
    intro x hx T b6 b7 eT lT hpx hT
    have e : x = 3 := by omega
    subst e
    refine q_iload rfl rfl rfl ?_
    refine q_iconst rfl rfl ?_
    refine q_icge rfl rfl (fun _ => ?_) (fun h => absurd (by decide) h)
    rw [xSt_3, ← hX1] at hpx hT
    exact on T b6 b7 eT lT hpx hT
  | succ d ihd =>
    intro x hxd T b6 b7 eT lT hpx hT
    have hx3 : x < 3 := by omega
    obtain ⟨hWc, hPc, hgr, hsm⟩ := xt_all (x := x) hW hWX hPN hlt
    have ex1 : xSt P pic (xAll P pic i) i (x + 1) = xStep P pic (xSt P pic (xAll P pic i) i x) i x := rfl
    have h3 : xP (xSt P pic (xAll P pic i) i (x + 1)) = true → xAll P pic (i + 1) = xSt P pic (xAll P pic i) i (x + 1) := fun h => by
      rw [hX1, ← xSt_3, show 3 = x + 1 + (2 - x) by omega]
      exact xSt_t h _
    have nxt : ∀ (U : Nat → pm_E) (b7 : Value), frE S U → loE R S U → xP (xSt P pic (xAll P pic i) i (x + 1)) = false → ORX R P (xSt P pic (xAll P pic i) i (x + 1)) (3 * i + (x + 1)) U → PQ (j_SL L) (j_SV xs) j_EX mm_X12_explore 194 [.ref 46, .int (nI R), .int (nI pic), .int (nI 0), .int (nI i), .int (nI x), .int (nI (6000 * R + (3 * i + x))), b7] [] U n 0 0 (erK R P pic S n) := by
      intro U b7 eU lU hpU hU
      refine q_inc5 rfl rfl rfl rfl ?_
      refine q_goto rfl ?_
      rw [show nI x + 1 = nI (x + 1) from nI_add x 1]
      exact ihd (x + 1) (by omega) U _ b7 eU lU hpU hU
    clear ihd on
    generalize hXc : xSt P pic (xAll P pic i) i x = Xc at hWc hPc hgr hsm hpx hT ex1
    have hic : i < xN Xc := by omega
    have hN2 := hWc.2.1
    obtain ⟨st, cf, cb, ch, sp, ct, nt, nx, nw, hO, t52, hC, hrw, hcf, hsp, hhi⟩ := hT
    obtain ⟨fs, k46, f8, f9, f11, f12, f13, f14, f15, f16, f17, k53, k55, k56, k57, k58, k59, k60, k61, hct⟩ := id hO
    refine q_iload rfl rfl rfl ?_
    refine q_iconst rfl rfl ?_
    refine q_icge rfl rfl (fun h => absurd h (nI_ge (a := x) (b := 3) hx3 (by decide))) (fun _ => ?_)
    refine q_iconst rfl rfl ?_
    refine q_sipush rfl rfl ?_
    refine q_iload_n rfl rfl rfl ?_
    refine q_imul rfl rfl ?_
    refine q_iload rfl rfl rfl ?_
    refine q_iadd rfl rfl ?_
    refine q_imul rfl rfl ?_
    refine q_iload rfl rfl rfl ?_
    refine q_iadd rfl rfl (q_tn (z := nI (6000 * R + (3 * i + x))) (by rw [show (3 : Int32) = nI 3 from rfl, show (2000 : Int32) = nI 2000 from rfl, pk_mul, nI_add, pk_mul, nI_add, show 3 * (2000 * R + i) + x = 6000 * R + (3 * i + x) by omega]) ?_)
    refine q_ist6 rfl rfl rfl rfl ?_
    refine q_aload_n rfl rfl rfl ?_
    refine q_getf rfl rfl (by omega) k46 f15 ?_
    refine q_iload rfl rfl rfl ?_
    refine q_iconst rfl rfl ?_
    refine q_iast rfl rfl (by omega) k59 (q_inN (by omega) (by decide)) ?_
    rw [nI_clamp (by omega)]
    have hO1 : ORo R (xN Xc) st cf cb ch (upd sp (6000 * R + (3 * i + x)) (-1)) ct nt nx (va_up T 59 (.inl (0, 12000, .inl (upd sp (6000 * R + (3 * i + x)) (-1))))) := or_sp hO
    have e1 : ∀ k, k ≠ 59 → va_up T 59 (.inl (0, 12000, .inl (upd sp (6000 * R + (3 * i + x)) (-1)))) k = T k := fun k hk => u_ne hk
    have l1 : loE R S (va_up T 59 (.inl (0, 12000, .inl (upd sp (6000 * R + (3 * i + x)) (-1))))) := loE_tr lT (loE_59 k59 (by omega))
    generalize va_up T 59 (.inl (0, 12000, .inl (upd sp (6000 * R + (3 * i + x)) (-1)))) = T1 at hO1 e1 l1 ⊢
    have eT1 : frE S T1 := fun k h1 h2 h3 h4 h5 h6 h7 h8 h9 => (e1 k h7).trans (eT k h1 h2 h3 h4 h5 h6 h7 h8 h9)
    have g46 := (e1 46 (by decide)).trans k46
    have g52 := (e1 52 (by decide)).trans t52
    refine q_aload_n rfl rfl rfl ?_
    refine q_iload_n rfl rfl rfl ?_
    refine q_iload rfl rfl rfl ?_
    refine q_cV rfl rfl (Or.inl rfl) rfl rfl rfl rfl (by omega) g46 trivial rfl rfl rfl rfl rfl (r_stand hn hR hi2 hO1 g52) ?_
    rintro r T2 n9 ⟨rfl, rfl, e2, nw2, t52, hnw⟩
    show PQ (j_SL L) (j_SV xs) j_EX mm_X12_explore 126 [.ref 46, .int (nI R), .int (nI pic), .int (nI 0), .int (nI i), .int (nI x), .int (nI (6000 * R + (3 * i + x))), b7] [] T2 n 0 0 _
    have eT2 : frE S T2 := fun k h1 h2 h3 h4 h5 h6 h7 h8 h9 => (e2 k h1).trans (eT1 k h1 h2 h3 h4 h5 h6 h7 h8 h9)
    have l2 : loE R S T2 := loE_tr l1 (loE_rf (fun k h1 h2 => e2 k (by omega)))
    have hO2 : ORo R (xN Xc) st cf cb ch (upd sp (6000 * R + (3 * i + x)) (-1)) ct nt nx T2 := or_fr hO1 (e2 46 (by decide)) (e2 53 (by decide)) (fun k h1 h2 => e2 k (by omega))
    have hN : ∀ j, j < 20 → nw2 j = ra P (xS Xc i) j := fun j hj => (hnw j hj).trans (hrw i hic j hj)
    have hJ2 := JR_frE hJR eT2
    obtain ⟨gs, mn, fk, fa, fn, vl, j46, j1, -⟩ := id hJ2
    have hH := hW.2.1
    have hD := hWc.2.2.1 i hic
    have not : ¬ (x < pH P ∧ mayP P pic (xS Xc i) x) → ∀ b7 : Value, PQ (j_SL L) (j_SV xs) j_EX mm_X12_explore 194 [.ref 46, .int (nI R), .int (nI pic), .int (nI 0), .int (nI i), .int (nI x), .int (nI (6000 * R + (3 * i + x))), b7] [] T2 n 0 0 (erK R P pic S n) := by
      intro hm b7
      have eX := ex1.trans (xS_n hpx hm)
      refine nxt T2 b7 eT2 l2 (by rw [eX]; rfl) ?_
      rw [eX]
      refine ⟨st, cf, cb, ch, upd sp (6000 * R + (3 * i + x)) (-1), ct, nt, nx, nw2, hO2, t52, hC, hrw, hcf, fun q hq => ?_, hhi⟩
      show upd sp (6000 * R + (3 * i + x)) (-1) (6000 * R + q) = upd (xL Xc) (3 * i + x) (-1) q
      by_cases e : q = 3 * i + x
      · rw [e, u32_at, u32_at]
      · rw [u32_ot (by omega), u32_ot e]
        exact hsp q (by omega)
    refine q_iload rfl rfl rfl ?_
    refine q_aload_n rfl rfl rfl ?_
    refine q_getf rfl rfl (by omega) j46 j1 ?_
    refine q_icge rfl rfl (fun h => ?_) (fun h => ?_)
    · have hle := (m_le (by omega) (by omega)).mp h
      exact not (fun hm => by omega) _
    have hx : x < pH P := by
      rw [m_le (by omega) (by omega)] at h
      omega
    refine q_aload_n rfl rfl rfl ?_
    refine q_iload rfl rfl rfl ?_
    refine q_iload_n rfl rfl rfl ?_
    refine q_cV rfl rfl (Or.inl rfl) rfl rfl rfl rfl (by omega) j46 trivial rfl rfl rfl rfl rfl (l_may hW hn hb hJ2 t52 hN hD hp5 hx) ?_
    rintro r _ _ ⟨rfl, rfl, hr⟩
    rcases hr with ⟨hm, rfl⟩ | ⟨hm, rfl⟩
    rotate_left
    · show PQ (j_SL L) (j_SV xs) j_EX mm_X12_explore 142 [.ref 46, .int (nI R), .int (nI pic), .int (nI 0), .int (nI i), .int (nI x), .int (nI (6000 * R + (3 * i + x))), b7] [.int 0] T2 n 0 0 _
      refine q_ifne rfl rfl (fun _ => ?_) (fun h => absurd rfl h)
      refine q_goto rfl ?_
      exact not (fun h9 => hm h9.2) _
    show PQ (j_SL L) (j_SV xs) j_EX mm_X12_explore 142 [.ref 46, .int (nI R), .int (nI pic), .int (nI 0), .int (nI i), .int (nI x), .int (nI (6000 * R + (3 * i + x))), b7] [.int 1] T2 n 0 0 _
    refine q_ifne rfl rfl (fun h => absurd h (by decide)) (fun _ => ?_)
    clear not
    have hm2 : x < pH P ∧ mayP P pic (xS Xc i) x := ⟨hx, hm⟩
    obtain ⟨fs2, q46, q8, q9, q11, q12, q13, q14, q15, q16, q17, q53, q55, q56, q57, q58, q59, q60, q61, qct⟩ := id hO2
    refine q_aload_n rfl rfl rfl ?_
    refine q_iload rfl rfl rfl ?_
    refine q_iload_n rfl rfl rfl ?_
    refine q_cV rfl rfl (Or.inl rfl) rfl rfl rfl rfl (by omega) j46 trivial rfl rfl rfl rfl rfl (l_step hW hn hb hJ2 t52 hN q53 hD hp5 hx hm.1) ?_
    rintro r T3 n9 ⟨rfl, rfl, e3, nx3, t53, hnx⟩
    show PQ (j_SL L) (j_SV xs) j_EX mm_X12_explore 155 [.ref 46, .int (nI R), .int (nI pic), .int (nI 0), .int (nI i), .int (nI x), .int (nI (6000 * R + (3 * i + x))), b7] [] T3 n 0 0 _
    have hnx' : ∀ j, j < 20 → nx3 j = ra P (nxD P pic (xS Xc i) x) j := fun j hj => (hnx j hj).trans (ra_nrm hj).symm
    have hO3 : ORo R (xN Xc) st cf cb ch (upd sp (6000 * R + (3 * i + x)) (-1)) ct nt nx3 T3 := or_nx hO2 t53 e3
    have eT3 : frE S T3 := fun k h1 h2 h3 h4 h5 h6 h7 h8 h9 => (e3 k h2).trans (eT2 k h1 h2 h3 h4 h5 h6 h7 h8 h9)
    have l3 : loE R S T3 := loE_tr l2 (loE_rf (fun k h1 h2 => e3 k (by omega)))
    have u52 := (e3 52 (by decide)).trans t52
    have hDn : WFD P pic (nxD P pic (xS Xc i) x) := wx_nx hW hD hx hm.1
    obtain ⟨fs3, r46, r8, r9, r11, r12, r13, r14, r15, r16, r17, r53, r55, r56, r57, r58, r59, r60, r61, rct⟩ := id hO3
    have put9 : ∀ (U : Nat → pm_E) (w : Nat), w < 2000 → frE S U → loE R S U → U 46 = .inr (10, fs3) → U 59 = .inl (0, 12000, .inl (upd sp (6000 * R + (3 * i + x)) (-1))) → xP (xSt P pic (xAll P pic i) i (x + 1)) = false → ORX R P (xSt P pic (xAll P pic i) i (x + 1)) (3 * i + (x + 1)) (va_up U 59 (.inl (0, 12000, .inl (upd (upd sp (6000 * R + (3 * i + x)) (-1)) (6000 * R + (3 * i + x)) (nI w))))) → PQ (j_SL L) (j_SV xs) j_EX mm_X12_explore 178 [.ref 46, .int (nI R), .int (nI pic), .int (nI 0), .int (nI i), .int (nI x), .int (nI (6000 * R + (3 * i + x))), .int (nI w)] [] U n 0 0 (erK R P pic S n) := by
      intro U w hw eU lU u46 u59 hpU hU
      refine q_iload rfl rfl rfl ?_
      refine q_ifge rfl rfl (fun _ => ?_) (fun h => absurd (nI_p0 (by omega)) h)
      refine q_aload_n rfl rfl rfl ?_
      refine q_getf rfl rfl (by omega) u46 r15 ?_
      refine q_iload rfl rfl rfl ?_
      refine q_iload rfl rfl rfl ?_
      refine q_iast rfl rfl (by omega) u59 (q_inN (by omega) (by decide)) ?_
      rw [nI_clamp (by omega)]
      exact nxt _ _ (fun k h1 h2 h3 h4 h5 h6 h7 h8 h9 => (u_ne h7).trans (eU k h1 h2 h3 h4 h5 h6 h7 h8 h9)) (loE_tr lU (loE_59 u59 (by omega))) hpU hU
    have spq : ∀ (w : Int32) q, q < 3 * i + (x + 1) → upd (upd sp (6000 * R + (3 * i + x)) (-1)) (6000 * R + (3 * i + x)) w (6000 * R + q) = upd (xL Xc) (3 * i + x) w q := by
      intro w q hq
      by_cases e : q = 3 * i + x
      · rw [e, u32_at, u32_at]
      · rw [u32_ot (by omega), u32_ot (by omega), u32_ot e]
        exact hsp q (by omega)
    refine q_aload_n rfl rfl rfl ?_
    refine q_iload_n rfl rfl rfl ?_
    refine q_cV rfl rfl (Or.inl rfl) rfl rfl rfl rfl (by omega) r46 trivial rfl rfl rfl rfl rfl (r_find hn hR hN2 hO3 hC) ?_
    rintro r _ _ ⟨rfl, rfl, hr⟩
    rcases hr with ⟨j, hj, hs, rfl⟩ | ⟨hno, rfl⟩
    · show PQ (j_SL L) (j_SV xs) j_EX mm_X12_explore 160 [.ref 46, .int (nI R), .int (nI pic), .int (nI 0), .int (nI i), .int (nI x), .int (nI (6000 * R + (3 * i + x))), b7] [.int (nI j)] T3 n 0 0 _
      have ej : xS Xc j = nxD P pic (xS Xc i) x := n_ext (hhi j hj) (fun i hi => nrm_hi hi) (ra_inj hW (hWc.2.2.1 j hj) hDn (fun k hk => (hrw j hj k hk).symm.trans ((hs k hk).trans (hnx' k hk))))
      have eX := ex1.trans ((xS_y hpx hm2).trans (xP_o hWc.2.2.2 hj ej))
      refine q_ist7 rfl rfl rfl rfl ?_
      refine q_iload rfl rfl rfl ?_
      refine q_ifge rfl rfl (fun _ => ?_) (fun h => absurd (nI_p0 (by omega)) h)
      refine put9 T3 j (by omega) eT3 l3 r46 r59 (by rw [eX]; rfl) ?_
      rw [eX]
      exact ⟨st, cf, cb, ch, _, ct, nt, nx3, nw2, or_sp hO3, (u_ne (by decide)).trans u52, hC, hrw, hcf, spq (nI j), hhi⟩
    show PQ (j_SL L) (j_SV xs) j_EX mm_X12_explore 160 [.ref 46, .int (nI R), .int (nI pic), .int (nI 0), .int (nI i), .int (nI x), .int (nI (6000 * R + (3 * i + x))), b7] [.int (-1)] T3 n 0 0 _
    have hno' : ∀ j, j < xN Xc → xS Xc j ≠ nxD P pic (xS Xc i) x := fun j hj e => hno j hj (fun k hk => by rw [hrw j hj k hk, e, hnx' k hk])
    refine q_ist7 rfl rfl rfl rfl ?_
    refine q_iload rfl rfl rfl ?_
    refine q_ifge rfl rfl (fun h => absurd h (by decide)) (fun _ => ?_)
    refine q_aload_n rfl rfl rfl ?_
    refine q_iload_n rfl rfl rfl ?_
    refine q_iload rfl rfl rfl ?_
    refine q_iload rfl rfl rfl ?_
    refine q_cV rfl rfl (Or.inl rfl) rfl rfl rfl rfl (by omega) r46 trivial rfl rfl rfl rfl rfl (r_put (v1 := nI i) (v2 := nI x) hn hR hN2 hO3 hC) ?_
    rintro r T4 n9 ⟨rfl, e4, ⟨h2000, rfl, rfl⟩ | ⟨hlt4, rfl, st', ch', nt', ct', hC', hO4, hr1, hr2, w1, w2, w3, w4⟩⟩
    · show PQ (j_SL L) (j_SV xs) j_EX mm_X12_explore 176 [.ref 46, .int (nI R), .int (nI pic), .int (nI 0), .int (nI i), .int (nI x), .int (nI (6000 * R + (3 * i + x))), .int (-1)] [.int (-1)] T3 n 0 0 _
      have eX := ex1.trans ((xS_y hpx hm2).trans (xP_f hno' h2000))
      have hpX : xP (xSt P pic (xAll P pic i) i (x + 1)) = true := by rw [eX]; rfl
      have eE : xE P pic = xSt P pic (xAll P pic i) i (x + 1) := (xe_of (k := i + 1) (by omega) (Or.inr (by rw [h3 hpX]; exact hpX))).trans (h3 hpX)
      refine q_ist7 rfl rfl rfl rfl ?_
      refine q_iload rfl rfl rfl ?_
      refine q_ifge rfl rfl (fun h => absurd h (by decide)) (fun _ => ?_)
      refine q_iconst rfl rfl ?_
      refine q_iret rfl rfl rfl ⟨rfl, eT3, l3, Or.inl ⟨by rw [eE]; exact hpX, rfl, ?_⟩⟩
      rw [eE, eX]
      exact ⟨st, cf, cb, ch, _, ct, nt, nx3, nw2, hO3, u52, hC, hrw, hcf, fun q hq => absurd hq (by omega), hhi⟩
    · show PQ (j_SL L) (j_SV xs) j_EX mm_X12_explore 176 [.ref 46, .int (nI R), .int (nI pic), .int (nI 0), .int (nI i), .int (nI x), .int (nI (6000 * R + (3 * i + x))), .int (-1)] [.int (nI (xN Xc))] T4 n 0 0 _
      have eX := ex1.trans ((xS_y hpx hm2).trans (xP_n hno' hlt4))
      obtain ⟨fs4, s46, s8, s9, s11, s12, s13, s14, s15, s16, s17, s53, s55, s56, s57, s58, s59, s60, s61, sct⟩ := id hO4
      have eT4 : frE S T4 := fun k h1 h2 h3 h4 h5 h6 h7 h8 h9 => (e4 k h3 h4 h5 h6 h8 h9).trans (eT3 k h1 h2 h3 h4 h5 h6 h7 h8 h9)
      have l4 : loE R S T4 := loE_tr l3 ⟨lo_mk r55 s55 w1, lo_mk r56 s56 (low_up low_rf (by omega)), lo_mk r57 s57 (low_up low_rf (by omega)), lo_mk r58 s58 w2, lo_rf (s59.trans r59.symm), lo_mk r60 s60 w4, lo_mk r61 s61 w3⟩
      refine q_ist7 rfl rfl rfl rfl ?_
      refine put9 T4 (xN Xc) hlt4 eT4 l4 ((e4 46 (by decide) (by decide) (by decide) (by decide) (by decide) (by decide)).trans r46) s59 (by rw [eX]; rfl) ?_
      rw [eX]
      have ot : ∀ j, j < xN Xc → upS (xS Xc) (xN Xc) (nxD P pic (xS Xc i) x) j = xS Xc j := fun j hj => if_neg (by omega)
      have at' : upS (xS Xc) (xN Xc) (nxD P pic (xS Xc i) x) (xN Xc) = nxD P pic (xS Xc i) x := if_pos rfl
      refine ⟨st', _, _, ch', _, ct', nt', nx3, nw2, or_sp hO4, (u_ne (by decide)).trans ((e4 52 (by decide) (by decide) (by decide) (by decide) (by decide) (by decide)).trans u52), hC', fun j hj k hk => ?_, fun j hj => ?_, spq (nI (xN Xc)), fun j hj k hk => ?_⟩
      · have hj' : j < xN Xc + 1 := hj
        show row st' R j k = ra P (upS (xS Xc) (xN Xc) (nxD P pic (xS Xc i) x) j) k
        by_cases e : j = xN Xc
        · rw [e, at']
          exact (hr2 k hk).trans (hnx' k hk)
        · rw [ot j (by omega)]
          exact (hr1 j (by omega) k hk).trans (hrw j (by omega) k hk)
      · have hj' : j < xN Xc + 1 := hj
        show upd cf (2000 * R + xN Xc) (nI i) (2000 * R + j) = upd (xF Xc) (xN Xc) (nI i) j ∧ upd cb (2000 * R + xN Xc) (nI x) (2000 * R + j) = upd (xB Xc) (xN Xc) (nI x) j
        by_cases e : j = xN Xc
        · rw [e, u32_at, u32_at, u32_at, u32_at]
          exact ⟨rfl, rfl⟩
        · rw [u32_ot (by omega), u32_ot e, u32_ot (by omega), u32_ot e]
          exact hcf j (by omega)
      · have hj' : j < xN Xc + 1 := hj
        show upS (xS Xc) (xN Xc) (nxD P pic (xS Xc i) x) j k = 0
        by_cases e : j = xN Xc
        · rw [e, at']
          exact nrm_hi hk
        · rw [ot j (by omega)]
          exact hhi j (by omega) k hk
set_option maxHeartbeats 8000000 in
theorem r_expl (hW : WFP P) (hn : 82 ≤ n) (hb : b ≤ 3) (hR : R ≤ 1) (hp5 : pic < 5) (hJR : JR b P S) (hO : ORo R N st cf cb ch sp ct nt nx S) (t52 : S 52 = .inl (0, 20, .inl nw)) : PM (j_SL L) (j_SV xs) j_EX mm_X12_explore [.ref 46, .int (nI R), .int (nI pic)] S n (erK R P pic S n) := by
  obtain ⟨fs, k46, f8, f9, f11, f12, f13, f14, f15, f16, f17, k53, k55, k56, k57, k58, k59, k60, k61, hct⟩ := hO
  change PQ (j_SL L) (j_SV xs) j_EX mm_X12_explore 0 [.ref 46, .int (nI R), .int (nI pic), pm_un, pm_un, pm_un, pm_un, pm_un] [] S n 0 0 _
  have loop : ∀ q i : Nat, i + q = 2000 → ∀ (T : Nat → pm_E) (b5 b6 b7 : Value), frE S T → loE R S T → i ≤ xN (xAll P pic i) → xP (xAll P pic i) = false → ORX R P (xAll P pic i) (3 * i) T → PQ (j_SL L) (j_SV xs) j_EX mm_X12_explore 76 [.ref 46, .int (nI R), .int (nI pic), .int (nI 0), .int (nI i), b5, b6, b7] [] T n 0 0 (erK R P pic S n) := by
    intro q
    induction q with
    | zero =>
      intro i hi T b5 b6 b7 eT lT hiN hp hT
      have hN2 := (wx_all (pic := pic) hW i).1.2.1
      obtain ⟨st, cf, cb, ch, sp, ct, nt, nx, nw, hO, -⟩ := id hT
      obtain ⟨fs, k46, f8, f9, f11, f12, f13, f14, f15, f16, f17, k53, k55, k56, k57, k58, k59, k60, k61, hct⟩ := id hO
      refine q_iload rfl rfl rfl ?_
      refine q_aload_n rfl rfl rfl ?_
      refine q_getf rfl rfl (by omega) k46 f16 ?_
      refine q_iload_n rfl rfl rfl ?_
      refine q_iald rfl rfl (by omega) k60 (q_inN (by omega) (by decide)) (q_tn (z := nI (xN (xAll P pic i))) (by rw [nI_clamp (by omega)]; exact hct) ?_)
      refine q_icge rfl rfl (fun h => ?_) (fun h => absurd ((m_le (by omega) (by omega)).mpr (by omega)) h)
      have e : xN (xAll P pic i) = i := by omega
      have eE := xe_of (P := P) (pic := pic) (k := i) (by omega) (Or.inl (by omega))
      refine q_iconst rfl rfl ?_
      refine q_iret rfl rfl rfl ⟨rfl, eT, lT, Or.inr ⟨by rw [eE]; exact hp, rfl, ?_⟩⟩
      rw [eE, e]
      exact hT
    | succ q ih =>
      intro i hi T b5 b6 b7 eT lT hiN hp hT
      have hN2 := (wx_all (pic := pic) hW i).1.2.1
      obtain ⟨st, cf, cb, ch, sp, ct, nt, nx, nw, hO, -⟩ := id hT
      obtain ⟨fs, k46, f8, f9, f11, f12, f13, f14, f15, f16, f17, k53, k55, k56, k57, k58, k59, k60, k61, hct⟩ := id hO
      refine q_iload rfl rfl rfl ?_
      refine q_aload_n rfl rfl rfl ?_
      refine q_getf rfl rfl (by omega) k46 f16 ?_
      refine q_iload_n rfl rfl rfl ?_
      refine q_iald rfl rfl (by omega) k60 (q_inN (by omega) (by decide)) (q_tn (z := nI (xN (xAll P pic i))) (by rw [nI_clamp (by omega)]; exact hct) ?_)
      refine q_icge rfl rfl (fun h => ?_) (fun h => ?_)
      · have hle := (m_le (by omega) (by omega)).mp h
        have e : xN (xAll P pic i) = i := by omega
        have eE := xe_of (P := P) (pic := pic) (k := i) (by omega) (Or.inl (by omega))
        refine q_iconst rfl rfl ?_
        refine q_iret rfl rfl rfl ⟨rfl, eT, lT, Or.inr ⟨by rw [eE]; exact hp, rfl, ?_⟩⟩
        rw [eE, e]
        exact hT
      have hlt : i < xN (xAll P pic i) := by
        rw [m_le (by omega) (by omega)] at h
        omega
      refine q_iconst rfl rfl ?_
      refine q_ist5 rfl rfl rfl rfl ?_
      refine r_row hW hn hb hR hp5 hJR (by omega) hlt hp (fun T b6 b7 eT lT hpT hT => ?_) 3 0 rfl T b6 b7 eT lT hp hT
      refine q_inc4 rfl rfl rfl rfl ?_
      refine q_goto rfl ?_
      rw [show nI i + 1 = nI (i + 1) from nI_add i 1]
      refine ih (i + 1) (by omega) T _ b6 b7 eT lT ?_ hpT hT
      obtain ⟨hWX, hPN⟩ := wx_all (pic := pic) hW i
      obtain ⟨-, -, hgr, -⟩ := xt_all (x := 3) hW hWX hPN hlt
      rw [xSt_3, ← xall_s hlt hp] at hgr
      omega
  refine q_iconst rfl rfl ?_
  refine q_ist3n rfl rfl rfl rfl ?_
  refine l_net hR rfl (by omega) k46 f17 k61 ?_
  have a1 : ∀ k, k ≠ 61 → va_up S 61 (.inl (0, 16384, .inl (nfk nt (-1) (8192 * R) 8192))) k = S k := fun k hk => u_ne hk
  have a61 : va_up S 61 (.inl (0, 16384, .inl (nfk nt (-1) (8192 * R) 8192))) 61 = .inl (0, 16384, .inl (nfk nt (-1) (8192 * R) 8192)) := u_eq
  generalize va_up S 61 (.inl (0, 16384, .inl (nfk nt (-1) (8192 * R) 8192))) = S1 at a1 a61 ⊢
  refine q_aload_n rfl rfl rfl ?_
  refine q_getf rfl rfl (by omega) ((a1 46 (by decide)).trans k46) f16 ?_
  refine q_iload_n rfl rfl rfl ?_
  refine q_iconst rfl rfl ?_
  refine q_iast rfl rfl (by omega) ((a1 60 (by decide)).trans k60) (q_inN (by omega) (by decide)) ?_
  rw [nI_clamp (by omega)]
  have b1 : ∀ k, k ≠ 60 → va_up S1 60 (.inl (0, 2, .inl (upd ct R 0))) k = S1 k := fun k hk => u_ne hk
  have b60 : va_up S1 60 (.inl (0, 2, .inl (upd ct R 0))) 60 = .inl (0, 2, .inl (upd ct R 0)) := u_eq
  generalize va_up S1 60 (.inl (0, 2, .inl (upd ct R 0))) = S2 at b1 b60 ⊢
  have e2 : ∀ k, k ≠ 60 → k ≠ 61 → S2 k = S k := fun k h1 h2 => (b1 k h1).trans (a1 k h2)
  have hO2 : ORo R 0 st cf cb ch sp (upd ct R 0) (nfk nt (-1) (8192 * R) 8192) nx S2 := ⟨fs, (e2 46 (by decide) (by decide)).trans k46, f8, f9, f11, f12, f13, f14, f15, f16, f17, (e2 53 (by decide) (by decide)).trans k53, (e2 55 (by decide) (by decide)).trans k55, (e2 56 (by decide) (by decide)).trans k56, (e2 57 (by decide) (by decide)).trans k57, (e2 58 (by decide) (by decide)).trans k58, (e2 59 (by decide) (by decide)).trans k59, b60, (b1 61 (by decide)).trans a61, u32_at⟩
  have eS2 : frE S S2 := fun k h1 h2 h3 h4 h5 h6 h7 h8 h9 => e2 k h8 h9
  have l2 : loE R S S2 := ⟨lo_rf (e2 55 (by decide) (by decide)), lo_rf (e2 56 (by decide) (by decide)), lo_rf (e2 57 (by decide) (by decide)), lo_rf (e2 58 (by decide) (by decide)), lo_rf (e2 59 (by decide) (by decide)), lo_mk k60 b60 (low_up low_rf (by omega)), lo_mk k61 ((b1 61 (by decide)).trans a61) (fun q hq => if_neg (by omega))⟩
  refine q_aload_n rfl rfl rfl ?_
  refine q_cV rfl rfl (Or.inl rfl) rfl rfl rfl rfl (by omega) ((e2 46 (by decide) (by decide)).trans k46) trivial rfl rfl rfl rfl rfl (r_first hW hn hb (JR_frE hJR eS2) ((e2 52 (by decide) (by decide)).trans t52)) ?_
  rintro r S3 n9 ⟨rfl, rfl, e3, nw3, t52, hnw⟩
  show PQ (j_SL L) (j_SV xs) j_EX mm_X12_explore 39 [.ref 46, .int (nI R), .int (nI pic), .int 8192, pm_un, pm_un, pm_un, pm_un] [] S3 n 0 0 _
  have hO3 : ORo R 0 st cf cb ch sp (upd ct R 0) (nfk nt (-1) (8192 * R) 8192) nx S3 := or_fr hO2 (e3 46 (by decide)) (e3 53 (by decide)) (fun k h1 h2 => e3 k (by omega))
  have eS3 : frE S S3 := fun k h1 h2 h3 h4 h5 h6 h7 h8 h9 => (e3 k h1).trans (eS2 k h1 h2 h3 h4 h5 h6 h7 h8 h9)
  have l3 : loE R S S3 := loE_tr l2 (loE_rf (fun k h1 h2 => e3 k (by omega)))
  have s46 := (e3 46 (by decide)).trans ((e2 46 (by decide) (by decide)).trans k46)
  have s53 := (e3 53 (by decide)).trans ((e2 53 (by decide) (by decide)).trans k53)
  refine q_iconst rfl rfl ?_
  refine q_ist3n rfl rfl rfl rfl ?_
  have copy : ∀ d k : Nat, k + d = 20 → ∀ (T : Nat → pm_E) (g : Nat → Int32), (∀ j, j ≠ 53 → T j = S3 j) → T 53 = .inl (0, 20, .inl g) → (∀ j, j < k → g j = nw3 j) → PQ (j_SL L) (j_SV xs) j_EX mm_X12_explore 41 [.ref 46, .int (nI R), .int (nI pic), .int (nI k), pm_un, pm_un, pm_un, pm_un] [] T n 0 0 (erK R P pic S n) := by
    intro d
    induction d with
    | zero =>
      intro k hk T g eT t53 hg
      have e : k = 20 := by omega
      subst e
      have hO4 : ORo R 0 st cf cb ch sp (upd ct R 0) (nfk nt (-1) (8192 * R) 8192) g T := or_nx hO3 t53 eT
      have hC4 : CHn R 0 st ch (nfk nt (-1) (8192 * R) 8192) := ⟨fun r hr => Or.inl ⟨if_pos (by omega), fun j hj => absurd hj (by omega)⟩, fun k hk => absurd hk (by omega)⟩
      have t46 := (eT 46 (by decide)).trans s46
      obtain ⟨fs4, r46, y8, y9, y11, y12, y13, y14, y15, y16, y17, r53, r55, r56, r57, r58, r59, r60, r61, rct⟩ := id hO4
      refine q_iload_n rfl rfl rfl ?_
      refine q_bipush rfl rfl ?_
      refine q_icge rfl rfl (fun _ => ?_) (fun h => absurd (by decide) h)
      refine q_aload_n rfl rfl rfl ?_
      refine q_iload_n rfl rfl rfl ?_
      refine q_iconst rfl rfl ?_
      refine q_iconst rfl rfl ?_
      refine q_cV rfl rfl (Or.inl rfl) rfl rfl rfl rfl (by omega) t46 trivial rfl rfl rfl rfl rfl (r_put (v1 := -1) (v2 := -1) hn hR (by omega) hO4 hC4) ?_
      rintro r T5 n9 ⟨rfl, e5, ⟨h2000, rfl, rfl⟩ | ⟨-, rfl, st', ch', nt', ct', hC', hO5, hr1, hr2, w1, w2, w3, w4⟩⟩
      · omega
      show PQ (j_SL L) (j_SV xs) j_EX mm_X12_explore 72 [.ref 46, .int (nI R), .int (nI pic), .int (nI 20), pm_un, pm_un, pm_un, pm_un] [.int (nI 0)] T5 n 0 0 _
      obtain ⟨fs5, z46, z8, z9, z11, z12, z13, z14, z15, z16, z17, z53, z55, z56, z57, z58, z59, z60, z61, zct⟩ := id hO5
      refine q_ist3n rfl rfl rfl rfl ?_
      refine q_iconst rfl rfl ?_
      refine q_ist4 rfl rfl rfl rfl ?_
      have eT5 : frE S T5 := fun k h1 h2 h3 h4 h5 h6 h7 h8 h9 => (e5 k h3 h4 h5 h6 h8 h9).trans ((eT k h2).trans (eS3 k h1 h2 h3 h4 h5 h6 h7 h8 h9))
      have l5 : loE R S T5 := loE_tr (loE_tr l3 (loE_rf (fun k h1 h2 => eT k (by omega)))) ⟨lo_mk r55 z55 w1, lo_mk r56 z56 (low_up low_rf (by omega)), lo_mk r57 z57 (low_up low_rf (by omega)), lo_mk r58 z58 w2, lo_rf (z59.trans r59.symm), lo_mk r60 z60 w4, lo_mk r61 z61 w3⟩
      refine loop 2000 0 rfl T5 _ _ _ eT5 l5 (Nat.zero_le _) rfl ⟨st', _, _, ch', sp, ct', nt', g, nw3, hO5, (e5 52 (by decide) (by decide) (by decide) (by decide) (by decide) (by decide)).trans ((eT 52 (by decide)).trans t52), hC', fun j hj k hk => ?_, fun j hj => ?_, fun q hq => absurd hq (by omega), fun j hj k hk => ?_⟩
      · have hj' : j < 1 := hj
        have e : j = 0 := by omega
        subst e
        exact (hr2 k hk).trans ((hg k hk).trans (hnw k hk))
      · have hj' : j < 1 := hj
        have e : j = 0 := by omega
        subst e
        exact ⟨u32_at, u32_at⟩
      · exact nrm_hi hk
    | succ d ih =>
      intro k hkd T g eT t53 hg
      have hk20 : k < 20 := by omega
      have t46 := (eT 46 (by decide)).trans s46
      refine q_iload_n rfl rfl rfl ?_
      refine q_bipush rfl rfl ?_
      refine q_icge rfl rfl (fun h => absurd h (nI_ge (a := k) (b := 20) hk20 (by decide))) (fun _ => ?_)
      refine q_aload_n rfl rfl rfl ?_
      refine q_getf rfl rfl (by omega) t46 f9 ?_
      refine q_iload_n rfl rfl rfl ?_
      refine q_aload_n rfl rfl rfl ?_
      refine q_getf rfl rfl (by omega) t46 f8 ?_
      refine q_iload_n rfl rfl rfl ?_
      refine q_iald rfl rfl (by omega) ((eT 52 (by decide)).trans t52) (q_inN (by omega) (by decide)) ?_
      refine q_iast rfl rfl (by omega) t53 (q_inN (by omega) (by decide)) ?_
      refine q_inc3 rfl rfl rfl rfl ?_
      refine q_goto rfl ?_
      rw [nI_clamp (by omega), show nI k + 1 = nI (k + 1) from nI_add k 1]
      refine ih (k + 1) (by omega) _ _ (fun j hj => (u_ne hj).trans (eT j hj)) u_eq (fun j hj => ?_)
      by_cases e : j = k
      · rw [e, u32_at]
      · rw [u32_ot e]
        exact hg j (by omega)
  exact copy 20 0 rfl S3 nx (fun _ _ => rfl) s53 (fun j h => absurd h (by omega))
end GF
