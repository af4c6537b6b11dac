/-! what stands between the calls of the reference; isEnd, isSpent -/
section GH
variable {L : Nat} {xs : Nat → Int32} {S S' : Nat → pm_E} {n k b R : Nat} {P : PG} {D : Nat → Nat} {nw : Nat → Int32} {fs : List Value}
set_option maxHeartbeats 2000000 in
theorem l_isend (hW : WFP P) (hn : 82 ≤ n) (hb : b ≤ 3) (hR : JR b P S) (t52 : S 52 = .inl (0, 20, .inl nw)) (hN : ∀ i, i < 20 → nw i = ra P D i) : PM (j_SL L) (j_SV xs) j_EX mm_X12_isEnd [.ref 46] S n (yn (endP P D) S n) := by
  have hH := hW.2.1
  have hR0 := hR
  obtain ⟨fs, mn, fk, fa, fn, vl, k46, f1, -⟩ := hR
  change PQ (j_SL L) (j_SV xs) j_EX mm_X12_isEnd 0 [.ref 46, pm_un, pm_un] [] S n 0 0 _
  have key : ∀ q x : Nat, x + q = pH P → ∀ a : Int32, (a = 1 ∧ ∀ y, y < x → ovr P D y) ∨ (a = 0 ∧ ¬ endP P D) → PQ (j_SL L) (j_SV xs) j_EX mm_X12_isEnd 4 [.ref 46, .int a, .int (nI x)] [] S n 0 0 (yn (endP P D) S n) := by
    intro q
    induction q with
    | zero =>
      intro x hx a ha
      refine q_iload_n rfl rfl rfl ?_
      refine q_aload_n rfl rfl rfl ?_
      refine q_getf rfl rfl (by omega) k46 f1 ?_
      refine q_icge rfl rfl (fun _ => ?_) (fun h => absurd ((m_le (by omega) (by omega)).mpr (by omega)) h)
      refine q_iload_n rfl rfl rfl ?_
      rcases ha with ⟨rfl, ha⟩ | ⟨rfl, ha⟩
      · exact q_iret rfl rfl rfl ⟨rfl, rfl, Or.inl ⟨fun y hy => ha y (by omega), rfl⟩⟩
      · exact q_iret rfl rfl rfl ⟨rfl, rfl, Or.inr ⟨ha, rfl⟩⟩
    | succ q ih =>
      intro x hxq a ha
      have hx : x < pH P := by omega
      refine q_iload_n rfl rfl rfl ?_
      refine q_aload_n rfl rfl rfl ?_
      refine q_getf rfl rfl (by omega) k46 f1 ?_
      refine q_icge rfl rfl (fun h => absurd ((m_le (by omega) (by omega)).mp h) (by omega)) (fun _ => ?_)
      have no : ¬ endP P D → PQ (j_SL L) (j_SV xs) j_EX mm_X12_isEnd 28 [.ref 46, .int a, .int (nI x)] [] S n 0 0 (yn (endP P D) S n) := by
        intro h
        refine q_iconst rfl rfl ?_
        refine q_ist1n rfl rfl rfl rfl ?_
        refine q_inc2 rfl rfl rfl rfl ?_
        refine q_goto rfl ?_
        rw [show nI x + 1 = nI (x + 1) from nI_add x 1]
        exact ih (x + 1) (by omega) 0 (Or.inr ⟨rfl, h⟩)
      refine q_iload_n rfl rfl rfl ?_
      rcases ha with ⟨rfl, ha⟩ | ⟨rfl, ha⟩
      rotate_left
      · exact q_ifeq rfl rfl (fun _ => no ha) (fun h => absurd rfl h)
      refine q_ifeq rfl rfl (fun h => absurd h (by decide)) (fun _ => ?_)
      refine q_aload_n rfl rfl rfl ?_
      refine q_iload_n rfl rfl rfl ?_
      refine q_cV rfl rfl (Or.inl rfl) rfl rfl rfl rfl (by omega) k46 trivial rfl rfl rfl rfl rfl (l_over hW hn hb hR0 t52 hN hx) ?_
      rintro r _ _ ⟨rfl, rfl, hr⟩
      rcases hr with ⟨ho, rfl⟩ | ⟨ho, rfl⟩
      · show PQ (j_SL L) (j_SV xs) j_EX mm_X12_isEnd 21 [.ref 46, .int 1, .int (nI x)] [.int 1] S n 0 0 _
        refine q_ifeq rfl rfl (fun h => absurd h (by decide)) (fun _ => ?_)
        refine q_iconst rfl rfl ?_
        refine q_goto rfl ?_
        refine q_ist1n rfl rfl rfl rfl ?_
        refine q_inc2 rfl rfl rfl rfl ?_
        refine q_goto rfl ?_
        rw [show nI x + 1 = nI (x + 1) from nI_add x 1]
        refine ih (x + 1) (by omega) 1 (Or.inl ⟨rfl, fun y hy => ?_⟩)
        by_cases e : y = x
        · rw [e]
          exact ho
        · exact ha y (by omega)
      · show PQ (j_SL L) (j_SV xs) j_EX mm_X12_isEnd 21 [.ref 46, .int 1, .int (nI x)] [.int 0] S n 0 0 _
        exact q_ifeq rfl rfl (fun _ => no (fun h => ho (h x hx))) (fun h => absurd rfl h)
  refine q_iconst rfl rfl ?_
  refine q_ist1n rfl rfl rfl rfl ?_
  refine q_iconst rfl rfl ?_
  refine q_ist2n rfl rfl rfl rfl ?_
  exact key (pH P) 0 (by omega) 1 (Or.inl ⟨rfl, fun y hy => absurd hy (by omega)⟩)
def b32 (e : Int32) (v : Nat) : Bool := e.toBitVec.getLsbD v
theorem b32_or (x y : Int32) (v : Nat) : b32 (x ||| y) v = (b32 x v || b32 y v) := by
  unfold b32
  rw [Int32.toBitVec_or, BitVec.getLsbD_or]
theorem b32_0 {v : Nat} : b32 0 v = false := by
  unfold b32
  show (0#32).getLsbD v = false
  exact BitVec.getLsbD_zero
theorem b32_sh {a v : Nat} (ha : a < 10) (hv : v < 10) : b32 ((1 : Int32) <<< (nI a &&& 31)) v = decide (v = a) := by
  have h : ∀ a v : Fin 10, b32 ((1 : Int32) <<< (nI a.val &&& 31)) v.val = decide (v.val = a.val) := by decide +kernel
  exact h ⟨a, ha⟩ ⟨v, hv⟩
/-- the ends seen among the first i states -/
def enI (P : PG) (k i p : Nat) (e : Int32) : Prop := ∀ v, v < 10 → (b32 e v = true ↔ ∃ j, j < i ∧ endP P (xS (xE P k) j) ∧ xS (xE P k) j (12 + p) = v)
def KN (P : PG) (kn so en : Nat → Int32) : Prop := ∀ k, k < 5 → kn k = 0 ∨ (xP (xE P k) = true ∧ kn k = 2) ∨ (xP (xE P k) = false ∧ kn k = 1 ∧ so k = nI (xN (xE P k)) ∧ ∀ p, p < 4 → enI P k (xN (xE P k)) p (en (4 * k + p)))
/-- the true picture gone through -/
def RT (P : PG) (S : Nat → pm_E) : Prop := ∃ st cf cb sp ct : Nat → Int32, S 55 = .inl (0, 80000, .inl st) ∧ S 56 = .inl (0, 4000, .inl cf) ∧ S 57 = .inl (0, 4000, .inl cb) ∧ S 59 = .inl (0, 12000, .inl sp) ∧ S 60 = .inl (0, 2, .inl ct) ∧ ct 0 = nI (xN (xE P 0)) ∧ (∀ j, j < xN (xE P 0) → ∀ i, i < 20 → row st 0 j i = ra P (xS (xE P 0) j) i) ∧ (∀ j, j < xN (xE P 0) → cf (2000 * 0 + j) = xF (xE P 0) j ∧ cb (2000 * 0 + j) = xB (xE P 0) j) ∧ ∀ q, q < 3 * xN (xE P 0) → sp (6000 * 0 + q) = xL (xE P 0) q
def RJ (P : PG) (S : Nat → pm_E) : Prop := (∃ vl : Nat → Int32, S 51 = .inl (0, 4, .inl vl) ∧ ∀ p, p < 4 → vl p = nI (pV P p)) ∧ ∃ kn so en : Nat → Int32, S 62 = .inl (0, 5, .inl kn) ∧ S 63 = .inl (0, 5, .inl so) ∧ S 64 = .inl (0, 20, .inl en) ∧ KN P kn so en ∧ (kn 0 ≠ 0 → xP (xE P 0) = false → RT P S)
theorem RT_of (h : ORX 0 P (xE P 0) (3 * xN (xE P 0)) S) : RT P S := by
  obtain ⟨st, cf, cb, ch, sp, ct, nt, nx, nw, hO, t52, hC, hrw, hcf, hsp, hhi⟩ := h
  obtain ⟨fs, k46, f8, f9, f11, f12, f13, f14, f15, f16, f17, k53, k55, k56, k57, k58, k59, k60, k61, hct⟩ := hO
  exact ⟨st, cf, cb, sp, ct, k55, k56, k57, k59, k60, hct, hrw, hcf, hsp⟩
theorem RT_lo (hW : WFP P) (h : RT P S) (e : loE 1 S S') : RT P S' := by
  obtain ⟨st, cf, cb, sp, ct, k55, k56, k57, k59, k60, hct, hrw, hcf, hsp⟩ := h
  have hN := (xe_wx (k := 0) hW).1.2.1
  obtain ⟨st', e55, l55⟩ := e.1 st k55
  obtain ⟨cf', e56, l56⟩ := e.2.1 cf k56
  obtain ⟨cb', e57, l57⟩ := e.2.2.1 cb k57
  obtain ⟨sp', e59, l59⟩ := e.2.2.2.2.1 sp k59
  obtain ⟨ct', e60, l60⟩ := e.2.2.2.2.2.1 ct k60
  refine ⟨st', cf', cb', sp', ct', e55, e56, e57, e59, e60, (l60 0 (by decide)).trans hct, fun j hj i hi => ?_, fun j hj => ?_, fun q hq => ?_⟩
  · exact (l55 _ (by omega)).trans (hrw j hj i hi)
  · exact ⟨(l56 _ (by omega)).trans (hcf j hj).1, (l57 _ (by omega)).trans (hcf j hj).2⟩
  · exact (l59 _ (by omega)).trans (hsp q hq)
theorem RT_same (h : RT P S) (e : ∀ k, 55 ≤ k → k ≤ 60 → S' k = S k) : RT P S' := by
  obtain ⟨st, cf, cb, sp, ct, k55, k56, k57, k59, k60, h⟩ := h
  exact ⟨st, cf, cb, sp, ct, (e 55 (by decide) (by decide)).trans k55, (e 56 (by decide) (by decide)).trans k56, (e 57 (by decide) (by decide)).trans k57, (e 59 (by decide) (by decide)).trans k59, (e 60 (by decide) (by decide)).trans k60, h⟩
/-- the reference's program, wherever its base stands; its rows -/
def JRp (P : PG) (fs : List Value) (S : Nat → pm_E) : Prop := ∃ (mn fk fa fn vl : Nat → Int32) (w z : Int32), S 46 = .inr (10, fs) ∧ fs[1]? = some (.int (nI (pH P))) ∧ fs[2]? = some (.ref 47) ∧ fs[3]? = some (.ref 48) ∧ fs[4]? = some (.ref 49) ∧ fs[5]? = some (.ref 50) ∧ fs[6]? = some (.ref 51) ∧ fs[7]? = some (.int w) ∧ fs[8]? = some (.ref 52) ∧ fs[9]? = some (.ref 53) ∧ fs[10]? = some (.ref 54) ∧ fs[11]? = some (.ref 55) ∧ fs[12]? = some (.ref 56) ∧ fs[13]? = some (.ref 57) ∧ fs[14]? = some (.ref 58) ∧ fs[15]? = some (.ref 59) ∧ fs[16]? = some (.ref 60) ∧ fs[17]? = some (.ref 61) ∧ fs[18]? = some (.int z) ∧ fs[19]? = some (.ref 62) ∧ fs[20]? = some (.ref 63) ∧ fs[21]? = some (.ref 64) ∧ S 47 = .inl (0, 6, .inl mn) ∧ S 48 = .inl (0, 48, .inl fk) ∧ S 49 = .inl (0, 48, .inl fa) ∧ S 50 = .inl (0, 48, .inl fn) ∧ S 51 = .inl (0, 4, .inl vl) ∧ (∀ x, x < pH P → mn (0 + x) = nI (pL P x)) ∧ (∀ x i, x < pH P → i < pL P x → fk (8 * (0 + x) + i) = nI (pK P x i) ∧ fa (8 * (0 + x) + i) = pO P x i ∧ fn (8 * (0 + x) + i) = pN P x i) ∧ ∀ p, p < 4 → vl p = nI (pV P p)
/-- the rows of the search are there -/
def RWs (R : Nat) (S : Nat → pm_E) : Prop := ∃ (N : Nat) (st cf cb ch sp ct nt nx nw : Nat → Int32), S 52 = .inl (0, 20, .inl nw) ∧ S 53 = .inl (0, 20, .inl nx) ∧ S 55 = .inl (0, 80000, .inl st) ∧ S 56 = .inl (0, 4000, .inl cf) ∧ S 57 = .inl (0, 4000, .inl cb) ∧ S 58 = .inl (0, 4000, .inl ch) ∧ S 59 = .inl (0, 12000, .inl sp) ∧ S 60 = .inl (0, 2, .inl ct) ∧ S 61 = .inl (0, 16384, .inl nt) ∧ ct R = nI N
def frR (S S' : Nat → pm_E) : Prop := ∀ k, k ≠ 46 → k ≠ 52 → k ≠ 53 → (k < 55 ∨ 64 < k) → S' k = S k
noncomputable def spR (P : PG) (k : Nat) : Int32 := match xP (xE P k) with
  | true => 1
  | false => 0
theorem spR_t (h : xP (xE P k) = true) : spR P k = 1 := by
  unfold spR
  rw [h]
theorem spR_f (h : xP (xE P k) = false) : spR P k = 0 := by
  unfold spR
  rw [h]
def spK (P : PG) (k : Nat) (fs : List Value) (S : Nat → pm_E) (n : Nat) : q_K := fun r S' n' => n = n' ∧ r = some (.int (spR P k)) ∧ RJ P S' ∧ frR S S' ∧ (∃ z : Int32, S' 46 = .inr (10, (fs.set 7 (.int 0)).set 18 (.int z))) ∧ ∃ kn' : Nat → Int32, S' 62 = .inl (0, 5, .inl kn') ∧ kn' k ≠ 0
set_option maxHeartbeats 8000000 in
/-- the ends of a picture gone through: from pc 94 on -/
theorem l_ends {T0 : Nat → pm_E} {ens : Nat → Int32} {w : Value} {K : q_K} (hW : WFP P) (hn : 82 ≤ n) (hk : k < 5) (hR : R ≤ 1) (hJ : JR 0 P T0) (h46 : T0 46 = .inr (10, fs)) (f21 : fs[21]? = some (.ref 64)) (h64 : T0 64 = .inl (0, 20, .inl ens)) (hX : ORX R P (xE P k) 0 T0) (hw : pm_c2 w = false)
    (hK : ∀ (T : Nat → pm_E) (en : Nat → Int32) (w3 w4 : Value), pm_c2 w3 = false → (∀ j, j ≠ 52 → j ≠ 64 → T j = T0 j) → T 64 = .inl (0, 20, .inl en) → (∀ q, q < 4 * k ∨ 4 * k + 4 ≤ q → en q = ens q) → (∀ p, p < 4 → enI P k (xN (xE P k)) p (en (4 * k + p))) → PQ (j_SL L) (j_SV xs) j_EX mm_X12_isSpent 191 [.ref 46, .int (nI k), .int (nI R), w3, w4] [] T n 0 0 K) : PQ (j_SL L) (j_SV xs) j_EX mm_X12_isSpent 92 [.ref 46, .int (nI k), .int (nI R), w, pm_un] [] T0 n 0 0 K := by
  have hH := hW.2.1
  have hN2 := (xe_wx (k := k) hW).1.2.1
  obtain ⟨st, cf, cb, ch, sp, ct, nt, nx, nw, hO, t52, hC, hrw, hcf, hsp, hhi⟩ := hX
  obtain ⟨fs0, k46, f8, f9, f11, f12, f13, f14, f15, f16, f17, k53, k55, k56, k57, k58, k59, k60, k61, hct⟩ := id hO
  have efs : fs = fs0 := by
    rw [k46] at h46
    cases h46
    rfl
  subst efs
  have loop : ∀ q i : Nat, i + q = xN (xE P k) → ∀ (T : Nat → pm_E) (en : Nat → Int32) (nw : Nat → Int32) (w4 : Value), (∀ j, j ≠ 52 → j ≠ 64 → T j = T0 j) → T 52 = .inl (0, 20, .inl nw) → T 64 = .inl (0, 20, .inl en) → (∀ q, q < 4 * k ∨ 4 * k + 4 ≤ q → en q = ens q) → (∀ p, p < 4 → enI P k i p (en (4 * k + p))) → PQ (j_SL L) (j_SV xs) j_EX mm_X12_isSpent 118 [.ref 46, .int (nI k), .int (nI R), .int (nI i), w4] [] T n 0 0 K := by
    intro q
    induction q with
    | zero =>
      intro i hi T en nw w4 eT t52 t64 he hE
      have e : i = xN (xE P k) := by omega
      subst e
      refine q_iload_n rfl rfl rfl ?_
      refine q_aload_n rfl rfl rfl ?_
      refine q_getf rfl rfl (by omega) ((eT 46 (by decide) (by decide)).trans k46) f16 ?_
      refine q_iload_n rfl rfl rfl ?_
      refine q_iald rfl rfl (by omega) ((eT 60 (by decide) (by decide)).trans k60) (q_inN (by omega) (by decide)) (q_tn (z := nI (xN (xE P k))) (by rw [nI_clamp (by omega)]; exact hct) ?_)
      exact q_icge rfl rfl (fun _ => hK T en _ w4 rfl eT t64 he hE) (fun h => absurd ((m_le (by omega) (by omega)).mpr (by omega)) h)
    | succ q ih =>
      intro i hiq T en nw w4 eT t52 t64 he hE
      have hi : i < xN (xE P k) := by omega
      have q46 := (eT 46 (by decide) (by decide)).trans k46
      refine q_iload_n rfl rfl rfl ?_
      refine q_aload_n rfl rfl rfl ?_
      refine q_getf rfl rfl (by omega) q46 f16 ?_
      refine q_iload_n rfl rfl rfl ?_
      refine q_iald rfl rfl (by omega) ((eT 60 (by decide) (by decide)).trans k60) (q_inN (by omega) (by decide)) (q_tn (z := nI (xN (xE P k))) (by rw [nI_clamp (by omega)]; exact hct) ?_)
      refine q_icge rfl rfl (fun h => absurd ((m_le (by omega) (by omega)).mp h) (by omega)) (fun _ => ?_)
      have hOT : ORo R (xN (xE P k)) st cf cb ch sp ct nt nx T := or_fr hO (eT 46 (by decide) (by decide)) (eT 53 (by decide) (by decide)) (fun j h1 h2 => eT j (by omega) (by omega))
      refine q_aload_n rfl rfl rfl ?_
      refine q_iload_n rfl rfl rfl ?_
      refine q_iload_n rfl rfl rfl ?_
      refine q_cV rfl rfl (Or.inl rfl) rfl rfl rfl rfl (by omega) q46 trivial rfl rfl rfl rfl rfl (r_stand hn hR (by omega) hOT t52) ?_
      rintro r T1 n9 ⟨rfl, rfl, e1, nw1, u52, hnw⟩
      show PQ (j_SL L) (j_SV xs) j_EX mm_X12_isSpent 134 [.ref 46, .int (nI k), .int (nI R), .int (nI i), w4] [] T1 n 0 0 _
      have eT1 : ∀ j, j ≠ 52 → j ≠ 64 → T1 j = T0 j := fun j h1 h2 => (e1 j h1).trans (eT j h1 h2)
      have u64 := (e1 64 (by decide)).trans t64
      have u46 := (eT1 46 (by decide) (by decide)).trans k46
      have hNw : ∀ j, j < 20 → nw1 j = ra P (xS (xE P k) i) j := fun j hj => (hnw j hj).trans (hrw i hi j hj)
      have hJ1 : JR 0 P T1 := JR_same hJ (fun j h1 h2 => eT1 j (by omega) (by omega))
      have hD := (xe_wx (k := k) hW).1.2.2.1 i hi
      have nxt : ∀ (U : Nat → pm_E) (en' nw' : Nat → Int32) (w4 : Value), (∀ j, j ≠ 52 → j ≠ 64 → U j = T0 j) → U 52 = .inl (0, 20, .inl nw') → U 64 = .inl (0, 20, .inl en') → (∀ q, q < 4 * k ∨ 4 * k + 4 ≤ q → en' q = ens q) → (∀ p, p < 4 → enI P k (i + 1) p (en' (4 * k + p))) → PQ (j_SL L) (j_SV xs) j_EX mm_X12_isSpent 185 [.ref 46, .int (nI k), .int (nI R), .int (nI i), w4] [] U n 0 0 K := by
        intro U en' nw' w4 eU u52 u64 he' hE'
        refine q_inc3 rfl rfl rfl rfl ?_
        refine q_goto rfl ?_
        rw [show nI i + 1 = nI (i + 1) from nI_add i 1]
        exact ih (i + 1) (by omega) U en' nw' w4 eU u52 u64 he' hE'
      refine q_aload_n rfl rfl rfl ?_
      refine q_cV rfl rfl (Or.inl rfl) rfl rfl rfl rfl (by omega) u46 trivial rfl rfl rfl rfl rfl (l_isend hW hn (by decide) hJ1 u52 hNw) ?_
      rintro r _ _ ⟨rfl, rfl, hr⟩
      rcases hr with ⟨hend, rfl⟩ | ⟨hend, rfl⟩
      rotate_left
      · show PQ (j_SL L) (j_SV xs) j_EX mm_X12_isSpent 138 [.ref 46, .int (nI k), .int (nI R), .int (nI i), w4] [.int 0] T1 n 0 0 _
        refine q_ifne rfl rfl (fun _ => ?_) (fun h => absurd rfl h)
        refine q_goto rfl ?_
        refine nxt T1 en nw1 w4 eT1 u52 u64 he (fun p hp v hv => ?_)
        rw [hE p hp v hv]
        constructor
        · rintro ⟨j, h1, h2⟩
          exact ⟨j, by omega, h2⟩
        · rintro ⟨j, h1, h2, h3⟩
          refine ⟨j, ?_, h2, h3⟩
          by_cases e : j = i
          · rw [e] at h2
            exact absurd h2 hend
          · omega
      show PQ (j_SL L) (j_SV xs) j_EX mm_X12_isSpent 138 [.ref 46, .int (nI k), .int (nI R), .int (nI i), w4] [.int 1] T1 n 0 0 _
      refine q_ifne rfl rfl (fun h => absurd h (by decide)) (fun _ => ?_)
      have inner : ∀ d p : Nat, p + d = 4 → ∀ (U : Nat → pm_E) (en' : Nat → Int32), (∀ j, j ≠ 64 → U j = T1 j) → U 64 = .inl (0, 20, .inl en') → (∀ q, q < 4 * k ∨ 4 * k + 4 ≤ q → en' q = ens q) → (∀ p', p' < p → enI P k (i + 1) p' (en' (4 * k + p'))) → (∀ p', p ≤ p' → p' < 4 → enI P k i p' (en' (4 * k + p'))) → PQ (j_SL L) (j_SV xs) j_EX mm_X12_isSpent 147 [.ref 46, .int (nI k), .int (nI R), .int (nI i), .int (nI p)] [] U n 0 0 K := by
        intro d
        induction d with
        | zero =>
          intro p hp U en' eU v64 he' hlo hhi'
          have e : p = 4 := by omega
          subst e
          refine q_iload rfl rfl rfl ?_
          refine q_iconst rfl rfl ?_
          refine q_icge rfl rfl (fun _ => ?_) (fun h => absurd (by decide) h)
          exact nxt U en' nw1 _ (fun j h1 h2 => (eU j h2).trans (eT1 j h1 h2)) ((eU 52 (by decide)).trans u52) v64 he' hlo
        | succ d ihd =>
          intro p hpd U en' eU v64 he' hlo hhi'
          have hp : p < 4 := by omega
          have v46 := (eU 46 (by decide)).trans u46
          have h9 := hD.2.2.1 p hp
          refine q_iload rfl rfl rfl ?_
          refine q_iconst rfl rfl ?_
          refine q_icge rfl rfl (fun h => absurd h (nI_ge (a := p) (b := 4) hp (by decide))) (fun _ => ?_)
          refine q_aload_n rfl rfl rfl ?_
          refine q_getf rfl rfl (by omega) v46 f21 ?_
          refine q_iconst rfl rfl ?_
          refine q_iload_n rfl rfl rfl ?_
          refine q_imul rfl rfl (q_tn (z := nI (4 * k)) (by rw [show (4 : Int32) = nI 4 from rfl, pk_mul]) ?_)
          refine q_iload rfl rfl rfl ?_
          refine q_iadd rfl rfl (q_tn (z := nI (4 * k + p)) (nI_add _ _) ?_)
          refine q_dup2 rfl rfl ?_
          refine q_iald rfl rfl (by omega) v64 (q_inN (by omega) (by decide)) (q_tn (z := en' (4 * k + p)) (by rw [nI_clamp (by omega)]) ?_)
          refine q_iconst rfl rfl ?_
          refine q_aload_n rfl rfl rfl ?_
          refine q_getf rfl rfl (by omega) v46 f8 ?_
          refine q_bipush rfl rfl ?_
          refine q_iload rfl rfl rfl ?_
          refine q_iadd rfl rfl (q_tn (z := nI (12 + p)) (nI_add 12 p) ?_)
          refine q_iald rfl rfl (by omega) ((eU 52 (by decide)).trans u52) (q_inN (by omega) (by decide)) (q_tn (z := nI (xS (xE P k) i (12 + p))) (by rw [nI_clamp (by omega), hNw _ (by omega)]; exact ra_h hH (by omega)) ?_)
          refine q_ishl rfl rfl ?_
          refine q_ior rfl rfl ?_
          refine q_iast rfl rfl (by omega) v64 (q_inN (by omega) (by decide)) ?_
          rw [nI_clamp (by omega)]
          refine q_inc4 rfl rfl rfl rfl ?_
          refine q_goto rfl ?_
          rw [show nI p + 1 = nI (p + 1) from nI_add p 1]
          refine ihd (p + 1) (by omega) _ _ (fun j hj => (u_ne hj).trans (eU j hj)) u_eq (fun q hq => (u32_ot (by omega)).trans (he' q hq)) (fun p' hp' => ?_) (fun p' h1 h2 => ?_)
          · by_cases e : p' = p
            · rw [e, u32_at]
              intro v hv
              rw [b32_or, Bool.or_eq_true, hhi' p (Nat.le_refl p) hp v hv, b32_sh (by omega) hv, decide_eq_true_eq]
              constructor
              · rintro (⟨j, g1, g2⟩ | g)
                · exact ⟨j, by omega, g2⟩
                · exact ⟨i, by omega, hend, g.symm⟩
              · rintro ⟨j, g1, g2, g3⟩
                by_cases ej : j = i
                · rw [ej] at g3
                  exact Or.inr g3.symm
                · exact Or.inl ⟨j, by omega, g2, g3⟩
            · rw [u32_ot (by omega)]
              exact hlo p' (by omega)
          · rw [u32_ot (by omega)]
            exact hhi' p' (by omega) h2
      refine q_iconst rfl rfl ?_
      refine q_ist4 rfl rfl rfl rfl ?_
      exact inner 4 0 rfl T1 en (fun _ _ => rfl) u64 he (fun p' h => absurd h (by omega)) (fun p' _ h => hE p' h)
  have zero : ∀ d p : Nat, p + d = 4 → ∀ (U : Nat → pm_E) (en' : Nat → Int32), (∀ j, j ≠ 64 → U j = T0 j) → U 64 = .inl (0, 20, .inl en') → (∀ q, q < 4 * k ∨ 4 * k + 4 ≤ q → en' q = ens q) → (∀ p', p' < p → en' (4 * k + p') = 0) → PQ (j_SL L) (j_SV xs) j_EX mm_X12_isSpent 94 [.ref 46, .int (nI k), .int (nI R), .int (nI p), pm_un] [] U n 0 0 K := by
    intro d
    induction d with
    | zero =>
      intro p hp U en' eU v64 he' hz
      have e : p = 4 := by omega
      subst e
      refine q_iload_n rfl rfl rfl ?_
      refine q_iconst rfl rfl ?_
      refine q_icge rfl rfl (fun _ => ?_) (fun h => absurd (by decide) h)
      refine q_iconst rfl rfl ?_
      refine q_ist3n rfl rfl rfl rfl ?_
      refine loop (xN (xE P k)) 0 (by omega) U en' nw _ (fun j h1 h2 => eU j h2) ((eU 52 (by decide)).trans t52) v64 he' (fun p hp v hv => ?_)
      rw [hz p hp]
      constructor
      · intro h
        rw [b32_0] at h
        cases h
      · rintro ⟨j, h, -⟩
        omega
    | succ d ihd =>
      intro p hpd U en' eU v64 he' hz
      have hp : p < 4 := by omega
      have v46 := (eU 46 (by decide)).trans k46
      refine q_iload_n rfl rfl rfl ?_
      refine q_iconst rfl rfl ?_
      refine q_icge rfl rfl (fun h => absurd h (nI_ge (a := p) (b := 4) hp (by decide))) (fun _ => ?_)
      refine q_aload_n rfl rfl rfl ?_
      refine q_getf rfl rfl (by omega) v46 f21 ?_
      refine q_iconst rfl rfl ?_
      refine q_iload_n rfl rfl rfl ?_
      refine q_imul rfl rfl (q_tn (z := nI (4 * k)) (by rw [show (4 : Int32) = nI 4 from rfl, pk_mul]) ?_)
      refine q_iload_n rfl rfl rfl ?_
      refine q_iadd rfl rfl (q_tn (z := nI (4 * k + p)) (nI_add _ _) ?_)
      refine q_iconst rfl rfl ?_
      refine q_iast rfl rfl (by omega) v64 (q_inN (by omega) (by decide)) ?_
      rw [nI_clamp (by omega)]
      refine q_inc3 rfl rfl rfl rfl ?_
      refine q_goto rfl ?_
      rw [show nI p + 1 = nI (p + 1) from nI_add p 1]
      refine ihd (p + 1) (by omega) _ _ (fun j hj => (u_ne hj).trans (eU j hj)) u_eq (fun q hq => (u32_ot (by omega)).trans (he' q hq)) (fun p' hp' => ?_)
      by_cases e : p' = p
      · rw [e, u32_at]
      · rw [u32_ot (by omega)]
        exact hz p' (by omega)
  refine q_iconst rfl rfl ?_
  refine q_ist3n rfl rfl rfl rfl ?_
  exact zero 4 0 rfl T0 ens (fun _ _ => rfl) h64 (fun _ _ => rfl) (fun p' h => absurd h (by omega))
set_option maxHeartbeats 8000000 in
theorem l_spent (hW : WFP P) (hn : 82 ≤ n) (hk : k < 5) (hp : JRp P fs S) (hw : RWs (if k = 0 then 0 else 1) S) (hJ : RJ P S) : PM (j_SL L) (j_SV xs) j_EX mm_X12_isSpent [.ref 46, .int (nI k)] S n (spK P k fs S n) := by
  obtain ⟨mn, fk, fa, fn, vl, w, z, k46, f1, f2, f3, f4, f5, f6, f7, f8, f9, f10, f11, f12, f13, f14, f15, f16, f17, f18, f19, f20, f21, k47, k48, k49, k50, k51, hmn, hpr, hvl⟩ := hp
  have hJ0 := hJ
  obtain ⟨hV, kn, so, en, k62, k63, k64, hK, hRT⟩ := hJ
  change PQ (j_SL L) (j_SV xs) j_EX mm_X12_isSpent 0 [.ref 46, .int (nI k), pm_un, pm_un, pm_un] [] S n 0 0 _
  have main : ∀ R : Nat, (R = 0 ∧ k = 0) ∨ (R = 1 ∧ k ≠ 0) → RWs R S → PQ (j_SL L) (j_SV xs) j_EX mm_X12_isSpent 10 [.ref 46, .int (nI k), .int (nI R), pm_un, pm_un] [] S n 0 0 (spK P k fs S n) := by
    intro R hRk hw
    have hR : R ≤ 1 := by omega
    obtain ⟨N, st, cf, cb, ch, sp, ct, nt, nx, nw, t52, t53, t55, t56, t57, t58, t59, t60, t61, hct⟩ := hw
    refine q_aload_n rfl rfl rfl ?_
    refine q_iconst rfl rfl ?_
    refine q_putf rfl rfl (by omega) k46 (os_len f7) rfl trivial ?_
    have e1 : ∀ j, j ≠ 46 → va_up S 46 (.inr (10, fs.set 7 (.int 0))) j = S j := fun j hj => u_ne hj
    have x46 : va_up S 46 (.inr (10, fs.set 7 (.int 0))) 46 = .inr (10, fs.set 7 (.int 0)) := u_eq
    generalize va_up S 46 (.inr (10, fs.set 7 (.int 0))) = S1 at e1 x46 ⊢
    have g7 := os_at (v := .int 0) f7
    have gi : ∀ j, j ≠ 7 → (fs.set 7 (.int 0))[j]? = fs[j]? := fun j hj => os_ne (fun h => hj h.symm)
    generalize hgs : fs.set 7 (.int 0) = gs at x46 g7 gi ⊢
    have hJ1 : JR 0 P S1 := ⟨gs, mn, fk, fa, fn, vl, x46, (gi 1 (by decide)).trans f1, (gi 2 (by decide)).trans f2, (gi 3 (by decide)).trans f3, (gi 4 (by decide)).trans f4, (gi 5 (by decide)).trans f5, (gi 6 (by decide)).trans f6, g7, (gi 8 (by decide)).trans f8, (gi 9 (by decide)).trans f9, (gi 10 (by decide)).trans f10, (e1 47 (by decide)).trans k47, (e1 48 (by decide)).trans k48, (e1 49 (by decide)).trans k49, (e1 50 (by decide)).trans k50, (e1 51 (by decide)).trans k51, hmn, hpr, hvl⟩
    have gz : gs.set 18 (.int z) = gs := by
      apply List.ext_getElem?
      intro j
      by_cases e : j = 18
      · subst e
        rw [os_at ((gi 18 (by decide)).trans f18), (gi 18 (by decide)).trans f18]
      · exact os_ne (fun h => e h.symm)
    have y62 := (e1 62 (by decide)).trans k62
    refine q_aload_n rfl rfl rfl ?_
    refine q_getf rfl rfl (by omega) x46 ((gi 19 (by decide)).trans f19) ?_
    refine q_iload_n rfl rfl rfl ?_
    refine q_iald rfl rfl (by omega) y62 (q_inN (by omega) (by decide)) (q_tn (z := kn k) (by rw [nI_clamp (by omega)]) ?_)
    have there : kn k ≠ 0 → PQ (j_SL L) (j_SV xs) j_EX mm_X12_isSpent 35 [.ref 46, .int (nI k), .int (nI R), pm_un, pm_un] [] S1 n 0 0 (spK P k fs S n) := by
      intro hz
      refine q_aload_n rfl rfl rfl ?_
      refine q_getf rfl rfl (by omega) x46 ((gi 19 (by decide)).trans f19) ?_
      refine q_iload_n rfl rfl rfl ?_
      refine q_iald rfl rfl (by omega) y62 (q_inN (by omega) (by decide)) (q_tn (z := kn k) (by rw [nI_clamp (by omega)]) ?_)
      refine q_iconst rfl rfl ?_
      have post : spK P k fs S n (some (.int (spR P k))) S1 n := ⟨rfl, rfl, ⟨by
        obtain ⟨vl, h1, h2⟩ := hV
        exact ⟨vl, (e1 51 (by decide)).trans h1, h2⟩, kn, so, en, y62, (e1 63 (by decide)).trans k63, (e1 64 (by decide)).trans k64, hK, fun h1 h2 => RT_same (hRT h1 h2) (fun j h3 h4 => e1 j (by omega))⟩, fun j h1 h2 h3 h4 => e1 j h1, ⟨z, by rw [hgs, gz]; exact x46⟩, kn, y62, hz⟩
      rcases (hK k hk).resolve_left hz with ⟨h1, h2⟩ | ⟨h1, h2, -⟩
      · rw [spR_t h1] at post
        rw [h2]
        refine q_icne rfl rfl (fun _ => ?_) (fun h => absurd rfl h)
        refine q_iconst rfl rfl ?_
        refine q_goto rfl ?_
        exact q_iret rfl rfl rfl post
      · rw [spR_f h1] at post
        rw [h2]
        refine q_icne rfl rfl (fun h => absurd h (by decide)) (fun _ => ?_)
        refine q_iconst rfl rfl ?_
        exact q_iret rfl rfl rfl post
    have anew : PQ (j_SL L) (j_SV xs) j_EX mm_X12_isSpent 51 [.ref 46, .int (nI k), .int (nI R), pm_un, pm_un] [] S1 n 0 0 (spK P k fs S n) := by
      have hO1 : ORo R N st cf cb ch sp ct nt nx S1 := ⟨gs, x46, (gi 8 (by decide)).trans f8, (gi 9 (by decide)).trans f9, (gi 11 (by decide)).trans f11, (gi 12 (by decide)).trans f12, (gi 13 (by decide)).trans f13, (gi 14 (by decide)).trans f14, (gi 15 (by decide)).trans f15, (gi 16 (by decide)).trans f16, (gi 17 (by decide)).trans f17, (e1 53 (by decide)).trans t53, (e1 55 (by decide)).trans t55, (e1 56 (by decide)).trans t56, (e1 57 (by decide)).trans t57, (e1 58 (by decide)).trans t58, (e1 59 (by decide)).trans t59, (e1 60 (by decide)).trans t60, (e1 61 (by decide)).trans t61, hct⟩
      refine q_aload_n rfl rfl rfl ?_
      refine q_getf rfl rfl (by omega) x46 ((gi 19 (by decide)).trans f19) ?_
      refine q_iload_n rfl rfl rfl ?_
      refine q_aload_n rfl rfl rfl ?_
      refine q_iload_n rfl rfl rfl ?_
      refine q_iload_n rfl rfl rfl ?_
      refine q_cV rfl rfl (Or.inl rfl) rfl rfl rfl rfl (by omega) x46 trivial rfl rfl rfl rfl rfl (r_expl hW hn (by decide) hR hk hJ1 hO1 ((e1 52 (by decide)).trans t52)) ?_
      rintro r T n9 ⟨rfl, eT, lT, hr⟩
      have eT' : ∀ j, j ≠ 52 → j ≠ 53 → (j < 55 ∨ 61 < j) → T j = S1 j := fun j h1 h2 h3 => eT j h1 h2 (by omega) (by omega) (by omega) (by omega) (by omega) (by omega) (by omega)
      have a46 := (eT' 46 (by decide) (by decide) (by omega)).trans x46
      have a62 := (eT' 62 (by decide) (by decide) (by omega)).trans y62
      have on : ∀ v : Int32, (xP (xE P k) = true ∧ v = 2) ∨ (xP (xE P k) = false ∧ v = 1) → ORX R P (xE P k) 0 T → (xP (xE P k) = false → ORX R P (xE P k) (3 * xN (xE P k)) T) → PQ (j_SL L) (j_SV xs) j_EX mm_X12_isSpent 70 [.ref 46, .int (nI k), .int (nI R), pm_un, pm_un] [.int v, .int (nI k), .ref 62] T n 0 0 (spK P k fs S n) := by
        intro v hv hX0 hXf
        refine q_iast rfl rfl (by omega) a62 (q_inN (by omega) (by decide)) ?_
        rw [nI_clamp (by omega)]
        have e2 : ∀ j, j ≠ 62 → va_up T 62 (.inl (0, 5, .inl (upd kn k v))) j = T j := fun j hj => u_ne hj
        have b62 : va_up T 62 (.inl (0, 5, .inl (upd kn k v))) 62 = .inl (0, 5, .inl (upd kn k v)) := u_eq
        generalize va_up T 62 (.inl (0, 5, .inl (upd kn k v))) = T2 at e2 b62 ⊢
        have b46 := (e2 46 (by decide)).trans a46
        have next : ∀ (T3 : Nat → pm_E) (z' : Int32), (∀ j, j ≠ 46 → T3 j = T2 j) → T3 46 = .inr (10, gs.set 18 (.int z')) → PQ (j_SL L) (j_SV xs) j_EX mm_X12_isSpent 80 [.ref 46, .int (nI k), .int (nI R), pm_un, pm_un] [] T3 n 0 0 (spK P k fs S n) := by
          intro T3 z' e3 c46
          have hi : ∀ j, j ≠ 7 → j ≠ 18 → (gs.set 18 (.int z'))[j]? = fs[j]? := fun j h1 h2 => (os_ne (fun h => h2 h.symm)).trans (gi j h1)
          have h7 : (gs.set 18 (.int z'))[7]? = some (.int 0) := (os_ne (by decide)).trans g7
          have e31 : ∀ j, j ≠ 46 → j ≠ 52 → j ≠ 53 → (j < 55 ∨ 62 < j) → T3 j = S j := fun j h1 h2 h3 h4 => (e3 j h1).trans ((e2 j (by omega)).trans ((eT' j h2 h3 (by omega)).trans (e1 j h1)))
          have hX3 : ORX R P (xE P k) 0 T3 := by
            obtain ⟨st, cf, cb, ch, sp, ct, nt, nx, nw, hO, t52, hC, hrw, hcf, hsp, hhi⟩ := hX0
            obtain ⟨fs0, q46, -, -, -, -, -, -, -, -, -, q53, q55, q56, q57, q58, q59, q60, q61, qct⟩ := hO
            have f3 : ∀ j, j ≠ 46 → j ≠ 62 → T3 j = T j := fun j h1 h2 => (e3 j h1).trans (e2 j h2)
            exact ⟨st, cf, cb, ch, sp, ct, nt, nx, nw, ⟨_, c46, (hi 8 (by decide) (by decide)).trans f8, (hi 9 (by decide) (by decide)).trans f9, (hi 11 (by decide) (by decide)).trans f11, (hi 12 (by decide) (by decide)).trans f12, (hi 13 (by decide) (by decide)).trans f13, (hi 14 (by decide) (by decide)).trans f14, (hi 15 (by decide) (by decide)).trans f15, (hi 16 (by decide) (by decide)).trans f16, (hi 17 (by decide) (by decide)).trans f17, (f3 53 (by decide) (by decide)).trans q53, (f3 55 (by decide) (by decide)).trans q55, (f3 56 (by decide) (by decide)).trans q56, (f3 57 (by decide) (by decide)).trans q57, (f3 58 (by decide) (by decide)).trans q58, (f3 59 (by decide) (by decide)).trans q59, (f3 60 (by decide) (by decide)).trans q60, (f3 61 (by decide) (by decide)).trans q61, qct⟩, (f3 52 (by decide) (by decide)).trans t52, hC, hrw, hcf, hsp, hhi⟩
          have hX3' := hX3
          obtain ⟨st3, cf3, cb3, ch3, sp3, ct3, nt3, nx3, nw3, hO3, w52, -⟩ := hX3'
          obtain ⟨fs9, s46, -, -, -, -, -, -, -, -, -, s53, s55, s56, s57, s58, s59, s60, s61, sct⟩ := hO3
          have hNb := (xe_wx (k := k) hW).1.2.1
          refine q_aload_n rfl rfl rfl ?_
          refine q_getf rfl rfl (by omega) c46 ((hi 20 (by decide) (by decide)).trans f20) ?_
          refine q_iload_n rfl rfl rfl ?_
          refine q_aload_n rfl rfl rfl ?_
          refine q_getf rfl rfl (by omega) c46 ((hi 16 (by decide) (by decide)).trans f16) ?_
          refine q_iload_n rfl rfl rfl ?_
          refine q_iald rfl rfl (by omega) s60 (q_inN (by omega) (by decide)) (q_tn (z := nI (xN (xE P k))) (by rw [nI_clamp (by omega)]; exact sct) ?_)
          refine q_iast rfl rfl (by omega) ((e31 63 (by decide) (by decide) (by decide) (by omega)).trans k63) (q_inN (by omega) (by decide)) ?_
          rw [nI_clamp (by omega)]
          have e4 : ∀ j, j ≠ 63 → va_up T3 63 (.inl (0, 5, .inl (upd so k (nI (xN (xE P k)))))) j = T3 j := fun j hj => u_ne hj
          have d63 : va_up T3 63 (.inl (0, 5, .inl (upd so k (nI (xN (xE P k)))))) 63 = .inl (0, 5, .inl (upd so k (nI (xN (xE P k))))) := u_eq
          generalize va_up T3 63 (.inl (0, 5, .inl (upd so k (nI (xN (xE P k)))))) = T4 at e4 d63 ⊢
          have d46 := (e4 46 (by decide)).trans c46
          have e41 : ∀ j, j ≠ 46 → j ≠ 52 → j ≠ 53 → (j < 55 ∨ 63 < j) → T4 j = S j := fun j h1 h2 h3 h4 => (e4 j (by omega)).trans (e31 j h1 h2 h3 (by omega))
          have hJ4 : JR 0 P T4 := ⟨_, mn, fk, fa, fn, vl, d46, (hi 1 (by decide) (by decide)).trans f1, (hi 2 (by decide) (by decide)).trans f2, (hi 3 (by decide) (by decide)).trans f3, (hi 4 (by decide) (by decide)).trans f4, (hi 5 (by decide) (by decide)).trans f5, (hi 6 (by decide) (by decide)).trans f6, h7, (hi 8 (by decide) (by decide)).trans f8, (hi 9 (by decide) (by decide)).trans f9, (hi 10 (by decide) (by decide)).trans f10, (e41 47 (by decide) (by decide) (by decide) (by omega)).trans k47, (e41 48 (by decide) (by decide) (by decide) (by omega)).trans k48, (e41 49 (by decide) (by decide) (by decide) (by omega)).trans k49, (e41 50 (by decide) (by decide) (by decide) (by omega)).trans k50, (e41 51 (by decide) (by decide) (by decide) (by omega)).trans k51, hmn, hpr, hvl⟩
          have hX4 : ORX R P (xE P k) 0 T4 := by
            obtain ⟨st, cf, cb, ch, sp, ct, nt, nx, nw, hO, t52, h9⟩ := hX3
            exact ⟨st, cf, cb, ch, sp, ct, nt, nx, nw, or_fr hO (e4 46 (by decide)) (e4 53 (by decide)) (fun j h1 h2 => e4 j (by omega)), (e4 52 (by decide)).trans t52, h9⟩
          refine l_ends hW hn hk hR hJ4 d46 ((hi 21 (by decide) (by decide)).trans f21) ((e41 64 (by decide) (by decide) (by decide) (by omega)).trans k64) hX4 rfl (fun T5 en5 w3 w4 hw3 e5 t64 he5 hE5 => ?_)
          have g62 : T5 62 = .inl (0, 5, .inl (upd kn k v)) := (e5 62 (by decide) (by decide)).trans ((e4 62 (by decide)).trans ((e3 62 (by decide)).trans b62))
          have g46 := (e5 46 (by decide) (by decide)).trans d46
          have hv0 : v ≠ 0 := by
            rcases hv with ⟨-, rfl⟩ | ⟨-, rfl⟩ <;> decide
          have hRJ : RJ P T5 := by
            refine ⟨?_, upd kn k v, upd so k (nI (xN (xE P k))), en5, g62, (e5 63 (by decide) (by decide)).trans d63, t64, fun k' hk' => ?_, fun h1 h2 => ?_⟩
            · obtain ⟨vl, h1, h2⟩ := hV
              exact ⟨vl, (e5 51 (by decide) (by decide)).trans ((e41 51 (by decide) (by decide) (by decide) (by omega)).trans h1), h2⟩
            · by_cases e : k' = k
              · rw [e, u32_at, u32_at]
                rcases hv with ⟨h1, h2⟩ | ⟨h1, h2⟩
                · exact Or.inr (Or.inl ⟨h1, h2⟩)
                · exact Or.inr (Or.inr ⟨h1, h2, rfl, hE5⟩)
              · rw [u32_ot e, u32_ot e]
                rcases hK k' hk' with h | h | ⟨h1, h2, h3, h4⟩
                · exact Or.inl h
                · exact Or.inr (Or.inl h)
                · refine Or.inr (Or.inr ⟨h1, h2, h3, fun p hp => ?_⟩)
                  rw [he5 (4 * k' + p) (by omega)]
                  exact h4 p hp
            · have e5T : ∀ j, 55 ≤ j → j ≤ 60 → T5 j = T j := fun j h3 h4 => (e5 j (by omega) (by omega)).trans ((e4 j (by omega)).trans ((e3 j (by omega)).trans (e2 j (by omega))))
              rcases hRk with ⟨r0, k0⟩ | ⟨r1, k1⟩
              · have hXf' := hXf (by rw [k0]; exact h2)
                rw [r0, k0] at hXf'
                exact RT_same (RT_of hXf') e5T
              · rw [u32_ot (fun h => k1 h.symm)] at h1
                rw [r1] at lT
                exact RT_same (RT_lo hW (RT_same (hRT h1 h2) (fun j h3 h4 => e1 j (by omega))) lT) e5T
          have post : spK P k fs S n (some (.int (spR P k))) T5 n := ⟨rfl, rfl, hRJ, fun j h1 h2 h3 h4 => (e5 j h2 (by omega)).trans (e41 j h1 h2 h3 (by omega)), ⟨z', by rw [hgs]; exact g46⟩, _, g62, by rw [u32_at]; exact hv0⟩
          refine q_aload_n rfl rfl rfl ?_
          refine q_getf rfl rfl (by omega) g46 ((hi 19 (by decide) (by decide)).trans f19) ?_
          refine q_iload_n rfl rfl rfl ?_
          refine q_iald rfl rfl (by omega) g62 (q_inN (by omega) (by decide)) (q_tn (z := v) (by rw [nI_clamp (by omega), u32_at]) ?_)
          refine q_iconst rfl rfl ?_
          rcases hv with ⟨h1, rfl⟩ | ⟨h1, rfl⟩
          · rw [spR_t h1] at post
            refine q_icne rfl rfl (fun _ => ?_) (fun h => absurd rfl h)
            refine q_iconst rfl rfl ?_
            refine q_goto rfl ?_
            exact q_iret rfl rfl rfl post
          · rw [spR_f h1] at post
            refine q_icne rfl rfl (fun h => absurd h (by decide)) (fun _ => ?_)
            refine q_iconst rfl rfl ?_
            exact q_iret rfl rfl rfl post
        refine q_iload_n rfl rfl rfl ?_
        refine q_ifne rfl rfl (fun _ => ?_) (fun _ => ?_)
        · refine q_aload_n rfl rfl rfl ?_
          refine q_iconst rfl rfl ?_
          refine q_putf rfl rfl (by omega) b46 (os_len ((gi 18 (by decide)).trans f18)) rfl rfl ?_
          exact next _ 1 (fun j hj => u_ne hj) u_eq
        · exact next T2 z (fun _ _ => rfl) (by rw [gz]; exact b46)
      rcases hr with ⟨h1, rfl, h2⟩ | ⟨h1, rfl, h2⟩
      · show PQ (j_SL L) (j_SV xs) j_EX mm_X12_isSpent 62 [.ref 46, .int (nI k), .int (nI R), pm_un, pm_un] [.int 0, .int (nI k), .ref 62] T n 0 0 _
        refine q_ifeq rfl rfl (fun _ => ?_) (fun h => absurd rfl h)
        refine q_iconst rfl rfl ?_
        exact on 2 (Or.inl ⟨h1, rfl⟩) h2 (fun h => by rw [h1] at h; cases h)
      · show PQ (j_SL L) (j_SV xs) j_EX mm_X12_isSpent 62 [.ref 46, .int (nI k), .int (nI R), pm_un, pm_un] [.int 1, .int (nI k), .ref 62] T n 0 0 _
        refine q_ifeq rfl rfl (fun h => absurd h (by decide)) (fun _ => ?_)
        refine q_iconst rfl rfl ?_
        refine q_goto rfl ?_
        refine on 1 (Or.inr ⟨h1, rfl⟩) ?_ (fun _ => h2)
        obtain ⟨st, cf, cb, ch, sp, ct, nt, nx, nw, hO, t52, hC, hrw, hcf, hsp, hhi⟩ := h2
        exact ⟨st, cf, cb, ch, sp, ct, nt, nx, nw, hO, t52, hC, hrw, hcf, fun q hq => absurd hq (by omega), hhi⟩
    refine q_ifeq rfl rfl (fun _ => anew) (fun hz => ?_)
    refine q_iload_n rfl rfl rfl ?_
    refine q_ifgt rfl rfl (fun _ => there hz) (fun _ => ?_)
    refine q_aload_n rfl rfl rfl ?_
    refine q_getf rfl rfl (by omega) x46 ((gi 18 (by decide)).trans f18) ?_
    exact q_ifeq rfl rfl (fun _ => anew) (fun _ => there hz)
  refine q_iload_n rfl rfl rfl ?_
  refine q_ifne rfl rfl (fun h => ?_) (fun h => ?_)
  · have e : k = 0 := (m_eq (b := 0) (by omega) (by decide)).mp h
    rw [if_pos e] at hw
    refine q_iconst rfl rfl ?_
    refine q_goto rfl ?_
    refine q_ist2n rfl rfl rfl rfl ?_
    exact main 0 (Or.inl ⟨rfl, e⟩) hw
  · have e : k ≠ 0 := fun e => h (by rw [e]; rfl)
    rw [if_neg e] at hw
    refine q_iconst rfl rfl ?_
    refine q_ist2n rfl rfl rfl rfl ?_
    exact main 1 (Or.inr ⟨rfl, e⟩) hw
end GH
