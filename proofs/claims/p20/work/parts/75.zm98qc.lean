/-! fix: the class's outcomes -/
section QC9
variable {P P' : PG} {S S' : Nat → pm_E} {n l c d x i m k q pic : Nat} {p v : Nat} {L : Nat} {xs : Nat → Int32} {ls : Nat → List ST9}
/-- a picture's states stay as they came -/
theorem xall_9 (m : Nat) : xAll P pic (m + 1) = (if xN (xAll P pic m) ≤ m ∨ xP (xAll P pic m) = true then xAll P pic m else xRow P pic (xAll P pic m) m) := by rw [xAll]
theorem xall_pre (hW : WFP P) (m : Nat) : ∀ e, xN (xAll P pic m) ≤ xN (xAll P pic (m + e)) ∧ ∀ j, j < xN (xAll P pic m) → xS (xAll P pic (m + e)) j = xS (xAll P pic m) j := by
  intro e
  induction e with
  | zero => exact ⟨Nat.le_refl _, fun _ _ => rfl⟩
  | succ e ih =>
    obtain ⟨a, b⟩ := ih
    rw [show m + (e + 1) = (m + e) + 1 from rfl, xall_9]
    by_cases h : xN (xAll P pic (m + e)) ≤ m + e ∨ xP (xAll P pic (m + e)) = true
    · rw [if_pos h]
      exact ⟨a, b⟩
    · rw [if_neg h]
      have hk : m + e < xN (xAll P pic (m + e)) := Classical.byContradiction (fun h9 => h (Or.inl (by omega)))
      have w0 := wx_all (pic := pic) hW (m + e)
      have t := xt_all (x := 3) hW w0.1 w0.2 hk
      rw [xSt_3] at t
      exact ⟨Nat.le_trans a t.2.2.1, fun j hj => (t.2.2.2 j (by omega)).trans (b j hj)⟩
def bad9 (P' : PG) : Prop := xP (xE P' 0) = true ∨ ∃ j, j < xN (xE P' 0) ∧ spb P' 0 (xS (xE P' 0) j)
def okO9 (P' : PG) (o : Int64) : Prop := o ≠ 0 ∧ (e_bt o 61 = true ↔ bad9 P') ∧ (¬ bad9 P' → ∀ q, q < 40 → (e_bt o q = true ↔ ∃ j, j < xN (xE P' 0) ∧ srt P' 0 (xS (xE P' 0) j) = 1 ∧ enP (xS (xE P' 0) j) 4 q))
theorem bt_61 : ∀ j : Fin 64, e_bt 2305843009213693952 j.val = decide (j.val = 61) := by decide +kernel
theorem bt_62 : ∀ j : Fin 64, e_bt 4611686018427387904 j.val = decide (j.val = 62) := by decide +kernel
theorem bt_1023 : ∀ j : Fin 64, e_bt 1023 j.val = decide (j.val < 10) := by decide +kernel
theorem bt_0 (j : Nat) : e_bt 0 j = false := by
  rcases Nat.lt_or_ge j 64 with h | h
  · have t : ∀ j : Fin 64, e_bt 0 j.val = false := by decide +kernel
    exact t ⟨j, h⟩
  · exact e_bt_64 _ _ h
theorem bt_1 (j : Nat) : e_bt 1 j = decide (j = 0) := by
  rcases Nat.lt_or_ge j 64 with h | h
  · have t : ∀ j : Fin 64, e_bt 1 j.val = decide (j.val = 0) := by decide +kernel
    exact t ⟨j, h⟩
  · rw [e_bt_64 _ _ h, decide_eq_false (by omega)]
theorem z_bt {x : Int64} : x = 0 ↔ ∀ j, j < 64 → e_bt x j = false := ⟨fun h j _ => by rw [h]; exact bt_0 j, fun h => e_bt_ext (fun j hj => (h j hj).trans (bt_0 j).symm)⟩
def b2i (b : Bool) : Int32 := match b with
  | true => 1
  | false => 0
theorem vL_at {f : Nat → Int64} {i : Nat} {v : Int64} : vp_updL f i v i = v := if_pos rfl
theorem vL_ot {f : Nat → Int64} {i j : Nat} {v : Int64} (h : j ≠ i) : vp_updL f i v j = f j := if_neg h
/-- what explore left, as an outcome -/
theorem ok_of {sl : Int32} {en : Int64} {so : Nat → Int32} {b : Bool} (hW : WFP P') (hk : k ≤ xN (xAll P' 0 k)) (hR : RW P' 0 (xAll P' 0 k) k sl en so) (hend : xP (xAll P' 0 k) = true ∨ xN (xAll P' 0 k) ≤ k ∨ sl = 1) (hb : b = true ↔ (xP (xAll P' 0 k) = true ∨ sl = 1)) : okO9 P' (4611686018427387904 ||| (if b = true then 2305843009213693952 else en)) := by
  have w0 := wx_all (pic := 0) hW k
  have hN := w0.1.2.1
  obtain ⟨h1, h2, h3⟩ := hR
  have ne : (4611686018427387904 ||| (if b = true then 2305843009213693952 else en) : Int64) ≠ 0 := fun e => by
    have h9 := z_bt.mp e 62 (by decide)
    rw [e_bt_or, bt_62 ⟨62, by decide⟩] at h9
    simp at h9
  have pre := xall_pre (pic := 0) hW k (2000 - k)
  rw [show k + (2000 - k) = 2000 by omega, ← xE_d] at pre
  cases b with
  | true =>
    have hbb := hb.mp rfl
    have bad : bad9 P' := by
      by_cases hs : xP (xAll P' 0 k) = true
      · have e := xe_of (P := P') (pic := 0) (k := k) (by omega) (Or.inr hs)
        exact Or.inl (by rw [e]; exact hs)
      · have h9 := hbb.resolve_left hs
        rcases h2 with ⟨-, j, hj, hsp⟩ | ⟨e0, -⟩
        · refine Or.inr ⟨j, by omega, ?_⟩
          rw [pre.2 j (by omega)]
          exact hsp
        · rw [h9] at e0
          exact absurd e0 (by decide)
    refine ⟨ne, ⟨fun _ => bad, fun _ => ?_⟩, fun h => absurd bad h⟩
    rw [if_pos rfl, e_bt_or, bt_62 ⟨61, by decide⟩, bt_61 ⟨61, by decide⟩]
    simp
  | false =>
    have hbb : ¬ (xP (xAll P' 0 k) = true ∨ sl = 1) := fun h => by
      have := hb.mpr h
      cases this
    have hs : ¬ xP (xAll P' 0 k) = true := fun h => hbb (Or.inl h)
    have h1s : ¬ sl = 1 := fun h => hbb (Or.inr h)
    have hle : xN (xAll P' 0 k) ≤ k := by
      rcases hend with h | h | h
      · exact absurd h hs
      · exact h
      · exact absurd h h1s
    have e := xe_of (P := P') (pic := 0) (k := k) (by omega) (Or.inl hle)
    have ek : k = xN (xAll P' 0 k) := by omega
    have nb : ¬ ∃ j, j < k ∧ spb P' 0 (xS (xAll P' 0 k) j) := by
      rcases h2 with ⟨h9, -⟩ | ⟨-, h9⟩
      · exact absurd h9 h1s
      · exact h9
    have nbad : ¬ bad9 P' := fun h => by
      unfold bad9 at h
      rw [e] at h
      rcases h with h | ⟨j, hj, h⟩
      · exact hs h
      · exact nb ⟨j, by omega, h⟩
    have bits : ∀ q, q < 62 → (e_bt (4611686018427387904 ||| (if (false : Bool) = true then 2305843009213693952 else en)) q = true ↔ e_bt en q = true) := fun q hq => by
      rw [if_neg (by decide), e_bt_or, bt_62 ⟨q, by omega⟩, decide_eq_false (by dsimp only; omega), Bool.false_or]
    refine ⟨ne, ⟨fun h => ?_, fun h => absurd h nbad⟩, fun _ q hq => ?_⟩
    · have h9 := (h3 61 (by decide)).mp ((bits 61 (by decide)).mp h)
      obtain ⟨j, hj, -, p, hp, e9⟩ := h9
      have := (w0.1.2.2.1 j (by omega)).2.2.1 p hp
      omega
    · rw [bits q (by omega), h3 q (by omega), e, ← ek]
theorem hold_iff {o : Int64} (hW : WFP P') (h : okO9 P' o) (hp : p < 4) (hv : v < 10) : (e_bt o 61 = false ∧ ∀ u, u < 10 → u ≠ v → e_bt o (10 * p + u) = false) ↔ good9 P' p v := by
  obtain ⟨-, h1, h2⟩ := h
  have w0 := xe_wx (k := 0) hW
  constructor
  · rintro ⟨a, b⟩
    have nb : ¬ bad9 P' := fun h => by
      rw [h1.mpr h] at a
      cases a
    have nP : xP (xE P' 0) = false := by
      cases hx : xP (xE P' 0)
      · rfl
      · exact absurd (Or.inl hx) nb
    refine ⟨nP, fun j hj hs => nb (Or.inr ⟨j, hj, hs⟩), fun j hj hs => ?_⟩
    have h9 := (w0.1.2.2.1 j hj).2.2.1 p hp
    apply Classical.byContradiction
    intro hne
    have h8 := b (xS (xE P' 0) j (12 + p)) (by omega) hne
    rw [(h2 nb _ (by omega)).mpr ⟨j, hj, hs, p, hp, rfl⟩] at h8
    cases h8
  · rintro ⟨a, b, e⟩
    have nb : ¬ bad9 P' := fun h => by
      rcases h with h | ⟨j, hj, h⟩
      · rw [a] at h
        cases h
      · exact b j hj h
    refine ⟨?_, fun u hu hne => ?_⟩
    · cases h9 : e_bt o 61
      · rfl
      · exact absurd (h1.mp h9) nb
    · cases h9 : e_bt o (10 * p + u)
      · rfl
      · obtain ⟨j, hj, hs, p', hp', e9⟩ := (h2 nb _ (by omega)).mp h9
        have h8 := (w0.1.2.2.1 j hj).2.2.1 p' hp'
        have ep : p' = p := by omega
        subst ep
        exact absurd ((e j hj hs).symm.trans (by omega)) (fun h => hne h.symm)
theorem lc0 {x : Int64} : lg_cmp x 0 = 0 ↔ x = 0 := lcmp_0
set_option maxHeartbeats 4000000 in
theorem c_hold9 {o : Int64} (hp : p < 4) (hv : v < 10) : PM (j_SL L) (j_SV xs) j_EX mm_X1_holds [.long o, .int (nI p), .int (nI v)] S n (yn (e_bt o 61 = false ∧ ∀ u, u < 10 → u ≠ v → e_bt o (10 * p + u) = false) S n) := by
  change PQ (j_SL L) (j_SV xs) j_EX mm_X1_holds 0 [.long o, pm_un, .int (nI p), .int (nI v), pm_un, pm_un] [] S n 0 0 _
  refine q_lload_n rfl rfl rfl ?_
  refine q_ldc2 rfl rfl ?_
  refine q_land rfl rfl ?_
  refine q_lconst rfl rfl ?_
  refine q_lcmp rfl rfl ?_
  have e61 : (o &&& 2305843009213693952 = 0) ↔ e_bt o 61 = false := by
    rw [z_bt]
    constructor
    · intro h
      have h9 := h 61 (by decide)
      rw [e_bt_and, bt_61 ⟨61, by decide⟩] at h9
      simpa using h9
    · intro h j hj
      rw [e_bt_and, bt_61 ⟨j, hj⟩]
      by_cases c : j = 61
      · subst c
        rw [h]
        rfl
      · rw [decide_eq_false c, Bool.and_false]
  by_cases h61 : e_bt o 61 = false
  rotate_left
  · refine q_ifeq rfl rfl (fun c => absurd (e61.mp (lc0.mp c)) h61) (fun _ => ?_)
    refine q_iconst rfl rfl ?_
    exact q_iret rfl rfl rfl ⟨rfl, rfl, Or.inr ⟨fun h => h61 h.1, rfl⟩⟩
  refine q_ifeq rfl rfl (fun _ => ?_) (fun c => absurd (lc0.mpr (e61.mpr h61)) c)
  refine q_lload_n rfl rfl rfl ?_
  refine q_bipush rfl rfl ?_
  refine q_iload_n rfl rfl rfl ?_
  refine q_imul rfl rfl (q_tn (z := nI (10 * p)) (by rw [show (10 : Int32) = nI 10 from rfl, pk_mul]) ?_)
  refine q_lushr rfl rfl ?_
  refine q_ldc2 rfl rfl ?_
  refine q_land rfl rfl ?_
  refine q_lst4 rfl rfl rfl rfl ?_
  refine q_lload rfl rfl rfl ?_
  refine q_lconst rfl rfl ?_
  refine q_iload_n rfl rfl rfl ?_
  refine q_lshl rfl rfl ?_
  refine q_ldc2 rfl rfl ?_
  refine q_lxor rfl rfl ?_
  refine q_land rfl rfl ?_
  refine q_lconst rfl rfl ?_
  refine q_lcmp rfl rfl ?_
  have ez : ((((((o).toUInt64 >>> ((nI (10 * p)).toInt64.toUInt64 &&& Int64.toUInt64 63)).toInt64) &&& (1023 : Int64)) &&& (((1 : Int64) <<< ((nI v).toInt64 &&& 63)) ^^^ (-1 : Int64))) = 0) ↔ ∀ u, u < 10 → u ≠ v → e_bt o (10 * p + u) = false := by
    have key : ∀ j, j < 64 → e_bt (((((o).toUInt64 >>> ((nI (10 * p)).toInt64.toUInt64 &&& Int64.toUInt64 63)).toInt64) &&& (1023 : Int64)) &&& (((1 : Int64) <<< ((nI v).toInt64 &&& 63)) ^^^ (-1 : Int64))) j = (e_bt o (10 * p + j) && (decide (j < 10) && !decide (j = v))) := fun j hj => by
      rw [e_bt_and, e_bt_and, e_bt_shr _ _ (by omega), bt_1023 ⟨j, hj⟩, e_bt_xor, e_bt_m1 j hj, e_bt_shl _ _ (by omega), bt_1]
      by_cases c : j = v
      · subst c
        simp [hj]
      · rw [decide_eq_false c]
        by_cases c2 : j < v
        · simp [c2]
        · rw [decide_eq_false (show ¬ j - v = 0 by omega)]
          simp
    rw [z_bt]
    constructor
    · intro h u hu hne
      have h9 := h u (by omega)
      rw [key u (by omega), decide_eq_true hu, decide_eq_false hne] at h9
      simpa using h9
    · intro h j hj
      rw [key j hj]
      by_cases c : j < 10
      · by_cases c2 : j = v
        · rw [decide_eq_true c2]
          simp
        · rw [h j c c2]
          rfl
      · rw [decide_eq_false c]
        simp
  by_cases hz : (((((o).toUInt64 >>> ((nI (10 * p)).toInt64.toUInt64 &&& Int64.toUInt64 63)).toInt64) &&& (1023 : Int64)) &&& (((1 : Int64) <<< ((nI v).toInt64 &&& 63)) ^^^ (-1 : Int64))) = 0
  · refine q_fne rfl rfl (fun c => absurd (lc0.mpr hz) c) (fun _ => ?_)
    refine q_iconst rfl rfl ?_
    refine q_goto rfl ?_
    exact q_iret rfl rfl rfl ⟨rfl, rfl, Or.inl ⟨⟨h61, ez.mp hz⟩, rfl⟩⟩
  · refine q_fne rfl rfl (fun _ => ?_) (fun c => absurd (lc0.mp (Classical.not_not.mp c)) hz)
    refine q_iconst rfl rfl ?_
    exact q_iret rfl rfl rfl ⟨rfl, rfl, Or.inr ⟨fun h => hz (ez.mpr h.2), rfl⟩⟩
/-- the draft as it is made, whatever it holds -/
def D09 (S : Nat → pm_E) : Prop := ∃ (fs : List Value) (w0 : Value) (fa ln l4 l5 l6 : Nat → Int32), S 33 = .inr (6, fs) ∧ fs[0]? = some w0 ∧ fs[1]? = some (.ref 34) ∧ fs[2]? = some (.ref 35) ∧ fs[3]? = some (.ref 36) ∧ fs[4]? = some (.ref 37) ∧ fs[5]? = some (.ref 38) ∧ S 34 = .inl (0, 4, .inl fa) ∧ S 35 = .inl (0, 3, .inl ln) ∧ S 36 = .inl (0, 24, .inl l4) ∧ S 37 = .inl (0, 24, .inl l5) ∧ S 38 = .inl (0, 24, .inl l6)
theorem dr_d0 (h : DR9 P ls S) : D09 S := by
  obtain ⟨fs, fa, ln, l4, l5, l6, k33, f0, f1, f2, f3, f4, f5, k34, k35, k36, k37, k38, -⟩ := h
  exact ⟨fs, _, fa, ln, l4, l5, l6, k33, f0, f1, f2, f3, f4, f5, k34, k35, k36, k37, k38⟩
theorem d0_fr (h : D09 S) (e : ∀ j, 33 ≤ j → j < 39 → S' j = S j) : D09 S' := by
  obtain ⟨fs, w0, fa, ln, l4, l5, l6, k33, f0, f1, f2, f3, f4, f5, k34, k35, k36, k37, k38⟩ := h
  exact ⟨fs, w0, fa, ln, l4, l5, l6, (e 33 (by omega) (by omega)).trans k33, f0, f1, f2, f3, f4, f5, (e 34 (by omega) (by omega)).trans k34, (e 35 (by omega) (by omega)).trans k35, (e 36 (by omega) (by omega)).trans k36, (e 37 (by omega) (by omega)).trans k37, (e 38 (by omega) (by omega)).trans k38⟩
theorem dr_jpc (h : DR9 P (dl9 P l c d) S) : JPc 33 (PGf P l c d) S := by
  obtain ⟨fs, fa, ln, l4, l5, l6, k33, f0, f1, f2, f3, f4, f5, k34, k35, k36, k37, k38, hfa, hls⟩ := h
  refine ⟨fs, fa, ln, l4, l5, l6, k33, f0, f1, f2, f3, f4, f5, k34, k35, k36, k37, k38, hfa, fun x hx => (hls x hx).2.1, fun x i hx hi => ?_⟩
  have hi' : i < (dl9 P l c d x).length := hi
  have e := List.getElem?_eq_getElem hi'
  obtain ⟨a, b, g⟩ := (hls x hx).2.2 i _ e
  obtain ⟨a', b', g'⟩ := pgf_e e
  exact ⟨a.trans (by rw [a']), b.trans b'.symm, g.trans g'.symm⟩
/-- the fixer -/
def FI9 (P : PG) (S : Nat → pm_E) : Prop := JPc 1 P S ∧ (∃ gs : List Value, S 32 = .inr (0, gs) ∧ gs[2]? = some (.ref 1) ∧ gs[3]? = some (.ref 16) ∧ gs[4]? = some (.ref 33) ∧ gs[5]? = some (.ref 39) ∧ gs[6]? = some (.ref 40) ∧ gs[7]? = some (.ref 41)) ∧ D09 S ∧ JMc 39 33 0 S ∧ OAll 16 S ∧ ∃ ot : Nat → Int64, S 41 = .inl (1, 363, .inr (.inl ot)) ∧ ∀ l q, l < 3 → q < 121 → ot (121 * l + q) = 0 ∨ okO9 (PGf P l (q / 11) (q % 11)) (ot (121 * l + q))
def HY9 (P : PG) : Prop := WFP P ∧ J8 P ∧ pH P = 2 ∧ ∀ x, x < 2 → pL P x ≤ 4
/-- cells that the fixer's work writes -/
def frX (S S' : Nat → pm_E) : Prop := ∀ j, j < 16 ∨ (24 ≤ j ∧ j < 33) ∨ (39 ≤ j ∧ j < 41) ∨ 42 ≤ j → S' j = S j
theorem frX_t {S1 S2 S3 : Nat → pm_E} (h : frX S1 S2) (h' : frX S2 S3) : frX S1 S3 := fun j hj => (h' j hj).trans (h j hj)
set_option maxHeartbeats 8000000 in
theorem c_dp9 {gs : List Value} (hY : HY9 P) (hl : l < 3) (hq : q < 121) (hn : 82 ≤ n) (hj : JPc 1 P S) (k32 : S 32 = .inr (0, gs)) (g2 : gs[2]? = some (.ref 1)) (g4 : gs[4]? = some (.ref 33)) (hD : D09 S) : PM (j_SL L) (j_SV xs) j_EX mm_X1_draftPair [.ref 32, .int (nI l), .int (nI q)] S n (DK S n (DR9 P (dl9 P l (q / 11) (q % 11)))) := by
  obtain ⟨hW, hJ8, h2, h4⟩ := hY
  obtain ⟨fs, w0, fa, ln, l4, l5, l6, k33, f0, f1, f2, f3, f4, f5, k34, k35, k36, k37, k38⟩ := hD
  change PQ (j_SL L) (j_SV xs) j_EX mm_X1_draftPair 0 [.ref 32, .int (nI l), .int (nI q), pm_un] [] S n 0 0 _
  refine q_aload_n rfl rfl rfl ?_
  refine q_getf rfl rfl (by omega) k32 g4 ?_
  refine q_iconst rfl rfl ?_
  refine q_cV rfl rfl (Or.inl rfl) rfl rfl rfl rfl (by omega) k33 trivial rfl rfl rfl rfl rfl (c_ren9 hn k33 f0 f1 f2 k34 k35) ?_
  rintro r T _ ⟨rfl, rfl, eT, t33, t34, t35⟩
  show PQ (j_SL L) (j_SV xs) j_EX mm_X1_draftPair 8 [.ref 32, .int (nI l), .int (nI q), pm_un] [] T n 0 0 _
  refine q_iconst rfl rfl ?_
  refine q_ist3n rfl rfl rfl rfl ?_
  have eD : frD S T := fun j hj => eT j (by omega) (by omega) (by omega)
  have loop : ∀ m i : Nat, i + m = 4 → ∀ (V : Nat → pm_E) (fb : Nat → Int32), (∀ j, j ≠ 34 → V j = T j) → V 34 = .inl (0, 4, .inl fb) → (∀ p, p < i → fb p = nI (pV P p)) → PQ (j_SL L) (j_SV xs) j_EX mm_X1_draftPair 10 [.ref 32, .int (nI l), .int (nI q), .int (nI i)] [] V n 0 0 (DK S n (DR9 P (dl9 P l (q / 11) (q % 11)))) := by
    intro m
    induction m with
    | zero =>
      intro i hi V fb eV v34 hfb
      have e : i = 4 := by omega
      subst e
      have eSV : frD S V := fun j hj => (eV j (by omega)).trans (eD j hj)
      have y32 := (eSV 32 (by omega)).trans k32
      have jV := jpc_D hj eSV
      have H0 : DR9 P (fun _ => []) V := ⟨_, fb, _, l4, l5, l6, (eV 33 (by decide)).trans t33, (os_at f0).trans rfl, (os_ne (by decide)).trans f1, (os_ne (by decide)).trans f2, (os_ne (by decide)).trans f3, (os_ne (by decide)).trans f4, (os_ne (by decide)).trans f5, v34, (eV 35 (by decide)).trans t35, (eV 36 (by decide)).trans ((eT 36 (by decide) (by decide) (by decide)).trans k36), (eV 37 (by decide)).trans ((eT 37 (by decide) (by decide) (by decide)).trans k37), (eV 38 (by decide)).trans ((eT 38 (by decide) (by decide) (by decide)).trans k38), hfb, fun x hx => ⟨by show 0 ≤ 8; omega, by unfold nfk; rw [if_pos (by omega)]; rfl, fun j s hj => by cases hj⟩⟩
      refine q_iload_n rfl rfl rfl ?_
      refine q_iconst rfl rfl ?_
      refine q_icge rfl rfl (fun _ => ?_) (fun c => absurd (by decide) c)
      refine q_aload_n rfl rfl rfl ?_
      refine q_iconst rfl rfl ?_
      refine q_iload_n rfl rfl rfl ?_
      refine q_iload_n rfl rfl rfl ?_
      refine q_bipush rfl rfl ?_
      refine q_idiv rfl rfl (by decide) ?_
      refine q_tn (z := nI (q / 11)) ((dv11 ⟨q, hq⟩).1) ?_
      refine q_cV rfl rfl (Or.inl rfl) rfl rfl rfl rfl (by omega) y32 trivial rfl rfl rfl rfl rfl (c_dh9 (x := 0) (c := q / 11) hW hJ8 h2 h4 hl hn jV y32 g2 g4 (by decide) (by omega) rfl H0) ?_
      rintro r U _ ⟨rfl, rfl, eU, hU⟩
      show PQ (j_SL L) (j_SV xs) j_EX mm_X1_draftPair 49 [.ref 32, .int (nI l), .int (nI q), .int (nI 4)] [] U n 0 0 _
      have eSU := frD_t eSV eU
      have z32 := (eSU 32 (by omega)).trans k32
      have jU := jpc_D hj eSU
      refine q_aload_n rfl rfl rfl ?_
      refine q_iconst rfl rfl ?_
      refine q_iload_n rfl rfl rfl ?_
      refine q_iload_n rfl rfl rfl ?_
      refine q_bipush rfl rfl ?_
      refine q_irem rfl rfl (by decide) ?_
      refine q_tn (z := nI (q % 11)) ((dv11 ⟨q, hq⟩).2) ?_
      refine q_cV rfl rfl (Or.inl rfl) rfl rfl rfl rfl (by omega) z32 trivial rfl rfl rfl rfl rfl (c_dh9 (x := 1) (c := q % 11) hW hJ8 h2 h4 hl hn jU z32 g2 g4 (by decide) (by omega) (uL_ne (by decide)) hU) ?_
      rintro r X9 _ ⟨rfl, rfl, eX, hX⟩
      show PQ (j_SL L) (j_SV xs) j_EX mm_X1_draftPair 59 [.ref 32, .int (nI l), .int (nI q), .int (nI 4)] [] X9 n 0 0 _
      refine q_ret rfl rfl ⟨rfl, rfl, frD_t eSU eX, ?_⟩
      obtain ⟨fs8, fa8, ln8, l48, l58, l68, b33, c0, c1, c2, c3, c4, c5, b34, b35, b36, b37, b38, hfa, hls⟩ := hX
      refine ⟨fs8, fa8, ln8, l48, l58, l68, b33, c0, c1, c2, c3, c4, c5, b34, b35, b36, b37, b38, hfa, fun x hx => ?_⟩
      have h9 := hls x hx
      rcases (show x = 0 ∨ x = 1 by omega) with e | e
      · subst e
        rw [uL_ne (by decide), uL_eq] at h9
        exact h9
      · subst e
        rw [uL_eq] at h9
        exact h9
    | succ m ih =>
      intro i him V fb eV v34 hfb
      have eSV : frD S V := fun j hj => (eV j (by omega)).trans (eD j hj)
      have y32 := (eSV 32 (by omega)).trans k32
      have y33 := (eV 33 (by decide)).trans t33
      obtain ⟨os1, y1, -, p1, fa1, y2, hfa1⟩ := p_obj (jpc_D hj eSV)
      refine q_iload_n rfl rfl rfl ?_
      refine q_iconst rfl rfl ?_
      refine q_icge rfl rfl (fun c => absurd c (nI_ge (a := i) (b := 4) (by omega) (by decide))) (fun _ => ?_)
      refine q_aload_n rfl rfl rfl ?_
      refine q_getf rfl rfl (by omega) y32 g4 ?_
      refine q_getf rfl rfl (by omega) y33 ((os_ne (by decide)).trans f1) ?_
      refine q_iload_n rfl rfl rfl ?_
      refine q_aload_n rfl rfl rfl ?_
      refine q_getf rfl rfl (by omega) y32 g2 ?_
      refine q_getf rfl rfl (by omega) y1 p1 ?_
      refine q_iload_n rfl rfl rfl ?_
      refine q_iald rfl rfl (by omega) y2 (q_inN (by omega) (by decide)) (q_tn (z := nI (pV P i)) (by rw [nI_clamp (by omega)]; exact hfa1 i (by omega)) ?_)
      refine q_iast rfl rfl (by omega) v34 (q_inN (by omega) (by decide)) ?_
      rw [nI_clamp (by omega)]
      refine q_icc3 rfl rfl rfl rfl (z := nI (i + 1)) (nI_add i 1) ?_
      refine q_goto rfl ?_
      refine ih (i + 1) (by omega) _ _ (fun j hj => (u_ne hj).trans (eV j hj)) u_eq (fun p hp => ?_)
      by_cases e : p = i
      · rw [e, u32_at]
      · rw [u32_ot e]
        exact hfb p (by omega)
  exact loop 4 0 rfl T _ (fun _ _ => rfl) t34 (fun p hp => absurd hp (by omega))
theorem fi_X {T : Nat → pm_E} (h : FI9 P S) (e : frX S T) (hD : D09 T) (hO : OAll 16 T) (e41 : T 41 = S 41) : FI9 P T := by
  obtain ⟨hj, ⟨gs, k32, hg⟩, -, ⟨ms, k39, hm⟩, -, ot, k41, ho⟩ := h
  have jT : JPc 1 P T := by
    obtain ⟨fs, fa, ln, l4, l5, l6, k0, h1, h2, h3, h4, h5, h6, k1, k2, k3, k4, k5, h7⟩ := hj
    exact ⟨fs, fa, ln, l4, l5, l6, (e 1 (by omega)).trans k0, h1, h2, h3, h4, h5, h6, (e 2 (by omega)).trans k1, (e 3 (by omega)).trans k2, (e 4 (by omega)).trans k3, (e 5 (by omega)).trans k4, (e 6 (by omega)).trans k5, h7⟩
  exact ⟨jT, ⟨gs, (e 32 (by omega)).trans k32, hg⟩, hD, ⟨ms, (e 39 (by omega)).trans k39, hm⟩, hO, ot, e41.trans k41, ho⟩
set_option maxHeartbeats 8000000 in
theorem c_out9 (hY : HY9 P) (hl : l < 3) (hq : q < 121) (hn : 82 ≤ n) (H : FI9 P S) : PM (j_SL L) (j_SV xs) j_EX mm_X1_outcomeOf [.ref 32, .int (nI l), .int (nI q)] S n (fun r S' n' => n = n' ∧ frX S S' ∧ FI9 P S' ∧ ∃ v : Int64, r = some (.long v) ∧ okO9 (PGf P l (q / 11) (q % 11)) v) := by
  have H9 := H
  obtain ⟨hj, ⟨gs, k32, g2, g3, g4, g5, g6, g7⟩, hD, hM, hA, ot, k41, ho⟩ := H
  have hM9 := hM
  obtain ⟨ms, k39, m0, m1⟩ := hM9
  change PQ (j_SL L) (j_SV xs) j_EX mm_X1_outcomeOf 0 [.ref 32, .int (nI l), .int (nI q), pm_un, pm_un] [] S n 0 0 _
  refine q_iload_n rfl rfl rfl ?_
  refine q_bipush rfl rfl ?_
  refine q_imul rfl rfl (q_tn (z := nI (11 * l)) (by rw [show (11 : Int32) = nI 11 from rfl, pk_mul, Nat.mul_comm]) ?_)
  refine q_bipush rfl rfl ?_
  refine q_imul rfl rfl (q_tn (z := nI (121 * l)) (by rw [show (11 : Int32) = nI 11 from rfl, pk_mul]; congr 1; omega) ?_)
  refine q_iload_n rfl rfl rfl ?_
  refine q_iadd rfl rfl (q_tn (z := nI (121 * l + q)) (nI_add _ _) ?_)
  refine q_ist3n rfl rfl rfl rfl ?_
  refine q_aload_n rfl rfl rfl ?_
  refine q_getf rfl rfl (by omega) k32 g7 ?_
  refine q_iload_n rfl rfl rfl ?_
  refine q_lald rfl rfl (by omega) k41 (q_inN (by omega) (by decide)) (q_tnl (z := (ot) ((121 * l + q))) (by rw [nI_clamp (by omega)]) ?_)
  refine q_lconst rfl rfl ?_
  refine q_lcmp rfl rfl ?_
  by_cases hz : ot (121 * l + q) = 0
  rotate_left
  · refine q_fne rfl rfl (fun _ => ?_) (fun c => absurd (lc0.mp (Classical.not_not.mp c)) hz)
    refine q_aload_n rfl rfl rfl ?_
    refine q_getf rfl rfl (by omega) k32 g7 ?_
    refine q_iload_n rfl rfl rfl ?_
    refine q_lald rfl rfl (by omega) k41 (q_inN (by omega) (by decide)) (q_tnl (z := (ot) ((121 * l + q))) (by rw [nI_clamp (by omega)]) ?_)
    exact q_lret rfl rfl trivial ⟨rfl, fun _ _ => rfl, H9, _, rfl, (ho l q hl hq).resolve_left hz⟩
  refine q_fne rfl rfl (fun c => absurd (lc0.mpr hz) c) (fun _ => ?_)
  refine q_aload_n rfl rfl rfl ?_
  refine q_iload_n rfl rfl rfl ?_
  refine q_iload_n rfl rfl rfl ?_
  refine q_cV rfl rfl (Or.inl rfl) rfl rfl rfl rfl (by omega) k32 trivial rfl rfl rfl rfl rfl (c_dp9 hY hl hq hn hj k32 g2 g4 hD) ?_
  rintro r T _ ⟨rfl, rfl, eT, hT⟩
  show PQ (j_SL L) (j_SV xs) j_EX mm_X1_outcomeOf 27 [.ref 32, .int (nI l), .int (nI q), .int (nI (121 * l + q)), pm_un] [] T n 0 0 _
  obtain ⟨N, sp, sl, en, fo, og, mv, so, fw, tb, ce, hO, hN, hH⟩ := hA
  have hOT : OCo 16 N sp sl en fo og mv so fw tb ce T := OCo_same hO (fun j h1 h2 => eT j (by omega))
  have hMT : JMc 39 33 0 T := ⟨ms, (eT 39 (by omega)).trans k39, m0, m1⟩
  have hWf := pgf_wf (l := l) (c := q / 11) (d := q % 11) hY.1 hY.2.1 hY.2.2.1 hY.2.2.2 hl
  have t32 := (eT 32 (by omega)).trans k32
  obtain ⟨u16, z16, -⟩ := id hOT
  refine q_aload_n rfl rfl rfl ?_
  refine q_getf rfl rfl (by omega) t32 g3 ?_
  refine q_aload_n rfl rfl rfl ?_
  refine q_getf rfl rfl (by omega) t32 g5 ?_
  refine q_iconst rfl rfl ?_
  refine q_cV rfl rfl (Or.inl rfl) rfl rfl rfl rfl (by omega) z16 trivial rfl rfl rfl rfl rfl (o_expl (c := 33) (m := 39) (oc := 16) (uo := 1) (pic := 0) hWf (by omega) (by omega) (by omega) (by omega) (by omega) (dr_jpc hT) hMT (by decide) hOT hN hH (Or.inr rfl)) ?_
  rintro r V _ ⟨rfl, rfl, eV, kk, sl', en', so', hX, hkN, hRW, hend⟩
  show PQ (j_SL L) (j_SV xs) j_EX mm_X1_outcomeOf 39 [.ref 32, .int (nI l), .int (nI q), .int (nI (121 * l + q)), pm_un] [] V n 0 0 _
  have eV9 : ∀ j, j < 16 ∨ 24 ≤ j → V j = T j := eV
  have v32 := (eV9 32 (by omega)).trans t32
  have v41 := (eV9 41 (by omega)).trans ((eT 41 (by omega)).trans k41)
  obtain ⟨os2, v16, q0, q1, q2, q3, -⟩ := ox_os hX
  have hk2 := (wx_all (pic := 0) hWf kk).1.2.1
  have hA2 : OAll 16 V := by
    obtain ⟨fo9, og9, mv9, fw9, tb9', ce9, b1, b2', -⟩ := id hX
    exact ⟨_, _, _, _, fo9, og9, mv9, _, fw9, tb9', ce9, b1, hk2, b2'⟩
  have hend9 : xP (xAll (PGf P l (q / 11) (q % 11)) 0 kk) = true ∨ xN (xAll (PGf P l (q / 11) (q % 11)) 0 kk) ≤ kk ∨ sl' = 1 := by
    rcases hend with h | h | ⟨-, h⟩
    · exact Or.inl h
    · exact Or.inr (Or.inl h)
    · exact Or.inr (Or.inr h)
  have fin : ∀ b : Bool, (b = true ↔ (xP (xAll (PGf P l (q / 11) (q % 11)) 0 kk) = true ∨ sl' = 1)) → PQ (j_SL L) (j_SV xs) j_EX mm_X1_outcomeOf 64 [.ref 32, .int (nI l), .int (nI q), .int (nI (121 * l + q)), pm_un] [.int (b2i b)] V n 0 0 (fun r S' n' => n = n' ∧ frX S S' ∧ FI9 P S' ∧ ∃ v : Int64, r = some (.long v) ∧ okO9 (PGf P l (q / 11) (q % 11)) v) := by
    intro b hb
    have ok := ok_of (b := b) hWf hkN hRW hend9 hb
    refine q_ist4 rfl rfl rfl rfl ?_
    refine q_aload_n rfl rfl rfl ?_
    refine q_getf rfl rfl (by omega) v32 g7 ?_
    refine q_iload_n rfl rfl rfl ?_
    refine q_ldc2 rfl rfl ?_
    refine q_iload rfl rfl rfl ?_
    have st : PQ (j_SL L) (j_SV xs) j_EX mm_X1_outcomeOf 92 [.ref 32, .int (nI l), .int (nI q), .int (nI (121 * l + q)), .int (b2i b)] [.long (if b = true then 2305843009213693952 else en'), .long 4611686018427387904, .int (nI (121 * l + q)), .ref 41] V n 0 0 (fun r S' n' => n = n' ∧ frX S S' ∧ FI9 P S' ∧ ∃ v : Int64, r = some (.long v) ∧ okO9 (PGf P l (q / 11) (q % 11)) v) := by
      refine q_lor rfl rfl ?_
      generalize hgo : (4611686018427387904 ||| (if b = true then 2305843009213693952 else en') : Int64) = w at ok ⊢
      refine q_last rfl rfl (by omega) v41 (q_inN (by omega) (by decide)) ?_
      rw [nI_clamp (by omega)]
      have eW : ∀ j, j ≠ 41 → va_up V 41 (.inl (1, 363, .inr (.inl (vp_updL ot (121 * l + q) w)))) j = V j := fun j hj => u_ne hj
      have w41 : va_up V 41 (.inl (1, 363, .inr (.inl (vp_updL ot (121 * l + q) w)))) 41 = .inl (1, 363, .inr (.inl (vp_updL ot (121 * l + q) w))) := u_eq
      generalize va_up V 41 (.inl (1, 363, .inr (.inl (vp_updL ot (121 * l + q) w)))) = W at eW w41 ⊢
      have w32 := (eW 32 (by decide)).trans v32
      refine q_aload_n rfl rfl rfl ?_
      refine q_getf rfl rfl (by omega) w32 g7 ?_
      refine q_iload_n rfl rfl rfl ?_
      refine q_lald rfl rfl (by omega) w41 (q_inN (by omega) (by decide)) (q_tnl (z := w) (by rw [nI_clamp (by omega)]; exact vL_at) ?_)
      have fX : frX S W := fun j hj => (eW j (by omega)).trans ((eV9 j (by omega)).trans (eT j (by omega)))
      refine q_lret rfl rfl trivial ⟨rfl, fX, ?_, w, rfl, ok⟩
      have D9 : D09 W := d0_fr (dr_d0 hT) (fun j h1 h2 => (eW j (by omega)).trans (eV9 j (by omega)))
      have O9 : OAll 16 W := by
        obtain ⟨N, sp, sl, en, fo, og, mv, so, fw, tb, ce, hO, hN, hH⟩ := hA2
        exact ⟨N, sp, sl, en, fo, og, mv, so, fw, tb, ce, OCo_same hO (fun j h1 h2 => eW j (by omega)), hN, hH⟩
      have jW : JPc 1 P W := by
        obtain ⟨fs, fa, ln, l4, l5, l6, k0, h1, h2, h3, h4, h5, h6, k1, k2, k3, k4, k5, h7⟩ := hj
        exact ⟨fs, fa, ln, l4, l5, l6, (fX 1 (by omega)).trans k0, h1, h2, h3, h4, h5, h6, (fX 2 (by omega)).trans k1, (fX 3 (by omega)).trans k2, (fX 4 (by omega)).trans k3, (fX 5 (by omega)).trans k4, (fX 6 (by omega)).trans k5, h7⟩
      refine ⟨jW, ⟨gs, w32, g2, g3, g4, g5, g6, g7⟩, D9, ⟨ms, (fX 39 (by omega)).trans k39, m0, m1⟩, O9, _, w41, fun l' q' hl' hq' => ?_⟩
      by_cases e : 121 * l' + q' = 121 * l + q
      · have el : l' = l := by omega
        have eq : q' = q := by omega
        subst el eq
        rw [vL_at]
        exact Or.inr ok
      · rw [vL_ot e]
        exact ho l' q' hl' hq'
    cases b
    · refine q_ifeq rfl rfl (fun _ => ?_) (fun c => absurd rfl c)
      refine q_aload_n rfl rfl rfl ?_
      refine q_getf rfl rfl (by omega) v32 g3 ?_
      refine q_getf rfl rfl (by omega) v16 q3 ?_
      exact st
    · refine q_ifeq rfl rfl (fun c => absurd c (by decide)) (fun _ => ?_)
      refine q_ldc2 rfl rfl ?_
      refine q_goto rfl ?_
      exact st
  refine q_aload_n rfl rfl rfl ?_
  refine q_getf rfl rfl (by omega) v32 g3 ?_
  refine q_getf rfl rfl (by omega) v16 q1 ?_
  cases hp1 : xP (xAll (PGf P l (q / 11) (q % 11)) 0 kk)
  rotate_left
  · have es : spv (xAll (PGf P l (q / 11) (q % 11)) 0 kk) = 1 := by unfold spv; rw [hp1]
    rw [es]
    refine q_fne rfl rfl (fun _ => ?_) (fun c => absurd (by decide) c)
    refine q_iconst rfl rfl ?_
    refine q_goto rfl ?_
    exact fin true ⟨fun _ => Or.inl hp1, fun _ => rfl⟩
  have es : spv (xAll (PGf P l (q / 11) (q % 11)) 0 kk) = 0 := by unfold spv; rw [hp1]
  rw [es]
  refine q_fne rfl rfl (fun c => absurd rfl c) (fun _ => ?_)
  refine q_aload_n rfl rfl rfl ?_
  refine q_getf rfl rfl (by omega) v32 g3 ?_
  refine q_getf rfl rfl (by omega) v16 q2 ?_
  rcases hRW.2.1 with ⟨e1, -⟩ | ⟨e0, -⟩
  · rw [e1]
    refine q_ifeq rfl rfl (fun c => absurd c (by decide)) (fun _ => ?_)
    refine q_iconst rfl rfl ?_
    refine q_goto rfl ?_
    exact fin true ⟨fun _ => Or.inr e1, fun _ => rfl⟩
  · rw [e0]
    refine q_ifeq rfl rfl (fun _ => ?_) (fun c => absurd rfl c)
    refine q_iconst rfl rfl ?_
    exact fin false ⟨fun h => (by cases h), fun h => by
      rcases h with h | h
      · rw [hp1] at h
        cases h
      · rw [h] at e0
        exact absurd e0 (by decide)⟩
end QC9
