/-! way, step: class and reference -/
section JE
variable {θ : Th} {P : PG} {S S' : Nat → pm_E} {n k pic : Nat} {L : Nat} {xs : Nat → Int32} {x y : Int32}
/-- where a state came from is an earlier one -/
def XO (X : XT) : Prop := ∀ j, 0 < j → j < xN X → ∃ i, i < j ∧ xF X j = nI i
theorem xo_st {X : XT} {i x : Nat} (h : WX P pic X) (hi : i < xN X) (ho : XO X) : XO (xStep P pic X i x) := by
  cases hp : xP X
  rotate_left
  · rw [xS_t hp]
    exact ho
  by_cases hm : x < pH P ∧ mayP P pic (xS X i) x
  rotate_left
  · rw [xS_n hp hm]
    exact ho
  rw [xS_y hp hm]
  by_cases hj : ∃ j, j < xN X ∧ xS X j = nxD P pic (xS X i) x
  · obtain ⟨j, h1, h2⟩ := hj
    rw [xP_o h.2.2.2 h1 h2]
    exact ho
  · have hn : ∀ j, j < xN X → xS X j ≠ nxD P pic (xS X i) x := fun j h1 h2 => hj ⟨j, h1, h2⟩
    by_cases hN : xN X < 2000
    · rw [xP_n hn hN]
      intro j j0 hj1
      have hj' : j < xN X + 1 := hj1
      show ∃ k, k < j ∧ upd (xF X) (xN X) (nI i) j = nI k
      unfold upd
      by_cases e : j = xN X
      · rw [if_pos e]
        exact ⟨i, by omega, rfl⟩
      · rw [if_neg e]
        exact ho j j0 (by omega)
    · have h2000 : xN X = 2000 := by have := h.2.1; omega
      rw [xP_f hn h2000]
      exact ho
theorem xo_all (hW : WFP P) : ∀ k, XO (xAll P pic k) := by
  intro k
  induction k with
  | zero =>
    intro j j0 hj
    have hj' : j < 1 := hj
    omega
  | succ k ih =>
    unfold xAll
    split
    · exact ih
    · rename_i h
      have hk : k < xN (xAll P pic k) := Classical.byContradiction (fun h9 => h (Or.inl (by omega)))
      have w0 := (wx_all (pic := pic) hW k).1
      unfold xRow
      have a0 := wx_st (x := 0) hW w0 hk
      have k1 : k < xN (xStep P pic (xAll P pic k) k 0) := Nat.lt_of_lt_of_le hk a0.2.1
      have a1 := wx_st (x := 1) hW a0.1 k1
      have k2 : k < xN (xStep P pic (xStep P pic (xAll P pic k) k 0) k 1) := Nat.lt_of_lt_of_le k1 a1.2.1
      exact xo_st a1.1 k2 (xo_st a0.1 k1 (xo_st w0 hk ih))
theorem LN_fn {f : Nat → Int32} {x : Int32} {c c' : Nat} (h : LN f x c) (h' : LN f x c') : c = c' := by
  rcases Nat.lt_trichotomy c c' with e | e | e
  · have h1 := (h'.1 c e).1
    have h2 := h.2
    omega
  · exact e
  · have h1 := (h.1 c' e).1
    have h2 := h'.2
    omega
theorem it_cg {f g : Nat → Int32} {N s c : Nat} (hN : N ≤ 2000) (hs : s < N) (hfg : ∀ j, 0 < j → j < N → f j = g j) (hf : ∀ j, 0 < j → j < N → (f j).toInt < (j : Int)) (h : LN f (nI s) c) : ∀ k, k ≤ c → itc g (nI s) k = itc f (nI s) k ∧ (itc f (nI s) k).toInt < (N : Int) := by
  intro k
  induction k with
  | zero =>
    intro _
    exact ⟨rfl, by show (nI s).toInt < _; rw [nI_toInt (by omega)]; omega⟩
  | succ k ih =>
    intro hk
    obtain ⟨e, hl⟩ := ih (by omega)
    have h1 := (h.1 k (by omega)).1
    have hc := cl_of (x := itc f (nI s) k) (by omega)
    have j0 : 0 < (itc f (nI s) k).toNatClampNeg := by omega
    have jN : (itc f (nI s) k).toNatClampNeg < N := by omega
    constructor
    · show g (itc g (nI s) k).toNatClampNeg = f (itc f (nI s) k).toNatClampNeg
      rw [e]
      exact (hfg _ j0 jN).symm
    · show (f (itc f (nI s) k).toNatClampNeg).toInt < _
      have := hf _ j0 jN
      omega
theorem LN_cg {f g : Nat → Int32} {N s c : Nat} (hN : N ≤ 2000) (hs : s < N) (hfg : ∀ j, 0 < j → j < N → f j = g j) (hf : ∀ j, 0 < j → j < N → (f j).toInt < (j : Int)) (h : LN f (nI s) c) : LN g (nI s) c := by
  have key := it_cg hN hs hfg hf h
  refine ⟨fun k hk => ?_, ?_⟩
  · rw [(key k (by omega)).1]
    exact h.1 k hk
  · rw [(key c (Nat.le_refl c)).1]
    exact h.2
theorem xo_lt {X : XT} (ho : XO X) (hN : xN X ≤ 2000) : ∀ j, 0 < j → j < xN X → (xF X j).toInt < (j : Int) := fun j h0 h1 => by
  obtain ⟨i, hi, e⟩ := ho j h0 h1
  rw [e, nI_toInt (by omega)]
  omega
/-- what refuses a state -/
def rfQ (P : PG) (x r : Int32) : Prop := (x < 0 ∧ r = -1) ∨ (0 ≤ x ∧ xP (xE P 0) = true ∧ r = -5) ∨ (0 ≤ x ∧ xP (xE P 0) = false ∧ nI (xN (xE P 0)) ≤ x ∧ r = -1) ∨ (xP (xE P 0) = false ∧ (∃ s, s < xN (xE P 0) ∧ x = nI s) ∧ r = 0)
theorem rf_fn (hW : WFP P) {r r' : Int32} (h : rfQ P x r) (h' : rfQ P x r') : r = r' := by
  have hN := (xe_wx (k := 0) hW).1.2.1
  have i1 : x < 0 → 0 ≤ x → False := fun a b => i_ab a b
  have i2 : ∀ s, s < xN (xE P 0) → x = nI s → ¬ x < 0 ∧ ¬ nI (xN (xE P 0)) ≤ x := fun s hs e => by
    subst e
    refine ⟨m_n0 (by omega), fun h => ?_⟩
    have := (m_le (by omega) (by omega)).mp h
    omega
  have bt : xP (xE P 0) = true → xP (xE P 0) = false → False := fun a b => by
    rw [a] at b
    cases b
  rcases h with ⟨a, rfl⟩ | ⟨a, b, rfl⟩ | ⟨a, b, c, rfl⟩ | ⟨b, ⟨s, hs, e⟩, rfl⟩ <;> rcases h' with ⟨a', rfl⟩ | ⟨a', b', rfl⟩ | ⟨a', b', c', rfl⟩ | ⟨b', ⟨s', hs', e'⟩, rfl⟩
  · rfl
  · exact (i1 a a').elim
  · rfl
  · exact absurd a (i2 s' hs' e').1
  · exact (i1 a' a).elim
  · rfl
  · exact (bt b b').elim
  · exact (bt b b').elim
  · rfl
  · exact (bt b' b).elim
  · rfl
  · exact absurd c (i2 s' hs' e').2
  · exact absurd a' (i2 s hs e).1
  · exact (bt b' b).elim
  · exact absurd c' (i2 s hs e).2
  · rfl
theorem nn_of {x : Int32} (h : ¬ 0 ≤ x) : x < 0 := by
  rw [Int32.le_iff_toInt_le] at h
  rw [Int32.lt_iff_toInt_lt]
  omega
theorem st_lt (hN : xN (xE P 0) ≤ 2000) (h0 : 0 ≤ x) (h : x < nI (xN (xE P 0))) : ∃ s, s < xN (xE P 0) ∧ x = nI s := by
  rw [Int32.le_iff_toInt_le] at h0
  rw [Int32.lt_iff_toInt_lt, nI_toInt (by omega)] at h
  have e0 : (0 : Int32).toInt = 0 := rfl
  obtain ⟨s, hs, e⟩ := nI_rg (x := x) (m := 2000) (by omega) (by omega)
  rw [e, nI_toInt (by omega)] at h
  exact ⟨s, by omega, e⟩
set_option maxHeartbeats 4000000 in
theorem c_ref (hG : GS θ S n) (hZ : JZ P S) : PM (j_SL L) (j_SV xs) j_EX mm_X11_refusalOf [.ref 0, .int x] S n (fun r S' n' => n = n' ∧ ∃ q : Int32, r = some (.int q) ∧ rfQ P x q ∧ (q = 0 → CSo P S')) := by
  have hn := gs_n hG
  obtain ⟨fs, k0, -, -, -⟩ := gs_0 hG
  have hN := (xe_wx (k := 0) hZ.1).1.2.1
  change PQ (j_SL L) (j_SV xs) j_EX mm_X11_refusalOf 0 [.ref 0, .int x, pm_un] [] S n 0 0 _
  refine q_iload_n rfl rfl rfl ?_
  refine q_ifge rfl rfl (fun h0 => ?_) (fun h0 => ?_)
  rotate_left
  · refine q_iconst rfl rfl ?_
    exact q_iret rfl rfl trivial ⟨rfl, _, rfl, Or.inl ⟨nn_of h0, rfl⟩, fun e => absurd e (by decide)⟩
  refine q_aload_n rfl rfl rfl ?_
  refine q_iconst rfl rfl ?_
  refine q_cV rfl rfl (Or.inl rfl) rfl rfl rfl rfl (by omega) k0 trivial rfl rfl rfl rfl rfl (c_sz3 hG hZ) ?_
  rintro r T _ ⟨rfl, rfl, hC, hF, hCS⟩
  show PQ (j_SL L) (j_SV xs) j_EX mm_X11_refusalOf 11 [.ref 0, .int x, pm_un] [.int (szR P 0)] T n 0 0 _
  refine q_ist2n rfl rfl rfl rfl ?_
  refine q_iload_n rfl rfl rfl ?_
  refine q_bipush rfl rfl ?_
  cases hp1 : xP (xE P 0)
  rotate_left
  · rw [szR_t hp1]
    refine q_icne rfl rfl (fun _ => ?_) (fun h => absurd rfl h)
    refine q_bipush rfl rfl ?_
    exact q_iret rfl rfl trivial ⟨rfl, _, rfl, Or.inr (Or.inl ⟨h0, hp1, rfl⟩), fun e => absurd e (by decide)⟩
  rw [szR_f hp1]
  refine q_icne rfl rfl (fun h => ?_) (fun _ => ?_)
  · exfalso
    have e9 := congrArg Int32.toInt h
    rw [nI_toInt (by omega)] at e9
    have e5 : (-5 : Int32).toInt = -5 := rfl
    omega
  refine q_iload_n rfl rfl rfl ?_
  refine q_iload_n rfl rfl rfl ?_
  refine q_iclt rfl rfl (fun h => ?_) (fun h => ?_)
  · refine q_iconst rfl rfl ?_
    exact q_iret rfl rfl trivial ⟨rfl, _, rfl, Or.inr (Or.inr (Or.inr ⟨hp1, st_lt hN h0 h, rfl⟩)), fun _ => hCS hp1⟩
  · refine q_iconst rfl rfl ?_
    refine q_goto rfl ?_
    exact q_iret rfl rfl trivial ⟨rfl, _, rfl, Or.inr (Or.inr (Or.inl ⟨h0, hp1, i_nlt h, rfl⟩)), fun e => absurd e (by decide)⟩
set_option maxHeartbeats 4000000 in
theorem l_lacks (hG : GS θ S n) (hT : tie θ P) (hZ : JZ P S) : PM (j_SL L) (j_SV xs) j_EX mm_X12_lacks [.ref 46, .int x] S n (fun r S' n' => n = n' ∧ GS θ S' n ∧ JZ P S' ∧ ∃ q : Int32, r = some (.int q) ∧ rfQ P x q ∧ (q = 0 → RSo P S')) := by
  have hn := gs_n hG
  obtain ⟨fs, k46, -⟩ := gs_obj hG (k := 46) rfl
  have hN := (xe_wx (k := 0) hZ.1).1.2.1
  change PQ (j_SL L) (j_SV xs) j_EX mm_X12_lacks 0 [.ref 46, .int x] [] S n 0 0 _
  refine q_iload_n rfl rfl rfl ?_
  refine q_ifge rfl rfl (fun h0 => ?_) (fun h0 => ?_)
  rotate_left
  · refine q_iconst rfl rfl ?_
    refine q_goto rfl ?_
    exact q_iret rfl rfl trivial ⟨rfl, hG, hZ, _, rfl, Or.inl ⟨nn_of h0, rfl⟩, fun e => absurd e (by decide)⟩
  refine q_aload_n rfl rfl rfl ?_
  refine q_iconst rfl rfl ?_
  refine q_cV rfl rfl (Or.inl rfl) rfl rfl rfl rfl (by omega) k46 trivial rfl rfl rfl rfl rfl (l_sp3 hG hT hZ) ?_
  rintro r T _ ⟨rfl, rfl, gT, hR, hF, hRS⟩
  have hZT : JZ P T := ⟨hZ.1, cj_fr hZ.2.1 (fun j hj => hF j (by omega) (by omega) (by omega) (by omega)), hR⟩
  show PQ (j_SL L) (j_SV xs) j_EX mm_X12_lacks 13 [.ref 46, .int x] [.int (spR P 0)] T n 0 0 _
  cases hp1 : xP (xE P 0)
  rotate_left
  · rw [spR_t hp1]
    refine q_ifeq rfl rfl (fun h => absurd h (by decide)) (fun _ => ?_)
    refine q_bipush rfl rfl ?_
    refine q_goto rfl ?_
    exact q_iret rfl rfl trivial ⟨rfl, gT, hZT, _, rfl, Or.inr (Or.inl ⟨h0, hp1, rfl⟩), fun e => absurd e (by decide)⟩
  rw [spR_f hp1]
  refine q_ifeq rfl rfl (fun _ => ?_) (fun h => absurd rfl h)
  have hR9 := hRS hp1
  obtain ⟨st, cf, cb, ch, sp, ct, nt, nx, nw0, ⟨gs, u46, g8, g9, g11, g12, g13, g14, g15, g16, g17, t53, t55, t56, t57, t58, t59, t60, t61, hct⟩, t52, hJ, h1, h2, h3⟩ := hR9
  refine q_iload_n rfl rfl rfl ?_
  refine q_aload_n rfl rfl rfl ?_
  refine q_getf rfl rfl (by omega) u46 g16 ?_
  refine q_iconst rfl rfl ?_
  refine q_iald rfl rfl (by omega) t60 rfl (q_tn (z := nI (xN (xE P 0))) hct ?_)
  refine q_iclt rfl rfl (fun h => ?_) (fun h => ?_)
  · refine q_iconst rfl rfl ?_
    exact q_iret rfl rfl trivial ⟨rfl, gT, hZT, _, rfl, Or.inr (Or.inr (Or.inr ⟨hp1, st_lt hN h0 h, rfl⟩)), fun _ => hRS hp1⟩
  · refine q_iconst rfl rfl ?_
    refine q_goto rfl ?_
    exact q_iret rfl rfl trivial ⟨rfl, gT, hZT, _, rfl, Or.inr (Or.inr (Or.inl ⟨h0, hp1, i_nlt h, rfl⟩)), fun e => absurd e (by decide)⟩
set_option maxHeartbeats 4000000 in
theorem o_wlen {N s : Nat} {os : List Value} {og : Nat → Int32} (hn : 82 ≤ n) (t8 : S 8 = .inr (5, os)) (o0 : os[0]? = some (.int (nI N))) (o5 : os[5]? = some (.ref 10)) (t10 : S 10 = .inl (0, 2000, .inl og)) (hN : N ≤ 2000) (hs : s < N) (hf : ∀ j, 0 < j → j < N → ∃ i, i < j ∧ og j = nI i) : PM (j_SL L) (j_SV xs) j_EX mm_X7_wayLength [.ref 8, .int (nI s)] S n (fun r S' n' => S = S' ∧ n = n' ∧ ∃ c, c < 2000 ∧ r = some (.int (nI c)) ∧ LN og (nI s) c) := by
  change PQ (j_SL L) (j_SV xs) j_EX mm_X7_wayLength 0 [.ref 8, .int (nI s), pm_un, pm_un] [] S n 0 0 _
  have fin : ∀ k : Nat, k ≤ s → itc og (nI s) k = nI 0 → (∀ j, j < k → 0 < (itc og (nI s) j).toInt ∧ (itc og (nI s) j).toInt < 2000) → PQ (j_SL L) (j_SV xs) j_EX mm_X7_wayLength 4 [.ref 8, .int (nI s), .int (nI k), .int (nI 0)] [] S n 0 0 (fun r S' n' => S = S' ∧ n = n' ∧ ∃ c, c < 2000 ∧ r = some (.int (nI c)) ∧ LN og (nI s) c) := by
    intro k hk e hj
    refine q_iload_n rfl rfl rfl ?_
    refine q_sipush rfl rfl ?_
    refine q_icge rfl rfl (fun h => absurd h (nI_ge (a := k) (b := 2000) (by omega) (by decide))) (fun _ => ?_)
    refine q_iload_n rfl rfl rfl ?_
    refine q_ifle rfl rfl (fun _ => ?_) (fun h => absurd (by decide) h)
    refine q_iload_n rfl rfl rfl ?_
    refine q_iret rfl rfl trivial ⟨rfl, rfl, k, by omega, rfl, hj, ?_⟩
    rw [e]
    decide
  have key : ∀ M m k : Nat, m ≤ M → m < N → itc og (nI s) k = nI m → k + m ≤ s → (∀ j, j < k → 0 < (itc og (nI s) j).toInt ∧ (itc og (nI s) j).toInt < 2000) → PQ (j_SL L) (j_SV xs) j_EX mm_X7_wayLength 4 [.ref 8, .int (nI s), .int (nI k), .int (nI m)] [] S n 0 0 (fun r S' n' => S = S' ∧ n = n' ∧ ∃ c, c < 2000 ∧ r = some (.int (nI c)) ∧ LN og (nI s) c) := by
    intro M
    induction M with
    | zero =>
      intro m k hm hmN e hk hj
      have e0 : m = 0 := by omega
      subst e0
      exact fin k (by omega) e hj
    | succ M ih =>
      intro m k hm hmN e hk hj
      rcases Nat.eq_zero_or_pos m with e0 | m0
      · subst e0
        exact fin k (by omega) e hj
      obtain ⟨i, hi, ei⟩ := hf m m0 hmN
      have nle : ¬ nI m ≤ 0 := fun h => by
        have := (m_le (b := 0) (by omega) (by decide)).mp h
        omega
      refine q_iload_n rfl rfl rfl ?_
      refine q_sipush rfl rfl ?_
      refine q_icge rfl rfl (fun h => absurd h (nI_ge (a := k) (b := 2000) (by omega) (by decide))) (fun _ => ?_)
      refine q_iload_n rfl rfl rfl ?_
      refine q_ifle rfl rfl (fun h => absurd h nle) (fun _ => ?_)
      refine q_iload_n rfl rfl rfl ?_
      refine q_aload_n rfl rfl rfl ?_
      refine q_getf rfl rfl (by omega) t8 o0 ?_
      refine q_icge rfl rfl (fun h => absurd h (nI_ge (a := m) (b := N) (by omega) (by omega))) (fun _ => ?_)
      refine q_inc2 rfl rfl rfl rfl ?_
      refine q_aload_n rfl rfl rfl ?_
      refine q_getf rfl rfl (by omega) t8 o5 ?_
      refine q_iload_n rfl rfl rfl ?_
      refine q_iald rfl rfl (by omega) t10 (q_inN (by omega) (by decide)) (q_tn (z := nI i) (by rw [nI_clamp (by omega)]; exact ei) ?_)
      refine q_ist3n rfl rfl rfl rfl ?_
      refine q_goto rfl ?_
      rw [show nI k + 1 = nI (k + 1) from nI_add k 1]
      refine ih i (k + 1) (by omega) (by omega) ?_ (by omega) (fun j hj1 => ?_)
      · show og (itc og (nI s) k).toNatClampNeg = nI i
        rw [e, nI_clamp (by omega)]
        exact ei
      · rcases Nat.lt_or_eq_of_le (Nat.le_of_lt_succ hj1) with c | c
        · exact hj j c
        · rw [c, e, nI_toInt (by omega)]
          omega
  refine q_iconst rfl rfl ?_
  refine q_ist2n rfl rfl rfl rfl ?_
  refine q_iload_n rfl rfl rfl ?_
  refine q_ist3n rfl rfl rfl rfl ?_
  exact key s s 0 (Nat.le_refl s) hs rfl (by omega) (fun j hj => absurd hj (by omega))
theorem it_in {N s c b : Nat} {og : Nat → Int32} (hN : N ≤ 2000) (hs : s < N) (hf : ∀ j, 0 < j → j < N → ∃ i, i < j ∧ og j = nI i) (hL : LN og (nI s) c) (hb : b < c) : ∃ m, 0 < m ∧ m < N ∧ itc og (nI s) b = nI m := by
  have hlt : ∀ j, 0 < j → j < N → (og j).toInt < (j : Int) := fun j h0 h1 => by
    obtain ⟨i, hi, e⟩ := hf j h0 h1
    rw [e, nI_toInt (by omega)]
    omega
  have h1 := (it_cg hN hs (fun j _ _ => rfl) hlt hL b (by omega)).2
  have h2 := (hL.1 b hb).1
  obtain ⟨m, hm, e⟩ := nI_rg (x := itc og (nI s) b) (m := 2000) (by omega) (by omega)
  rw [e, nI_toInt (by omega)] at h1 h2
  exact ⟨m, by omega, by omega, e⟩
set_option maxHeartbeats 4000000 in
theorem o_whand {c : Nat} {mv : Nat → Int32} {N s : Nat} {os : List Value} {og : Nat → Int32} (hn : 82 ≤ n) (t8 : S 8 = .inr (5, os)) (o0 : os[0]? = some (.int (nI N))) (o5 : os[5]? = some (.ref 10)) (t10 : S 10 = .inl (0, 2000, .inl og)) (hN : N ≤ 2000) (hs : s < N) (hf : ∀ j, 0 < j → j < N → ∃ i, i < j ∧ og j = nI i) (o6 : os[6]? = some (.ref 11)) (t11 : S 11 = .inl (0, 2000, .inl mv)) (hL : LN og (nI s) c) (hc : c < 2000) (hk : k < c) : PM (j_SL L) (j_SV xs) j_EX mm_X7_wayHand [.ref 8, .int (nI s), .int (nI k)] S n (fun r S' n' => S = S' ∧ n = n' ∧ ∃ m, m < N ∧ itc og (nI s) (c - 1 - k) = nI m ∧ r = some (.int (mv m))) := by
  change PQ (j_SL L) (j_SV xs) j_EX mm_X7_wayHand 0 [.ref 8, .int (nI s), .int (nI k), pm_un, pm_un] [] S n 0 0 _
  have hsub : nI c - 1 - nI k = nI (c - 1 - k) := by
    have e1 : nI c = nI (c - 1 - k) + nI k + 1 := by
      rw [nI_add, show nI (c - 1 - k + k) + 1 = nI (c - 1 - k + k + 1) from nI_add _ 1]
      congr 1
      omega
    rw [e1, Int32.add_sub_cancel, Int32.add_sub_cancel]
  have loop : ∀ q b : Nat, b + q = c - 1 - k → ∀ m, 0 < m → m < N → itc og (nI s) b = nI m → PQ (j_SL L) (j_SV xs) j_EX mm_X7_wayHand 13 [.ref 8, .int (nI s), .int (nI k), .int (nI m), .int (nI q)] [] S n 0 0 (fun r S' n' => S = S' ∧ n = n' ∧ ∃ m, m < N ∧ itc og (nI s) (c - 1 - k) = nI m ∧ r = some (.int (mv m))) := by
    intro q
    induction q with
    | zero =>
      intro b hb m m0 hm e
      refine q_iload rfl rfl rfl ?_
      refine q_ifle rfl rfl (fun _ => ?_) (fun h => absurd (by decide) h)
      refine q_iload_n rfl rfl rfl ?_
      refine q_aload_n rfl rfl rfl ?_
      refine q_getf rfl rfl (by omega) t8 o0 ?_
      refine q_cS rfl rfl (Or.inr rfl) rfl rfl trivial rfl rfl rfl rfl rfl c_wi ?_
      rintro r _ _ ⟨rfl, rfl, hr⟩
      rcases hr with ⟨w, rfl⟩ | ⟨w, rfl⟩
      · exact (c_out w ⟨nI_p0 (by omega), (m_lt (by omega) (by omega)).mpr hm⟩).elim
      show PQ (j_SL L) (j_SV xs) j_EX mm_X7_wayHand 50 [.ref 8, .int (nI s), .int (nI k), .int (nI m), .int (nI 0)] [.int 1] S n 0 0 _
      refine q_ifeq rfl rfl (fun h => absurd h (by decide)) (fun _ => ?_)
      refine q_aload_n rfl rfl rfl ?_
      refine q_getf rfl rfl (by omega) t8 o6 ?_
      refine q_iload_n rfl rfl rfl ?_
      refine q_iald rfl rfl (by omega) t11 (q_inN (by omega) (by decide)) (q_tn (z := mv m) (by rw [nI_clamp (by omega)]) ?_)
      refine q_goto rfl ?_
      exact q_iret rfl rfl trivial ⟨rfl, rfl, m, hm, by rw [← hb]; exact e, rfl⟩
    | succ q ih =>
      intro b hb m m0 hm e
      obtain ⟨i, hi, ei⟩ := hf m m0 hm
      have e' : itc og (nI s) (b + 1) = nI i := by
        show og (itc og (nI s) b).toNatClampNeg = nI i
        rw [e, nI_clamp (by omega)]
        exact ei
      obtain ⟨i', i0, hiN, e2⟩ := it_in (b := b + 1) hN hs hf hL (by omega)
      have ii : i = i' := nI_inj (by omega) (by omega) (e'.symm.trans e2)
      subst ii
      have nle : ¬ nI (q + 1) ≤ 0 := fun h => by
        have := (m_le (b := 0) (by omega) (by decide)).mp h
        omega
      refine q_iload rfl rfl rfl ?_
      refine q_ifle rfl rfl (fun h => absurd h nle) (fun _ => ?_)
      refine q_iload_n rfl rfl rfl ?_
      refine q_aload_n rfl rfl rfl ?_
      refine q_getf rfl rfl (by omega) t8 o0 ?_
      refine q_cS rfl rfl (Or.inr rfl) rfl rfl trivial rfl rfl rfl rfl rfl c_wi ?_
      rintro r _ _ ⟨rfl, rfl, hr⟩
      rcases hr with ⟨w, rfl⟩ | ⟨w, rfl⟩
      · exact (c_out w ⟨nI_p0 (by omega), (m_lt (by omega) (by omega)).mpr hm⟩).elim
      show PQ (j_SL L) (j_SV xs) j_EX mm_X7_wayHand 26 [.ref 8, .int (nI s), .int (nI k), .int (nI m), .int (nI (q + 1))] [.int 1] S n 0 0 _
      refine q_ifeq rfl rfl (fun h => absurd h (by decide)) (fun _ => ?_)
      refine q_aload_n rfl rfl rfl ?_
      refine q_getf rfl rfl (by omega) t8 o5 ?_
      refine q_iload_n rfl rfl rfl ?_
      refine q_iald rfl rfl (by omega) t10 (q_inN (by omega) (by decide)) (q_tn (z := nI i) (by rw [nI_clamp (by omega)]; exact ei) ?_)
      refine q_ist3n rfl rfl rfl rfl ?_
      refine q_inc4 rfl rfl rfl rfl ?_
      refine q_goto rfl ?_
      have eq1 : nI (q + 1) + -1 = nI q := by
        rw [← nI_add q 1]
        show nI q + 1 + -1 = nI q
        rw [Int32.add_assoc]
        show nI q + 0 = nI q
        rw [Int32.add_zero]
      rw [eq1]
      exact ih (b + 1) (by omega) i i0 hiN e'
  refine q_iload_n rfl rfl rfl ?_
  refine q_ist3n rfl rfl rfl rfl ?_
  refine q_aload_n rfl rfl rfl ?_
  refine q_iload_n rfl rfl rfl ?_
  refine q_cV rfl rfl (Or.inl rfl) rfl rfl rfl rfl (by omega) t8 trivial rfl rfl rfl rfl rfl (o_wlen hn t8 o0 o5 t10 hN hs hf) ?_
  rintro r _ _ ⟨rfl, rfl, c2, h2, rfl, hL2⟩
  have ec := LN_fn hL2 hL
  subst ec
  show PQ (j_SL L) (j_SV xs) j_EX mm_X7_wayHand 7 [.ref 8, .int (nI s), .int (nI k), .int (nI s), pm_un] [.int (nI c2)] S n 0 0 _
  refine q_iconst rfl rfl ?_
  refine q_isub rfl rfl ?_
  refine q_iload_n rfl rfl rfl ?_
  refine q_isub rfl rfl (q_tn (z := nI (c2 - 1 - k)) hsub ?_)
  refine q_ist4 rfl rfl rfl rfl ?_
  obtain ⟨m, m0, hm, e⟩ := it_in (b := 0) hN hs hf hL (by omega)
  have em : nI s = nI m := e
  have ems := nI_inj (by omega) (by omega) em
  subst ems
  exact loop (c2 - 1 - k) 0 (by omega) s m0 hs rfl
end JE
