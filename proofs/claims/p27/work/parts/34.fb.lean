variable {θ : Th}
/-! the reference's findBacks -/
def sm (w : Nat → Nat) : Nat → Nat
  | 0 => 0
  | k + 1 => sm w k + w k
theorem sm_same {w w' : Nat → Nat} : ∀ {N : Nat}, (∀ j, j < N → w' j = w j) → sm w' N = sm w N
  | 0, _ => rfl
  | N + 1, h => by
    show sm w' N + w' N = sm w N + w N
    rw [sm_same (fun j hj => h j (by omega)), h N (by omega)]
theorem sm_upd {w w' : Nat → Nat} {i : Nat} : ∀ {N : Nat}, i < N → (∀ j, j < N → j ≠ i → w' j = w j) → sm w' N + w i = sm w N + w' i
  | 0, h, _ => by omega
  | N + 1, h, hw => by
    show sm w' N + w' N + w i = sm w N + w N + w' i
    by_cases e : i = N
    · subst e
      rw [sm_same (w := w) (w' := w') (fun j hj => hw j (by omega) (by omega))]
      omega
    · have := sm_upd (w := w) (w' := w') (i := i) (N := N) (by omega) (fun j hj hji => hw j (by omega) hji)
      have e2 := hw N (by omega) (fun q => e q.symm)
      omega
theorem sm_le {w : Nat → Nat} {B : Nat} : ∀ {N : Nat}, (∀ j, j < N → w j ≤ B) → sm w N ≤ B * N
  | 0, _ => Nat.le_refl _
  | N + 1, h => by
    show sm w N + w N ≤ B * (N + 1)
    have h1 := sm_le (w := w) (B := B) (N := N) (fun j hj => h j (by omega))
    have h2 := h N (by omega)
    rw [Nat.mul_add]
    omega
theorem sm_ge {w : Nat → Nat} {i : Nat} : ∀ {N : Nat}, i < N → w i ≤ sm w N
  | 0, h => by omega
  | N + 1, h => by
    show w i ≤ sm w N + w N
    by_cases e : i = N
    · subst e
      omega
    · have := sm_ge (w := w) (i := i) (N := N) (by omega)
      omega
def cw (sn : Nat → Int32) (j : Nat) : Nat := if (sn j).toInt < 0 then 0 else 1
def gw (sn tr : Nat → Int32) (j : Nat) : Nat := if (sn j).toInt < 0 then 5 else (3 - (tr j).toInt).toNat
def FBf (sn pt sk tr : Nat → Int32) (q held depth m : Nat) : Prop := q ≤ sm (cw sn) 2000 ∧ held ≤ q ∧ depth ≤ q ∧ (∀ j, j < depth → ∃ p, p < 2000 ∧ pt j = nI p ∧ 0 ≤ (sn p).toInt) ∧ (∃ pos : Nat → Nat, ∀ j, j < depth → pos j < held ∧ sk (pos j) = pt j ∧ ∀ i, i < j → pos i < pos j) ∧ sm (gw sn tr) 2000 + depth < m
def FB (S : Nat → pm_E) (q held depth m : Nat) : Prop := ∃ sn pt sk tr : Nat → Int32, S 66 = .inl (0, 2000, .inl sn) ∧ S 68 = .inl (0, 2000, .inl pt) ∧ S 69 = .inl (0, 2000, .inl sk) ∧ S 70 = .inl (0, 2000, .inl tr) ∧ FBf sn pt sk tr q held depth m
theorem cw_le (sn : Nat → Int32) : sm (cw sn) 2000 ≤ 2000 := by
  have := sm_le (w := cw sn) (B := 1) (N := 2000) (fun j _ => by unfold cw; split <;> omega)
  omega
theorem FB_try {sn pt sk tr : Nat → Int32} {q held d m i : Nat} (h : FBf sn pt sk tr q held d (m + 1)) (hi : i < 2000) (hs : 0 ≤ (sn i).toInt) (h0 : 0 ≤ (tr i).toInt) (h3 : (tr i).toInt < 3) : FBf sn pt sk (upd tr i (tr i + 1)) q held d m := by
  obtain ⟨h1, h2, h4, h5, h6, h7⟩ := h
  refine ⟨h1, h2, h4, h5, h6, ?_⟩
  have e := sm_upd (w := gw sn tr) (w' := gw sn (upd tr i (tr i + 1))) (i := i) (N := 2000) hi (fun j _ hj => by unfold gw upd; rw [if_neg hj])
  have e1 : gw sn tr i = (3 - (tr i).toInt).toNat := by
    unfold gw
    rw [if_neg (by omega)]
  have e2 : gw sn (upd tr i (tr i + 1)) i = (3 - ((tr i).toInt + 1)).toNat := by
    unfold gw upd
    rw [if_neg (by omega), if_pos rfl]
    have e3 : (tr i + 1).toInt = ((tr i).toInt + (1 : Int32).toInt).bmod 4294967296 := Int32.toInt_add _ _
    rw [e3, show (1 : Int32).toInt = 1 from rfl, ck_bm (by unfold ck_lo; omega) (by unfold ck_hi; omega)]
  omega
theorem FB_cnt {sn : Nat → Int32} {i : Nat} (hi : i < 2000) (hs : (sn i).toInt < 0) : sm (cw sn) 2000 < 2000 := by
  have e := sm_upd (w := cw sn) (w' := cw (upd sn i 0)) (i := i) (N := 2000) hi (fun j _ hj => by unfold cw upd; rw [if_neg hj])
  have e1 : cw sn i = 0 := by unfold cw; rw [if_pos hs]
  have e2 : cw (upd sn i 0) i = 1 := by
    unfold cw upd
    rw [if_pos rfl]
    rfl
  have := cw_le (upd sn i 0)
  omega
theorem FB_push {sn pt sk tr : Nat → Int32} {q held d m i : Nat} (h : FBf sn pt sk tr q held d m) (hi : i < 2000) (hs : (sn i).toInt < 0) (hq : q < 2000) : FBf (upd sn i (nI q)) (upd pt d (nI i)) (upd sk held (nI i)) (upd tr i 0) (q + 1) (held + 1) (d + 1) m := by
  obtain ⟨h1, h2, h4, h5, ⟨pos, h6⟩, h7⟩ := h
  have eq0 : 0 ≤ (nI q).toInt := by
    rw [nI_toInt (by omega)]
    omega
  refine ⟨?_, by omega, by omega, ?_, ⟨fun j => if j < d then pos j else held, ?_⟩, ?_⟩
  · have e := sm_upd (w := cw sn) (w' := cw (upd sn i (nI q))) (i := i) (N := 2000) hi (fun j _ hj => by unfold cw upd; rw [if_neg hj])
    have e1 : cw sn i = 0 := by unfold cw; rw [if_pos hs]
    have e2 : cw (upd sn i (nI q)) i = 1 := by
      unfold cw upd
      rw [if_pos rfl, if_neg (by omega)]
    omega
  · intro j hj
    unfold upd
    by_cases e : j = d
    · rw [if_pos e]
      exact ⟨i, hi, rfl, by rw [if_pos rfl]; exact eq0⟩
    · rw [if_neg e]
      obtain ⟨p, p1, p2, p3⟩ := h5 j (by omega)
      refine ⟨p, p1, p2, ?_⟩
      by_cases e2 : p = i
      · rw [if_pos e2]
        exact eq0
      · rw [if_neg e2]
        exact p3
  · intro j hj
    dsimp only
    by_cases e : j < d
    · rw [if_pos e]
      obtain ⟨a1, a2, a3⟩ := h6 j e
      refine ⟨by omega, ?_, fun i2 hi2 => ?_⟩
      · unfold upd
        rw [if_neg (by omega), if_neg (by omega)]
        exact a2
      · rw [if_pos (by omega)]
        exact a3 i2 hi2
    · rw [if_neg e]
      refine ⟨by omega, ?_, fun i2 hi2 => ?_⟩
      · unfold upd
        rw [if_pos rfl, if_pos (by omega)]
      · rw [if_pos (by omega)]
        exact (h6 i2 (by omega)).1
  · have e := sm_upd (w := gw sn tr) (w' := gw (upd sn i (nI q)) (upd tr i 0)) (i := i) (N := 2000) hi (fun j _ hj => by unfold gw upd; rw [if_neg hj, if_neg hj])
    have e1 : gw sn tr i = 5 := by unfold gw; rw [if_pos hs]
    have e2 : gw (upd sn i (nI q)) (upd tr i 0) i = 3 := by
      unfold gw upd
      rw [if_pos rfl, if_pos rfl, if_neg (by omega)]
      rfl
    omega
theorem FB_pop {sn pt sk tr : Nat → Int32} {q held d m : Nat} (h : FBf sn pt sk tr q held (d + 1) (m + 1)) : FBf sn pt sk tr q held d m := by
  obtain ⟨h1, h2, h4, h5, ⟨pos, h6⟩, h7⟩ := h
  exact ⟨h1, h2, by omega, fun j hj => h5 j (by omega), ⟨pos, fun j hj => h6 j (by omega)⟩, by omega⟩
section FBW
variable {n : Nat}
theorem gs_one {S : Nat → pm_E} {k t m0 i : Nat} {q : Nat × Int × Int} {f : Nat → Int32} {v : Int32} (hG : GS θ S n) (e : jga k = (0, t, m0, [q])) (h2 : ck_ro (jga k) = false) (hS : S k = .inl (t, m0, .inl f)) (hv : q.2.1 ≤ v.toInt ∧ v.toInt ≤ q.2.2) : GS θ (va_up S k (.inl (t, m0, .inl (upd f i v)))) n := by
  obtain ⟨f', e1, b⟩ := gs_a1 hG e
  rw [hS] at e1
  cases e1
  refine gs_st hG (by rw [e]; rfl) h2 (cell_one e (fun j hj => ?_)) (pk_arr hS)
  unfold upd
  by_cases e2 : j = i
  · rw [if_pos e2]
    exact hv
  · rw [if_neg e2]
    exact b j hj
theorem nar_b {x : Int32} (h : x = 0 ∨ x = 1) : (0 : Int) ≤ (vp_nar .boolean x).toInt ∧ (vp_nar .boolean x).toInt ≤ 1 := by
  rcases h with rfl | rfl <;> exact ⟨by decide, by decide⟩
theorem b01 {x : Int32} (h1 : (0 : Int) ≤ x.toInt) (h2 : x.toInt ≤ 1) : x = 0 ∨ x = 1 := by
  have : x.toInt = 0 ∨ x.toInt = 1 := by omega
  rcases this with e | e
  · exact Or.inl (Int32.toInt_inj.mp e)
  · exact Or.inr (Int32.toInt_inj.mp e)
theorem nat_of {x : Int32} {b : Nat} (h1 : (0 : Int) ≤ x.toInt) (h2 : x.toInt ≤ (b : Int)) : ∃ p, p ≤ b ∧ x = nI p := ⟨x.toInt.toNat, by omega, Int32.toInt_inj.mp (by
  have := (fullI x).2
  rw [nI_toInt (by omega)]
  omega)⟩
end FBW
def cB : List Nat := [65, 66, 67, 68, 69, 70, 71]
section FBL
variable {SL : Nat → Nat} {SV : Nat → Nat → Int32} {EX : pm_M → pm_C → (pm_C → Prop) → Prop} {n : Nat} {K : q_K} {fs : List Value} {S0 : Nat → pm_E}
theorem l_fbi (hn : 82 ≤ n) (f22 : fs[22]? = some (.ref 65)) (f26 : fs[26]? = some (.ref 69)) (f28 : fs[28]? = some (.ref 71)) {sn pt sk tr : Nat → Int32} {q d m i : Nat} {b1 : Value} {al : Int32} (hal : al = 0 ∨ al = 1) (hi : i < 2000) (hb1 : pm_c2 b1 = false)
    (hK : ∀ (held' : Nat) (S : Nat → pm_E) (b7 b8 : Value), GS θ S n → S 46 = .inr (10, fs) → fr1 cB S0 S n → FB S q held' d m → pm_c2 b7 = false → PQ SL SV EX mm_X12_findBacks 94 [.ref 46, b1, .int (nI q), .int (nI held'), .int (nI d), .int (nI i), .int al, b7, b8] [] S n 0 0 K) (hq : q ≤ 2000) (P : Nat) (hP : sk P = nI i) (pos : Nat → Nat) (hpos : ∀ j, j < d → pos j < P ∧ sk (pos j) = pt j ∧ ∀ i, i < j → pos i < pos j)
    (hF : q ≤ sm (cw sn) 2000 ∧ d ≤ q ∧ (∀ j, j < d → ∃ p, p < 2000 ∧ pt j = nI p ∧ 0 ≤ (sn p).toInt) ∧ sm (gw sn tr) 2000 + d < m) :
    ∀ (h : Nat) (S : Nat → pm_E) (b8 : Value), h ≤ q → P < h → GS θ S n → S 46 = .inr (10, fs) → fr1 cB S0 S n → S 66 = .inl (0, 2000, .inl sn) → S 68 = .inl (0, 2000, .inl pt) → S 69 = .inl (0, 2000, .inl sk) → S 70 = .inl (0, 2000, .inl tr) → PQ SL SV EX mm_X12_findBacks 385 [.ref 46, b1, .int (nI q), .int (nI h), .int (nI d), .int (nI i), .int al, .int 1, b8] [] S n 0 0 K := by
  intro h
  induction h with
  | zero => intro S b8 _ hp; omega
  | succ h ih =>
    intro S b8 hhq hPh hG h46 hFr k66 k68 k69 k70
    refine q_iload rfl rfl rfl ?_
    refine q_ifeq rfl rfl (fun c => absurd c (by decide)) (fun _ => ?_)
    refine q_inc3 rfl rfl rfl rfl ?_
    rw [show nI (h + 1) + (-1) = nI h from pk_m1 h]
    refine q_aload_n rfl rfl rfl ?_
    refine q_getf rfl rfl (by omega) h46 f26 ?_
    refine q_iload_n rfl rfl rfl ?_
    refine q_iald rfl rfl (by omega) k69 (q_inN (by omega) (by decide)) ?_
    rw [nI_clamp (by omega)]
    obtain ⟨sk', e69, b69⟩ := gs_a1 hG (k := 69) rfl
    rw [k69] at e69
    cases e69
    obtain ⟨o, ho, eo⟩ := nat_of (x := sk h) (b := 1999) (b69 h (by omega)).1 (b69 h (by omega)).2
    rw [eo]
    refine q_ist8 rfl rfl rfl rfl ?_
    refine q_aload_n rfl rfl rfl ?_
    refine q_getf rfl rfl (by omega) h46 f28 ?_
    refine q_iload rfl rfl rfl ?_
    refine q_iconst rfl rfl ?_
    obtain ⟨on, k71, b71⟩ := gs_a1 hG (k := 71) rfl
    refine q_zast rfl rfl (by omega) k71 (q_inN (by omega) (by decide)) ?_
    have hG1 := gs_one (k := 71) (i := (nI o).toNatClampNeg) (v := vp_nar .boolean 0) hG rfl rfl k71 (nar_b (Or.inl rfl))
    have hF1 := fr1_up (k := 71) (x := .inl (2, 2000, .inl (upd on (nI o).toNatClampNeg (vp_nar .boolean 0)))) hFr rfl
    have h461 : va_up S 71 (.inl (2, 2000, .inl (upd on (nI o).toNatClampNeg (vp_nar .boolean 0)))) 46 = .inr (10, fs) := h46
    have a66 : va_up S 71 (.inl (2, 2000, .inl (upd on (nI o).toNatClampNeg (vp_nar .boolean 0)))) 66 = _ := k66
    have a68 : va_up S 71 (.inl (2, 2000, .inl (upd on (nI o).toNatClampNeg (vp_nar .boolean 0)))) 68 = _ := k68
    have a69 : va_up S 71 (.inl (2, 2000, .inl (upd on (nI o).toNatClampNeg (vp_nar .boolean 0)))) 69 = _ := k69
    have a70 : va_up S 71 (.inl (2, 2000, .inl (upd on (nI o).toNatClampNeg (vp_nar .boolean 0)))) 70 = _ := k70
    generalize va_up S 71 (.inl (2, 2000, .inl (upd on (nI o).toNatClampNeg (vp_nar .boolean 0)))) = S1 at hG1 hF1 h461 a66 a68 a69 a70 ⊢
    refine q_aload_n rfl rfl rfl ?_
    refine q_getf rfl rfl (by omega) h461 f22 ?_
    refine q_iload rfl rfl rfl ?_
    refine q_aload_n rfl rfl rfl ?_
    refine q_getf rfl rfl (by omega) h461 f22 ?_
    refine q_iload rfl rfl rfl ?_
    obtain ⟨bk, k65, b65⟩ := gs_a1 hG1 (k := 65) rfl
    refine q_zald rfl rfl (by omega) k65 (q_inN (by omega) (by decide)) ?_
    have fin : ∀ v : Int32, (v = 0 ∨ v = 1) → PQ SL SV EX mm_X12_findBacks 435 [.ref 46, b1, .int (nI q), .int (nI h), .int (nI d), .int (nI i), .int al, .int 1, .int (nI o)] [.int v, .int (nI o), .ref 65] S1 n 0 0 K := by
      intro v hv
      refine q_zast rfl rfl (by omega) k65 (q_inN (by omega) (by decide)) ?_
      have hG2 := gs_one (k := 65) (i := (nI o).toNatClampNeg) (v := vp_nar .boolean v) hG1 rfl rfl k65 (nar_b hv)
      have hF2 := fr1_up (k := 65) (x := .inl (2, 2000, .inl (upd bk (nI o).toNatClampNeg (vp_nar .boolean v)))) hF1 rfl
      have h462 : va_up S1 65 (.inl (2, 2000, .inl (upd bk (nI o).toNatClampNeg (vp_nar .boolean v)))) 46 = .inr (10, fs) := h461
      have c66 : va_up S1 65 (.inl (2, 2000, .inl (upd bk (nI o).toNatClampNeg (vp_nar .boolean v)))) 66 = _ := a66
      have c68 : va_up S1 65 (.inl (2, 2000, .inl (upd bk (nI o).toNatClampNeg (vp_nar .boolean v)))) 68 = _ := a68
      have c69 : va_up S1 65 (.inl (2, 2000, .inl (upd bk (nI o).toNatClampNeg (vp_nar .boolean v)))) 69 = _ := a69
      have c70 : va_up S1 65 (.inl (2, 2000, .inl (upd bk (nI o).toNatClampNeg (vp_nar .boolean v)))) 70 = _ := a70
      generalize va_up S1 65 (.inl (2, 2000, .inl (upd bk (nI o).toNatClampNeg (vp_nar .boolean v)))) = S2 at hG2 hF2 h462 c66 c68 c69 c70 ⊢
      refine q_iload rfl rfl rfl ?_
      refine q_iload rfl rfl rfl ?_
      refine q_iceq rfl rfl (fun e => ?_) (fun e => ?_)
      · refine q_iconst rfl rfl ?_
        refine q_ist7 rfl rfl rfl rfl ?_
        refine q_goto rfl ?_
        refine q_iload rfl rfl rfl ?_
        refine q_ifeq rfl rfl (fun _ => ?_) (fun c => absurd rfl c)
        refine q_goto rfl ?_
        refine hK h S2 _ _ hG2 h462 hF2 ⟨sn, pt, sk, tr, c66, c68, c69, c70, hF.1, by omega, hF.2.1, hF.2.2.1, ⟨pos, fun j hj => ⟨?_, (hpos j hj).2⟩⟩, hF.2.2.2⟩ rfl
        have := (hpos j hj).1
        omega
      · refine q_iconst rfl rfl ?_
        refine q_goto rfl ?_
        refine q_ist7 rfl rfl rfl rfl ?_
        refine q_goto rfl ?_
        refine ih S2 _ (by omega) ?_ hG2 h462 hF2 c66 c68 c69 c70
        rcases Nat.lt_or_ge P h with h9 | h9
        · exact h9
        · have e2 : P = h := by omega
          rw [e2, eo] at hP
          exact absurd hP e
    refine q_ifne rfl rfl (fun _ => ?_) (fun _ => ?_)
    · refine q_iload rfl rfl rfl ?_
      refine q_ifne rfl rfl (fun _ => ?_) (fun _ => ?_)
      · refine q_iconst rfl rfl ?_
        refine q_goto rfl ?_
        exact fin 1 (Or.inr rfl)
      · refine q_iconst rfl rfl ?_
        exact fin 0 (Or.inl rfl)
    · refine q_iconst rfl rfl ?_
      refine q_goto rfl ?_
      exact fin 1 (Or.inr rfl)
end FBL
