/-! explain: class and reference -/
section LH
variable {θ : Th} {P : PG} {S S' : Nat → pm_E} {n k : Nat} {lr fs : List Value} {ak ag : Int64} {tl : Nat → Int32} {x : Int32} {c : Nat → Nat} {L : Nat} {xs : Nat → Int32}
def lsA (c : Nat → Nat) : Nat → Nat
  | 0 => 41
  | i + 1 => if c i < lsA c i then c i else lsA c i
def btA (c : Nat → Nat) (m : Nat) : Nat → Nat
  | 0 => 0
  | i + 1 => btA c m i + (if c i = m then 2 ^ i else 0)
theorem ls_le : ∀ i j, j < i → lsA c i ≤ c j := by
  intro i
  induction i with
  | zero =>
    intro j h
    omega
  | succ i ih =>
    intro j hj
    show (if c i < lsA c i then c i else lsA c i) ≤ c j
    rcases Nat.lt_or_eq_of_le (Nat.le_of_lt_succ hj) with h | h
    · have := ih j h
      split <;> omega
    · subst h
      split <;> omega
theorem ls_41 : ∀ i, lsA c i ≤ 41 := by
  intro i
  induction i with
  | zero => exact Nat.le_refl 41
  | succ i ih =>
    show (if c i < lsA c i then c i else lsA c i) ≤ 41
    split <;> omega
theorem bt_lt {m : Nat} : ∀ i, btA c m i < 2 ^ i := by
  intro i
  induction i with
  | zero => exact Nat.one_pos
  | succ i ih =>
    show btA c m i + (if c i = m then 2 ^ i else 0) < 2 ^ (i + 1)
    rw [Nat.pow_succ]
    split <;> omega
theorem bt_0 {m : Nat} : ∀ i, (∀ j, j < i → c j ≠ m) → btA c m i = 0 := by
  intro i
  induction i with
  | zero => exact fun _ => rfl
  | succ i ih =>
    intro h
    show btA c m i + (if c i = m then 2 ^ i else 0) = 0
    rw [ih (fun j hj => h j (by omega)), if_neg (h i (by omega))]
theorem or_p {B i : Nat} (hi : i < 5) (hB : B < 2 ^ i) : nI B ||| ((1 : Int32) <<< (nI i &&& 31)) = nI (B + 2 ^ i) := by
  have h : ∀ i : Fin 5, ∀ B : Fin 16, B.val < 2 ^ i.val → nI B.val ||| ((1 : Int32) <<< (nI i.val &&& 31)) = nI (B.val + 2 ^ i.val) := by decide +kernel
  have h16 : B < 16 := by
    have : 2 ^ i ≤ 2 ^ 4 := Nat.pow_le_pow_right (by decide) (by omega)
    omega
  exact h ⟨i, hi⟩ ⟨B, h16⟩ hB
theorem or_0 {B : Nat} (hB : B < 32) : nI B ||| 0 = nI B := by
  have h : ∀ B : Fin 32, nI B.val ||| 0 = nI B.val := by decide +kernel
  exact h ⟨B, hB⟩
noncomputable def exV (P : PG) (ak ag : Int64) : Int32 := nI (btA (fun k => cst P k ak ag) (lsA (fun k => cst P k ak ag) 5) 5)
noncomputable def exR (P : PG) (ak ag : Int64) : Int32 := @ite _ (anyP P) (Classical.propDecidable _) (-5) (exV P ak ag)
theorem ex_s (ha : anyP P) : exR P ak ag = -5 := by
  unfold exR
  exact if_pos ha
theorem ex_v (ha : ¬ anyP P) : exR P ak ag = exV P ak ag := by
  unfold exR
  exact if_neg ha
set_option maxHeartbeats 4000000 in
theorem c_chp {en : Nat → Int64} (hn : 82 ≤ n) (hW : WFP P) (k42 : S 42 = .inr (1, lr)) (l0 : lr[0]? = some (.long ak)) (l1 : lr[1]? = some (.long ag)) (h40 : ∀ j, 40 ≤ j → e_bt ak j = false) (k45 : S 45 = .inl (1, 5, .inr (.inl en))) (he : ∀ k, k < 5 → enOK P k (en k)) : PM (j_SL L) (j_SV xs) j_EX mm_X3_cheapest [.ref 42, .ref 45] S n (fun r S' n' => r = some (.int (exV P ak ag))) := by
  change PQ (j_SL L) (j_SV xs) j_EX mm_X3_cheapest 0 [.ref 42, .ref 45, pm_un, pm_un, pm_un, pm_un] [] S n 0 0 _
  have loop : ∀ q i : Nat, i + q = 5 → ∀ w5 : Value, PQ (j_SL L) (j_SV xs) j_EX mm_X3_cheapest 8 [.ref 42, .ref 45, .int (nI (lsA (fun k => cst P k ak ag) i)), .int (nI (btA (fun k => cst P k ak ag) (lsA (fun k => cst P k ak ag) i) i)), .int (nI i), w5] [] S n 0 0 (fun r S' n' => r = some (.int (exV P ak ag))) := by
    intro q
    induction q with
    | zero =>
      intro i hi w5
      have e : i = 5 := by omega
      subst e
      refine q_iload rfl rfl rfl ?_
      refine q_aload_n rfl rfl rfl ?_
      refine q_alen rfl rfl (by omega) k45 rfl ?_
      refine q_icge rfl rfl (fun _ => ?_) (fun h => absurd (by decide) h)
      refine q_iload_n rfl rfl rfl ?_
      exact q_iret rfl rfl trivial rfl
    | succ q ih =>
      intro i hiq w5
      have hi5 : i < 5 := by omega
      have hl := ls_41 (c := (fun k => cst P k ak ag)) i
      have hc := cst_le (P := P) (k := i) (ak := ak) (ag := ag)
      refine q_iload rfl rfl rfl ?_
      refine q_aload_n rfl rfl rfl ?_
      refine q_alen rfl rfl (by omega) k45 rfl ?_
      refine q_icge rfl rfl (fun h => absurd h (nI_ge (a := i) (b := 5) hi5 (by decide))) (fun _ => ?_)
      refine q_aload_n rfl rfl rfl ?_
      refine q_aload_n rfl rfl rfl ?_
      refine q_iload rfl rfl rfl ?_
      refine q_lald rfl rfl (by omega) k45 (q_inN (by omega) (by decide)) (q_tnl (z := en i) (by rw [nI_clamp (by omega)]) ?_)
      refine q_cV rfl rfl (Or.inl rfl) rfl rfl rfl rfl (by omega) k42 trivial rfl rfl rfl rfl rfl (c_cby hn hW k42 l0 l1 h40 (he i hi5)) ?_
      rintro r _ _ ⟨rfl, rfl, rfl⟩
      have nx : ∀ B : Int32, B = nI (btA (fun k => cst P k ak ag) (lsA (fun k => cst P k ak ag) (i + 1)) (i + 1)) → ∀ A : Int32, A = nI (lsA (fun k => cst P k ak ag) (i + 1)) → PQ (j_SL L) (j_SV xs) j_EX mm_X3_cheapest 49 [.ref 42, .ref 45, .int A, .int B, .int (nI i), .int (nI (cst P i ak ag))] [] S n 0 0 (fun r S' n' => r = some (.int (exV P ak ag))) := by
        rintro B rfl A rfl
        refine q_inc4 rfl rfl rfl rfl ?_
        refine q_goto rfl ?_
        rw [show nI i + 1 = nI (i + 1) from nI_add i 1]
        exact ih (i + 1) (by omega) _
      have hls : lsA (fun k => cst P k ak ag) (i + 1) = if cst P i ak ag < lsA (fun k => cst P k ak ag) i then cst P i ak ag else lsA (fun k => cst P k ak ag) i := rfl
      have hbt : ∀ m, btA (fun k => cst P k ak ag) m (i + 1) = btA (fun k => cst P k ak ag) m i + (if cst P i ak ag = m then 2 ^ i else 0) := fun m => rfl
      have b1 := bt_lt (c := (fun k => cst P k ak ag)) (m := lsA (fun k => cst P k ak ag) i) i
      have b2 := bt_lt (c := (fun k => cst P k ak ag)) (m := cst P i ak ag) i
      have b16 : 2 ^ i ≤ 16 := by
        have : 2 ^ i ≤ 2 ^ 4 := Nat.pow_le_pow_right (by decide) (by omega)
        omega
      show PQ (j_SL L) (j_SV xs) j_EX mm_X3_cheapest 23 [.ref 42, .ref 45, .int (nI (lsA (fun k => cst P k ak ag) i)), .int (nI (btA (fun k => cst P k ak ag) (lsA (fun k => cst P k ak ag) i) i)), .int (nI i), w5] [.int (nI (cst P i ak ag))] S n 0 0 _
      refine q_ist5 rfl rfl rfl rfl ?_
      refine q_iload rfl rfl rfl ?_
      refine q_iload_n rfl rfl rfl ?_
      refine q_icge rfl rfl (fun h => ?_) (fun h => ?_)
      · have h1 := (m_le (by omega) (by omega)).mp h
        refine q_iload rfl rfl rfl ?_
        refine q_iload_n rfl rfl rfl ?_
        refine q_icne rfl rfl (fun h2 => ?_) (fun h2 => ?_)
        · have h3 := (m_eq (by omega) (by omega)).mp h2
          refine q_iload_n rfl rfl rfl ?_
          refine q_iconst rfl rfl ?_
          refine q_iload rfl rfl rfl ?_
          refine q_ishl rfl rfl ?_
          refine q_ior rfl rfl (q_tn (z := nI (btA (fun k => cst P k ak ag) (lsA (fun k => cst P k ak ag) i) i + 2 ^ i)) (or_p hi5 b1) ?_)
          refine q_ist3n rfl rfl rfl rfl ?_
          exact nx _ (by rw [hls, if_neg (by omega), hbt, if_pos h3]) _ (by rw [hls, if_neg (by omega)])
        · have h3 : ¬ cst P i ak ag = lsA (fun k => cst P k ak ag) i := fun e => h2 (by rw [e])
          exact nx _ (by rw [hls, if_neg (by omega), hbt, if_neg h3, Nat.add_zero]) _ (by rw [hls, if_neg (by omega)])
      · have h1 : cst P i ak ag < lsA (fun k => cst P k ak ag) i := Classical.byContradiction (fun h9 => h ((m_le (by omega) (by omega)).mpr (by omega)))
        have z0 : btA (fun k => cst P k ak ag) (cst P i ak ag) i = 0 := bt_0 i (fun j hj => by
          have := ls_le (c := (fun k => cst P k ak ag)) i j hj
          show cst P j ak ag ≠ cst P i ak ag
          have h9 : lsA (fun k => cst P k ak ag) i ≤ cst P j ak ag := this
          omega)
        refine q_iload rfl rfl rfl ?_
        refine q_ist2n rfl rfl rfl rfl ?_
        refine q_iconst rfl rfl ?_
        refine q_ist3n rfl rfl rfl rfl ?_
        refine q_iload rfl rfl rfl ?_
        refine q_iload_n rfl rfl rfl ?_
        refine q_icne rfl rfl (fun _ => ?_) (fun h2 => absurd rfl h2)
        refine q_iload_n rfl rfl rfl ?_
        refine q_iconst rfl rfl ?_
        refine q_iload rfl rfl rfl ?_
        refine q_ishl rfl rfl ?_
        refine q_ior rfl rfl (q_tn (z := nI (0 + 2 ^ i)) (or_p hi5 (Nat.two_pow_pos i)) ?_)
        refine q_ist3n rfl rfl rfl rfl ?_
        exact nx _ (by rw [hls, if_pos h1, hbt, z0, if_pos rfl]) _ (by rw [hls, if_pos h1])
  refine q_bipush rfl rfl ?_
  refine q_ist2n rfl rfl rfl rfl ?_
  refine q_iconst rfl rfl ?_
  refine q_ist3n rfl rfl rfl rfl ?_
  refine q_iconst rfl rfl ?_
  refine q_ist4 rfl rfl rfl rfl ?_
  exact loop 5 0 rfl _
set_option maxHeartbeats 4000000 in
theorem c_expl9 (g : GJ θ P S n) (k42 : S 42 = .inr (1, lr)) (l0 : lr[0]? = some (.long ak)) (l1 : lr[1]? = some (.long ag)) (h40 : ∀ j, 40 ≤ j → e_bt ak j = false) : PM (j_SL L) (j_SV xs) j_EX mm_X11_explain [.ref 0] S n (fun r S' n' => r = some (.int (exR P ak ag))) := by
  obtain ⟨hG, hT, hZ⟩ := gj_ab g
  have hn := gs_n hG
  obtain ⟨ts, k0, hf⟩ := gs_obj hG (k := 0) rfl
  have f6 : ts[6]? = some (.ref 42) := fo_ref (hf 6 _ rfl) rfl
  have f9 : ts[9]? = some (.ref 45) := fo_ref (hf 9 _ rfl) rfl
  change PQ (j_SL L) (j_SV xs) j_EX mm_X11_explain 0 [.ref 0] [] S n 0 0 _
  refine q_aload_n rfl rfl rfl ?_
  refine q_cV rfl rfl (Or.inl rfl) rfl rfl rfl rfl (by omega) k0 trivial rfl rfl rfl rfl rfl (c_some g) ?_
  rintro r T _ ⟨rfl, gT, e0, e42, hs, hr⟩
  rcases hr with ⟨ha, rfl⟩ | ⟨ha, rfl⟩
  · show PQ (j_SL L) (j_SV xs) j_EX mm_X11_explain 4 [.ref 0] [.int 1] T n 0 0 _
    refine q_ifeq rfl rfl (fun c => absurd c (by decide)) (fun _ => ?_)
    refine q_bipush rfl rfl ?_
    refine q_goto rfl ?_
    exact q_iret rfl rfl trivial (by rw [ex_s ha])
  show PQ (j_SL L) (j_SV xs) j_EX mm_X11_explain 4 [.ref 0] [.int 0] T n 0 0 _
  refine q_ifeq rfl rfl (fun _ => ?_) (fun c => absurd rfl c)
  obtain ⟨en, t45, hen⟩ := en_all gT hs ha
  have t0 := e0.trans k0
  refine q_aload_n rfl rfl rfl ?_
  refine q_getf rfl rfl (by omega) t0 f6 ?_
  refine q_aload_n rfl rfl rfl ?_
  refine q_getf rfl rfl (by omega) t0 f9 ?_
  refine q_cV rfl rfl (Or.inl rfl) rfl rfl rfl rfl (by omega) (e42.trans k42) trivial rfl rfl rfl rfl rfl (c_chp hn hZ.1 (e42.trans k42) l0 l1 h40 t45 hen) ?_
  rintro r V n9 rfl
  show PQ (j_SL L) (j_SV xs) j_EX mm_X11_explain 23 [.ref 0] [.int (exV P ak ag)] V n9 0 0 _
  exact q_iret rfl rfl trivial (by rw [ex_v ha])
set_option maxHeartbeats 4000000 in
theorem l_chp {en : Nat → Int32} (hn : 82 ≤ n) (k46 : S 46 = .inr (10, fs)) (f33 : fs[33]? = some (.ref 74)) (f21 : fs[21]? = some (.ref 64)) (k74 : S 74 = .inl (0, 40, .inl tl)) (k64 : S 64 = .inl (0, 20, .inl en)) (he : ∀ k, k < 5 → ∀ p, p < 4 → enI P k (xN (xE P k)) p (en (4 * k + p))) (hb : ∀ q, q < 40 → (tl q = -2 ∧ e_bt ak q = false) ∨ (tl q = 1 ∧ e_bt ak q = true ∧ e_bt ag q = true) ∨ (tl q = 0 ∧ e_bt ak q = true ∧ e_bt ag q = false)) : PM (j_SL L) (j_SV xs) j_EX mm_X12_cheapest [.ref 46] S n (fun r S' n' => r = some (.int (exV P ak ag))) := by
  change PQ (j_SL L) (j_SV xs) j_EX mm_X12_cheapest 0 [.ref 46, pm_un, pm_un, pm_un] [] S n 0 0 _
  have loop2 : ∀ q i : Nat, i + q = 5 → PQ (j_SL L) (j_SV xs) j_EX mm_X12_cheapest 39 [.ref 46, .int (nI (btA (fun k => cst P k ak ag) (lsA (fun k => cst P k ak ag) 5) i)), .int (nI (lsA (fun k => cst P k ak ag) 5)), .int (nI i)] [] S n 0 0 (fun r S' n' => r = some (.int (exV P ak ag))) := by
    intro q
    induction q with
    | zero =>
      intro i hi
      have e : i = 5 := by omega
      subst e
      refine q_iload_n rfl rfl rfl ?_
      refine q_iconst rfl rfl ?_
      refine q_icge rfl rfl (fun _ => ?_) (fun h => absurd (by decide) h)
      refine q_iload_n rfl rfl rfl ?_
      exact q_iret rfl rfl trivial rfl
    | succ q ih =>
      intro i hiq
      have hi5 : i < 5 := by omega
      have hl := ls_41 (c := (fun k => cst P k ak ag)) 5
      have hc := cst_le (P := P) (k := i) (ak := ak) (ag := ag)
      have b1 := bt_lt (c := (fun k => cst P k ak ag)) (m := lsA (fun k => cst P k ak ag) 5) i
      have b16 : 2 ^ i ≤ 16 := by
        have : 2 ^ i ≤ 2 ^ 4 := Nat.pow_le_pow_right (by decide) (by omega)
        omega
      have hbt : btA (fun k => cst P k ak ag) (lsA (fun k => cst P k ak ag) 5) (i + 1) = btA (fun k => cst P k ak ag) (lsA (fun k => cst P k ak ag) 5) i + (if cst P i ak ag = lsA (fun k => cst P k ak ag) 5 then 2 ^ i else 0) := rfl
      have go : ∀ u B : Int32, nI (btA (fun k => cst P k ak ag) (lsA (fun k => cst P k ak ag) 5) i) ||| u = B → B = nI (btA (fun k => cst P k ak ag) (lsA (fun k => cst P k ak ag) 5) (i + 1)) → PQ (j_SL L) (j_SV xs) j_EX mm_X12_cheapest 61 [.ref 46, .int (nI (btA (fun k => cst P k ak ag) (lsA (fun k => cst P k ak ag) 5) i)), .int (nI (lsA (fun k => cst P k ak ag) 5)), .int (nI i)] [.int u, .int (nI (btA (fun k => cst P k ak ag) (lsA (fun k => cst P k ak ag) 5) i))] S n 0 0 (fun r S' n' => r = some (.int (exV P ak ag))) := by
        intro u B e1 e2
        refine q_ior rfl rfl (q_tn (z := B) e1 ?_)
        refine q_ist1n rfl rfl rfl rfl ?_
        refine q_inc3 rfl rfl rfl rfl ?_
        refine q_goto rfl ?_
        rw [e2, show nI i + 1 = nI (i + 1) from nI_add i 1]
        exact ih (i + 1) (by omega)
      refine q_iload_n rfl rfl rfl ?_
      refine q_iconst rfl rfl ?_
      refine q_icge rfl rfl (fun h => absurd h (nI_ge (a := i) (b := 5) hi5 (by decide))) (fun _ => ?_)
      refine q_iload_n rfl rfl rfl ?_
      refine q_aload_n rfl rfl rfl ?_
      refine q_iload_n rfl rfl rfl ?_
      refine q_cV rfl rfl (Or.inl rfl) rfl rfl rfl rfl (by omega) k46 trivial rfl rfl rfl rfl rfl (l_cof hn k46 f33 f21 k74 k64 hi5 (he _ hi5) hb) ?_
      rintro r _ _ ⟨rfl, rfl, rfl⟩
      show PQ (j_SL L) (j_SV xs) j_EX mm_X12_cheapest 50 [.ref 46, .int (nI (btA (fun k => cst P k ak ag) (lsA (fun k => cst P k ak ag) 5) i)), .int (nI (lsA (fun k => cst P k ak ag) 5)), .int (nI i)] [.int (nI (cst P i ak ag)), .int (nI (btA (fun k => cst P k ak ag) (lsA (fun k => cst P k ak ag) 5) i))] S n 0 0 _
      refine q_iload_n rfl rfl rfl ?_
      refine q_icne rfl rfl (fun h => ?_) (fun h => ?_)
      · have h3 := (m_eq (by omega) (by omega)).mp h
        refine q_iconst rfl rfl ?_
        refine q_iload_n rfl rfl rfl ?_
        refine q_ishl rfl rfl ?_
        refine q_goto rfl ?_
        exact go _ _ (or_p hi5 b1) (by rw [hbt, if_pos h3])
      · have h3 : ¬ cst P i ak ag = lsA (fun k => cst P k ak ag) 5 := fun e => h (by rw [e])
        refine q_iconst rfl rfl ?_
        exact go _ _ (or_0 (by omega)) (by rw [hbt, if_neg h3, Nat.add_zero])
  have loop1 : ∀ q i : Nat, i + q = 5 → PQ (j_SL L) (j_SV xs) j_EX mm_X12_cheapest 7 [.ref 46, .int 0, .int (nI (lsA (fun k => cst P k ak ag) i)), .int (nI i)] [] S n 0 0 (fun r S' n' => r = some (.int (exV P ak ag))) := by
    intro q
    induction q with
    | zero =>
      intro i hi
      have e : i = 5 := by omega
      subst e
      refine q_iload_n rfl rfl rfl ?_
      refine q_iconst rfl rfl ?_
      refine q_icge rfl rfl (fun _ => ?_) (fun h => absurd (by decide) h)
      refine q_iconst rfl rfl ?_
      refine q_ist3n rfl rfl rfl rfl ?_
      exact loop2 5 0 rfl
    | succ q ih =>
      intro i hiq
      have hi5 : i < 5 := by omega
      have hl := ls_41 (c := (fun k => cst P k ak ag)) i
      have hc := cst_le (P := P) (k := i) (ak := ak) (ag := ag)
      have hls : lsA (fun k => cst P k ak ag) (i + 1) = if cst P i ak ag < lsA (fun k => cst P k ak ag) i then cst P i ak ag else lsA (fun k => cst P k ak ag) i := rfl
      have go : ∀ u : Int32, u = nI (lsA (fun k => cst P k ak ag) (i + 1)) → PQ (j_SL L) (j_SV xs) j_EX mm_X12_cheapest 30 [.ref 46, .int 0, .int (nI (lsA (fun k => cst P k ak ag) i)), .int (nI i)] [.int u] S n 0 0 (fun r S' n' => r = some (.int (exV P ak ag))) := by
        rintro u rfl
        refine q_ist2n rfl rfl rfl rfl ?_
        refine q_inc3 rfl rfl rfl rfl ?_
        refine q_goto rfl ?_
        rw [show nI i + 1 = nI (i + 1) from nI_add i 1]
        exact ih (i + 1) (by omega)
      refine q_iload_n rfl rfl rfl ?_
      refine q_iconst rfl rfl ?_
      refine q_icge rfl rfl (fun h => absurd h (nI_ge (a := i) (b := 5) hi5 (by decide))) (fun _ => ?_)
      refine q_aload_n rfl rfl rfl ?_
      refine q_iload_n rfl rfl rfl ?_
      refine q_cV rfl rfl (Or.inl rfl) rfl rfl rfl rfl (by omega) k46 trivial rfl rfl rfl rfl rfl (l_cof hn k46 f33 f21 k74 k64 hi5 (he _ hi5) hb) ?_
      rintro r _ _ ⟨rfl, rfl, rfl⟩
      show PQ (j_SL L) (j_SV xs) j_EX mm_X12_cheapest 17 [.ref 46, .int 0, .int (nI (lsA (fun k => cst P k ak ag) i)), .int (nI i)] [.int (nI (cst P i ak ag))] S n 0 0 _
      refine q_iload_n rfl rfl rfl ?_
      refine q_icge rfl rfl (fun h => ?_) (fun h => ?_)
      · have h1 := (m_le (by omega) (by omega)).mp h
        refine q_iload_n rfl rfl rfl ?_
        exact go _ (by rw [hls, if_neg (by omega)])
      · have h1 : cst P i ak ag < lsA (fun k => cst P k ak ag) i := Classical.byContradiction (fun h9 => h ((m_le (by omega) (by omega)).mpr (by omega)))
        refine q_aload_n rfl rfl rfl ?_
        refine q_iload_n rfl rfl rfl ?_
        refine q_cV rfl rfl (Or.inl rfl) rfl rfl rfl rfl (by omega) k46 trivial rfl rfl rfl rfl rfl (l_cof hn k46 f33 f21 k74 k64 hi5 (he _ hi5) hb) ?_
        rintro r _ _ ⟨rfl, rfl, rfl⟩
        show PQ (j_SL L) (j_SV xs) j_EX mm_X12_cheapest 26 [.ref 46, .int 0, .int (nI (lsA (fun k => cst P k ak ag) i)), .int (nI i)] [.int (nI (cst P i ak ag))] S n 0 0 _
        refine q_goto rfl ?_
        exact go _ (by rw [hls, if_pos h1])
  refine q_iconst rfl rfl ?_
  refine q_ist1n rfl rfl rfl rfl ?_
  refine q_bipush rfl rfl ?_
  refine q_ist2n rfl rfl rfl rfl ?_
  refine q_iconst rfl rfl ?_
  refine q_ist3n rfl rfl rfl rfl ?_
  exact loop1 5 0 rfl
set_option maxHeartbeats 4000000 in
theorem l_expl9 (g : GJ θ P S n) (k74 : S 74 = .inl (0, 40, .inl tl)) (hb : ∀ q, q < 40 → (tl q = -2 ∧ e_bt ak q = false) ∨ (tl q = 1 ∧ e_bt ak q = true ∧ e_bt ag q = true) ∨ (tl q = 0 ∧ e_bt ak q = true ∧ e_bt ag q = false)) : PM (j_SL L) (j_SV xs) j_EX mm_X12_explain [.ref 46] S n (fun r S' n' => r = some (.int (exR P ak ag))) := by
  obtain ⟨hG, hT, hZ⟩ := gj_ab g
  have hn := gs_n hG
  obtain ⟨fs, k46, -⟩ := gs_obj hG (k := 46) rfl
  change PQ (j_SL L) (j_SV xs) j_EX mm_X12_explain 0 [.ref 46] [] S n 0 0 _
  refine q_aload_n rfl rfl rfl ?_
  refine q_cV rfl rfl (Or.inl rfl) rfl rfl rfl rfl (by omega) k46 trivial rfl rfl rfl rfl rfl (l_any g) ?_
  rintro r T _ ⟨rfl, gT, e74, hs, hr⟩
  rcases hr with ⟨ha, rfl⟩ | ⟨ha, rfl⟩
  · show PQ (j_SL L) (j_SV xs) j_EX mm_X12_explain 4 [.ref 46] [.int 1] T n 0 0 _
    refine q_ifeq rfl rfl (fun c => absurd c (by decide)) (fun _ => ?_)
    refine q_bipush rfl rfl ?_
    refine q_goto rfl ?_
    exact q_iret rfl rfl trivial (by rw [ex_s ha])
  show PQ (j_SL L) (j_SV xs) j_EX mm_X12_explain 4 [.ref 46] [.int 0] T n 0 0 _
  refine q_ifeq rfl rfl (fun _ => ?_) (fun c => absurd rfl c)
  obtain ⟨en, t64, hen⟩ := eI_all gT hs ha
  obtain ⟨fsT, t46, hf⟩ := gs_obj (gj_ab gT).1 (k := 46) rfl
  have f33 : fsT[33]? = some (.ref 74) := fo_ref (hf 33 _ rfl) rfl
  have f21 : fsT[21]? = some (.ref 64) := fo_ref (hf 21 _ rfl) rfl
  refine q_aload_n rfl rfl rfl ?_
  refine q_cV rfl rfl (Or.inl rfl) rfl rfl rfl rfl (by omega) t46 trivial rfl rfl rfl rfl rfl (l_chp hn t46 f33 f21 (e74.trans k74) t64 hen hb) ?_
  rintro r V n9 rfl
  show PQ (j_SL L) (j_SV xs) j_EX mm_X12_explain 16 [.ref 46] [.int (exV P ak ag)] V n9 0 0 _
  exact q_iret rfl rfl trivial (by rw [ex_v ha])
end LH
