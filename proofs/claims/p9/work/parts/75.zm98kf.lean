/-! see: class and reference -/
section KF
variable {θ : Th} {P : PG} {S S' : Nat → pm_E} {n : Nat} {fs : List Value} {x : Int64} {w i : Int32} {D : Nat → Nat} {rn : Nat → Int32} {L : Nat} {xs : Nat → Int32}
theorem ry_and {Y : pm_M} {as : List Value} {l : List Nat} {v : Int32} (h1 : PM (j_SL L) (j_SV xs) j_EX Y as S n (RIY θ P l S n)) (h2 : PM (j_SL L) (j_SV xs) j_EX Y as S n (fun r S' n' => r = some (.int v))) : PM (j_SL L) (j_SV xs) j_EX Y as S n (fun r S' n' => n = n' ∧ GY θ P S' n ∧ fr1 l S S' n ∧ ∃ z : Int32, r = some (.int z) ∧ z = v) := pm_weak (pm_and h1 h2) (fun r S' n' h => by
  obtain ⟨⟨a, ⟨z, hz⟩, b, c⟩, -, -, d⟩ := h
  refine ⟨a, b, c, z, hz, ?_⟩
  rw [hz] at d
  cases d
  rfl)
def ownV (d : Nat) : Int32 := if d = 0 then -2 else nI (d - 1)
noncomputable def seH (P : PG) (D : Nat → Nat) (w : Int32) (X : Nat) : Int32 := if w = 0 then nI (rp P D X) else if w = 1 then nI (D (4 * X + 1)) else if w = 2 then nI (D (4 * X + 2)) else if w = 3 then @ite _ (ableP P 0 D X) (Classical.propDecidable _) 1 0 else nI (D (4 * X + 3))
noncomputable def seR (P : PG) (D : Nat → Nat) (w i : Int32) : Int32 := if w = 5 then (if 0 ≤ i ∧ i < 4 then nI (D (12 + i.toInt.toNat)) else -1) else if w = 6 then (if 0 ≤ i ∧ i < 3 then ownV (D (16 + i.toInt.toNat)) else -1) else if (0 ≤ w ∧ w < 5) ∧ (0 ≤ i ∧ i < nI (pH P)) then seH P D w i.toInt.toNat else -1
theorem nI_tn {k : Nat} (h : k < 2 ^ 31) : (nI k).toInt.toNat = k := by rw [nI_toInt h, Int.toNat_natCast]
theorem c_own {q : Nat} (hG : GS θ S n) (hZ : JZ P S) (k0 : S 0 = .inr (9, fs)) (f11 : fs[11]? = some (.long x)) (hq : q < 3) : PM (j_SL L) (j_SV xs) j_EX mm_X11_ownerSeen [.ref 0, .int (nI q)] S n (fun r S' n' => r = some (.int (ownV (e_D x (16 + q))))) := by
  have hn := gs_n hG
  obtain ⟨gs0, k00, hf⟩ := gs_obj hG (k := 0) rfl
  have ef := (Prod.mk.inj (Sum.inr.inj (k0.symm.trans k00))).2
  subst ef
  have f0 : fs[0]? = some (.ref 1) := fo_ref (hf 0 _ rfl) rfl
  have h3 := hZ.1.2.1
  have hjp := hZ.2.1.1
  have hd := e_Do (s := x) hq
  change PQ (j_SL L) (j_SV xs) j_EX mm_X11_ownerSeen 0 [.ref 0, .int (nI q), pm_un] [] S n 0 0 _
  refine q_aload_n rfl rfl rfl ?_
  refine q_getf rfl rfl (by omega) k0 f11 ?_
  refine q_iload_n rfl rfl rfl ?_
  refine q_cS rfl rfl (Or.inl rfl) rfl rfl trivial rfl rfl rfl rfl rfl (b_owner hq) ?_
  rintro r _ _ ⟨rfl, rfl, rfl⟩
  show PQ (j_SL L) (j_SV xs) j_EX mm_X11_ownerSeen 8 [.ref 0, .int (nI q), pm_un] [.int (nI (e_D x (16 + q)) - 1)] S n 0 0 _
  refine q_ist2n rfl rfl rfl rfl ?_
  refine q_iload_n rfl rfl rfl ?_
  refine q_ifge rfl rfl (fun h => ?_) (fun h => ?_)
  · have h1 := (m_sub0 (by omega)).mp h
    refine q_iload_n rfl rfl rfl ?_
    refine q_iret rfl rfl trivial ?_
    have e : nI (e_D x (16 + q)) - 1 = nI (e_D x (16 + q) - 1) := (m_subx (by omega) (by omega)).mpr (by omega)
    show some (Value.int (nI (e_D x (16 + q)) - 1)) = _
    unfold ownV
    rw [e, if_neg (by omega)]
  · have h1 : e_D x (16 + q) = 0 := Classical.byContradiction (fun h9 => h ((m_sub0 (by omega)).mpr (by omega)))
    refine q_bipush rfl rfl ?_
    refine q_goto rfl ?_
    exact q_iret rfl rfl trivial (by unfold ownV; rw [if_pos h1])
theorem c_pos {X : Nat} (hG : GS θ S n) (hZ : JZ P S) (k0 : S 0 = .inr (9, fs)) (f11 : fs[11]? = some (.long x)) (hX : X < pH P) : PM (j_SL L) (j_SV xs) j_EX mm_X11_positionSeen [.ref 0, .int (nI X)] S n (fun r S' n' => r = some (.int (nI (rp P (e_D x) X)))) := by
  have hn := gs_n hG
  obtain ⟨gs0, k00, hf⟩ := gs_obj hG (k := 0) rfl
  have ef := (Prod.mk.inj (Sum.inr.inj (k0.symm.trans k00))).2
  subst ef
  have f0 : fs[0]? = some (.ref 1) := fo_ref (hf 0 _ rfl) rfl
  have h3 := hZ.1.2.1
  have hjp := hZ.2.1.1
  have hd := (e_D4 (s := x) (x := X) (by omega)).1
  have hl8 := hZ.1.2.2.1 X hX
  obtain ⟨fs1, k1, f10, -⟩ := p_obj hjp
  change PQ (j_SL L) (j_SV xs) j_EX mm_X11_positionSeen 0 [.ref 0, .int (nI X), pm_un] [] S n 0 0 _
  refine q_aload_n rfl rfl rfl ?_
  refine q_getf rfl rfl (by omega) k0 f11 ?_
  refine q_iload_n rfl rfl rfl ?_
  refine q_cS rfl rfl (Or.inl rfl) rfl rfl trivial rfl rfl rfl rfl rfl (b_position (h := X) (by omega)) ?_
  rintro r _ _ ⟨rfl, rfl, rfl⟩
  show PQ (j_SL L) (j_SV xs) j_EX mm_X11_positionSeen 8 [.ref 0, .int (nI X), pm_un] [.int (nI (e_D x (4 * X)))] S n 0 0 _
  refine q_ist2n rfl rfl rfl rfl ?_
  refine q_iload_n rfl rfl rfl ?_
  refine q_bipush rfl rfl ?_
  refine q_icne rfl rfl (fun h => ?_) (fun h => ?_)
  · have h1 : e_D x (4 * X) = 15 := (m_eq (b := 15) (by omega) (by decide)).mp h
    refine q_bipush rfl rfl ?_
    refine q_iret rfl rfl trivial ?_
    show some (Value.int 11) = _
    unfold rp
    rw [h1, if_neg (by omega), if_pos rfl]
    rfl
  refine q_iload_n rfl rfl rfl ?_
  refine q_aload_n rfl rfl rfl ?_
  refine q_getf rfl rfl (by omega) k0 f0 ?_
  refine q_iload_n rfl rfl rfl ?_
  refine q_cV rfl rfl (Or.inl rfl) rfl rfl rfl rfl (by omega) k1 trivial rfl rfl rfl rfl rfl (p_len hZ.1 (by omega) hjp hX) ?_
  rintro r _ _ ⟨rfl, rfl, rfl⟩
  show PQ (j_SL L) (j_SV xs) j_EX mm_X11_positionSeen 27 [.ref 0, .int (nI X), .int (nI (e_D x (4 * X)))] [.int (nI (pL P X)), .int (nI (e_D x (4 * X)))] S n 0 0 _
  refine q_iclt rfl rfl (fun h9 => ?_) (fun h9 => ?_)
  · have h1 := (m_lt (by omega) (by omega)).mp h9
    refine q_iload_n rfl rfl rfl ?_
    exact q_iret rfl rfl trivial (by unfold rp; rw [if_pos h1])
  · have h1 : ¬ e_D x (4 * X) < pL P X := fun h8 => h9 ((m_lt (by omega) (by omega)).mpr h8)
    have h2 : ¬ e_D x (4 * X) = 15 := fun h8 => h (by rw [h8]; rfl)
    refine q_bipush rfl rfl ?_
    refine q_goto rfl ?_
    refine q_iret rfl rfl trivial ?_
    show some (Value.int 10) = _
    unfold rp
    rw [if_neg h1, if_neg h2]
    rfl
set_option maxHeartbeats 4000000 in
theorem c_see (hG : GS θ S n) (hZ : JZ P S) (k0 : S 0 = .inr (9, fs)) (f11 : fs[11]? = some (.long x)) : PM (j_SL L) (j_SV xs) j_EX mm_X11_see [.ref 0, .int w, .int i] S n (fun r S' n' => r = some (.int (seR P (e_D x) w i))) := by
  have hn := gs_n hG
  obtain ⟨gs0, k00, hf⟩ := gs_obj hG (k := 0) rfl
  have ef := (Prod.mk.inj (Sum.inr.inj (k0.symm.trans k00))).2
  subst ef
  have f0 : fs[0]? = some (.ref 1) := fo_ref (hf 0 _ rfl) rfl
  have h3 := hZ.1.2.1
  have hjp := hZ.2.1.1
  obtain ⟨fs1, k1, f10, -⟩ := p_obj hjp
  change PQ (j_SL L) (j_SV xs) j_EX mm_X11_see 0 [.ref 0, .int w, .int i] [] S n 0 0 _
  refine q_iload_n rfl rfl rfl ?_
  refine q_iconst rfl rfl ?_
  refine q_icne rfl rfl (fun w5 => ?_) (fun w5 => ?_)
  · have w5' : w = 5 := w5
    refine q_iload_n rfl rfl rfl ?_
    refine q_iconst rfl rfl ?_
    refine q_cS rfl rfl (Or.inl rfl) rfl rfl trivial rfl rfl rfl rfl rfl c_wi ?_
    rintro r _ _ ⟨rfl, rfl, hr⟩
    rcases hr with ⟨q, rfl⟩ | ⟨q, rfl⟩
    · show PQ (j_SL L) (j_SV xs) j_EX mm_X11_see 10 [.ref 0, .int w, .int i] [.int 0] S n 0 0 _
      refine q_ifeq rfl rfl (fun _ => ?_) (fun c => absurd rfl c)
      refine q_iconst rfl rfl ?_
      exact q_iret rfl rfl trivial (by unfold seR; rw [if_pos w5', if_neg (fun h => c_out q h)])
    show PQ (j_SL L) (j_SV xs) j_EX mm_X11_see 10 [.ref 0, .int w, .int i] [.int 1] S n 0 0 _
    refine q_ifeq rfl rfl (fun c => absurd c (by decide)) (fun _ => ?_)
    obtain ⟨p, hp, rfl⟩ := in_b (b := 3) rfl (by decide) q
    refine q_aload_n rfl rfl rfl ?_
    refine q_getf rfl rfl (by omega) k0 f11 ?_
    refine q_iload_n rfl rfl rfl ?_
    refine q_cS rfl rfl (Or.inl rfl) rfl rfl trivial rfl rfl rfl rfl rfl (b_place (p := p) (by omega)) ?_
    rintro r _ _ ⟨rfl, rfl, rfl⟩
    show PQ (j_SL L) (j_SV xs) j_EX mm_X11_see 21 [.ref 0, .int w, .int (nI p)] [.int (nI (e_D x (12 + p)))] S n 0 0 _
    refine q_goto rfl ?_
    exact q_iret rfl rfl trivial (by unfold seR; rw [if_pos w5', if_pos q, nI_tn (by omega)])
  have w5' : ¬ w = 5 := w5
  refine q_iload_n rfl rfl rfl ?_
  refine q_bipush rfl rfl ?_
  refine q_icne rfl rfl (fun w6 => ?_) (fun w6 => ?_)
  · have w6' : w = 6 := w6
    refine q_iload_n rfl rfl rfl ?_
    refine q_iconst rfl rfl ?_
    refine q_cS rfl rfl (Or.inl rfl) rfl rfl trivial rfl rfl rfl rfl rfl c_wi ?_
    rintro r _ _ ⟨rfl, rfl, hr⟩
    rcases hr with ⟨q, rfl⟩ | ⟨q, rfl⟩
    · show PQ (j_SL L) (j_SV xs) j_EX mm_X11_see 37 [.ref 0, .int w, .int i] [.int 0] S n 0 0 _
      refine q_ifeq rfl rfl (fun _ => ?_) (fun c => absurd rfl c)
      refine q_iconst rfl rfl ?_
      exact q_iret rfl rfl trivial (by unfold seR; rw [if_neg w5', if_pos w6', if_neg (fun h => c_out q h)])
    show PQ (j_SL L) (j_SV xs) j_EX mm_X11_see 37 [.ref 0, .int w, .int i] [.int 1] S n 0 0 _
    refine q_ifeq rfl rfl (fun c => absurd c (by decide)) (fun _ => ?_)
    obtain ⟨p, hp, rfl⟩ := in_b (b := 2) rfl (by decide) q
    refine q_aload_n rfl rfl rfl ?_
    refine q_iload_n rfl rfl rfl ?_
    refine q_cV rfl rfl (Or.inl rfl) rfl rfl rfl rfl (by omega) k0 trivial rfl rfl rfl rfl rfl (c_own hG hZ k0 f11 (by omega)) ?_
    rintro r T n9 rfl
    show PQ (j_SL L) (j_SV xs) j_EX mm_X11_see 45 [.ref 0, .int w, .int (nI p)] [.int (ownV (e_D x (16 + p)))] T n9 0 0 _
    refine q_goto rfl ?_
    exact q_iret rfl rfl trivial (by unfold seR; rw [if_neg w5', if_pos w6', if_pos q, nI_tn (by omega)])
  have w6' : ¬ w = 6 := w6
  have bad : ¬ ((0 ≤ w ∧ w < 5) ∧ (0 ≤ i ∧ i < nI (pH P))) → PQ (j_SL L) (j_SV xs) j_EX mm_X11_see 69 [.ref 0, .int w, .int i] [] S n 0 0 (fun r S' n' => r = some (.int (seR P (e_D x) w i))) := by
    intro h
    refine q_iconst rfl rfl ?_
    exact q_iret rfl rfl trivial (by unfold seR; rw [if_neg w5', if_neg w6', if_neg h])
  refine q_iload_n rfl rfl rfl ?_
  refine q_iconst rfl rfl ?_
  refine q_cS rfl rfl (Or.inl rfl) rfl rfl trivial rfl rfl rfl rfl rfl c_wi ?_
  rintro r _ _ ⟨rfl, rfl, hr⟩
  rcases hr with ⟨q, rfl⟩ | ⟨q, rfl⟩
  · show PQ (j_SL L) (j_SV xs) j_EX mm_X11_see 55 [.ref 0, .int w, .int i] [.int 0] S n 0 0 _
    exact q_ifeq rfl rfl (fun _ => bad (fun h => c_out q h.1)) (fun c => absurd rfl c)
  show PQ (j_SL L) (j_SV xs) j_EX mm_X11_see 55 [.ref 0, .int w, .int i] [.int 1] S n 0 0 _
  refine q_ifeq rfl rfl (fun c => absurd c (by decide)) (fun _ => ?_)
  refine q_aload_n rfl rfl rfl ?_
  refine q_getf rfl rfl (by omega) k0 f0 ?_
  refine q_iload_n rfl rfl rfl ?_
  refine q_cV rfl rfl (Or.inl rfl) rfl rfl rfl rfl (by omega) k1 trivial rfl rfl rfl rfl rfl (c_hh hn k1 f10) ?_
  rintro r _ _ ⟨rfl, rfl, hr⟩
  rcases hr with ⟨q2, rfl⟩ | ⟨q2, rfl⟩
  · show PQ (j_SL L) (j_SV xs) j_EX mm_X11_see 66 [.ref 0, .int w, .int i] [.int 0] S n 0 0 _
    exact q_ifne rfl rfl (fun _ => bad (fun h => q2 h.2)) (fun c => absurd rfl c)
  show PQ (j_SL L) (j_SV xs) j_EX mm_X11_see 66 [.ref 0, .int w, .int i] [.int 1] S n 0 0 _
  refine q_ifne rfl rfl (fun c => absurd c (by decide)) (fun _ => ?_)
  clear bad
  obtain ⟨X, hX, rfl⟩ := hnP hZ.1 q2
  have eR : seR P (e_D x) w (nI X) = seH P (e_D x) w X := by
    unfold seR
    rw [if_neg w5', if_neg w6', if_pos ⟨q, q2⟩, nI_tn (by omega)]
  rw [eR]
  obtain ⟨v, hv, rfl⟩ := in_b (b := 4) rfl (by decide) q
  refine q_iload_n rfl rfl rfl ?_
  match v, hv with
  | 0, _ =>
    refine q_switch (q := 104) rfl rfl ?_
    refine q_aload_n rfl rfl rfl ?_
    refine q_iload_n rfl rfl rfl ?_
    refine q_cV rfl rfl (Or.inl rfl) rfl rfl rfl rfl (by omega) k0 trivial rfl rfl rfl rfl rfl (c_pos hG hZ k0 f11 hX) ?_
    rintro r T n9 rfl
    show PQ (j_SL L) (j_SV xs) j_EX mm_X11_see 109 [.ref 0, .int (nI 0), .int (nI X)] [.int (nI (rp P (e_D x) X))] T n9 0 0 _
    exact q_iret rfl rfl trivial rfl
  | 1, _ =>
    refine q_switch (q := 110) rfl rfl ?_
    refine q_aload_n rfl rfl rfl ?_
    refine q_getf rfl rfl (by omega) k0 f11 ?_
    refine q_iload_n rfl rfl rfl ?_
    refine q_cS rfl rfl (Or.inl rfl) rfl rfl trivial rfl rfl rfl rfl rfl (b_register (h := X) (by omega)) ?_
    rintro r _ _ ⟨rfl, rfl, rfl⟩
    show PQ (j_SL L) (j_SV xs) j_EX mm_X11_see 118 [.ref 0, .int (nI 1), .int (nI X)] [.int (nI (e_D x (4 * X + 1)))] S n 0 0 _
    exact q_iret rfl rfl trivial rfl
  | 2, _ =>
    refine q_switch (q := 119) rfl rfl ?_
    refine q_aload_n rfl rfl rfl ?_
    refine q_getf rfl rfl (by omega) k0 f11 ?_
    refine q_iload_n rfl rfl rfl ?_
    refine q_cS rfl rfl (Or.inl rfl) rfl rfl trivial rfl rfl rfl rfl rfl (b_made (h := X) (by omega)) ?_
    rintro r _ _ ⟨rfl, rfl, rfl⟩
    show PQ (j_SL L) (j_SV xs) j_EX mm_X11_see 127 [.ref 0, .int (nI 2), .int (nI X)] [.int (nI (e_D x (4 * X + 2)))] S n 0 0 _
    exact q_iret rfl rfl trivial rfl
  | 3, _ =>
    have e3 : seH P (e_D x) (nI 3) X = @ite _ (ableP P 0 (e_D x) X) (Classical.propDecidable _) 1 0 := rfl
    rw [e3]
    refine q_switch (q := 128) rfl rfl ?_
    refine q_aload_n rfl rfl rfl ?_
    refine q_iload_n rfl rfl rfl ?_
    refine q_cV rfl rfl (Or.inl rfl) rfl rfl rfl rfl (by omega) k0 trivial rfl rfl rfl rfl rfl (c_rcs hG hZ k0 f11 hX) ?_
    rintro r _ _ ⟨rfl, rfl, hr⟩
    rcases hr with ⟨ha, rfl⟩ | ⟨ha, rfl⟩
    · show PQ (j_SL L) (j_SV xs) j_EX mm_X11_see 133 [.ref 0, .int (nI 3), .int (nI X)] [.int 1] S n 0 0 _
      refine q_ifeq rfl rfl (fun c => absurd c (by decide)) (fun _ => ?_)
      refine q_iconst rfl rfl ?_
      refine q_goto rfl ?_
      exact q_iret rfl rfl trivial (by rw [show (@ite _ (ableP P 0 (e_D x) X) (Classical.propDecidable _) (1 : Int32) 0) = 1 from if_pos ha])
    · show PQ (j_SL L) (j_SV xs) j_EX mm_X11_see 133 [.ref 0, .int (nI 3), .int (nI X)] [.int 0] S n 0 0 _
      refine q_ifeq rfl rfl (fun _ => ?_) (fun c => absurd rfl c)
      refine q_iconst rfl rfl ?_
      exact q_iret rfl rfl trivial (by rw [show (@ite _ (ableP P 0 (e_D x) X) (Classical.propDecidable _) (1 : Int32) 0) = 0 from if_neg ha])
  | 4, _ =>
    refine q_switch (q := 142) rfl rfl ?_
    refine q_aload_n rfl rfl rfl ?_
    refine q_getf rfl rfl (by omega) k0 f11 ?_
    refine q_iload_n rfl rfl rfl ?_
    refine q_cS rfl rfl (Or.inl rfl) rfl rfl trivial rfl rfl rfl rfl rfl (b_sleep (h := X) (by omega)) ?_
    rintro r _ _ ⟨rfl, rfl, rfl⟩
    show PQ (j_SL L) (j_SV xs) j_EX mm_X11_see 150 [.ref 0, .int (nI 4), .int (nI X)] [.int (nI (e_D x (4 * X + 3)))] S n 0 0 _
    exact q_iret rfl rfl trivial rfl
  | v + 5, hv => exact absurd hv (by omega)
set_option maxHeartbeats 8000000 in
theorem l_see (hG : GS θ S n) (hT : tie θ P) (hZ : JZ P S) (k54 : S 54 = .inl (0, 20, .inl rn)) (hD : WFD P 0 D) (hrn : rwE rn (ra P D)) : PM (j_SL L) (j_SV xs) j_EX mm_X12_see [.ref 46, .int w, .int i] S n (fun r S' n' => r = some (.int (seR P D w i))) := by
  have hn := gs_n hG
  obtain ⟨fs, hp⟩ := gs_jrp hG hT hZ.1 hZ.2.2
  have hp' := hp
  obtain ⟨mn, fk, fa, fn, vl, w9, z0, k46, f1, f2, f3, f4, f5, f6, f7, f8, f9, f10, -⟩ := hp'
  obtain ⟨nw, k52, -⟩ := gs_arr hG (k := 52) rfl
  have h3 := hZ.1.2.1
  have h1 := hZ.1.1
  have hpred : (nI (pH P) - 1).toInt = (pH P : Int) - 1 := m_sub (by omega)
  have hiff : inP i 0 (nI (pH P) - 1) ↔ (0 ≤ i ∧ i < nI (pH P)) := inw (by rw [hpred, nI_toInt (by omega)]; omega)
  change PQ (j_SL L) (j_SV xs) j_EX mm_X12_see 0 [.ref 46, .int w, .int i] [] S n 0 0 _
  have bad : seR P D w i = -1 → PQ (j_SL L) (j_SV xs) j_EX mm_X12_see 46 [.ref 46, .int w, .int i] [] S n 0 0 (fun r S' n' => r = some (.int (seR P D w i))) := by
    intro h
    refine q_iconst rfl rfl ?_
    exact q_iret rfl rfl trivial (by rw [h])
  refine q_aload_n rfl rfl rfl ?_
  refine q_iload_n rfl rfl rfl ?_
  refine q_iconst rfl rfl ?_
  refine q_bipush rfl rfl ?_
  refine q_cV rfl rfl (Or.inl rfl) rfl rfl rfl rfl (by omega) k46 trivial rfl rfl rfl rfl rfl l_in ?_
  rintro r S1 n1 ⟨ea, eb, hr⟩
  obtain rfl := ea.symm
  obtain rfl := eb.symm
  rcases hr with ⟨q, rfl⟩ | ⟨q, rfl⟩
  · show PQ (j_SL L) (j_SV xs) j_EX mm_X12_see 8 [.ref 46, .int w, .int i] [.int 0] S n 0 0 _
    refine q_ifeq rfl rfl (fun _ => bad ?_) (fun c => absurd rfl c)
    have a5 : ¬ w = 5 := fun e => q (by rw [e]; unfold inP; decide)
    have a6 : ¬ w = 6 := fun e => q (by rw [e]; unfold inP; decide)
    unfold seR
    rw [if_neg a5, if_neg a6, if_neg (fun h => q ((inw (a := 6) (b := 7) (by decide)).mpr ⟨h.1.1, by
      have h9 := h.1.2
      rw [Int32.lt_iff_toInt_lt] at h9 ⊢
      have e5 : (5 : Int32).toInt = 5 := rfl
      have e7 : (7 : Int32).toInt = 7 := rfl
      omega⟩))]
  show PQ (j_SL L) (j_SV xs) j_EX mm_X12_see 8 [.ref 46, .int w, .int i] [.int 1] S n 0 0 _
  refine q_ifeq rfl rfl (fun c => absurd c (by decide)) (fun _ => ?_)
  obtain ⟨v, hv, rfl⟩ := in_b (b := 6) rfl (by decide) ((inw (a := 6) (b := 7) (by decide)).mp q)
  clear q
  -- behind stand
  have tail : seR P D (nI v) i ≠ -1 ∨ True → (v < 5 → ∃ X, X < pH P ∧ i = nI X) → (v = 5 → ∃ p, p < 4 ∧ i = nI p) → (v = 6 → ∃ p, p < 3 ∧ i = nI p) → PQ (j_SL L) (j_SV xs) j_EX mm_X12_see 48 [.ref 46, .int (nI v), .int i] [] S n 0 0 (fun r S' n' => r = some (.int (seR P D (nI v) i))) := by
    intro _ c1 c2 c3
    refine q_aload_n rfl rfl rfl ?_
    refine q_cV rfl rfl (Or.inl rfl) rfl rfl rfl rfl (by omega) k46 trivial rfl rfl rfl rfl rfl (l_stand hn k46 f7 f8 f10 k52 k54) ?_
    rintro r S1 _ ⟨rfl, rfl, e1, x46, nw', y52, hnw⟩
    show PQ (j_SL L) (j_SV xs) j_EX mm_X12_see 52 [.ref 46, .int (nI v), .int i] [] S1 n 0 0 _
    have g : ∀ j, j ≠ 7 → (fs.set 7 (.int 0))[j]? = fs[j]? := fun j hj => os_ne (fun h => hj h.symm)
    have g10 := (g 10 (by decide)).trans f10
    have y54 := (e1 54 (by decide) (by decide)).trans k54
    have hnD : ∀ i, i < 20 → nw' i = ra P D i := fun i hi => (hnw i hi).trans (hrn i hi)
    refine q_iload_n rfl rfl rfl ?_
    by_cases v5 : v < 5
    · obtain ⟨X, hX, rfl⟩ := c1 v5
      have hh := hD.1 X hX
      have eR : seR P D (nI v) (nI X) = seH P D (nI v) X := by
        unfold seR
        rw [if_neg (fun e => by have := (m_eq (b := 5) (by omega) (by decide)).mp e; omega), if_neg (fun e => by have := (m_eq (b := 6) (by omega) (by decide)).mp e; omega), if_pos ⟨n_in (b := 5) rfl (by decide) v5, hPn hZ.1 hX⟩, nI_tn (by omega)]
      rw [eR]
      match v, v5 with
      | 0, _ =>
        refine q_switch (q := 92) rfl rfl ?_
        refine q_aload_n rfl rfl rfl ?_
        refine q_getf rfl rfl (by omega) x46 g10 ?_
        refine q_iconst rfl rfl ?_
        refine q_iload_n rfl rfl rfl ?_
        refine q_imul rfl rfl (q_tn (z := nI (4 * X)) (by rw [show (4 : Int32) = nI 4 from rfl, pk_mul]) ?_)
        refine q_iald rfl rfl (by omega) y54 (q_inN (by omega) (by decide)) (q_tn (z := rn (4 * X)) (by rw [nI_clamp (by omega)]) ?_)
        refine q_iret rfl rfl trivial ?_
        rw [hrn _ (by omega), ra_0 hX]
        rfl
      | 1, _ =>
        refine q_switch (q := 101) rfl rfl ?_
        refine q_aload_n rfl rfl rfl ?_
        refine q_getf rfl rfl (by omega) x46 g10 ?_
        refine q_iconst rfl rfl ?_
        refine q_iload_n rfl rfl rfl ?_
        refine q_imul rfl rfl (q_tn (z := nI (4 * X)) (by rw [show (4 : Int32) = nI 4 from rfl, pk_mul]) ?_)
        refine q_iconst rfl rfl ?_
        refine q_iadd rfl rfl (q_tn (z := nI (4 * X + 1)) (nI_add _ 1) ?_)
        refine q_iald rfl rfl (by omega) y54 (q_inN (by omega) (by decide)) (q_tn (z := rn (4 * X + 1)) (by rw [nI_clamp (by omega)]) ?_)
        refine q_iret rfl rfl trivial ?_
        rw [hrn _ (by omega), ra_k (by omega)]
        rfl
      | 2, _ =>
        refine q_switch (q := 112) rfl rfl ?_
        refine q_aload_n rfl rfl rfl ?_
        refine q_getf rfl rfl (by omega) x46 g10 ?_
        refine q_iconst rfl rfl ?_
        refine q_iload_n rfl rfl rfl ?_
        refine q_imul rfl rfl (q_tn (z := nI (4 * X)) (by rw [show (4 : Int32) = nI 4 from rfl, pk_mul]) ?_)
        refine q_iconst rfl rfl ?_
        refine q_iadd rfl rfl (q_tn (z := nI (4 * X + 2)) (nI_add _ 2) ?_)
        refine q_iald rfl rfl (by omega) y54 (q_inN (by omega) (by decide)) (q_tn (z := rn (4 * X + 2)) (by rw [nI_clamp (by omega)]) ?_)
        refine q_iret rfl rfl trivial ?_
        rw [hrn _ (by omega), ra_k (by omega)]
        rfl
      | 3, _ =>
        have e3 : seH P D (nI 3) X = @ite _ (ableP P 0 D X) (Classical.propDecidable _) 1 0 := rfl
        rw [e3]
        refine q_switch (q := 123) rfl rfl ?_
        have hJR : JR 0 P S1 := by
          obtain ⟨mn, fk, fa, fn, vl, w, z0, k46, f1, f2, f3, f4, f5, f6, f7, f8, f9, f10, f11, f12, f13, f14, f15, f16, f17, f18, f19, f20, f21, k47, k48, k49, k50, k51, hmn, hpr, hvl⟩ := hp
          exact ⟨_, mn, fk, fa, fn, vl, x46, (g 1 (by decide)).trans f1, (g 2 (by decide)).trans f2, (g 3 (by decide)).trans f3, (g 4 (by decide)).trans f4, (g 5 (by decide)).trans f5, (g 6 (by decide)).trans f6, os_at f7, (g 8 (by decide)).trans f8, (g 9 (by decide)).trans f9, (g 10 (by decide)).trans f10, (e1 47 (by decide) (by decide)).trans k47, (e1 48 (by decide) (by decide)).trans k48, (e1 49 (by decide) (by decide)).trans k49, (e1 50 (by decide) (by decide)).trans k50, (e1 51 (by decide) (by decide)).trans k51, hmn, hpr, hvl⟩
        refine q_aload_n rfl rfl rfl ?_
        refine q_iload_n rfl rfl rfl ?_
        refine q_iconst rfl rfl ?_
        refine q_cV rfl rfl (Or.inl rfl) rfl rfl rfl rfl (by omega) x46 trivial rfl rfl rfl rfl rfl (l_can (pic := 0) hZ.1 hn (by decide) hJR y52 hnD hD (by decide) hX) ?_
        rintro r _ _ ⟨rfl, rfl, hr⟩
        rcases hr with ⟨ha, rfl⟩ | ⟨ha, rfl⟩
        · show PQ (j_SL L) (j_SV xs) j_EX mm_X12_see 129 [.ref 46, .int (nI 3), .int (nI X)] [.int 1] S1 n 0 0 _
          refine q_ifeq rfl rfl (fun c => absurd c (by decide)) (fun _ => ?_)
          refine q_iconst rfl rfl ?_
          refine q_goto rfl ?_
          exact q_iret rfl rfl trivial (by rw [show (@ite _ (ableP P 0 D X) (Classical.propDecidable _) (1 : Int32) 0) = 1 from if_pos ha])
        · show PQ (j_SL L) (j_SV xs) j_EX mm_X12_see 129 [.ref 46, .int (nI 3), .int (nI X)] [.int 0] S1 n 0 0 _
          refine q_ifeq rfl rfl (fun _ => ?_) (fun c => absurd rfl c)
          refine q_iconst rfl rfl ?_
          exact q_iret rfl rfl trivial (by rw [show (@ite _ (ableP P 0 D X) (Classical.propDecidable _) (1 : Int32) 0) = 0 from if_neg ha])
      | 4, _ =>
        refine q_switch (q := 138) rfl rfl ?_
        refine q_aload_n rfl rfl rfl ?_
        refine q_getf rfl rfl (by omega) x46 g10 ?_
        refine q_iconst rfl rfl ?_
        refine q_iload_n rfl rfl rfl ?_
        refine q_imul rfl rfl (q_tn (z := nI (4 * X)) (by rw [show (4 : Int32) = nI 4 from rfl, pk_mul]) ?_)
        refine q_iconst rfl rfl ?_
        refine q_iadd rfl rfl (q_tn (z := nI (4 * X + 3)) (nI_add _ 3) ?_)
        refine q_iald rfl rfl (by omega) y54 (q_inN (by omega) (by decide)) (q_tn (z := rn (4 * X + 3)) (by rw [nI_clamp (by omega)]) ?_)
        refine q_iret rfl rfl trivial ?_
        rw [hrn _ (by omega), ra_k (by omega)]
        rfl
      | v + 5, h => exact absurd h (by omega)
    · by_cases e5 : v = 5
      · subst e5
        obtain ⟨p, hp4, rfl⟩ := c2 rfl
        refine q_switch (q := 149) rfl rfl ?_
        refine q_aload_n rfl rfl rfl ?_
        refine q_getf rfl rfl (by omega) x46 g10 ?_
        refine q_bipush rfl rfl ?_
        refine q_iload_n rfl rfl rfl ?_
        refine q_iadd rfl rfl (q_tn (z := nI (12 + p)) (nI_add 12 p) ?_)
        refine q_iald rfl rfl (by omega) y54 (q_inN (by omega) (by decide)) (q_tn (z := rn (12 + p)) (by rw [nI_clamp (by omega)]) ?_)
        refine q_iret rfl rfl trivial ?_
        rw [hrn _ (by omega), ra_h h3 (by omega)]
        show some (Value.int (nI (D (12 + p)))) = some (Value.int (seR P D 5 (nI p)))
        unfold seR
        rw [if_pos rfl, if_pos (show 0 ≤ nI p ∧ nI p < 4 from n_in (b := 4) rfl (by decide) hp4), nI_tn (by omega)]
      · have e6 : v = 6 := by omega
        subst e6
        obtain ⟨p, hp3, rfl⟩ := c3 rfl
        have hdo := hD.2.2.2.1 p hp3
        have eS : seR P D (nI 6) (nI p) = ownV (D (16 + p)) := by
          show seR P D 6 (nI p) = _
          unfold seR
          rw [if_neg (by decide), if_pos rfl, if_pos (show 0 ≤ nI p ∧ nI p < 3 from n_in (b := 3) rfl (by decide) hp3), nI_tn (by omega)]
        rw [eS]
        refine q_switch (q := 159) rfl rfl ?_
        have er : rn (16 + p) = nI (D (16 + p)) := (hrn _ (by omega)).trans (ra_h h3 (by omega))
        refine q_aload_n rfl rfl rfl ?_
        refine q_getf rfl rfl (by omega) x46 g10 ?_
        refine q_bipush rfl rfl ?_
        refine q_iload_n rfl rfl rfl ?_
        refine q_iadd rfl rfl (q_tn (z := nI (16 + p)) (nI_add 16 p) ?_)
        refine q_iald rfl rfl (by omega) y54 (q_inN (by omega) (by decide)) (q_tn (z := nI (D (16 + p))) (by rw [nI_clamp (by omega)]; exact er) ?_)
        refine q_ifne rfl rfl (fun h => ?_) (fun h => ?_)
        · have h0 := (m_eq (b := 0) (by omega) (by decide)).mp h
          refine q_bipush rfl rfl ?_
          refine q_goto rfl ?_
          exact q_iret rfl rfl trivial (by unfold ownV; rw [if_pos h0])
        · have h0 : ¬ D (16 + p) = 0 := fun e => h (by rw [e]; rfl)
          refine q_aload_n rfl rfl rfl ?_
          refine q_getf rfl rfl (by omega) x46 g10 ?_
          refine q_bipush rfl rfl ?_
          refine q_iload_n rfl rfl rfl ?_
          refine q_iadd rfl rfl (q_tn (z := nI (16 + p)) (nI_add 16 p) ?_)
          refine q_iald rfl rfl (by omega) y54 (q_inN (by omega) (by decide)) (q_tn (z := nI (D (16 + p))) (by rw [nI_clamp (by omega)]; exact er) ?_)
          refine q_iconst rfl rfl ?_
          refine q_isub rfl rfl ?_
          refine q_iret rfl rfl trivial ?_
          show some (Value.int (nI (D (16 + p)) - 1)) = _
          unfold ownV
          rw [if_neg h0, (m_subx (x := D (16 + p) - 1) (by omega) (by omega)).mpr (by omega)]
  refine q_iload_n rfl rfl rfl ?_
  refine q_iconst rfl rfl ?_
  refine q_icge rfl rfl (fun h => ?_) (fun h => ?_)
  rotate_left
  · have v5 : v < 5 := Classical.byContradiction (fun h9 => h ((m_le (a := 5) (by decide) (by omega)).mpr (by omega)))
    refine q_aload_n rfl rfl rfl ?_
    refine q_iload_n rfl rfl rfl ?_
    refine q_cV rfl rfl (Or.inl rfl) rfl rfl rfl rfl (by omega) k46 trivial rfl rfl rfl rfl rfl (l_isHand hn k46 f1) ?_
    rintro r S1 n1 ⟨ea, eb, hr⟩
    obtain rfl := ea.symm
    obtain rfl := eb.symm
    rcases hr with ⟨q, rfl⟩ | ⟨q, rfl⟩
    · show PQ (j_SL L) (j_SV xs) j_EX mm_X12_see 21 [.ref 46, .int (nI v), .int i] [.int 0] S n 0 0 _
      refine q_ifne rfl rfl (fun _ => ?_) (fun c => absurd rfl c)
      refine q_goto rfl ?_
      refine bad ?_
      unfold seR
      rw [if_neg (fun e => by have := (m_eq (b := 5) (by omega) (by decide)).mp e; omega), if_neg (fun e => by have := (m_eq (b := 6) (by omega) (by decide)).mp e; omega), if_neg (fun h9 => q (hiff.mpr h9.2))]
    show PQ (j_SL L) (j_SV xs) j_EX mm_X12_see 21 [.ref 46, .int (nI v), .int i] [.int 1] S n 0 0 _
    refine q_ifne rfl rfl (fun c => absurd c (by decide)) (fun _ => ?_)
    exact tail (Or.inr trivial) (fun _ => hnP hZ.1 (hiff.mp q)) (fun e => by omega) (fun e => by omega)
  have v5 : 5 ≤ v := (m_le (a := 5) (by decide) (by omega)).mp h
  have go : ∀ (b : Nat) (B C : Int32), (v = 5 ∧ b = 4 ∧ B = 3 ∧ C = 4) ∨ (v = 6 ∧ b = 3 ∧ B = 2 ∧ C = 3) → PQ (j_SL L) (j_SV xs) j_EX mm_X12_see 40 [.ref 46, .int (nI v), .int i] [.int B, .int 0, .int i, .ref 46] S n 0 0 (fun r S' n' => r = some (.int (seR P D (nI v) i))) := by
    intro b B C hc
    refine q_cV rfl rfl (Or.inl rfl) rfl rfl rfl rfl (by omega) k46 trivial rfl rfl rfl rfl rfl l_in ?_
    rintro r S1 n1 ⟨ea, eb, hr⟩
    obtain rfl := ea.symm
    obtain rfl := eb.symm
    have hw : inP i 0 B ↔ (0 ≤ i ∧ i < C) := by
      rcases hc with ⟨-, -, rfl, rfl⟩ | ⟨-, -, rfl, rfl⟩ <;> exact inw (by decide)
    rcases hr with ⟨q, rfl⟩ | ⟨q, rfl⟩
    · show PQ (j_SL L) (j_SV xs) j_EX mm_X12_see 43 [.ref 46, .int (nI v), .int i] [.int 0] S n 0 0 _
      refine q_ifne rfl rfl (fun _ => bad ?_) (fun c => absurd rfl c)
      rcases hc with ⟨rfl, -, rfl, rfl⟩ | ⟨rfl, -, rfl, rfl⟩
      · show seR P D 5 i = -1
        unfold seR
        rw [if_pos rfl, if_neg (fun h9 => q (hw.mpr h9))]
      · show seR P D 6 i = -1
        unfold seR
        rw [if_neg (by decide), if_pos rfl, if_neg (fun h9 => q (hw.mpr h9))]
    show PQ (j_SL L) (j_SV xs) j_EX mm_X12_see 43 [.ref 46, .int (nI v), .int i] [.int 1] S n 0 0 _
    refine q_ifne rfl rfl (fun c => absurd c (by decide)) (fun _ => ?_)
    refine tail (Or.inr trivial) (fun h9 => by omega) (fun e => ?_) (fun e => ?_)
    · rcases hc with ⟨-, -, rfl, rfl⟩ | ⟨e9, -⟩
      · exact in_b (b := 3) rfl (by decide) (hw.mp q)
      · omega
    · rcases hc with ⟨e9, -⟩ | ⟨-, -, rfl, rfl⟩
      · omega
      · exact in_b (b := 2) rfl (by decide) (hw.mp q)
  refine q_aload_n rfl rfl rfl ?_
  refine q_iload_n rfl rfl rfl ?_
  refine q_iconst rfl rfl ?_
  refine q_iload_n rfl rfl rfl ?_
  refine q_iconst rfl rfl ?_
  refine q_icne rfl rfl (fun h9 => ?_) (fun h9 => ?_)
  · have e5 := (m_eq (b := 5) (by omega) (by decide)).mp h9
    refine q_iconst rfl rfl ?_
    refine q_goto rfl ?_
    exact go 4 3 4 (Or.inl ⟨e5, rfl, rfl, rfl⟩)
  · have e6 : v = 6 := by
      have : ¬ v = 5 := fun e => h9 (by rw [e]; rfl)
      omega
    refine q_iconst rfl rfl ?_
    exact go 3 2 3 (Or.inr ⟨e6, rfl, rfl, rfl⟩)
end KF
