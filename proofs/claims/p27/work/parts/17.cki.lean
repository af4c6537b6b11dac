/-! THE CHECKER: every step that is no call and no return -/
section CKI
variable {ft : Nat → Nat → FieldType} {df : Nat → List Value} {SL : Nat → Nat} {SV : Nat → Nat → Int32} {MT : Nat → Option pm_M} {EX : pm_M → pm_C → (pm_C → Prop) → Prop}
variable {GA : Nat → ck_A} {XI : pm_H → Prop} {FA : Nat → Option (Nat × Int × Int)} {mo : List Nat} {M : pm_M} {K : pm_K} {h0 : pm_H} {r0 : List Int}
variable {i : Instr} {len a b pc q : Nat} {v : Value} {L st : List ck_V} {m : List ck_D} {E : ck_N} {Ss : List ck_S}
theorem ck_tI (x y : Int32) : (x + y).toInt = (x.toInt + y.toInt).bmod 4294967296 := Int32.toInt_add x y
theorem ck_tS (x y : Int32) : (x - y).toInt = (x.toInt + - y.toInt).bmod 4294967296 := by
  rw [← Int.sub_eq_add_neg]
  exact Int32.toInt_sub x y
theorem ck_tM (x y : Int32) : (x * y).toInt = (x.toInt * y.toInt).bmod 4294967296 := Int32.toInt_mul x y
theorem ck_x_dup (hl : pm_look M pc = some (.dup, len, a, b, v)) {x : ck_V} (hp : ck_c1 x = true) (hG : ck_G ft df SL SV MT EX GA XI mo M K h0 r0 (pc + len, L, x :: x :: st, m, E)) : ck_G ft df SL SV MT EX GA XI mo M K h0 r0 (pc, L, x :: st, m, E) := by
  refine ck_one0 hl hG (fun r Lc sc hh c s h1 h2 h3 h4 h5 => ?_)
  obtain ⟨w1, sc1, rfl, hok1, h2'⟩ := ck_al_c h2
  refine ⟨[], Lc, w1 :: w1 :: sc1, ?_, trivial, h1, hok1, hok1, h2'⟩
  unfold pm_ex
  dsimp only
  rw [ck_c1_ok hp hok1]
  rfl
theorem ck_x_dup1 (hl : pm_look M pc = some (.dup_x1, len, a, b, v)) {x y : ck_V} (hp : ck_c1 x = true) (hq : ck_c1 y = true) (hG : ck_G ft df SL SV MT EX GA XI mo M K h0 r0 (pc + len, L, x :: y :: x :: st, m, E)) : ck_G ft df SL SV MT EX GA XI mo M K h0 r0 (pc, L, x :: y :: st, m, E) := by
  refine ck_one0 hl hG (fun r Lc sc hh c s h1 h2 h3 h4 h5 => ?_)
  obtain ⟨w1, sc1, rfl, hok1, h2'⟩ := ck_al_c h2
  obtain ⟨w2, sc2, rfl, hok2, h2''⟩ := ck_al_c h2'
  refine ⟨[], Lc, w1 :: w2 :: w1 :: sc2, ?_, trivial, h1, hok1, hok2, hok1, h2''⟩
  unfold pm_ex
  dsimp only
  rw [ck_c1_ok hp hok1, ck_c1_ok hq hok2]
  rfl
theorem ck_x_dup2 (hl : pm_look M pc = some (.dup2, len, a, b, v)) {x y : ck_V} (hp : ck_c1 x = true) (hq : ck_c1 y = true) (hG : ck_G ft df SL SV MT EX GA XI mo M K h0 r0 (pc + len, L, x :: y :: x :: y :: st, m, E)) : ck_G ft df SL SV MT EX GA XI mo M K h0 r0 (pc, L, x :: y :: st, m, E) := by
  refine ck_one0 hl hG (fun r Lc sc hh c s h1 h2 h3 h4 h5 => ?_)
  obtain ⟨w1, sc1, rfl, hok1, h2'⟩ := ck_al_c h2
  obtain ⟨w2, sc2, rfl, hok2, h2''⟩ := ck_al_c h2'
  refine ⟨[], Lc, w1 :: w2 :: w1 :: w2 :: sc2, ?_, trivial, h1, hok1, hok2, hok1, hok2, h2''⟩
  unfold pm_ex
  dsimp only
  rw [ck_c1_ok hp hok1, ck_c1_ok hq hok2]
  rfl
theorem ck_x_dupx2 (hl : pm_look M pc = some (.dup_x2, len, a, b, v)) {x y z : ck_V} (hp : ck_c1 x = true) (hq : ck_c1 y = true) (hz : ck_c1 z = true) (hG : ck_G ft df SL SV MT EX GA XI mo M K h0 r0 (pc + len, L, x :: y :: z :: x :: st, m, E)) : ck_G ft df SL SV MT EX GA XI mo M K h0 r0 (pc, L, x :: y :: z :: st, m, E) := by
  refine ck_one0 hl hG (fun r Lc sc hh c s h1 h2 h3 h4 h5 => ?_)
  obtain ⟨w1, sc1, rfl, hok1, h2'⟩ := ck_al_c h2
  obtain ⟨w2, sc2, rfl, hok2, h2''⟩ := ck_al_c h2'
  obtain ⟨w3, sc3, rfl, hok3, h2'''⟩ := ck_al_c h2''
  refine ⟨[], Lc, w1 :: w2 :: w3 :: w1 :: sc3, ?_, trivial, h1, hok1, hok2, hok3, hok1, h2'''⟩
  unfold pm_ex
  dsimp only
  rw [ck_c1_ok hp hok1, ck_c1_ok hq hok2, ck_c1_ok hz hok3]
  rfl
theorem ck_x_pop (hl : pm_look M pc = some (.pop, len, a, b, v)) {x : ck_V} (hp : ck_c1 x = true) (hG : ck_G ft df SL SV MT EX GA XI mo M K h0 r0 (pc + len, L, st, m, E)) : ck_G ft df SL SV MT EX GA XI mo M K h0 r0 (pc, L, x :: st, m, E) := by
  refine ck_one0 hl hG (fun r Lc sc hh c s h1 h2 h3 h4 h5 => ?_)
  obtain ⟨w1, sc1, rfl, hok1, h2'⟩ := ck_al_c h2
  refine ⟨[], Lc, sc1, ?_, trivial, h1, h2'⟩
  unfold pm_ex
  dsimp only
  rw [ck_c1_ok hp hok1]
  rfl
theorem ck_x_iinc {k : Nat} {i0 : Int} {w : ck_V} {d : Int32} (hl : pm_look M pc = some (.iinc k i0, len, a, b, .int d)) (hw : L[k]? = some w) (h0' : ck_isI w = true) (hk : Nat.ble (k + 1) (pm_nl M) = true)
    (hG : ck_G ft df SL SV MT EX GA XI mo M K h0 r0 (pc + len, ck_s1 L k (ck_add E w (ck_ct d.toInt)).1, st, m, (ck_add E w (ck_ct d.toInt)).2)) : ck_G ft df SL SV MT EX GA XI mo M K h0 r0 (pc, L, st, m, E) := by
  refine ck_one hl _ hG (fun r Lc sc hh c s h1 h2 h3 h4 h5 => ?_)
  obtain ⟨x, hx, hok⟩ := ck_al_g h1 hw
  obtain ⟨z, rfl, ez⟩ := ck_i (Nat.eq_of_beq_eq_true h0') hok
  obtain ⟨u, g1, g2⟩ := ck_add_ok h3 ez (ck_ev_0 (v := ck_ct d.toInt) rfl) (ck_tI z d)
  refine ⟨u, [], _, sc, ?_, trivial, ck_s1_ok k (ck_al_x u h1) g2, ck_al_x u h2, g1, ck_mx u h5⟩
  unfold pm_ex
  dsimp only
  rw [hx]
  dsimp only
  rw [hk]
theorem ck_x_alen {RL : Nat → List (Nat × Int × Int × Int)} {w : ck_V} (hFA : ck_FA SL SV FA) (hl : pm_look M pc = some (.arraylength, len, a, b, v)) (h : ck_nx ft GA FA RL mo M .arraylength len a b v pc L (w :: st) m E = some Ss) (hG : ∀ S ∈ Ss, ck_G ft df SL SV MT EX GA XI mo M K h0 r0 S) : ck_G ft df SL SV MT EX GA XI mo M K h0 r0 (pc, L, w :: st, m, E) := by
  unfold ck_nx at h
  dsimp only at h
  split at h
  · rename_i hw
    split at h
    · rename_i hp
      rw [Bool.and_eq_true, Bool.or_eq_true] at hp
      obtain ⟨hp, hn⟩ := hp
      cases h
      refine ck_one0 hl (ck_1 hG) (fun r Lc sc hh c s h1 h2 h3 h4 h5 => ?_)
      obtain ⟨w1, sc1, rfl, hok1, h2'⟩ := ck_al_c h2
      have e2 := ck_rr hw hok1
      subst e2
      have hnl := Nat.le_of_ble_eq_true hn
      have hok : ck_ok r (ck_ct (GA w.2.1).2.2.1) (.int (Int32.ofNat (GA w.2.1).2.2.1)) := ⟨_, rfl, by
        rw [ck_ev_0 (v := ck_ct (GA w.2.1).2.2.1) rfl]
        exact congrArg some (nI_toInt (n := (GA w.2.1).2.2.1) (by omega)).symm⟩
      rcases hp with hp | hp
      · rw [Bool.and_eq_true] at hp
        have e1 := Nat.eq_of_beq_eq_true hp.1
        obtain ⟨c1, hc, hk⟩ := h4.1 w.2.1 (by rw [e1]; rfl)
        unfold ck_cell at hk
        rw [e1] at hk
        obtain ⟨f, rfl, -⟩ := hk
        refine ⟨[], Lc, .int (Int32.ofNat (GA w.2.1).2.2.1) :: sc1, ?_, trivial, h1, hok, h2'⟩
        unfold pm_ex
        dsimp only
        rw [hc]
        dsimp only
        rw [hp.2]
        rfl
      · have e1 := Nat.eq_of_beq_eq_true hp
        obtain ⟨c1, hc, hk⟩ := h4.1 w.2.1 (by rw [e1]; rfl)
        unfold ck_cell at hk
        rw [e1] at hk
        obtain ⟨f, rfl⟩ := hk
        refine ⟨[], Lc, .int (Int32.ofNat (GA w.2.1).2.2.1) :: sc1, ?_, trivial, h1, hok, h2'⟩
        unfold pm_ex
        dsimp only
        rw [hc]
        rfl
    · cases h
  · rename_i hw
    split at h
    · rename_i q' hq
      split at h
      · rename_i hn
        cases h
        refine ck_one0 hl (ck_1 hG) (fun r Lc sc hh c s h1 h2 h3 h4 h5 => ?_)
        obtain ⟨w1, sc1, rfl, hok1, h2'⟩ := ck_al_c h2
        have e2 := ck_ff hw hok1
        subst e2
        have hnl := Nat.le_of_ble_eq_true hn
        refine ⟨[], Lc, _, rfl, trivial, h1, ⟨_, rfl, ?_⟩, h2'⟩
        rw [ck_ev_0 (v := ck_ct q'.1) rfl, (hFA _ _ hq).1]
        exact congrArg some (nI_toInt (n := q'.1) (by omega)).symm
      · cases h
    · cases h
  · cases h
theorem ck_x_lald {j w : ck_V} {rr : List ck_V} (hl : pm_look M pc = some (.laload, len, a, b, v)) (hw : Nat.beq w.1 1 = true) (hp : ck_lat GA w.2.1 j E = true) (hG : ck_G ft df SL SV MT EX GA XI mo M K h0 r0 (pc + len, L, ck_lg :: rr, m, E)) : ck_G ft df SL SV MT EX GA XI mo M K h0 r0 (pc, L, j :: w :: rr, m, E) := by
  refine ck_one0 hl hG (fun r Lc sc hh c s h1 h2 h3 h4 h5 => ?_)
  obtain ⟨w1, sc1, rfl, hok1, h2'⟩ := ck_al_c h2
  obtain ⟨w2, sc2, rfl, hok2, h2''⟩ := ck_al_c h2'
  obtain ⟨x, rfl, ex⟩ := ck_i (ck_lat_0 hp) hok1
  have e2 := ck_rr (Nat.eq_of_beq_eq_true hw) hok2
  subst e2
  obtain ⟨-, b1, f, hf⟩ := ck_lat_ok h3 h4 hp ex
  refine ⟨[pm_inb x (GA w.2.1).2.2.1], Lc, .long (f x.toNatClampNeg) :: sc2, ?_, b1, h1, ck_lg_ok _, h2''⟩
  unfold pm_ex
  dsimp only
  rw [ck_par hf]
theorem ck_x_last (hX : ck_xs GA XI) {x j w : ck_V} {rr : List ck_V} (hl : pm_look M pc = some (.lastore, len, a, b, v)) (hw : Nat.beq w.1 1 = true) (hmo : mo.contains w.2.1 = true) (hx : Nat.beq x.1 3 = true) (hp : ck_lat GA w.2.1 j E = true) (hro : ck_ro (GA w.2.1) = false) (hG : ck_G ft df SL SV MT EX GA XI mo M K h0 r0 (pc + len, L, rr, m.filter (fun d => !(Nat.beq d.2.1 w.2.1)), E)) : ck_G ft df SL SV MT EX GA XI mo M K h0 r0 (pc, L, x :: j :: w :: rr, m, E) := by
  refine ck_hp hX hl _ hG (fun r Lc sc hh c s h1 h2 h3 h4 h5 => ?_)
  obtain ⟨w0, sc0, rfl, hok0, h2'⟩ := ck_al_c h2
  obtain ⟨w1, sc1, rfl, hok1, h2''⟩ := ck_al_c h2'
  obtain ⟨w2, sc2, rfl, hok2, h2'''⟩ := ck_al_c h2''
  obtain ⟨y, rfl⟩ := ck_l (Nat.eq_of_beq_eq_true hx) hok0
  obtain ⟨z, rfl, ez⟩ := ck_i (ck_lat_0 hp) hok1
  have e2 := ck_rr (Nat.eq_of_beq_eq_true hw) hok2
  subst e2
  obtain ⟨k2, b1, f, hf⟩ := ck_lat_ok h3 h4 hp ez
  refine ⟨[pm_inb z (GA w.2.1).2.2.1], Lc, sc2, w.2.1, .inl (1, (GA w.2.1).2.2.1, .inr (.inl (vp_updL f z.toNatClampNeg y))), _, ?_, b1, h1, h2''', h3, hf, ?_, ⟨by rw [k2]; rfl, hro, fun p fs0 _ e0 => by cases e0⟩, hmo, fun d hd => ?_⟩
  · unfold pm_ex
    dsimp only
    rw [ck_par hf]
  · unfold ck_cell
    rw [k2]
    exact ⟨_, rfl⟩
  · obtain ⟨hd1, hd2⟩ := List.mem_filter.mp hd
    exact ck_mo_s (h5 d hd1) (fun e => by rw [e, Nat.beq_refl] at hd2; cases hd2)
end CKI
