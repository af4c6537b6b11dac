/-! THE CHECKER: arrays; every step -/
section CKH
variable {ft : Nat → Nat → FieldType} {df : Nat → List Value} {SL : Nat → Nat} {SV : Nat → Nat → Int32} {MT : Nat → Option pm_M} {EX : pm_M → pm_C → (pm_C → Prop) → Prop}
variable {GA : Nat → ck_A} {XI : pm_H → Prop} {FA : Nat → Option (Nat × Int × Int)} {mo : List Nat} {M : pm_M} {K : pm_K} {h0 : pm_H} {r0 : List Int}
variable {i : Instr} {len a b pc q : Nat} {v : Value} {L st : List ck_V} {m : List ck_D} {E : ck_N} {Ss : List ck_S}
theorem ck_inb {x : Int32} {n : Nat} (h1 : 0 ≤ x.toInt) (h2 : x.toInt < n) : pm_inb x n = true ∧ x.toNatClampNeg = x.toInt.toNat ∧ x.toInt.toNat < n := by
  have e : x.toNatClampNeg = x.toInt.toNat := rfl
  have hl : x.toInt.toNat < n := by omega
  refine ⟨?_, e, hl⟩
  unfold pm_inb
  rw [Bool.and_eq_true]
  refine ⟨?_, Nat.ble_eq_true_of_le (by rw [e]; omega)⟩
  have : ¬ x < 0 := by
    rw [Int32.lt_iff_toInt_lt]
    have e0 : (0 : Int32).toInt = 0 := rfl
    omega
  rw [decide_eq_false this]
  rfl
theorem ck_at_ok {t k : Nat} {j : ck_V} {r : List Int} {hh : pm_H} {p : Int × Int} {x : Int32} (hE : ck_en r E) (hg : ck_gi GA XI hh) (h : ck_at GA t k j E = some p) (hx : ck_ev r j = some x.toInt) :
    j.1 = 0 ∧ (GA k).1 = 0 ∧ (GA k).2.1 = t ∧ 0 < (GA k).2.2.2.length ∧ pm_inb x (GA k).2.2.1 = true ∧ x.toNatClampNeg = x.toInt.toNat ∧ x.toInt.toNat < (GA k).2.2.1 ∧ ∃ f : Nat → Int32, hh[k]? = some (.inl (t, (GA k).2.2.1, .inl f)) ∧ p.1 ≤ (f x.toInt.toNat).toInt ∧ (f x.toInt.toNat).toInt ≤ p.2 ∧ (∀ i, i < (GA k).2.2.1 → ∃ q, (GA k).2.2.2[i % (GA k).2.2.2.length]? = some q ∧ q.2.1 ≤ (f i).toInt ∧ (f i).toInt ≤ q.2.2) := by
  unfold ck_at at h
  split at h
  · rename_i hp
    simp only [Bool.and_eq_true, decide_eq_true_eq] at hp
    obtain ⟨p1, p2, p3, p4, p5, p6⟩ := hp
    have e1 := Nat.eq_of_beq_eq_true p1
    have e2 := Nat.eq_of_beq_eq_true p2
    obtain ⟨g1, g2⟩ := ck_iv_ok hE hx
    obtain ⟨b1, b2, b3⟩ := ck_inb (x := x) (n := (GA k).2.2.1) (by omega) (by omega)
    have hm : 0 < (GA k).2.2.2.length := Nat.le_of_ble_eq_true p6
    obtain ⟨c, hc, hk⟩  := hg.1 k (by rw [e1]; rfl)
    unfold ck_cell at hk
    rw [e1] at hk
    obtain ⟨f, rfl, hf⟩ := hk
    obtain ⟨q', q1, q2, q3⟩ := hf _ b3
    obtain ⟨q'', s1, s2, s3⟩ := ck_jn_ok h (ck_rs_ok hE hx (by omega) hm)
    rw [q1] at s1
    cases s1
    exact ⟨Nat.eq_of_beq_eq_true p3, e1, e2, hm, b1, b2, b3, f, by rw [hc, e2], Int.le_trans s2 q2, Int.le_trans q3 s3, hf⟩
  · cases h
theorem ck_par {hh : pm_H} {t k : Nat} {x : vp_A} (h : hh[k]? = some (.inl (t, x))) : pm_ar hh t k = some x := by
  unfold pm_ar
  rw [h]
  dsimp only
  rw [Nat.beq_refl]
theorem ck_at_0 {t k : Nat} {j : ck_V} {p : Int × Int} (h : ck_at GA t k j E = some p) : j.1 = 0 := by
  unfold ck_at at h
  split at h
  · rename_i hp
    simp only [Bool.and_eq_true] at hp
    exact Nat.eq_of_beq_eq_true hp.2.2.1
  · cases h
def ck_RL (XI : pm_H → Prop) (RL : Nat → List (Nat × Int × Int × Int)) : Prop := ∀ h, XI h → ∀ (k : Nat) (e : Nat × Int × Int × Int), e ∈ RL k → ∀ (t n t' n' : Nat) (f f' : Nat → Int32), h[k]? = some (.inl (t, n, .inl f)) → h[e.1]? = some (.inl (t', n', .inl f')) → ∀ j, j < n → (f' j).toInt = e.2.1 → e.2.2.1 ≤ (f j).toInt ∧ (f j).toInt ≤ e.2.2.2
theorem ck_rl_ok {RL : Nat → List (Nat × Int × Int × Int)} {r : List Int} {hh : pm_H} {j : ck_V} {p : Int × Int} {a : Int} {k t n : Nat} {f : Nat → Int32} (hR : ck_RL XI RL) (hx : XI hh) (hE : ck_en r E) (h5 : ∀ d ∈ m, ck_mo r hh d) (hj : ck_ev r j = some a) (hf : hh[k]? = some (.inl (t, n, .inl f))) (hn : a.toNat < n) (h1 : p.1 ≤ (f a.toNat).toInt) (h2 : (f a.toNat).toInt ≤ p.2) :
    ∀ es : List (Nat × Int × Int × Int), (∀ e ∈ es, e ∈ RL k) → (ck_rl m E j p es).1 ≤ (f a.toNat).toInt ∧ (f a.toNat).toInt ≤ (ck_rl m E j p es).2 := by
  intro es
  induction es with
  | nil => intro _; exact ⟨h1, h2⟩
  | cons e es ih =>
    intro hm
    have ih' := ih (fun e' he' => hm e' (List.mem_cons_of_mem _ he'))
    unfold ck_rl
    split
    · rename_i u hu
      split
      · rename_i hp
        simp only [Bool.and_eq_true, decide_eq_true_eq] at hp
        obtain ⟨d, hd, d1, d2, d3, d4⟩ := ck_fe_ok (r := r) hu
        have hmd := h5 d hd
        unfold ck_mo at hmd
        rw [d1] at hmd
        obtain ⟨t', n', f', a', m1, m2, m3⟩ := hmd
        rw [d3, hj] at m2
        cases m2
        rw [d4] at m3
        obtain ⟨z, ez, evz⟩ := ck_i (Nat.eq_of_beq_eq_true hp.1) m3
        cases ez
        obtain ⟨g1, g2⟩ := ck_iv_ok hE evz
        obtain ⟨k1, k2⟩ := hR hh hx k e (hm e List.mem_cons_self) t n t' n' f f' hf (by rw [← d2]; exact m1) a.toNat hn (by omega)
        dsimp only
        exact ⟨by omega, by omega⟩
      · exact ih'
    · exact ih'
theorem ck_x_ald {RL : Nat → List (Nat × Int × Int × Int)} (hR : ck_RL XI RL) {t : Nat} {j w : ck_V} {rr : List ck_V} (hFA : ck_FA SL SV FA)
    (hi : ∀ (Lc sc : List Value) (hh : pm_H) (c s : Nat) (x : Int32) (k n : Nat) (f : Nat → Int32), hh[k]? = some (.inl (t, n, .inl f)) → pm_ex ft df SL SV MT M i len a b v pc Lc (.int x :: .ref k :: sc) hh c s = some (.inl ([pm_inb x n], (pc + len, Lc, .int (f x.toNatClampNeg) :: sc, hh, c, s))))
    (hi2 : t = 0 → ∀ (Lc sc : List Value) (hh : pm_H) (c s : Nat) (x : Int32) (k : UInt32), pm_ex ft df SL SV MT M i len a b v pc Lc (.int x :: .float k :: sc) hh c s = some (.inl ([pm_inb x (SL k.toNat)], (pc + len, Lc, .int (SV k.toNat x.toNatClampNeg) :: sc, hh, c, s))))
    (hl : pm_look M pc = some (i, len, a, b, v)) (h : ck_aload GA FA RL t j w (pc + len) L rr m E = some Ss) (hG : ∀ S ∈ Ss, ck_G ft df SL SV MT EX GA XI mo M K h0 r0 S) : ck_G ft df SL SV MT EX GA XI mo M K h0 r0 (pc, L, j :: w :: rr, m, E) := by
  unfold ck_aload at h
  split at h
  · rename_i hw
    split at h
    · cases h
    · rename_i p hp
      have hj0 := ck_at_0 hp
      split at h
      · rename_i u hu
        cases h
        refine ck_one0 hl (ck_1 hG) (fun r Lc sc hh c s h1 h2 h3 h4 h5 => ?_)
        obtain ⟨w1, sc1, rfl, hok1, h2'⟩ := ck_al_c h2
        obtain ⟨w2, sc2, rfl, hok2, h2''⟩ := ck_al_c h2'
        obtain ⟨x, rfl, ex⟩ := ck_i hj0 hok1
        have e2 := ck_rr hw hok2
        subst e2
        obtain ⟨-, -, -, -, b1, b2, b3, f, hf, -, -, -⟩ := ck_at_ok h3 h4 hp ex
        obtain ⟨d, hd, d1, d2, d3, d4⟩ := ck_fe_ok (r := r) hu
        have hm := h5 d hd
        unfold ck_mo at hm
        rw [d1] at hm
        obtain ⟨t', n', f', a', m1, m2, m3⟩ := hm
        rw [d2, hf] at m1
        cases m1
        rw [d3, ex] at m2
        cases m2
        rw [d4] at m3
        exact ⟨_, Lc, _, hi _ _ _ _ _ _ _ _ _ hf, b1, h1, by rw [b2]; exact m3, h2''⟩
      · cases h
        refine ck_one hl _ (ck_1 hG) (fun r Lc sc hh c s h1 h2 h3 h4 h5 => ?_)
        obtain ⟨w1, sc1, rfl, hok1, h2'⟩ := ck_al_c h2
        obtain ⟨w2, sc2, rfl, hok2, h2''⟩ := ck_al_c h2'
        obtain ⟨x, rfl, ex⟩ := ck_i hj0 hok1
        have e2 := ck_rr hw hok2
        subst e2
        obtain ⟨-, -, -, -, b1, b2, b3, f, hf, z1, z2, -⟩ := ck_at_ok h3 h4 hp ex
        obtain ⟨y1, y2⟩ := ck_rl_ok hR h4.2 h3 h5 ex hf b3 z1 z2 (RL w.2.1) (fun _ he => he)
        obtain ⟨n1, n2⟩ := ck_new h3 y1 y2
        refine ⟨[(f x.toInt.toNat).toInt], _, Lc, _, hi _ _ _ _ _ _ _ _ _ hf, b1, ck_al_x _ h1, ⟨⟨_, by rw [b2], n2⟩, ck_al_x _ h2''⟩, n1, fun d hd => ?_⟩
        rcases List.mem_cons.mp hd with e | e
        · subst e
          exact ⟨t, _, f, x.toInt, hf, ck_ev_x _ ex, _, rfl, n2⟩
        · exact ck_mo_x _ (h5 d e)
  · rename_i hw
    split at h
    · rename_i q' ht hj hq
      split at h
      · rename_i hp
        rw [Bool.and_eq_true] at hp
        have hp1 := of_decide_eq_true hp.1
        have hp2 := of_decide_eq_true hp.2
        cases h
        refine ck_one hl _ (ck_1 hG) (fun r Lc sc hh c s h1 h2 h3 h4 h5 => ?_)
        obtain ⟨w1, sc1, rfl, hok1, h2'⟩ := ck_al_c h2
        obtain ⟨w2, sc2, rfl, hok2, h2''⟩ := ck_al_c h2'
        obtain ⟨x, rfl, ex⟩ := ck_i (Nat.eq_of_beq_eq_true hj) hok1
        have e2 := ck_ff hw hok2
        subst e2
        obtain ⟨g1, g2⟩ := ck_iv_ok h3 ex
        obtain ⟨f1, f2⟩ := hFA _ _ hq
        obtain ⟨b1, b2, b3⟩ := ck_inb (x := x) (n := q'.1) (by omega) (by omega)
        obtain ⟨z1, z2⟩ := f2 _ b3
        obtain ⟨n1, n2⟩ := ck_new h3 z1 z2
        refine ⟨[(SV (UInt32.ofNat w.2.1).toNat x.toInt.toNat).toInt], _, Lc, _, hi2 (Nat.eq_of_beq_eq_true ht) _ _ _ _ _ _ _, by rw [f1]; exact b1, ck_al_x _ h1, ⟨⟨_, by rw [b2], n2⟩, ck_al_x _ h2''⟩, n1, ck_mx _ h5⟩
      · cases h
    · cases h
  · cases h
theorem ck_x_ast (hX : ck_xs GA XI) {t : Nat} {x j w : ck_V} {rr : List ck_V} (nr : Int32 → Int32) (hn : t ≠ 0 → ∀ y, 0 ≤ (nr y).toInt ∧ (nr y).toInt ≤ 1) (hn0 : t = 0 → ∀ y, nr y = y)
    (hi : ∀ (Lc sc : List Value) (hh : pm_H) (c s : Nat) (y x : Int32) (k n : Nat) (f : Nat → Int32), hh[k]? = some (.inl (t, n, .inl f)) → pm_ex ft df SL SV MT M i len a b v pc Lc (.int y :: .int x :: .ref k :: sc) hh c s = some (.inl ([pm_inb x n], (pc + len, Lc, sc, hh.set k (.inl (t, n, .inl (upd f x.toNatClampNeg (nr y)))), c, s))))
    (hl : pm_look M pc = some (i, len, a, b, v)) (h : ck_astore GA mo t x j w (pc + len) L rr m E = some Ss) (hG : ∀ S ∈ Ss, ck_G ft df SL SV MT EX GA XI mo M K h0 r0 S) : ck_G ft df SL SV MT EX GA XI mo M K h0 r0 (pc, L, x :: j :: w :: rr, m, E) := by
  unfold ck_astore at h
  split at h
  · cases h
  · rename_i hp
    simp only [Bool.and_eq_true] at hp
    obtain ⟨hp1, hp2, hp3, hp4⟩ := hp
    split at h
    · cases h
    · rename_i p hat
      split at h
      · cases h
      · rename_i hfit
        cases h
        refine ck_hp hX hl _ (ck_1 hG) (fun r Lc sc hh c s h1 h2 h3 h4 h5 => ?_)
        obtain ⟨w0, sc0, rfl, hok0, h2'⟩ := ck_al_c h2
        obtain ⟨w1, sc1, rfl, hok1, h2''⟩ := ck_al_c h2'
        obtain ⟨w2, sc2, rfl, hok2, h2'''⟩ := ck_al_c h2''
        obtain ⟨y, rfl, ey⟩ := ck_i (Nat.eq_of_beq_eq_true hp2) hok0
        obtain ⟨z, rfl, ez⟩ := ck_i (ck_at_0 hat) hok1
        have e2 := ck_rr (Nat.eq_of_beq_eq_true hp1) hok2
        subst e2
        obtain ⟨-, k0, kt, km, b1, b2, b3, f, hf, -, -, hall⟩ := ck_at_ok h3 h4 hat ez
        obtain ⟨g1, g2⟩ := ck_iv_ok h3 ey
        obtain ⟨k1, k2⟩ := ck_iv_ok h3 ez
        have hz0 : 0 ≤ z.toInt := by
          unfold ck_at at hat
          split at hat
          · rename_i hq
            simp only [Bool.and_eq_true, decide_eq_true_eq] at hq
            omega
          · cases hat
        have hset : ∀ ce : pm_E, (hh.set w.2.1 ce)[w.2.1]? = some ce := fun ce => List.getElem?_set_self (List.getElem?_eq_some_iff.mp hf).1
        refine ⟨_, Lc, sc2, w.2.1, _, _, hi _ _ _ _ _ _ _ _ _ _ hf, b1, h1, h2''', h3, hf, ?_, ⟨by rw [k0]; rfl, by simpa using hp4, fun p fs0 _ e0 => by cases e0⟩, hp3, fun d hd => ?_⟩
        · unfold ck_cell
          rw [k0]
          refine ⟨_, by rw [kt], fun i' hi' => ?_⟩
          by_cases e : i' = z.toNatClampNeg
          · subst e
            rw [b2]
            obtain ⟨q', q1, q2, q3⟩ := ck_fits_ok hfit (ck_rs_ok h3 ez hz0 km)
            refine ⟨q', q1, ?_⟩
            have eu : upd f z.toInt.toNat (nr y) z.toInt.toNat = nr y := if_pos rfl
            rw [eu]
            cases ht : Nat.beq t 0
            · rw [ht] at q2 q3
              have hne : t ≠ 0 := fun e => by rw [e] at ht; cases ht
              obtain ⟨n1, n2⟩ := hn hne y
              dsimp only at q2 q3
              exact ⟨by omega, by omega⟩
            · rw [ht] at q2 q3
              rw [hn0 (Nat.eq_of_beq_eq_true ht) y]
              dsimp only at q2 q3
              exact ⟨by omega, by omega⟩
          · have eu : upd f z.toNatClampNeg (nr y) i' = f i' := if_neg e
            rw [eu]
            exact hall i' hi'
        · rcases List.mem_append.mp hd with e | e
          · cases ht : Nat.beq t 0
            · rw [ht] at e
              cases e
            · rw [ht] at e
              have e' := List.mem_singleton.mp e
              subst e'
              have eu : upd f z.toNatClampNeg (nr y) z.toInt.toNat = y := by
                rw [b2, hn0 (Nat.eq_of_beq_eq_true ht) y]
                exact if_pos rfl
              refine ⟨t, _, _, z.toInt, hset _, ez, ?_⟩
              show ck_ok r x (.int (upd f z.toNatClampNeg (nr y) z.toInt.toNat))
              rw [eu]
              exact hok0
          · obtain ⟨hd1, hd2⟩ := List.mem_filter.mp e
            exact ck_mo_s (h5 d hd1) (fun e => by rw [e, Nat.beq_refl] at hd2; cases hd2)
theorem ck_lat_ok {k : Nat} {j : ck_V} {r : List Int} {hh : pm_H} {x : Int32} (hE : ck_en r E) (hg : ck_gi GA XI hh) (h : ck_lat GA k j E = true) (hx : ck_ev r j = some x.toInt) :
    (GA k).1 = 2 ∧ pm_inb x (GA k).2.2.1 = true ∧ ∃ f : Nat → Int64, hh[k]? = some (.inl (1, (GA k).2.2.1, .inr (.inl f))) := by
  unfold ck_lat at h
  simp only [Bool.and_eq_true, decide_eq_true_eq] at h
  obtain ⟨p1, p2, p3, p4⟩ := h
  have e1 := Nat.eq_of_beq_eq_true p1
  obtain ⟨g1, g2⟩ := ck_iv_ok hE hx
  obtain ⟨b1, b2, b3⟩ := ck_inb (x := x) (n := (GA k).2.2.1) (by omega) (by omega)
  obtain ⟨c, hc, hk⟩  := hg.1 k (by rw [e1]; rfl)
  unfold ck_cell at hk
  rw [e1] at hk
  obtain ⟨f, rfl⟩ := hk
  exact ⟨e1, b1, f, hc⟩
theorem ck_lat_0 {k : Nat} {j : ck_V} (h : ck_lat GA k j E = true) : j.1 = 0 := by
  unfold ck_lat at h
  simp only [Bool.and_eq_true] at h
  exact Nat.eq_of_beq_eq_true h.2.1
theorem ck_nar (y : Int32) : 0 ≤ (vp_nar .boolean y).toInt ∧ (vp_nar .boolean y).toInt ≤ 1 := ck_and_le (x := y) (y := 1) (by decide)
end CKH
