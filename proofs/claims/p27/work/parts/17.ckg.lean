/-! THE CHECKER: branches, cells -/
section CKG
variable {ft : Nat → Nat → FieldType} {df : Nat → List Value} {SL : Nat → Nat} {SV : Nat → Nat → Int32} {MT : Nat → Option pm_M} {EX : pm_M → pm_C → (pm_C → Prop) → Prop}
variable {GA : Nat → ck_A} {XI : pm_H → Prop} {FA : Nat → Option (Nat × Int × Int)} {mo : List Nat} {M : pm_M} {K : pm_K} {h0 : pm_H} {r0 : List Int}
variable {i : Instr} {len a b pc q : Nat} {v : Value} {L st : List ck_V} {m : List ck_D} {E : ck_N} {Ss : List ck_S}
theorem ck_brc {cond : Jvm.ClassFile.Cond} {t : List Int} {Lc sc : List Value} {hh : pm_H} {c s : Nat} {x y : ck_V} {p q : Int32} (hx : ck_ev (r0 ++ t) x = some p.toInt) (hy : ck_ev (r0 ++ t) y = some q.toInt) (h1 : ck_al (r0 ++ t) L Lc) (h2 : ck_al (r0 ++ t) st sc) (h3 : ck_en (r0 ++ t) E) (h4 : ck_gi GA XI hh) (h5 : ∀ d ∈ m, ck_mo (r0 ++ t) hh d) (h6 : ck_fr mo h0 hh)
    (hG : ∀ S ∈ ck_br cond x y a pc L st m E, ck_G ft df SL SV MT EX GA XI mo M K h0 r0 S) :
    ∃ o : Bool × pm_C × pm_C, pm_br (pm_cnd cond p q) (pm_sw cond) a pc Lc sc hh c s = some (.inr (.inl o)) ∧ (o.1 = true → pm_W ft df SL SV MT EX M o.2.1 K) ∧ (o.1 = false → pm_W ft df SL SV MT EX M o.2.2 K) := by
  unfold pm_br
  cases hsw : pm_sw cond
  · refine ⟨_, rfl, fun hp => ?_, fun hp => ?_⟩
    · refine hG (a, L, st, m, ck_rf cond true E x y) ?_ t _ ⟨rfl, h1, h2, h5, ck_rf_ok h3 hx hy hp, h4, h6⟩
      unfold ck_br
      rw [ck_ps_ok h3 hx hy hp, hsw]
      exact List.mem_append_left _ List.mem_cons_self
    · refine hG (pc + 3, L, st, m, ck_rf cond false E x y) ?_ t _ ⟨rfl, h1, h2, h5, ck_rf_ok h3 hx hy hp, h4, h6⟩
      unfold ck_br
      rw [ck_ps_ok h3 hx hy hp, hsw]
      exact List.mem_append_right _ List.mem_cons_self
  · refine ⟨_, rfl, fun hp => ?_, fun hp => ?_⟩
    · refine hG (pc + 3, L, st, m, ck_rf cond true E x y) ?_ t _ ⟨rfl, h1, h2, h5, ck_rf_ok h3 hx hy hp, h4, h6⟩
      unfold ck_br
      rw [ck_ps_ok h3 hx hy hp, hsw]
      exact List.mem_append_left _ List.mem_cons_self
    · refine hG (a, L, st, m, ck_rf cond false E x y) ?_ t _ ⟨rfl, h1, h2, h5, ck_rf_ok h3 hx hy hp, h4, h6⟩
      unfold ck_br
      rw [ck_ps_ok h3 hx hy hp, hsw]
      exact List.mem_append_right _ List.mem_cons_self
theorem ck_x_br {cond : Jvm.ClassFile.Cond} {x y : ck_V} {rr : List ck_V}
    (hi : ∀ (r : List Int) (Lc sc : List Value) (hh : pm_H) (c s : Nat), ck_al r st sc → ∃ (p q : Int32) (sc' : List Value), pm_ex ft df SL SV MT M i len a b v pc Lc sc hh c s = pm_br (pm_cnd cond p q) (pm_sw cond) a pc Lc sc' hh c s ∧ ck_ev r x = some p.toInt ∧ ck_ev r y = some q.toInt ∧ ck_al r rr sc')
    (hl : pm_look M pc = some (i, len, a, b, v)) (hG : ∀ S ∈ ck_br cond x y a pc L rr m E, ck_G ft df SL SV MT EX GA XI mo M K h0 r0 S) : ck_G ft df SL SV MT EX GA XI mo M K h0 r0 (pc, L, st, m, E) := by
  rintro t ⟨pc', Lc, sc, hh, c, s⟩ ⟨e, h1, h2, h3, h4, h5, h6⟩
  dsimp only at e h1 h2 h3 h4 h5 h6
  subst e
  obtain ⟨p, q, sc', hx, ep, eq, h2'⟩ := hi _ Lc sc hh c s h2
  obtain ⟨o, ho, w1, w2⟩ := ck_brc (c := c) (s := s) ep eq h1 h2' h4 h5 h3 h6 hG
  refine pm_in _ _ _ _ _ _ ?_
  unfold pm_F
  have hs : pm_step ft df SL SV MT M (pc', Lc, sc, hh, c, s) = some (.inr (.inl o)) := by
    unfold pm_step
    dsimp only
    rw [hl]
    exact hx.trans ho
  rw [hs]
  exact ⟨w1, w2⟩
theorem ck_x_sw {dflt lo hi : Int} {offs : Array Int} {x : ck_V} {rr : List ck_V} (hx0 : x.1 = 0) (hl : pm_look M pc = some (.tableswitch dflt lo hi offs, len, a, b, v))
    (hG : ∀ S ∈ ck_sc1 pc dflt lo hi offs x L rr m E, ck_G ft df SL SV MT EX GA XI mo M K h0 r0 S) : ck_G ft df SL SV MT EX GA XI mo M K h0 r0 (pc, L, x :: rr, m, E) := by
  rintro t ⟨pc', Lc, sc, hh, c, s⟩ ⟨e, h1, h2, h3, h4, h5, h6⟩
  dsimp only at e h1 h2 h3 h4 h5 h6
  subst e
  obtain ⟨w1, sc1, rfl, hok1, h2'⟩ := ck_al_c h2
  obtain ⟨z, rfl, ez⟩ := ck_i hx0 hok1
  obtain ⟨g1, g2⟩ := ck_iv_ok h4 ez
  refine pm_in _ _ _ _ _ _ ?_
  unfold pm_F
  have hs : pm_step ft df SL SV MT M (pc', Lc, .int z :: sc1, hh, c, s) = some (.inl ([], (pm_swpc pc' dflt lo hi offs z, Lc, sc1, hh, c, s))) := by
    unfold pm_step
    dsimp only
    rw [hl]
    rfl
  rw [hs]
  refine ⟨trivial, ?_⟩
  dsimp only
  unfold pm_swpc
  by_cases hz : z.toInt < lo ∨ hi < z.toInt
  · rw [if_pos hz]
    refine hG (((pc' : Int) + dflt).toNat, L, rr, m, E) ?_ t _ ⟨rfl, h1, h2', h3, h4, h5, h6⟩
    unfold ck_sc1
    have e : (decide ((ck_iv E x).1 < lo) || decide (hi < (ck_iv E x).2)) = true := by
      rw [Bool.or_eq_true]
      rcases hz with hz | hz
      · exact Or.inl (decide_eq_true (by omega))
      · exact Or.inr (decide_eq_true (by omega))
    rw [e]
    exact List.mem_append_left _ List.mem_cons_self
  · rw [if_neg hz]
    have e1 : lo + ((z.toInt - lo).toNat : Int) = z.toInt := by omega
    refine hG (((pc' : Int) + (offs[(z.toInt - lo).toNat]?).getD dflt).toNat, L, rr, m, ck_cap E x (lo + ((z.toInt - lo).toNat : Int)) (lo + ((z.toInt - lo).toNat : Int))) ?_ t _ ⟨rfl, h1, h2', h3, ck_cap_ok h4 ez (by omega) (by omega), h5, h6⟩
    unfold ck_sc1
    refine List.mem_append_right _ (List.mem_map.mpr ⟨(z.toInt - lo).toNat, List.mem_filter.mpr ⟨List.mem_range.mpr (by omega), ?_⟩, rfl⟩)
    rw [Bool.and_eq_true]
    exact ⟨decide_eq_true (by omega), decide_eq_true (by omega)⟩
theorem ck_ob {hh : pm_H} {k : Nat} {fs : List Value} (h : hh[k]? = some (.inr (a, fs))) : pm_ob hh a k = some fs := by
  unfold pm_ob
  rw [h]
  dsimp only
  rw [Nat.beq_refl]
theorem ck_gob {hh : pm_H} {k : Nat} (hg : ck_gi GA XI hh) (h1 : Nat.beq (GA k).1 1 = true) (h2 : Nat.beq (GA k).2.1 a = true) : ∃ fs, hh[k]? = some (.inr (a, fs)) ∧ ∀ (b : Nat) (q : Nat × Int × Int), (GA k).2.2.2[b]? = some q → ∃ w, fs[b]? = some w ∧ ck_fo q w := by
  have e1 := Nat.eq_of_beq_eq_true h1
  have e2 := Nat.eq_of_beq_eq_true h2
  obtain ⟨c, hc, hk⟩  := hg.1 k (by rw [e1]; rfl)
  unfold ck_cell at hk
  rw [e1] at hk
  obtain ⟨fs, rfl, hf⟩ := hk
  exact ⟨fs, by rw [hc, e2], hf⟩
theorem ck_x_getf {i0 : Nat} {w : ck_V} {rr : List ck_V} (hl : pm_look M pc = some (.getfield i0, len, a, b, v)) (h : ck_getf GA a b w (pc + len) L rr m E = some Ss) (hG : ∀ S ∈ Ss, ck_G ft df SL SV MT EX GA XI mo M K h0 r0 S) : ck_G ft df SL SV MT EX GA XI mo M K h0 r0 (pc, L, w :: rr, m, E) := by
  unfold ck_getf at h
  split at h
  · cases h
  · rename_i hp
    simp only [Bool.and_eq_true] at hp
    obtain ⟨hp1, hp2, hp3⟩ := hp
    have key : ∀ (r : List Int) (Lc sc : List Value) (hh : pm_H) (c s : Nat), ck_al r (w :: rr) sc → ck_gi GA XI hh → ∀ q, (GA w.2.1).2.2.2[b]? = some q → ∃ (fs : List Value) (x : Value) (sc' : List Value), sc = .ref w.2.1 :: sc' ∧ hh[w.2.1]? = some (.inr (a, fs)) ∧ fs[b]? = some x ∧ ck_fo q x ∧ ck_al r rr sc' ∧ pm_ex ft df SL SV MT M (.getfield i0) len a b v pc Lc sc hh c s = some (.inl ([], (pc + len, Lc, x :: sc', hh, c, s))) := by
      intro r Lc sc hh c s h2 h4 q hq
      obtain ⟨w1, sc1, rfl, hok1, h2'⟩ := ck_al_c h2
      have e1 := ck_rr (Nat.eq_of_beq_eq_true hp1) hok1
      subst e1
      obtain ⟨fs, hfs, hf⟩ := ck_gob h4 hp2 hp3
      obtain ⟨x, hx, hfo⟩ := hf b q hq
      refine ⟨fs, x, sc1, rfl, hfs, hx, hfo, h2', ?_⟩
      unfold pm_ex
      dsimp only
      rw [ck_ob hfs]
      dsimp only
      rw [hx]
      rfl
    split at h
    · cases h
    · rename_i q hq
      split at h
      · rename_i q0
        split at h
        · rename_i u hu
          cases h
          refine ck_one0 hl (ck_1 hG) (fun r Lc sc hh c s h1 h2 h3 h4 h5 => ?_)
          obtain ⟨fs, x, sc', -, hfs, hx, hfo, h2', hex⟩ := key r Lc sc hh c s h2 h4 q hq
          obtain ⟨d, hd, d1, d2, d3, d4⟩ := ck_fd_ok hu
          have hm := h5 d hd
          unfold ck_mo at hm
          rw [d1] at hm
          obtain ⟨ci, fs', x', m1, m2, m3⟩ := hm
          rw [d2, hfs] at m1
          cases m1
          rw [d3, hx] at m2
          cases m2
          rw [d4] at m3
          exact ⟨[], Lc, _, hex, trivial, h1, m3, h2'⟩
        · cases h
          refine ck_one hl _ (ck_1 hG) (fun r Lc sc hh c s h1 h2 h3 h4 h5 => ?_)
          obtain ⟨fs, x, sc', -, hfs, hx, hfo, h2', hex⟩ := key r Lc sc hh c s h2 h4 q hq
          unfold ck_fo at hfo
          rw [q0] at hfo
          obtain ⟨z, rfl, z1, z2⟩ := hfo
          obtain ⟨n1, n2⟩ := ck_new h3 z1 z2
          refine ⟨[z.toInt], [], Lc, _, hex, trivial, ck_al_x _ h1, ⟨⟨z, rfl, n2⟩, ck_al_x _ h2'⟩, n1, fun d hd => ?_⟩
          rcases List.mem_cons.mp hd with e | e
          · subst e
            exact ⟨a, fs, _, hfs, hx, z, rfl, n2⟩
          · exact ck_mo_x _ (h5 d e)
      · rename_i q0
        cases h
        refine ck_one0 hl (ck_1 hG) (fun r Lc sc hh c s h1 h2 h3 h4 h5 => ?_)
        obtain ⟨fs, x, sc', -, hfs, hx, hfo, h2', hex⟩ := key r Lc sc hh c s h2 h4 q hq
        unfold ck_fo at hfo
        rw [q0] at hfo
        exact ⟨[], Lc, _, hex, trivial, h1, hfo, h2'⟩
      · rename_i q0
        cases h
        refine ck_one0 hl (ck_1 hG) (fun r Lc sc hh c s h1 h2 h3 h4 h5 => ?_)
        obtain ⟨fs, x, sc', -, hfs, hx, hfo, h2', hex⟩ := key r Lc sc hh c s h2 h4 q hq
        unfold ck_fo at hfo
        rw [q0] at hfo
        exact ⟨[], Lc, _, hex, trivial, h1, hfo, h2'⟩
      · cases h
/-- one step to one state; one cell is written -/
theorem ck_hp (hX : ck_xs GA XI) (hl : pm_look M pc = some (i, len, a, b, v)) (S' : ck_S) (hG : ck_G ft df SL SV MT EX GA XI mo M K h0 r0 S')
    (h : ∀ (r : List Int) (Lc sc : List Value) (hh : pm_H) (c s : Nat), ck_al r L Lc → ck_al r st sc → ck_en r E → ck_gi GA XI hh → (∀ d ∈ m, ck_mo r hh d) →
      ∃ (ps : List Bool) (L' st' : List Value) (k : Nat) (ce c0 : pm_E), pm_ex ft df SL SV MT M i len a b v pc Lc sc hh c s = some (.inl (ps, (S'.1, L', st', hh.set k ce, c, s))) ∧ pm_all ps ∧ ck_al r S'.2.1 L' ∧ ck_al r S'.2.2.1 st' ∧ ck_en r S'.2.2.2.2 ∧ hh[k]? = some c0 ∧ ck_cell (GA k) ce ∧ (Nat.ble (GA k).1 2 = true ∧ ck_ro (GA k) = false ∧ ck_pk (GA k) c0 ce) ∧ mo.contains k = true ∧ ∀ d ∈ S'.2.2.2.1, ck_mo r (hh.set k ce) d) :
    ck_G ft df SL SV MT EX GA XI mo M K h0 r0 (pc, L, st, m, E) := by
  rintro t ⟨pc', Lc, sc, hh, c, s⟩ ⟨e, h1, h2, h3, h4, h5, h6⟩
  dsimp only at e h1 h2 h3 h4 h5 h6
  subst e
  obtain ⟨ps, L', st', k, ce, c0, hx, hp, g1, g2, g3, g4, g5, g8, g6, g7⟩ := h _ Lc sc hh c s h1 h2 h4 h5 h3
  refine pm_in _ _ _ _ _ _ ?_
  unfold pm_F
  have hs : pm_step ft df SL SV MT M (pc', Lc, sc, hh, c, s) = some (.inl (ps, (S'.1, L', st', hh.set k ce, c, s))) := by
    unfold pm_step
    dsimp only
    rw [hl]
    exact hx
  rw [hs]
  exact ⟨hp, hG t _ ⟨rfl, g1, g2, g7, g3, ck_gi_s hX h5 g4 g5 g8.1 g8.2.1 g8.2.2, ck_fr_s h6 g6⟩⟩
theorem ck_mo_s {r : List Int} {hh : pm_H} {k : Nat} {ce : pm_E} {d : ck_D} (hd : ck_mo r hh d) (hn : d.2.1 ≠ k) : ck_mo r (hh.set k ce) d := ck_mo_h (by rw [List.getElem?_set_ne (Ne.symm hn)]) hd
theorem ck_ftf_ok {r : List Int} {ty : FieldType} {q : Nat × Int × Int} {x : ck_V} {w : Value} (hE : ck_en r E) (h : ck_ftf ty q x E = true) (hx : ck_ok r x w) : ∃ ps, pm_fit ty w = some ps ∧ pm_all ps ∧ ck_fo q w := by
  unfold ck_ftf at h
  split at h
  · simp only [Bool.and_eq_true, decide_eq_true_eq] at h
    obtain ⟨k1, k2, k3, k4⟩ := h
    obtain ⟨z, rfl, ez⟩ := ck_i (Nat.eq_of_beq_eq_true k2) hx
    obtain ⟨g1, g2⟩ := ck_iv_ok hE ez
    refine ⟨[], rfl, trivial, ?_⟩
    unfold ck_fo
    rw [Nat.eq_of_beq_eq_true k1]
    exact ⟨z, rfl, by omega, by omega⟩
  · simp only [Bool.and_eq_true, decide_eq_true_eq] at h
    obtain ⟨k1, k2, ⟨k3, k4⟩, k5, k6⟩ := h
    obtain ⟨z, rfl, ez⟩ := ck_i (Nat.eq_of_beq_eq_true k2) hx
    obtain ⟨g1, g2⟩ := ck_iv_ok hE ez
    refine ⟨_, rfl, ?_, ?_⟩
    · show (decide (z = 0) || decide (z = 1)) = true
      rw [Bool.or_eq_true]
      have : z.toInt = 0 ∨ z.toInt = 1 := by omega
      rcases this with e | e
      · exact Or.inl (decide_eq_true (Int32.toInt_inj.mp e))
      · exact Or.inr (decide_eq_true (Int32.toInt_inj.mp e))
    · unfold ck_fo
      rw [Nat.eq_of_beq_eq_true k1]
      exact ⟨z, rfl, by omega, by omega⟩
  · simp only [Bool.and_eq_true] at h
    obtain ⟨z, rfl⟩ := ck_l (Nat.eq_of_beq_eq_true h.2) hx
    refine ⟨[], rfl, trivial, ?_⟩
    unfold ck_fo
    rw [Nat.eq_of_beq_eq_true h.1]
    exact ⟨z, rfl⟩
  · cases h
theorem ck_x_putf (hX : ck_xs GA XI) {i0 : Nat} {x w : ck_V} {rr : List ck_V} (hl : pm_look M pc = some (.putfield i0, len, a, b, v)) (h : ck_putf ft GA mo a b x w (pc + len) L rr m E = some Ss) (hG : ∀ S ∈ Ss, ck_G ft df SL SV MT EX GA XI mo M K h0 r0 S) : ck_G ft df SL SV MT EX GA XI mo M K h0 r0 (pc, L, x :: w :: rr, m, E) := by
  unfold ck_putf at h
  split at h
  · cases h
  · rename_i hp
    simp only [Bool.and_eq_true] at hp
    obtain ⟨hp1, hp0, hp2, hp3, hp4⟩ := hp
    split at h
    · cases h
    · rename_i q hq
      split at h
      · cases h
      · rename_i hft
        cases h
        refine ck_hp hX hl _ (ck_1 hG) (fun r Lc sc hh c s h1 h2 h3 h4 h5 => ?_)
        obtain ⟨w0, sc0, rfl, hok0, h2'⟩ := ck_al_c h2
        obtain ⟨w1, sc1, rfl, hok1, h2''⟩ := ck_al_c h2'
        have e1 := ck_rr (Nat.eq_of_beq_eq_true hp1) hok1
        subst e1
        obtain ⟨fs, hfs, hf⟩ := ck_gob h4 hp2 hp3
        obtain ⟨y, hy, hfo⟩ := hf b q hq
        obtain ⟨ps, k1, k2, k3⟩ := ck_ftf_ok h3 hft hok0
        have hbl := (List.getElem?_eq_some_iff.mp hy).1
        refine ⟨ps, Lc, sc1, w.2.1, .inr (a, fs.set b w0), _, ?_, k2, h1, h2'', h3, hfs, ?_, ⟨by rw [Nat.eq_of_beq_eq_true hp2]; rfl, by unfold ck_ro; rw [Nat.eq_of_beq_eq_true hp2]; rfl, fun p fs0 hpb e0 => by
          cases e0
          have hne : b ≠ p := fun e => by
            subst e
            rw [hpb] at hp4
            cases hp4
          exact ⟨fs.set b w0, by rw [Nat.eq_of_beq_eq_true hp3], List.getElem?_set_ne hne⟩⟩, hp0, fun d hd => ?_⟩
        · unfold pm_ex
          dsimp only
          rw [ck_ob hfs]
          dsimp only
          rw [hy, k1]
        · unfold ck_cell
          rw [Nat.eq_of_beq_eq_true hp2]
          refine ⟨fs.set b w0, by rw [Nat.eq_of_beq_eq_true hp3], fun b' q' hb' => ?_⟩
          by_cases e : b = b'
          · subst e
            rw [hq] at hb'
            cases hb'
            exact ⟨w0, List.getElem?_set_self hbl, k3⟩
          · rw [List.getElem?_set_ne e]
            exact hf b' q' hb'
        · have hset : (hh.set w.2.1 (.inr (a, fs.set b w0)))[w.2.1]? = some (.inr (a, fs.set b w0)) := List.getElem?_set_self (List.getElem?_eq_some_iff.mp hfs).1
          rcases List.mem_cons.mp hd with e | e
          · subst e
            exact ⟨a, _, w0, hset, List.getElem?_set_self hbl, hok0⟩
          · obtain ⟨hd1, hd2⟩ := List.mem_filter.mp e
            by_cases hk : d.2.1 = w.2.1
            · rw [hk, Nat.beq_refl, Bool.true_and, Bool.not_not, Bool.and_eq_true] at hd2
              have hd0 := h5 d hd1
              have d1 := Nat.eq_of_beq_eq_true hd2.1
              unfold ck_mo at hd0 ⊢
              rw [d1] at hd0 ⊢
              obtain ⟨ci, fs', y', m1, m2, m3⟩ := hd0
              rw [hk, hfs] at m1
              cases m1
              have hne : b ≠ d.2.2.1.2.1 := fun e => by
                rw [← e, Nat.beq_refl] at hd2
                cases hd2.2
              exact ⟨a, _, y', by rw [hk]; exact hset, by rw [List.getElem?_set_ne hne]; exact m2, m3⟩
            · exact ck_mo_s (h5 d hd1) hk
end CKG
