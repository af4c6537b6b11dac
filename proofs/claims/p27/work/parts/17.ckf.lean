/-! THE CHECKER: a step is right -/
section CKF
variable {ft : Nat → Nat → FieldType} {df : Nat → List Value} {SL : Nat → Nat} {SV : Nat → Nat → Int32} {MT : Nat → Option pm_M} {EX : pm_M → pm_C → (pm_C → Prop) → Prop}
variable {GA : Nat → ck_A} {XI : pm_H → Prop} {FA : Nat → Option (Nat × Int × Int)} {mo : List Nat} {M : pm_M} {K : pm_K} {h0 : pm_H} {r0 : List Int}
def ck_sat (GA : Nat → ck_A) (XI : pm_H → Prop) (mo : List Nat) (h0 : pm_H) (r : List Int) (S : ck_S) (c : pm_C) : Prop :=
  c.1 = S.1 ∧ ck_al r S.2.1 c.2.1 ∧ ck_al r S.2.2.1 c.2.2.1 ∧ (∀ d ∈ S.2.2.2.1, ck_mo r c.2.2.2.1 d) ∧ ck_en r S.2.2.2.2 ∧ ck_gi GA XI c.2.2.2.1 ∧ ck_fr mo h0 c.2.2.2.1
def ck_G (ft : Nat → Nat → FieldType) (df : Nat → List Value) (SL : Nat → Nat) (SV : Nat → Nat → Int32) (MT : Nat → Option pm_M) (EX : pm_M → pm_C → (pm_C → Prop) → Prop) (GA : Nat → ck_A) (XI : pm_H → Prop) (mo : List Nat) (M : pm_M) (K : pm_K) (h0 : pm_H) (r0 : List Int) (S : ck_S) : Prop :=
  ∀ (t : List Int) (c : pm_C), ck_sat GA XI mo h0 (r0 ++ t) S c → pm_W ft df SL SV MT EX M c K
def ck_FA (SL : Nat → Nat) (SV : Nat → Nat → Int32) (FA : Nat → Option (Nat × Int × Int)) : Prop := ∀ j q, FA j = some q → SL j = q.1 ∧ ∀ i, i < q.1 → q.2.1 ≤ (SV j i).toInt ∧ (SV j i).toInt ≤ q.2.2
/-- one step to one state; the heap as it was -/
theorem ck_one {i : Instr} {len a b pc : Nat} {v : Value} {L st : List ck_V} {m : List ck_D} {E : ck_N} (hl : pm_look M pc = some (i, len, a, b, v)) (S' : ck_S) (hG : ck_G ft df SL SV MT EX GA XI mo M K h0 r0 S')
    (h : ∀ (r : List Int) (Lc sc : List Value) (hh : pm_H) (c s : Nat), ck_al r L Lc → ck_al r st sc → ck_en r E → ck_gi GA XI hh → (∀ d ∈ m, ck_mo r hh d) →
      ∃ (u : List Int) (ps : List Bool) (L' st' : List Value), pm_ex ft df SL SV MT M i len a b v pc Lc sc hh c s = some (.inl (ps, (S'.1, L', st', hh, c, s))) ∧ pm_all ps ∧ ck_al (r ++ u) S'.2.1 L' ∧ ck_al (r ++ u) S'.2.2.1 st' ∧ ck_en (r ++ u) S'.2.2.2.2 ∧ ∀ d ∈ S'.2.2.2.1, ck_mo (r ++ u) hh d) :
    ck_G ft df SL SV MT EX GA XI mo M K h0 r0 (pc, L, st, m, E) := by
  rintro t ⟨pc', Lc, sc, hh, c, s⟩ ⟨e, h1, h2, h3, h4, h5, h6⟩
  dsimp only at e h1 h2 h3 h4 h5 h6
  subst e
  obtain ⟨u, ps, L', st', hx, hp, g1, g2, g3, g4⟩ := h _ Lc sc hh c s h1 h2 h4 h5 h3
  refine pm_in _ _ _ _ _ _ ?_
  unfold pm_F
  have hs : pm_step ft df SL SV MT M (pc', Lc, sc, hh, c, s) = some (.inl (ps, (S'.1, L', st', hh, c, s))) := by
    unfold pm_step
    dsimp only
    rw [hl]
    exact hx
  rw [hs]
  refine ⟨hp, hG (t ++ u) _ ?_⟩
  rw [← List.append_assoc]
  exact ⟨rfl, g1, g2, g4, g3, h5, h6⟩
theorem ck_mx {r : List Int} {hh : pm_H} {m : List ck_D} (u : List Int) (h : ∀ d ∈ m, ck_mo r hh d) : ∀ d ∈ m, ck_mo (r ++ u) hh d := fun d hd => ck_mo_x u (h d hd)
/-- the same, no new unknown -/
theorem ck_one0 {i : Instr} {len a b pc pc' : Nat} {v : Value} {L st L2 st2 : List ck_V} {m : List ck_D} {E : ck_N} (hl : pm_look M pc = some (i, len, a, b, v)) (hG : ck_G ft df SL SV MT EX GA XI mo M K h0 r0 (pc', L2, st2, m, E))
    (h : ∀ (r : List Int) (Lc sc : List Value) (hh : pm_H) (c s : Nat), ck_al r L Lc → ck_al r st sc → ck_en r E → ck_gi GA XI hh → (∀ d ∈ m, ck_mo r hh d) →
      ∃ (ps : List Bool) (L' st' : List Value), pm_ex ft df SL SV MT M i len a b v pc Lc sc hh c s = some (.inl (ps, (pc', L', st', hh, c, s))) ∧ pm_all ps ∧ ck_al r L2 L' ∧ ck_al r st2 st') :
    ck_G ft df SL SV MT EX GA XI mo M K h0 r0 (pc, L, st, m, E) := by
  refine ck_one hl _ hG ?_
  intro r Lc sc hh c s h1 h2 h3 h4 h5
  obtain ⟨ps, L', st', g1, g2, g3, g4⟩ := h r Lc sc hh c s h1 h2 h3 h4 h5
  refine ⟨[], ps, L', st', g1, g2, ?_⟩
  rw [List.append_nil]
  exact ⟨g3, g4, h3, h5⟩
section A
variable {i : Instr} {len a b pc q : Nat} {v : Value} {L st : List ck_V} {m : List ck_D} {E : ck_N} {Ss : List ck_S}
theorem ck_1 {T : ck_S} (hG : ∀ S ∈ [T], ck_G ft df SL SV MT EX GA XI mo M K h0 r0 S) : ck_G ft df SL SV MT EX GA XI mo M K h0 r0 T := hG T List.mem_cons_self
theorem ck_x_ki (hi : ∀ L st h c s, pm_ex ft df SL SV MT M i len a b v pc L st h c s = pm_nx (pc) len L h c s (some (v :: st))) (hl : pm_look M pc = some (i, len, a, b, v)) (h : ck_ki v (pc + len) L st m E = some Ss) (hG : ∀ S ∈ Ss, ck_G ft df SL SV MT EX GA XI mo M K h0 r0 S) : ck_G ft df SL SV MT EX GA XI mo M K h0 r0 (pc, L, st, m, E) := by
  unfold ck_ki at h
  split at h
  · cases h
    refine ck_one0 hl (ck_1 hG) (fun r Lc sc hh c s h1 h2 h3 h4 h5 => ⟨[], Lc, _, hi _ _ _ _ _, trivial, h1, ck_ct_ok _, h2⟩)
  · cases h
    refine ck_one0 hl (ck_1 hG) (fun r Lc sc hh c s h1 h2 h3 h4 h5 => ⟨[], Lc, _, hi _ _ _ _ _, trivial, h1, ck_lg_ok _, h2⟩)
  · cases h
theorem ck_x_ldi {k : Nat} (hi : ∀ L st h c s, pm_ex ft df SL SV MT M i len a b v pc L st h c s = pm_ldi pc len L st h c s k) (hl : pm_look M pc = some (i, len, a, b, v)) (h : ck_ld ck_isI k (pc + len) L st m E = some Ss) (hG : ∀ S ∈ Ss, ck_G ft df SL SV MT EX GA XI mo M K h0 r0 S) : ck_G ft df SL SV MT EX GA XI mo M K h0 r0 (pc, L, st, m, E) := by
  unfold ck_ld at h
  split at h
  · rename_i w hw
    split at h
    · rename_i hp
      cases h
      refine ck_one0 hl (ck_1 hG) (fun r Lc sc hh c s h1 h2 h3 h4 h5 => ?_)
      obtain ⟨x, hx, hok⟩ := ck_al_g h1 hw
      obtain ⟨z, rfl, -⟩ := ck_i (Nat.eq_of_beq_eq_true hp) hok
      refine ⟨[], Lc, .int z :: sc, (hi _ _ _ _ _).trans ?_, trivial, h1, hok, h2⟩
      unfold pm_ldi
      rw [hx]
    · cases h
  · cases h
theorem ck_x_ldl {k : Nat} (hi : ∀ L st h c s, pm_ex ft df SL SV MT M i len a b v pc L st h c s = pm_ldl pc len L st h c s k) (hl : pm_look M pc = some (i, len, a, b, v)) (h : ck_ld ck_isL k (pc + len) L st m E = some Ss) (hG : ∀ S ∈ Ss, ck_G ft df SL SV MT EX GA XI mo M K h0 r0 S) : ck_G ft df SL SV MT EX GA XI mo M K h0 r0 (pc, L, st, m, E) := by
  unfold ck_ld at h
  split at h
  · rename_i w hw
    split at h
    · rename_i hp
      cases h
      refine ck_one0 hl (ck_1 hG) (fun r Lc sc hh c s h1 h2 h3 h4 h5 => ?_)
      obtain ⟨x, hx, hok⟩ := ck_al_g h1 hw
      obtain ⟨z, rfl⟩ := ck_l (Nat.eq_of_beq_eq_true hp) hok
      refine ⟨[], Lc, .long z :: sc, (hi _ _ _ _ _).trans ?_, trivial, h1, hok, h2⟩
      unfold pm_ldl
      rw [hx]
    · cases h
  · cases h
theorem ck_x_lda {k : Nat} (hi : ∀ L st h c s, pm_ex ft df SL SV MT M i len a b v pc L st h c s = pm_lda pc len L st h c s k) (hl : pm_look M pc = some (i, len, a, b, v)) (h : ck_ld ck_ca k (pc + len) L st m E = some Ss) (hG : ∀ S ∈ Ss, ck_G ft df SL SV MT EX GA XI mo M K h0 r0 S) : ck_G ft df SL SV MT EX GA XI mo M K h0 r0 (pc, L, st, m, E) := by
  unfold ck_ld at h
  split at h
  · rename_i w hw
    split at h
    · rename_i hp
      cases h
      refine ck_one0 hl (ck_1 hG) (fun r Lc sc hh c s h1 h2 h3 h4 h5 => ?_)
      obtain ⟨x, hx, hok⟩ := ck_al_g h1 hw
      rcases ck_ca_ok hp hok with ⟨z, rfl⟩ | ⟨z, rfl⟩ | rfl
      · refine ⟨[], Lc, .ref z :: sc, (hi _ _ _ _ _).trans ?_, trivial, h1, hok, h2⟩
        unfold pm_lda
        rw [hx]
      · refine ⟨[], Lc, .float z :: sc, (hi _ _ _ _ _).trans ?_, trivial, h1, hok, h2⟩
        unfold pm_lda
        rw [hx]
      · refine ⟨[], Lc, .null :: sc, (hi _ _ _ _ _).trans ?_, trivial, h1, hok, h2⟩
        unfold pm_lda
        rw [hx]
    · cases h
  · cases h
theorem ck_sto {k : Nat} {Lc sc : List Value} {w : Value} {hh : pm_H} {c s : Nat} (hk : Nat.ble (k + 1) (pm_nl M) = true) : pm_sto M pc len Lc (w :: sc) hh c s k = some (.inl ([], (pc + len, pm_s1 Lc k w, sc, hh, c, s))) := by
  unfold pm_sto
  dsimp only
  rw [hk]
theorem ck_x_sti {k : Nat} (hi : ∀ L st h c s, pm_ex ft df SL SV MT M i len a b v pc L st h c s = pm_sti M pc len L st h c s k) (hl : pm_look M pc = some (i, len, a, b, v)) (h : ck_st M ck_isI k (pc + len) L st m E = some Ss) (hG : ∀ S ∈ Ss, ck_G ft df SL SV MT EX GA XI mo M K h0 r0 S) : ck_G ft df SL SV MT EX GA XI mo M K h0 r0 (pc, L, st, m, E) := by
  unfold ck_st at h
  split at h
  · rename_i w r
    split at h
    · rename_i hp
      rw [Bool.and_eq_true] at hp
      cases h
      refine ck_one0 hl (ck_1 hG) (fun r Lc sc hh c s h1 h2 h3 h4 h5 => ?_)
      obtain ⟨x, sc', rfl, hok, h2'⟩ := ck_al_c h2
      obtain ⟨z, rfl, -⟩ := ck_i (Nat.eq_of_beq_eq_true hp.1) hok
      exact ⟨[], _, _, (hi _ _ _ _ _).trans (ck_sto hp.2), trivial, ck_s1_ok k h1 hok, h2'⟩
    · cases h
  · cases h
theorem ck_x_sta {k : Nat} (hi : ∀ L st h c s, pm_ex ft df SL SV MT M i len a b v pc L st h c s = pm_sta M pc len L st h c s k) (hl : pm_look M pc = some (i, len, a, b, v)) (h : ck_st M ck_ca k (pc + len) L st m E = some Ss) (hG : ∀ S ∈ Ss, ck_G ft df SL SV MT EX GA XI mo M K h0 r0 S) : ck_G ft df SL SV MT EX GA XI mo M K h0 r0 (pc, L, st, m, E) := by
  unfold ck_st at h
  split at h
  · rename_i w r
    split at h
    · rename_i hp
      rw [Bool.and_eq_true] at hp
      cases h
      refine ck_one0 hl (ck_1 hG) (fun r Lc sc hh c s h1 h2 h3 h4 h5 => ?_)
      obtain ⟨x, sc', rfl, hok, h2'⟩ := ck_al_c h2
      rcases ck_ca_ok hp.1 hok with ⟨z, rfl⟩ | ⟨z, rfl⟩ | rfl
      · exact ⟨[], _, _, (hi _ _ _ _ _).trans (ck_sto hp.2), trivial, ck_s1_ok k h1 hok, h2'⟩
      · exact ⟨[], _, _, (hi _ _ _ _ _).trans (ck_sto hp.2), trivial, ck_s1_ok k h1 hok, h2'⟩
      · exact ⟨[], _, _, (hi _ _ _ _ _).trans (ck_sto hp.2), trivial, ck_s1_ok k h1 hok, h2'⟩
    · cases h
  · cases h
theorem ck_x_stl {k : Nat} (hi : ∀ L st h c s, pm_ex ft df SL SV MT M i len a b v pc L st h c s = pm_stl M pc len L st h c s k) (hl : pm_look M pc = some (i, len, a, b, v)) (h : ck_stl M k (pc + len) L st m E = some Ss) (hG : ∀ S ∈ Ss, ck_G ft df SL SV MT EX GA XI mo M K h0 r0 S) : ck_G ft df SL SV MT EX GA XI mo M K h0 r0 (pc, L, st, m, E) := by
  unfold ck_stl at h
  split at h
  · rename_i w r
    split at h
    · rename_i hp
      rw [Bool.and_eq_true] at hp
      cases h
      refine ck_one0 hl (ck_1 hG) (fun r Lc sc hh c s h1 h2 h3 h4 h5 => ?_)
      obtain ⟨x, sc', rfl, hok, h2'⟩ := ck_al_c h2
      obtain ⟨z, rfl⟩ := ck_l (Nat.eq_of_beq_eq_true hp.1) hok
      refine ⟨[], _, _, (hi _ _ _ _ _).trans ?_, trivial, ck_s2_ok k h1 hok, h2'⟩
      unfold pm_stl
      dsimp only
      rw [hp.2]
    · cases h
  · cases h
theorem ck_ii_ok {y x : ck_V} {rr : List ck_V} (h : ck_ii st = some (y, x, rr)) : st = y :: x :: rr ∧ y.1 = 0 ∧ x.1 = 0 := by
  unfold ck_ii at h
  split at h
  · split at h
    · rename_i hp
      rw [Bool.and_eq_true] at hp
      cases h
      exact ⟨rfl, Nat.eq_of_beq_eq_true hp.1, Nat.eq_of_beq_eq_true hp.2⟩
    · cases h
  · cases h
theorem ck_ll_ok {rr : List ck_V} (h : ck_ll st = some rr) : ∃ y x : ck_V, st = y :: x :: rr ∧ y.1 = 3 ∧ x.1 = 3 := by
  unfold ck_ll at h
  split at h
  · split at h
    · rename_i hp
      rw [Bool.and_eq_true] at hp
      cases h
      exact ⟨_, _, rfl, Nat.eq_of_beq_eq_true hp.1, Nat.eq_of_beq_eq_true hp.2⟩
    · cases h
  · cases h
theorem ck_il_ok {rr : List ck_V} (h : ck_il st = some rr) : ∃ y x : ck_V, st = y :: x :: rr ∧ y.1 = 0 ∧ x.1 = 3 := by
  unfold ck_il at h
  split at h
  · split at h
    · rename_i hp
      rw [Bool.and_eq_true] at hp
      cases h
      exact ⟨_, _, rfl, Nat.eq_of_beq_eq_true hp.1, Nat.eq_of_beq_eq_true hp.2⟩
    · cases h
  · cases h
theorem ck_x_b2 {op : ck_N → ck_V → ck_V → ck_V × ck_N} {f : Int32 → Int32 → Int32} (hi : ∀ L st h c s, pm_ex ft df SL SV MT M i len a b v pc L st h c s = pm_nx pc len L h c s (pm_i2 st f))
    (hop : ∀ (r : List Int) (E : ck_N) (x y : ck_V) (p q : Int32), ck_en r E → ck_ev r x = some p.toInt → ck_ev r y = some q.toInt → ∃ u : List Int, ck_en (r ++ u) (op E x y).2 ∧ ck_ok (r ++ u) (op E x y).1 (.int (f p q)))
    (hl : pm_look M pc = some (i, len, a, b, v)) (h : ck_b2 op (pc + len) L st m E = some Ss) (hG : ∀ S ∈ Ss, ck_G ft df SL SV MT EX GA XI mo M K h0 r0 S) : ck_G ft df SL SV MT EX GA XI mo M K h0 r0 (pc, L, st, m, E) := by
  unfold ck_b2 at h
  split at h
  · rename_i y x rr hii
    obtain ⟨rfl, hy0, hx0⟩ := ck_ii_ok hii
    unfold ck_pq at h
    cases h
    refine ck_one hl _ (ck_1 hG) (fun r Lc sc hh c s h1 h2 h3 h4 h5 => ?_)
    obtain ⟨w1, sc1, rfl, hok1, h2'⟩ := ck_al_c h2
    obtain ⟨w2, sc2, rfl, hok2, h2''⟩ := ck_al_c h2'
    obtain ⟨q, rfl, eq⟩ := ck_i hy0 hok1
    obtain ⟨p, rfl, ep⟩ := ck_i hx0 hok2
    obtain ⟨u, g1, g2⟩ := hop r E x y p q h3 ep eq
    exact ⟨u, [], Lc, _, hi _ _ _ _ _, trivial, ck_al_x u h1, ⟨g2, ck_al_x u h2''⟩, g1, ck_mx u h5⟩
  · cases h
theorem ck_x_b2o {op : ck_N → ck_V → ck_V → Option (ck_V × ck_N)} {f : Int32 → Int32 → Int32} (hi : ∀ L st h c s p q, pm_ex ft df SL SV MT M i len a b v pc L (.int q :: .int p :: st) h c s = some (.inl ([!(decide (q = 0))], (pc + len, L, .int (f p q) :: st, h, c, s))))
    (hop : ∀ (r : List Int) (E : ck_N) (x y : ck_V) (z : ck_V × ck_N) (p q : Int32), ck_en r E → ck_ev r x = some p.toInt → ck_ev r y = some q.toInt → op E x y = some z → q ≠ 0 ∧ ∃ u : List Int, ck_en (r ++ u) z.2 ∧ ck_ok (r ++ u) z.1 (.int (f p q)))
    (hl : pm_look M pc = some (i, len, a, b, v)) (h : ck_b2o op (pc + len) L st m E = some Ss) (hG : ∀ S ∈ Ss, ck_G ft df SL SV MT EX GA XI mo M K h0 r0 S) : ck_G ft df SL SV MT EX GA XI mo M K h0 r0 (pc, L, st, m, E) := by
  unfold ck_b2o at h
  split at h
  · rename_i y x rr hii
    obtain ⟨rfl, hy0, hx0⟩ := ck_ii_ok hii
    split at h
    · rename_i z hz
      unfold ck_pq at h
      cases h
      refine ck_one hl _ (ck_1 hG) (fun r Lc sc hh c s h1 h2 h3 h4 h5 => ?_)
      obtain ⟨w1, sc1, rfl, hok1, h2'⟩ := ck_al_c h2
      obtain ⟨w2, sc2, rfl, hok2, h2''⟩ := ck_al_c h2'
      obtain ⟨q, rfl, eq⟩ := ck_i hy0 hok1
      obtain ⟨p, rfl, ep⟩ := ck_i hx0 hok2
      obtain ⟨hq, u, g1, g2⟩ := hop r E x y z p q h3 ep eq hz
      exact ⟨u, _, Lc, _, hi _ _ _ _ _ _ _, by show (!(decide (q = 0))) = true; rw [decide_eq_false hq]; rfl, ck_al_x u h1, ⟨g2, ck_al_x u h2''⟩, g1, ck_mx u h5⟩
    · cases h
  · cases h
theorem ck_x_lop {f : Int64 → Int64 → Int64} (hi : ∀ L st h c s, pm_ex ft df SL SV MT M i len a b v pc L st h c s = pm_nx pc len L h c s (pm_l2 st (fun x y => .long (f x y))))
    (hl : pm_look M pc = some (i, len, a, b, v)) (h : ck_lop (pc + len) L st m E = some Ss) (hG : ∀ S ∈ Ss, ck_G ft df SL SV MT EX GA XI mo M K h0 r0 S) : ck_G ft df SL SV MT EX GA XI mo M K h0 r0 (pc, L, st, m, E) := by
  unfold ck_lop at h
  split at h
  · rename_i rr hll
    obtain ⟨y, x, rfl, hy0, hx0⟩ := ck_ll_ok hll
    cases h
    refine ck_one0 hl (ck_1 hG) (fun r Lc sc hh c s h1 h2 h3 h4 h5 => ?_)
    obtain ⟨w1, sc1, rfl, hok1, h2'⟩ := ck_al_c h2
    obtain ⟨w2, sc2, rfl, hok2, h2''⟩ := ck_al_c h2'
    obtain ⟨q, rfl⟩ := ck_l hy0 hok1
    obtain ⟨p, rfl⟩ := ck_l hx0 hok2
    exact ⟨[], Lc, _, hi _ _ _ _ _, trivial, h1, ck_lg_ok _, h2''⟩
  · cases h
theorem ck_x_lsh {f : Int64 → Int32 → Int64} (hi : ∀ L st h c s, pm_ex ft df SL SV MT M i len a b v pc L st h c s = pm_nx pc len L h c s (pm_li st f))
    (hl : pm_look M pc = some (i, len, a, b, v)) (h : ck_lsh (pc + len) L st m E = some Ss) (hG : ∀ S ∈ Ss, ck_G ft df SL SV MT EX GA XI mo M K h0 r0 S) : ck_G ft df SL SV MT EX GA XI mo M K h0 r0 (pc, L, st, m, E) := by
  unfold ck_lsh at h
  split at h
  · rename_i rr hll
    obtain ⟨y, x, rfl, hy0, hx0⟩ := ck_il_ok hll
    cases h
    refine ck_one0 hl (ck_1 hG) (fun r Lc sc hh c s h1 h2 h3 h4 h5 => ?_)
    obtain ⟨w1, sc1, rfl, hok1, h2'⟩ := ck_al_c h2
    obtain ⟨w2, sc2, rfl, hok2, h2''⟩ := ck_al_c h2'
    obtain ⟨q, rfl, -⟩ := ck_i hy0 hok1
    obtain ⟨p, rfl⟩ := ck_l hx0 hok2
    exact ⟨[], Lc, _, hi _ _ _ _ _, trivial, h1, ck_lg_ok _, h2''⟩
  · cases h
end A
end CKF
