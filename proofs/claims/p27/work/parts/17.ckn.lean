/-! THE CHECKER: calls; the run; a method -/
section CKN
variable {ft : Nat → Nat → FieldType} {df : Nat → List Value} {SL : Nat → Nat} {SV : Nat → Nat → Int32} {MT : Nat → Option pm_M} {EX : pm_M → pm_C → (pm_C → Prop) → Prop}
variable {GA : Nat → ck_A} {XI : pm_H → Prop} {FA : Nat → Option (Nat × Int × Int)} {mo : List Nat} {M : pm_M} {K : pm_K} {h0 : pm_H} {r0 : List Int}
theorem ck_aft_ok {pc : Nat} {L rest : List ck_V} {m : List ck_D} {E : ck_N} {md : List Nat} {σ : List ck_V} {P : ck_P} {r rs : List Int} {Lc sc : List Value} {hh h1 : pm_H} {c s : Nat} {w : Option Value}
    (a1 : ck_al r L Lc) (a2 : ck_al r rest sc) (a3 : ∀ d ∈ m, ck_mo r hh d) (a4 : ck_en r E) (hv : ck_vs r σ rs) (hf : ck_fr md hh h1) (hg : ck_gi GA XI h1) (hfr : ck_fr mo h0 hh) (hmd : ∀ k, md.contains k = true → mo.contains k = true) (hP : ck_post rs P w h1) :
    ∃ u, ck_sat GA XI mo h0 (r ++ u) (ck_aft pc L rest m E md σ P) (pc, Lc, w.toList ++ sc, h1, c, s) := by
  obtain ⟨p1, p2, p3⟩ := hP
  have e1 : ck_en r (ck_caps E σ P.1) := ck_caps_ok a4 hv p1
  have m1 : ∀ d ∈ m.filter (fun d => !(md.contains d.2.1)), ck_mo r h1 d := fun d hd => by
    obtain ⟨d1, d2⟩ := List.mem_filter.mp hd
    have d3 : md.contains d.2.1 = false := by
      cases hb : md.contains d.2.1
      · rfl
      · rw [hb] at d2; cases d2
    exact ck_mo_h (hf.2 _ d3) (a3 d d1)
  have f1 : ck_fr mo h0 h1 := ⟨by rw [hf.1]; exact hfr.1, fun k hk => by
    have k1 : md.contains k = false := by
      cases hb : md.contains k
      · rfl
      · rw [hmd k hb] at hk; cases hk
    rw [hf.2 k k1]
    exact hfr.2 k hk⟩
  unfold ck_rv at p2
  unfold ck_aft
  split at p2
  · rename_i h9
    obtain ⟨x, rfl, x1, x2⟩ := p2
    obtain ⟨n1, n2⟩ := ck_new e1 x1 x2
    obtain ⟨u, g1, g2⟩ := ck_fcs_ok n1 (fun d hd => ck_mo_x [x.toInt] (m1 d hd)) p3
    refine ⟨x.toInt :: u, ?_⟩
    rw [show r ++ x.toInt :: u = (r ++ [x.toInt]) ++ u by simp]
    exact ⟨rfl, ck_al_x _ (ck_al_x _ a1), ⟨ck_ok_x u ⟨x, rfl, n2⟩, ck_al_x _ (ck_al_x _ a2)⟩, g2, g1, hg, f1⟩
  · rename_i h9
    obtain ⟨x, rfl⟩ := p2
    obtain ⟨u, g1, g2⟩ := ck_fcs_ok e1 m1 p3
    refine ⟨u, ?_⟩
    exact ⟨rfl, ck_al_x _ a1, ⟨ck_lg_ok x, ck_al_x _ a2⟩, g2, g1, hg, f1⟩
  · rename_i h8 h9
    subst p2
    obtain ⟨u, g1, g2⟩ := ck_fcs_ok e1 m1 p3
    refine ⟨u, ?_⟩
    exact ⟨rfl, ck_al_x _ a1, ck_al_x _ a2, g2, g1, hg, f1⟩
/-- the contracts hold -/
def ck_cv (GA : Nat → ck_A) (XI : pm_H → Prop) (ft : Nat → Nat → FieldType) (df : Nat → List Value) (SL : Nat → Nat) (SV : Nat → Nat → Int32) (MT : Nat → Option pm_M) (EX : pm_M → pm_C → (pm_C → Prop) → Prop) (cs : List (Nat × ck_Ct)) : Prop := ∀ x ∈ cs, ∀ Y, MT x.1 = some Y → ck_Val GA XI ft df SL SV MT EX x.2 Y
theorem ck_cm_ok {pc : Nat} {L as rest : List ck_V} {m : List ck_D} {E : ck_N} {C : ck_Ct} {Ss : List ck_S} {Y : pm_M} {t : List Int} {Lc ac sc : List Value} {hh : pm_H} {c s : Nat} (hC : ck_Val GA XI ft df SL SV MT EX C Y) (h : ck_cm mo pc L as rest m E C = some Ss) (hG : ∀ S ∈ Ss, ck_G ft df SL SV MT EX GA XI mo M K h0 r0 S)
    (a1 : ck_al (r0 ++ t) L Lc) (a0 : ck_al (r0 ++ t) as ac) (a2 : ck_al (r0 ++ t) rest sc) (a3 : ∀ d ∈ m, ck_mo (r0 ++ t) hh d) (a4 : ck_en (r0 ++ t) E) (a5 : ck_gi GA XI hh) (a6 : ck_fr mo h0 hh) :
    ∃ K' : pm_K, pm_W ft df SL SV MT EX Y (0, pm_en (pm_nl Y) ac, [], hh, 0, 0) K' ∧ ∀ w h1, K' w h1 → pm_W ft df SL SV MT EX M (pc, Lc, w.toList ++ sc, h1, c, s) K := by
  unfold ck_cm at h
  split at h
  · cases h
  · rename_i ws hws
    dsimp only at h
    split at h
    · rename_i hp
      simp only [Bool.and_eq_true] at hp
      obtain ⟨b1, b2, b3, b4⟩ := hp
      cases h
      obtain ⟨m1, -⟩ := ck_ml_ok (rs := []) a3 hws
      have g1 := ck_sg_ok (us := C.1) (σ := []) (fun w hw => by cases hw) (ck_al_o a0)
      have g2 := ck_sg_ok (us := C.2.1.map (fun d => d.2.2.2)) g1 m1
      obtain ⟨rs, hv⟩ := ck_vs_ex g2
      obtain ⟨-, m2⟩ := ck_ml_ok (rs := rs) a3 hws
      refine ⟨_, hC rs ac hh (ck_mta_ok hv b1 a0) (ck_ec_ok a4 hv b3) (by
        obtain ⟨τ3, e3⟩ := ck_sg_p (us := C.2.1.map (fun d => d.2.2.2)) (ws := ws) (σ := ck_sg [] C.1 as)
        rw [e3] at hv b2
        exact m2 τ3 hv b2) a5, fun w h1 hK => ?_⟩
      obtain ⟨k1, k2, P, hP, k3⟩ := hK
      obtain ⟨u, hs⟩ := ck_aft_ok (pc := pc) (c := c) (s := s) a1 a2 a3 a4 hv k2 k1 a6 (fun k hk => List.all_eq_true.mp b4 k (List.contains_iff_mem.mp hk)) k3
      refine hG _ (List.mem_map.mpr ⟨P, hP, rfl⟩) (t ++ u) _ ?_
      rw [← List.append_assoc]
      exact hs
    · cases h
theorem ck_fst_ok {f : ck_Ct → Option (List ck_S)} {y : Nat} {Ss : List ck_S} : ∀ {cs : List (Nat × ck_Ct)}, ck_fst f y cs = some Ss → ∃ C, (y, C) ∈ cs ∧ f C = some Ss
  | [], h => by cases h
  | c :: cs, h => by
    unfold ck_fst at h
    split at h
    · rename_i hb
      have e := Nat.eq_of_beq_eq_true hb
      split at h
      · rename_i Ss' hf
        cases h
        exact ⟨c.2, by rw [← e]; exact List.mem_cons_self, hf⟩
      · obtain ⟨C, h1, h2⟩ := ck_fst_ok h
        exact ⟨C, List.mem_cons_of_mem _ h1, h2⟩
    · obtain ⟨C, h1, h2⟩ := ck_fst_ok h
      exact ⟨C, List.mem_cons_of_mem _ h1, h2⟩
theorem ck_fm_pc {ds : List ck_D} : ∀ {S : ck_S}, (ds.foldl (ck_frc GA) S).1 = S.1 := by
  induction ds with
  | nil => intro S; rfl
  | cons d ds ih =>
    intro S
    rw [List.foldl_cons, ih]
    unfold ck_frc
    split <;> rfl
theorem ck_cl_ok {cs : List (Nat × ck_Ct)} (hcs : ck_cv GA XI ft df SL SV MT EX cs) {i : Instr} {len a b n : Nat} {v : Value} {S : ck_S} {Ss : List ck_S}
    (hi : ∀ Lc sc hh c s, pm_ex ft df SL SV MT M i len a b v S.1 Lc sc hh c s = pm_call MT M a b n sc hh c s)
    (hl : pm_look M S.1 = some (i, len, a, b, v)) (h : ck_cl GA MT M mo cs a b n S = some Ss) (hG : ∀ S ∈ Ss, ck_G ft df SL SV MT EX GA XI mo M K h0 r0 S) : ck_G ft df SL SV MT EX GA XI mo M K h0 r0 S := by
  rintro t c0 hsat
  have epc : c0.1 = S.1 := hsat.1
  unfold ck_cl at h
  split at h
  · cases h
  · rename_i Y hY
    dsimp only at h
    obtain ⟨u, e, h1, h2, h3, h4, h5, h6⟩ := ck_frc_f (r := r0 ++ t) (ds := ck_nm a cs) hsat
    rw [List.append_assoc] at h1 h2 h3 h4
    generalize hS1 : (ck_nm a cs).foldl (ck_frc GA) S = S1 at h h1 h2 h3 h4 e
    have hpc1 : S1.1 = S.1 := by rw [← hS1]; exact ck_fm_pc
    obtain ⟨pc, Lc, sc, hh, c, s⟩ := c0
    dsimp only at epc e h1 h2 h3 h4 h5 h6
    subst epc
    split at h
    · cases h
    · rename_i hr
      rw [Bool.and_eq_true] at hr
      obtain ⟨hr1, hr2⟩ := hr
      have hcs0 : pm_cs M Y c s = [] := by
        unfold pm_cs
        rw [hr2]
      rw [Bool.and_eq_true] at hr2
      have z1 := Nat.eq_of_beq_eq_true hr2.1
      have z2 := Nat.eq_of_beq_eq_true hr2.2
      have fin : ∀ (as : List ck_V) (ac : List Value) (rest : List ck_V) (rc : List Value), ck_al (r0 ++ (t ++ u)) as ac → ck_al (r0 ++ (t ++ u)) rest rc → ck_fst (ck_cm mo (S1.1 + 3) S1.2.1 as rest S1.2.2.2.1 S1.2.2.2.2) a cs = some Ss →
          pm_call MT M a b n sc hh c s = some (.inr (.inr (.inr (pm_cs M Y c s, a, ac, rc)))) → pm_W ft df SL SV MT EX M (S.1, Lc, sc, hh, c, s) K := by
        intro as ac rest rc q1 q2 q3 q4
        obtain ⟨C, c1, c2⟩ := ck_fst_ok q3
        obtain ⟨K', k1, k2⟩ := ck_cm_ok (c := c) (s := s) (hcs _ c1 Y hY) c2 hG h1 q1 q2 h3 h4 h5 h6
        refine pm_in _ _ _ _ _ _ ?_
        unfold pm_F
        have hs : pm_step ft df SL SV MT M (S.1, Lc, sc, hh, c, s) = some (.inr (.inr (.inr (pm_cs M Y c s, a, ac, rc)))) := by
          unfold pm_step
          dsimp only
          rw [hl]
          exact (hi _ _ _ _ _).trans q4
        rw [hs]
        refine ⟨by rw [hcs0]; trivial, Y, K', hY, k1, fun w h' hw => ?_⟩
        have := k2 w h' hw
        dsimp only
        rw [z1, z2, Nat.add_zero, Nat.add_zero, ← hpc1]
        exact this
      split at h
      · rename_i hk
        split at h
        · rename_i hp
          rw [Bool.and_eq_true, Bool.and_eq_true] at hp
          refine fin _ _ _ _ (ck_al_r (ck_al_t n h2)) (ck_al_d n h2) h ?_
          have c1 := Nat.le_of_ble_eq_true hp.1
          have c2 := Nat.le_of_ble_eq_true hp.2.1
          have c3 := Nat.le_of_ble_eq_true hp.2.2
          have d1 : Nat.ble (pm_cat (sc.drop n)) 8 = true := Nat.ble_eq_true_of_le (Nat.le_trans (ck_cat_ok (ck_al_d n h2)) c1)
          have d2 : Nat.ble n sc.length = true := Nat.ble_eq_true_of_le (by rw [← ck_al_l h2]; exact c2)
          have d3 : Nat.ble (pm_cat (sc.take n)) (pm_nl Y) = true := Nat.ble_eq_true_of_le (Nat.le_trans (ck_cat_ok (ck_al_t n h2)) c3)
          unfold pm_call
          rw [hY]
          dsimp only
          rw [hr1]
          dsimp only
          rw [Bool.or_eq_true] at hk
          rcases hk with hk | hk
          · rw [Nat.eq_of_beq_eq_true hk]
            rw [d1, d2, d3]
            rfl
          · rw [Nat.eq_of_beq_eq_true hk]
            rw [d1, d2, d3]
            rfl
        · cases h
      · rename_i hk
        split at h
        · cases h
        · rename_i w hw
          split at h
          · rename_i hp
            simp only [Bool.and_eq_true] at hp
            obtain ⟨p1, ⟨p2, p3⟩, p4, p5⟩ := hp
            obtain ⟨z, hz, hok⟩ := ck_al_g h2 hw
            have ez := ck_rr (Nat.eq_of_beq_eq_true p1) hok
            subst ez
            refine fin (w :: (S1.2.2.1.take n).reverse) (.ref w.2.1 :: (sc.take n).reverse) _ _ ⟨hok, ck_al_r (ck_al_t n h2)⟩ (ck_al_d (n + 1) h2) h ?_
            have c1 := Nat.le_of_ble_eq_true p2
            have c2 := Nat.le_of_ble_eq_true p3
            have d1 : Nat.ble (pm_cat (sc.drop (n + 1))) 8 = true := Nat.ble_eq_true_of_le (Nat.le_trans (ck_cat_ok (ck_al_d (n + 1) h2)) c1)
            have d2 : Nat.ble (pm_cat (sc.take n) + 1) (pm_nl Y) = true := Nat.ble_eq_true_of_le (Nat.le_trans (Nat.add_le_add_right (ck_cat_ok (ck_al_t n h2)) 1) c2)
            obtain ⟨fs, hfs, -⟩ := ck_gob h5 p4 p5
            unfold pm_call
            rw [hY]
            dsimp only
            rw [hr1]
            dsimp only
            split
            · rename_i q
              cases hk
            · rename_i q
              cases hk
            · rw [hz]
              dsimp only
              rw [d1, d2, show (true && true) = true from rfl]
              dsimp only
              split
              · rfl
              · rfl
              · rw [ck_ob hfs]
          · cases h
end CKN
