/-! THE CHECKER: the run is right; a method -/
section CKO
variable {ft : Nat → Nat → FieldType} {df : Nat → List Value} {SL : Nat → Nat} {SV : Nat → Nat → Int32} {MT : Nat → Option pm_M} {EX : pm_M → pm_C → (pm_C → Prop) → Prop}
variable {GA : Nat → ck_A} {XI : pm_H → Prop} {FA : Nat → Option (Nat × Int × Int)} {mo : List Nat} {M : pm_M} {K : pm_K} {h0 : pm_H} {r0 : List Int}
theorem ck_suc_ok {RL : Nat → List (Nat × Int × Int × Int)} (hX : ck_xs GA XI) (hR : ck_RL XI RL) (hFA : ck_FA SL SV FA) {cs : List (Nat × ck_Ct)} (hcs : ck_cv GA XI ft df SL SV MT EX cs) {i : Instr} {len a b : Nat} {v : Value} {S : ck_S} {Ss : List ck_S} (hl : pm_look M S.1 = some (i, len, a, b, v)) (h : ck_suc GA RL ft FA MT M mo cs i len a b v S = some Ss)
    (hG : ∀ S ∈ Ss, ck_G ft df SL SV MT EX GA XI mo M K h0 r0 S) : ck_G ft df SL SV MT EX GA XI mo M K h0 r0 S := by
  unfold ck_suc at h
  split at h
  · split at h
    · exact ck_cl_ok hcs (fun _ _ _ _ _ => rfl) hl h hG
    · cases h
  · split at h
    · exact ck_cl_ok hcs (fun _ _ _ _ _ => rfl) hl h hG
    · cases h
  · split at h
    · rename_i hb
      refine ck_cl_ok hcs (fun Lc sc hh c s => ?_) hl h hG
      unfold pm_ex
      dsimp only
      split
      · cases hb
      · rfl
    · cases h
  · exact ck_nx_ok hX hR hFA hl h hG
theorem ck_rt_ok {p : Nat} {Ps : List ck_P} {i : Instr} {len a b : Nat} {v : Value} {S : ck_S} (hl : pm_look M S.1 = some (i, len, a, b, v)) (h : ck_rt M p Ps i S = some true)
    (hK : ∀ (t : List Int) (w : Option Value) (hh : pm_H), ck_gi GA XI hh → ck_fr mo h0 hh → (∃ P ∈ Ps, ck_post ((r0 ++ t).take p) P w hh) → K w hh) : ck_G ft df SL SV MT EX GA XI mo M K h0 r0 S := by
  rintro t ⟨pc, Lc, sc, hh, c, s⟩ ⟨e, h1, h2, h3, h4, h5, h6⟩
  dsimp only at e h1 h2 h3 h4 h5 h6
  subst e
  have fin : ∀ (w : Option Value) (ps : List Bool), pm_all ps → (∃ P ∈ Ps, ck_post ((r0 ++ t).take p) P w hh) → pm_step ft df SL SV MT M (S.1, Lc, sc, hh, c, s) = some (.inr (.inr (.inl (ps, w)))) → pm_W ft df SL SV MT EX M (S.1, Lc, sc, hh, c, s) K := by
    intro w ps q1 q2 q3
    refine pm_in _ _ _ _ _ _ ?_
    unfold pm_F
    rw [q3]
    exact ⟨q1, hK t w hh h5 h6 q2⟩
  have anyP : ∀ (x : Option ck_V) (w : Option Value), Ps.any (ck_pc p S.2.2.2.1 S.2.2.2.2 x) = true → ((x = none ∧ w = none) ∨ ∃ y z, x = some y ∧ w = some z ∧ ck_ok (r0 ++ t) y z) → ∃ P ∈ Ps, ck_post ((r0 ++ t).take p) P w hh := by
    intro x w q1 q2
    obtain ⟨P, hP, hc⟩ := List.any_eq_true.mp q1
    exact ⟨P, hP, ck_pc_ok hc h4 h3 q2⟩
  unfold ck_rt at h
  split at h
  · have h' := Option.some.inj h
    split at h'
    · rename_i x hx
      rw [hx] at h2
      obtain ⟨w1, sc1, rfl, hok1, h2'⟩ := ck_al_c h2
      have e2 := ck_al_n h2'
      subst e2
      split at h'
      · rename_i hb hrt
        obtain ⟨z, rfl, ez⟩ := ck_i (Nat.eq_of_beq_eq_true hb) hok1
        refine fin (some (.int z)) [] trivial (anyP _ _ h' (Or.inr ⟨x, _, rfl, rfl, hok1⟩)) ?_
        unfold pm_step
        dsimp only
        rw [hl]
        unfold pm_ex
        dsimp only
        rw [hrt]
        rfl
      · rename_i hb hrt
        rw [Bool.and_eq_true, Bool.and_eq_true] at h'
        obtain ⟨⟨k1, k2⟩, k3⟩ := h'
        have k1' := of_decide_eq_true k1
        have k2' := of_decide_eq_true k2
        obtain ⟨z, rfl, ez⟩ := ck_i (Nat.eq_of_beq_eq_true hb) hok1
        obtain ⟨g1, g2⟩ := ck_iv_ok h4 ez
        refine fin (some (.int z)) [decide (z = 0) || decide (z = 1)] ?_ (anyP _ _ k3 (Or.inr ⟨x, _, rfl, rfl, hok1⟩)) ?_
        · show (decide (z = 0) || decide (z = 1)) = true
          rw [Bool.or_eq_true]
          have : z.toInt = 0 ∨ z.toInt = 1 := by omega
          rcases this with e | e
          · exact Or.inl (decide_eq_true (Int32.toInt_inj.mp e))
          · exact Or.inr (decide_eq_true (Int32.toInt_inj.mp e))
        · unfold pm_step
          dsimp only
          rw [hl]
          unfold pm_ex
          dsimp only
          rw [hrt]
          rfl
      · cases h'
    · cases h'
  · have h' := Option.some.inj h
    split at h'
    · rename_i x hx
      rw [hx] at h2
      obtain ⟨w1, sc1, rfl, hok1, h2'⟩ := ck_al_c h2
      have e2 := ck_al_n h2'
      subst e2
      split at h'
      · rename_i hb hrt
        obtain ⟨z, rfl⟩ := ck_l (Nat.eq_of_beq_eq_true hb) hok1
        refine fin (some (.long z)) [] trivial (anyP _ _ h' (Or.inr ⟨x, _, rfl, rfl, hok1⟩)) ?_
        unfold pm_step
        dsimp only
        rw [hl]
        unfold pm_ex
        dsimp only
        rw [hrt]
        rfl
      · cases h'
    · cases h'
  · have h' := Option.some.inj h
    split at h'
    · rename_i hx hrt
      rw [hx] at h2
      have e2 := ck_al_n h2
      subst e2
      refine fin none [] trivial (anyP _ _ h' (Or.inl ⟨rfl, rfl⟩)) ?_
      unfold pm_step
      dsimp only
      rw [hl]
      unfold pm_ex
      dsimp only
      rw [hrt]
    · cases h'
  · cases h
def ck_HH (M : pm_M) (EX : pm_M → pm_C → (pm_C → Prop) → Prop) (hs : List Nat) : Prop := ∀ pc, hs.contains pc = true → pm_look M pc = none ∧ ∀ (x y : Int32) (L st : List Value) (h : pm_H) (c s : Nat), (Nat.ble 1 (pm_rm M).frames && Nat.ble (pm_cat st + 13) (pm_rm M).locals) = true → ∃ z : Int32, EX M (pc, L, .int y :: .int x :: st, h, c, s) (fun c' => c' = (pc + 3, L, .int z :: st, h, c, s))
theorem ck_hol_ok {hs : List Nat} (hH : ck_HH M EX hs) {S S' : ck_S} (h : ck_hol M hs S = some S') (hG : ck_G ft df SL SV MT EX GA XI mo M K h0 r0 S') : ck_G ft df SL SV MT EX GA XI mo M K h0 r0 S := by
  rintro t ⟨pc, Lc, sc, hh, c, s⟩ ⟨e, h1, h2, h3, h4, h5, h6⟩
  dsimp only at e h1 h2 h3 h4 h5 h6
  subst e
  unfold ck_hol at h
  split at h
  · rename_i y x r hc hst
    rw [hst] at h2
    obtain ⟨w1, sc1, rfl, hok1, h2a⟩ := ck_al_c h2
    obtain ⟨w2, sc2, rfl, hok2, h2b⟩ := ck_al_c h2a
    split at h
    · rename_i hb
      cases h
      rw [Bool.and_eq_true, Bool.and_eq_true, Bool.and_eq_true] at hb
      obtain ⟨⟨b1, b2⟩, b3, b4⟩ := hb
      obtain ⟨y1, rfl, ey⟩ := ck_i (Nat.eq_of_beq_eq_true b1) hok1
      obtain ⟨x1, rfl, ex⟩ := ck_i (Nat.eq_of_beq_eq_true b2) hok2
      obtain ⟨g1, g2⟩ := hH _ hc
      have hcat := ck_cat_ok h2b
      have b5 := Nat.le_of_ble_eq_true b4
      obtain ⟨z, hz⟩ := g2 x1 y1 Lc sc2 hh c s (by rw [Bool.and_eq_true]; exact ⟨b3, Nat.ble_eq_true_of_le (by omega)⟩)
      refine pm_in _ _ _ _ _ _ ?_
      unfold pm_F
      have hs : pm_step ft df SL SV MT M (S.1, Lc, .int y1 :: .int x1 :: sc2, hh, c, s) = none := by
        unfold pm_step
        rw [g1]
      rw [hs]
      refine ⟨_, hz, ?_⟩
      rintro c' rfl
      obtain ⟨e1, e2⟩ := ck_new h4 (ck_rg z).1 (ck_rg z).2
      have h7 := hG (t ++ [z.toInt]) (S.1 + 3, Lc, .int z :: sc2, hh, c, s)
      rw [← List.append_assoc] at h7
      exact h7 ⟨rfl, ck_al_x _ h1, ⟨⟨z, rfl, e2⟩, ck_al_x _ h2b⟩, fun d hd => ck_mo_x _ (h3 d hd), e1, h5, h6⟩
    · cases h
  · cases h
theorem ck_go_ok {hs : List Nat} (hH : ck_HH M EX hs) {RL : Nat → List (Nat × Int × Int × Int)} (hX : ck_xs GA XI) (hR : ck_RL XI RL) (hFA : ck_FA SL SV FA) {cs : List (Nat × ck_Ct)} (hcs : ck_cv GA XI ft df SL SV MT EX cs) {Ps : List ck_P} {Ts : List ck_Q} {p : Nat} {c0 : Int} {w0 : List Int} (hw0 : w0.length ≤ r0.length)
    (hK : ∀ (t : List Int) (w : Option Value) (hh : pm_H), ck_gi GA XI hh → ck_fr mo h0 hh → (∃ P ∈ Ps, ck_post ((r0 ++ t).take p) P w hh) → K w hh)
    (hT : ∀ T ∈ Ts, ∀ (t rT : List Int) (c : pm_C), rT.take p = (r0 ++ t).take p → ck_sat GA XI mo h0 rT T.1 c → 0 ≤ ck_rk T rT → ck_rk T rT < c0 + ck_dot w0 r0 → pm_W ft df SL SV MT EX M c K) :
    ∀ (n : Nat) (b : Bool) (S : ck_S), ck_go GA RL ft FA MT M hs mo cs Ps Ts p c0 w0 n b S = true → ck_G ft df SL SV MT EX GA XI mo M K h0 r0 S := by
  intro n
  induction n with
  | zero => intro b S h; cases h
  | succ n ih =>
    intro b S h
    unfold ck_go at h
    split at h
    · obtain ⟨T, hT1, hT2⟩ := List.any_eq_true.mp h
      intro t c hs
      obtain ⟨u, hs1⟩ := ck_frc_f (r := r0 ++ t) (ds := T.1.2.2.2.1) hs
      obtain ⟨rT, g1, g2, g3, g4⟩ := ck_sub_ok hT2 hs1
      rw [List.append_assoc] at g1 g4
      exact hT T hT1 (t ++ u) rT c g1 g2 g3 (by rw [ck_dot_x _ hw0] at g4; exact g4)
    · split at h
      · split at h
        · cases h
        · rename_i S' hS'
          exact ck_hol_ok hH hS' (ih true S' h)
      · rename_i q hl
        split at h
        · rename_i d hd
          subst h
          exact ck_rt_ok (len := q.2.1) (a := q.2.2.1) (b := q.2.2.2.1) (v := q.2.2.2.2) hl hd hK
        · split at h
          · cases h
          · rename_i Ss hs
            refine ck_suc_ok hX hR hFA hcs (len := q.2.1) (a := q.2.2.1) (b := q.2.2.2.1) (v := q.2.2.2.2) hl hs (fun S' hS' => ?_)
            have h1 := List.all_eq_true.mp h S' hS'
            rw [Bool.or_eq_true] at h1
            rcases h1 with h1 | h1
            · intro t c hsat
              have := ck_bot_ok hsat.2.2.2.2.1
              rw [h1] at this
              cases this
            · exact ih true S' h1
/-- a method's states: its entry; its cuts -/
def ck_ent (M : pm_M) (C : ck_Ct) : ck_S := (0, (C.1.flatMap (fun v => match Nat.beq v.1 3 with
  | true => [v, ck_un]
  | false => [v])) ++ List.replicate (pm_nl M - (C.1.flatMap (fun v => match Nat.beq v.1 3 with
  | true => [v, ck_un]
  | false => [v])).length) ck_un, [], C.2.1, C.2.2.1)
theorem ck_fl_ok {r : List Int} : ∀ {vs : List ck_V} {ws : List Value}, vs.all (fun v => ck_c1 v || Nat.beq v.1 3) = true → ck_al r vs ws → ck_al r (vs.flatMap (fun v => match Nat.beq v.1 3 with
  | true => [v, ck_un]
  | false => [v])) (ws.flatMap (fun v => match pm_c2 v with
    | true => [v, pm_un]
    | false => [v]))
  | [], [], _, _ => trivial
  | v :: vs, w :: ws, h, hw => by
    rw [List.all_cons, Bool.and_eq_true] at h
    rw [List.flatMap_cons, List.flatMap_cons]
    refine ck_al_a ?_ (ck_fl_ok h.2 hw.2)
    have h1 := h.1
    cases hb : Nat.beq v.1 3
    · rw [hb, Bool.or_false] at h1
      rw [ck_c1_ok h1 hw.1]
      exact ⟨hw.1, trivial⟩
    · obtain ⟨x, rfl⟩ := ck_l (Nat.eq_of_beq_eq_true hb) hw.1
      exact ⟨hw.1, trivial, trivial⟩
  | [], _ :: _, _, hw => hw.elim
  | _ :: _, [], _, hw => hw.elim
theorem ck_rep {r : List Int} : ∀ n : Nat, ck_al r (List.replicate n ck_un) (List.replicate n pm_un)
  | 0 => trivial
  | n + 1 => ⟨trivial, ck_rep n⟩
def ck_meth (GA : Nat → ck_A) (RL : Nat → List (Nat × Int × Int × Int)) (ft : Nat → Nat → FieldType) (FA : Nat → Option (Nat × Int × Int)) (MT : Nat → Option pm_M) (M : pm_M) (hs : List Nat) (cs : List (Nat × ck_Ct)) (C : ck_Ct) (Ts : List ck_Q) (n : Nat) (c0 : Int) : Bool :=
  C.1.all (fun v => ck_c1 v || Nat.beq v.1 3) && (ck_go GA RL ft FA MT M hs C.2.2.2.2 cs C.2.2.2.1 Ts C.2.2.1.length c0 [] n true (ck_ent M C) &&
    Ts.all (fun T => Nat.ble T.2.2.length T.1.2.2.2.2.length && (Nat.ble C.2.2.1.length T.1.2.2.2.2.length && ck_go GA RL ft FA MT M hs C.2.2.2.2 cs C.2.2.2.1 Ts C.2.2.1.length T.2.1 T.2.2 n false T.1)))
theorem ck_meth_ok {hs : List Nat} (hH : ck_HH M EX hs) {RL : Nat → List (Nat × Int × Int × Int)} (hX : ck_xs GA XI) (hR : ck_RL XI RL) (hFA : ck_FA SL SV FA) {cs : List (Nat × ck_Ct)} (hcs : ck_cv GA XI ft df SL SV MT EX cs) {C : ck_Ct} {Ts : List ck_Q} {n : Nat} {c0 : Int} (h : ck_meth GA RL ft FA MT M hs cs C Ts n c0 = true) : ck_Val GA XI ft df SL SV MT EX C M := by
  unfold ck_meth at h
  rw [Bool.and_eq_true, Bool.and_eq_true] at h
  obtain ⟨hA, hE, hTs⟩ := h
  intro r0 as hh a1 a2 a3 a4
  have hr0 : r0.length = C.2.2.1.length := a2.1
  have hK : ∀ (rs t : List Int), rs.take C.2.2.1.length = r0 → ∀ (w : Option Value) (h' : pm_H), ck_gi GA XI h' → ck_fr C.2.2.2.2 hh h' → (∃ P ∈ C.2.2.2.1, ck_post ((rs ++ t).take C.2.2.1.length) P w h') → ck_KC GA XI C r0 hh w h' := by
    intro rs t hrs w h' q1 q2 q3
    have hl : C.2.2.1.length ≤ rs.length := by
      have := congrArg List.length hrs
      rw [List.length_take, hr0] at this
      omega
    rw [List.take_append_of_le_length hl, hrs] at q3
    exact ⟨q1, q2, q3⟩
  have main : ∀ (N : Nat) (T : ck_Q), T ∈ Ts → ∀ (rT : List Int) (c : pm_C), rT.take C.2.2.1.length = r0 → ck_sat GA XI C.2.2.2.2 hh rT T.1 c → 0 ≤ ck_rk T rT → ck_rk T rT < N → pm_W ft df SL SV MT EX M c (ck_KC GA XI C r0 hh) := by
    intro N
    induction N with
    | zero => intro T _ rT c _ _ q1 q2; omega
    | succ N ih =>
      intro T hT rT c q0 hs q1 q2
      have hb := List.all_eq_true.mp hTs T hT
      rw [Bool.and_eq_true, Bool.and_eq_true] at hb
      obtain ⟨b1, b2, b3⟩ := hb
      have hlen : rT.length = T.1.2.2.2.2.length := hs.2.2.2.2.1.1
      have := ck_go_ok hH (K := ck_KC GA XI C r0 hh) (h0 := hh) (r0 := rT) hX hR hFA hcs (by rw [hlen]; exact Nat.le_of_ble_eq_true b1) (fun t w h' => hK rT t q0 w h') (fun T' hT' t rT' c' g0 g1 g2 g3 => by
        refine ih T' hT' rT' c' ?_ g1 g2 ?_
        · rw [g0, List.take_append_of_le_length (by rw [hlen]; exact Nat.le_of_ble_eq_true b2)]
          exact q0
        · have : ck_rk T rT = T.2.1 + ck_dot T.2.2 rT := rfl
          omega) n false T.1 b3
      have h9 := this [] c
      rw [List.append_nil] at h9
      exact h9 hs
  have hgo := ck_go_ok hH (K := ck_KC GA XI C r0 hh) (h0 := hh) (r0 := r0) (M := M) (p := C.2.2.1.length) hX hR hFA hcs (Nat.zero_le _) (fun t w h' => hK r0 t (by rw [← hr0]; exact List.take_length) w h') (fun T' hT' t rT' c' g0 g1 g2 g3 => by
    refine main (ck_rk T' rT').toNat.succ T' hT' rT' c' ?_ g1 g2 (by omega)
    rw [g0, List.take_append_of_le_length (by rw [hr0]; exact Nat.le_refl _), ← hr0]
    exact List.take_length) n true (ck_ent M C) hE
  have h9 := hgo [] (0, pm_en (pm_nl M) as, [], hh, 0, 0)
  rw [List.append_nil] at h9
  refine h9 ⟨rfl, ?_, trivial, a3, a2, a4, rfl, fun _ _ => rfl⟩
  have hfl := ck_fl_ok hA a1
  have hll := ck_al_l hfl
  show ck_al r0 (_ ++ List.replicate _ ck_un) (pm_en (pm_nl M) as)
  unfold pm_en
  dsimp only
  rw [hll]
  exact ck_al_a hfl (ck_rep _)
end CKO
