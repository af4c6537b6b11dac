/-! THE CHECKER: what it passes, the machine does -/
section CKM
variable {ft : Nat → Nat → FieldType} {df : Nat → List Value} {SL : Nat → Nat} {SV : Nat → Nat → Int32} {MT : Nat → Option pm_M} {EX : pm_M → pm_C → (pm_C → Prop) → Prop}
variable {GA : Nat → ck_A} {XI : pm_H → Prop} {FA : Nat → Option (Nat × Int × Int)} {mo : List Nat} {M : pm_M} {K : pm_K} {h0 : pm_H} {r0 : List Int}
theorem ck_frc_s {S : ck_S} {d : ck_D} {r : List Int} {c : pm_C} (h : ck_sat GA XI mo h0 r S c) : ∃ u, ck_sat GA XI mo h0 (r ++ u) (ck_frc GA S d) c := by
  obtain ⟨e, h1, h2, h3, h4, h5, h6⟩ := h
  unfold ck_frc
  split
  · rename_i q hp hn hq
    rw [Bool.and_eq_true] at hp
    have e1 := Nat.eq_of_beq_eq_true hp.2
    obtain ⟨c1, hc, hk⟩ := h5.1 d.2.1 (by rw [e1]; rfl)
    unfold ck_cell at hk
    rw [e1] at hk
    obtain ⟨fs, rfl, hf⟩ := hk
    obtain ⟨w, hw, z, rfl, z1, z2⟩ := hf _ _ hq
    obtain ⟨n1, n2⟩ := ck_new h4 z1 z2
    refine ⟨[z.toInt], e, ck_al_x _ h1, ck_al_x _ h2, fun d' hd => ?_, n1, h5, h6⟩
    rcases List.mem_cons.mp hd with e' | e'
    · subst e'
      exact ⟨_, fs, _, hc, hw, z, rfl, n2⟩
    · exact ck_mo_x _ (h3 d' e')
  · exact ⟨[], by rw [List.append_nil]; exact ⟨e, h1, h2, h3, h4, h5, h6⟩⟩
theorem ck_frc_f {r : List Int} {c : pm_C} : ∀ {ds : List ck_D} {S : ck_S} {r : List Int}, ck_sat GA XI mo h0 r S c → ∃ u, ck_sat GA XI mo h0 (r ++ u) (ds.foldl (ck_frc GA) S) c
  | [], S, r, h => ⟨[], by rw [List.append_nil]; exact h⟩
  | d :: ds, S, r, h => by
    obtain ⟨u, h1⟩ := ck_frc_s (d := d) h
    obtain ⟨u2, h2⟩ := ck_frc_f (r := r) (ds := ds) h1
    exact ⟨u ++ u2, by rw [← List.append_assoc]; exact h2⟩
theorem ck_s0_g {p j : Nat} {w : ck_V} (h : (ck_s0 p)[j]? = some w) : j < p ∧ w = (0, j, 1, 0) := by
  unfold ck_s0 at h
  rw [List.getElem?_map] at h
  cases hj : (List.range p)[j]? with
  | none => rw [hj] at h; cases h
  | some x =>
    rw [hj] at h
    have hx := List.getElem?_eq_some_iff.mp hj
    obtain ⟨hl, e⟩ := hx
    rw [List.length_range] at hl
    rw [List.getElem_range] at e
    subst e
    cases h
    exact ⟨hl, rfl⟩
theorem ck_s0_l (p : Nat) : (ck_s0 p).length = p := by
  unfold ck_s0
  rw [List.length_map, List.length_range]
theorem ck_s0_v {p : Nat} {r : List Int} (hp : p ≤ r.length) : ck_vs r (ck_s0 p) (r.take p) := by
  refine ⟨by rw [ck_s0_l, List.length_take]; omega, fun j w h => ?_⟩
  obtain ⟨h1, rfl⟩ := ck_s0_g h
  have hj : r[j]? = some r[j] := List.getElem?_eq_getElem (by omega)
  refine ⟨r[j], by rw [List.getElem?_take_of_lt h1]; exact hj, ?_⟩
  rw [ck_ev_g 0 (Or.inr hj)]
  congr 1
  omega
theorem ck_sub_ok {p : Nat} {c0 : Int} {w0 : List Int} {S : ck_S} {T : ck_Q} {r : List Int} {c : pm_C} (h : ck_sub p c0 w0 S T = true) (hs : ck_sat GA XI mo h0 r S c) :
    ∃ rT : List Int, rT.take p = r.take p ∧ ck_sat GA XI mo h0 rT T.1 c ∧ 0 ≤ ck_rk T rT ∧ ck_rk T rT < c0 + ck_dot w0 r := by
  obtain ⟨e, h1, h2, h3, h4, h5, h6⟩ := hs
  unfold ck_sub at h
  split at h
  · cases h
  · rename_i ws hws
    dsimp only at h
    simp only [Bool.and_eq_true, decide_eq_true_eq] at h
    obtain ⟨⟨a1, a2, a3, a4, a5, a6⟩, b1, b2⟩ := h
    have hp : p ≤ r.length := by rw [h4.1]; exact Nat.le_of_ble_eq_true a2
    have g0 : ∀ w ∈ ck_s0 p, ∃ a, ck_ev r w = some a := fun w hw => by
      obtain ⟨j, hj⟩ := List.mem_iff_getElem?.mp hw
      obtain ⟨a, -, ha⟩ := (ck_s0_v hp).2 j w hj
      exact ⟨a, ha⟩
    obtain ⟨m1, -⟩ := ck_ml_ok (rs := []) h3 hws
    have g1 := ck_sg_ok (us := T.1.2.1) g0 (ck_al_o h1)
    have g2 := ck_sg_ok (us := T.1.2.2.1) g1 (ck_al_o h2)
    have g3 := ck_sg_ok (us := T.1.2.2.2.1.map (fun d => d.2.2.2)) g2 m1
    obtain ⟨rT, hv⟩ := ck_vs_ex g3
    obtain ⟨-, m2⟩ := ck_ml_ok (rs := rT) h3 hws
    have hk := ck_cf_ok (ks := T.2.2) hv
    have u1 := ck_ub_ok (ks := ck_ng (ck_cf T.2.2 (ck_sg (ck_sg (ck_sg (ck_s0 p) T.1.2.1 S.2.1) T.1.2.2.1 S.2.2.1) (T.1.2.2.2.1.map (fun d => d.2.2.2)) ws)).2) h4
    have u2 := ck_ub_ok (ks := ck_va (ck_cf T.2.2 (ck_sg (ck_sg (ck_sg (ck_s0 p) T.1.2.1 S.2.1) T.1.2.2.1 S.2.2.1) (T.1.2.2.2.1.map (fun d => d.2.2.2)) ws)).2 (ck_ng w0)) h4
    rw [ck_ng_ok] at u1
    rw [ck_dot_a, ck_ng_ok] at u2
    refine ⟨rT, ?_, ⟨by rw [e]; exact Nat.eq_of_beq_eq_true a1, ck_mta_ok hv a3 h1, ck_mta_ok hv a4 h2, (by
      obtain ⟨τ3, e3⟩ := ck_sg_p (us := T.1.2.2.2.1.map (fun d => d.2.2.2)) (ws := ws) (σ := ck_sg (ck_sg (ck_s0 p) T.1.2.1 S.2.1) T.1.2.2.1 S.2.2.1)
      rw [e3] at hv a5
      exact m2 τ3 hv a5), ck_ec_ok h4 hv a6, h5, h6⟩, ?_, ?_⟩
    · apply List.ext_getElem?
      intro j
      by_cases hj : j < p
      · rw [List.getElem?_take_of_lt hj, List.getElem?_take_of_lt hj]
        obtain ⟨τ1, e1⟩ := ck_sg_p (us := T.1.2.1) (ws := S.2.1) (σ := ck_s0 p)
        obtain ⟨τ2, e2⟩ := ck_sg_p (us := T.1.2.2.1) (ws := S.2.2.1) (σ := ck_sg (ck_s0 p) T.1.2.1 S.2.1)
        obtain ⟨τ3, e3⟩ := ck_sg_p (us := T.1.2.2.2.1.map (fun d => d.2.2.2)) (ws := ws) (σ := ck_sg (ck_sg (ck_s0 p) T.1.2.1 S.2.1) T.1.2.2.1 S.2.2.1)
        have hw : (ck_s0 p)[j]? = some (0, j, 1, 0) := by
          unfold ck_s0
          rw [List.getElem?_map, List.getElem?_range hj]
          rfl
        have hlt := (List.getElem?_eq_some_iff.mp hw).1
        have hσ : (ck_sg (ck_sg (ck_sg (ck_s0 p) T.1.2.1 S.2.1) T.1.2.2.1 S.2.2.1) (T.1.2.2.2.1.map (fun d => d.2.2.2)) ws)[j]? = some (0, j, 1, 0) := by
          rw [e3, List.getElem?_append_left (by rw [e2, List.length_append, e1, List.length_append]; omega), e2, List.getElem?_append_left (by rw [e1, List.length_append]; omega), e1, List.getElem?_append_left hlt]
          exact hw
        obtain ⟨a, q1, q2⟩ := hv.2 _ _ hσ
        rw [q1]
        have hj2 : r[j]? = some r[j] := List.getElem?_eq_getElem (by omega)
        rw [ck_ev_g 0 (Or.inr hj2)] at q2
        rw [hj2, ← q2]
        congr 1
        omega
      · rw [List.getElem?_eq_none (by rw [List.length_take]; omega), List.getElem?_eq_none (by rw [List.length_take]; omega)]
    · unfold ck_rk
      rw [hk]
      omega
    · unfold ck_rk
      rw [hk]
      omega
theorem ck_pc_ok {p : Nat} {m : List ck_D} {E : ck_N} {x : Option ck_V} {P : ck_P} {r : List Int} {h : pm_H} {w : Option Value} (hc : ck_pc p m E x P = true) (hE : ck_en r E) (hm : ∀ d ∈ m, ck_mo r h d) (hx : (x = none ∧ w = none) ∨ ∃ y z, x = some y ∧ w = some z ∧ ck_ok r y z) : ck_post (r.take p) P w h := by
  unfold ck_pc at hc
  rw [Bool.and_eq_true, Bool.and_eq_true, Bool.and_eq_true] at hc
  obtain ⟨a1, a2, a3, a4⟩ := hc
  have hp : p ≤ r.length := by rw [hE.1]; exact Nat.le_of_ble_eq_true a2
  refine ⟨ck_ec_ok hE (ck_s0_v hp) a3, ?_, fun y hy => ?_⟩
  · unfold ck_rv
    split at a1
    · rename_i y h9
      rcases hx with ⟨q, -⟩ | ⟨y', z, q1, q2, q3⟩
      · cases q
      · cases q1
        simp only [Bool.and_eq_true, decide_eq_true_eq] at a1
        obtain ⟨t, rfl, et⟩ := ck_i (Nat.eq_of_beq_eq_true a1.1) q3
        obtain ⟨g1, g2⟩ := ck_iv_ok hE et
        rw [h9]
        exact ⟨t, q2, Int.le_trans a1.2.1 g1, Int.le_trans g2 a1.2.2⟩
    · rename_i y h9
      rcases hx with ⟨q, -⟩ | ⟨y', z, q1, q2, q3⟩
      · cases q
      · cases q1
        obtain ⟨t, rfl⟩ := ck_l (Nat.eq_of_beq_eq_true a1) q3
        rw [h9]
        exact ⟨t, q2⟩
    · rename_i h9
      rcases hx with ⟨-, q⟩ | ⟨y', z, q1, q2, q3⟩
      · rw [h9]
        exact q
      · cases q1
    · cases a1
  · have a5 := List.all_eq_true.mp a4 y hy
    split at a5
    · rename_i u hu
      simp only [Bool.and_eq_true, decide_eq_true_eq] at a5
      obtain ⟨d, hd, d1, d2, d3, d4⟩ := ck_fd_ok hu
      have hm1 := hm d hd
      unfold ck_mo at hm1
      rw [d1] at hm1
      obtain ⟨ci, fs, v, m1, m2, m3⟩ := hm1
      rw [d4] at m3
      obtain ⟨t, rfl, et⟩ := ck_i (Nat.eq_of_beq_eq_true a5.1) m3
      obtain ⟨g1, g2⟩ := ck_iv_ok hE et
      exact ⟨ci, fs, t, by rw [← d2]; exact m1, by rw [← d3]; exact m2, Int.le_trans a5.2.1 g1, Int.le_trans g2 a5.2.2⟩
    · cases a5
theorem ck_caps_ok {r : List Int} : ∀ {σ : List ck_V} {Q E : ck_N} {rs : List Int}, ck_en r E → ck_vs r σ rs → ck_en rs Q → ck_en r (ck_caps E σ Q)
  | [], Q, E, rs, hE, _, _ => by unfold ck_caps; exact hE
  | _ :: _, [], E, rs, hE, _, _ => by unfold ck_caps; exact hE
  | w :: σ, q :: Q, E, rs, hE, hv, hQ => by
    cases rs with
    | nil => cases hv.1
    | cons a rs =>
      obtain ⟨b, hb1, hb2⟩ := hv.2 0 w rfl
      cases hb1
      obtain ⟨⟨g1, g2⟩, g3⟩ := ck_en_t hQ
      show ck_en r (ck_caps (ck_cap E w q.1 q.2) σ Q)
      exact ck_caps_ok (ck_cap_ok hE hb2 g1 g2) ⟨Nat.succ.inj hv.1, fun j u hj => by
        have := hv.2 (j + 1) u (by rw [List.getElem?_cons_succ]; exact hj)
        rw [List.getElem?_cons_succ] at this
        exact this⟩ g3
theorem ck_fcs_ok {hh : pm_H} : ∀ {xs : List (Nat × Nat × Int × Int)} {m : List ck_D} {E : ck_N} {r : List Int}, ck_en r E → (∀ d ∈ m, ck_mo r hh d) → (∀ x ∈ xs, ck_ff1 hh x) → ∃ u, ck_en (r ++ u) (ck_fcs xs m E).2 ∧ ∀ d ∈ (ck_fcs xs m E).1, ck_mo (r ++ u) hh d
  | [], m, E, r, hE, hm, _ => ⟨[], by rw [List.append_nil]; exact ⟨hE, hm⟩⟩
  | x :: xs, m, E, r, hE, hm, hx => by
    obtain ⟨ci, fs, z, f1, f2, f3, f4⟩ := hx x List.mem_cons_self
    obtain ⟨n1, n2⟩ := ck_new hE f3 f4
    obtain ⟨u, g1, g2⟩ := ck_fcs_ok (xs := xs) (m := (0, x.1, (0, x.2.1, 0, 0), (0, E.length, 1, 0)) :: m) n1 (fun d hd => by
      rcases List.mem_cons.mp hd with e | e
      · subst e
        exact ⟨ci, fs, _, f1, f2, z, rfl, n2⟩
      · exact ck_mo_x _ (hm d e)) (fun y hy => hx y (List.mem_cons_of_mem _ hy))
    exact ⟨z.toInt :: u, by rw [show r ++ z.toInt :: u = (r ++ [z.toInt]) ++ u by simp]; exact ⟨g1, g2⟩⟩
theorem ck_cat_ok {r : List Int} : ∀ {vs : List ck_V} {ws : List Value}, ck_al r vs ws → pm_cat ws ≤ ck_cat vs
  | [], [], _ => Nat.le_refl _
  | v :: vs, w :: ws, h => by
    have ih := ck_cat_ok h.2
    unfold pm_cat ck_cat at ih ⊢
    rw [List.map_cons, List.sum_cons, List.map_cons, List.sum_cons]
    refine Nat.add_le_add ?_ ih
    have h1 := h.1
    unfold ck_ok at h1
    split at h1
    · rename_i h9
      obtain ⟨x, rfl, -⟩ := h1
      rw [h9]
      exact Nat.le_refl _
    · rename_i h9
      subst h1
      rw [h9]
      exact Nat.le_refl _
    · rename_i h9
      subst h1
      rw [h9]
      exact Nat.le_refl _
    · rename_i h9
      obtain ⟨x, rfl⟩ := h1
      rw [h9]
      exact Nat.le_refl _
    · rename_i h9
      subst h1
      rw [h9]
      exact Nat.le_refl _
    · split
      all_goals first | (rename_i h9; exact absurd h9 (by assumption)) | (cases w <;> exact Nat.le_of_ble_eq_true rfl)
  | [], _ :: _, h => h.elim
  | _ :: _, [], h => h.elim
end CKM
