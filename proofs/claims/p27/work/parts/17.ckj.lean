section CKJ
variable {ft : Nat → Nat → FieldType} {df : Nat → List Value} {SL : Nat → Nat} {SV : Nat → Nat → Int32} {MT : Nat → Option pm_M} {EX : pm_M → pm_C → (pm_C → Prop) → Prop}
variable {GA : Nat → ck_A} {XI : pm_H → Prop} {FA : Nat → Option (Nat × Int × Int)} {mo : List Nat} {M : pm_M} {K : pm_K} {h0 : pm_H} {r0 : List Int}
theorem ck_anyb_ok (f : Int32 → Int32 → Int32) : ∀ (r : List Int) (E : ck_N) (x y : ck_V) (p q : Int32), ck_en r E → ck_ev r x = some p.toInt → ck_ev r y = some q.toInt → ∃ u : List Int, ck_en (r ++ u) (ck_anyb E x y).2 ∧ ck_ok (r ++ u) (ck_anyb E x y).1 (.int (f p q)) :=
  fun r E x y p q hE _ _ => ck_any_ok hE (ck_rg _).1 (ck_rg _).2
set_option maxHeartbeats 4000000 in
theorem ck_nx_ok {RL : Nat → List (Nat × Int × Int × Int)} (hX : ck_xs GA XI) (hR : ck_RL XI RL) (hFA : ck_FA SL SV FA) {i : Instr} {len a b pc : Nat} {v : Value} {L st : List ck_V} {m : List ck_D} {E : ck_N} {Ss : List ck_S} (hl : pm_look M pc = some (i, len, a, b, v)) (h : ck_nx ft GA FA RL mo M i len a b v pc L st m E = some Ss)
    (hG : ∀ S ∈ Ss, ck_G ft df SL SV MT EX GA XI mo M K h0 r0 S) : ck_G ft df SL SV MT EX GA XI mo M K h0 r0 (pc, L, st, m, E) := by
  unfold ck_nx at h
  split at h
  · exact ck_x_ki (fun _ _ _ _ _ => rfl) hl h hG
  · exact ck_x_ki (fun _ _ _ _ _ => rfl) hl h hG
  · exact ck_x_ki (fun _ _ _ _ _ => rfl) hl h hG
  · exact ck_x_ki (fun _ _ _ _ _ => rfl) hl h hG
  · exact ck_x_ki (fun _ _ _ _ _ => rfl) hl h hG
  · exact ck_x_ki (fun _ _ _ _ _ => rfl) hl h hG
  · exact ck_x_ki (fun _ _ _ _ _ => rfl) hl h hG
  · exact ck_x_ldi (fun _ _ _ _ _ => rfl) hl h hG
  · exact ck_x_ldi (fun _ _ _ _ _ => rfl) hl h hG
  · exact ck_x_ldl (fun _ _ _ _ _ => rfl) hl h hG
  · exact ck_x_ldl (fun _ _ _ _ _ => rfl) hl h hG
  · exact ck_x_lda (fun _ _ _ _ _ => rfl) hl h hG
  · exact ck_x_lda (fun _ _ _ _ _ => rfl) hl h hG
  · exact ck_x_sti (fun _ _ _ _ _ => rfl) hl h hG
  · exact ck_x_sti (fun _ _ _ _ _ => rfl) hl h hG
  · exact ck_x_sta (fun _ _ _ _ _ => rfl) hl h hG
  · exact ck_x_sta (fun _ _ _ _ _ => rfl) hl h hG
  · exact ck_x_stl (fun _ _ _ _ _ => rfl) hl h hG
  · exact ck_x_stl (fun _ _ _ _ _ => rfl) hl h hG
  · split at h
    · rename_i w d hw
      split at h
      · rename_i hp
        rw [Bool.and_eq_true] at hp
        cases h
        exact ck_x_iinc hl hw hp.1 hp.2 (ck_1 hG)
      · cases h
    · cases h
  · exact ck_x_b2 (f := fun x y => x + y) (fun _ _ _ _ _ => rfl) (fun r E x y p q hE hx hy => ck_add_ok hE hx hy (ck_tI p q)) hl h hG
  · exact ck_x_b2 (f := fun x y => x - y) (fun _ _ _ _ _ => rfl) (fun r E x y p q hE hx hy => ck_add_ok hE hx (ck_neg_ok hy) (ck_tS p q)) hl h hG
  · exact ck_x_b2 (f := fun x y => x * y) (fun _ _ _ _ _ => rfl) (fun r E x y p q hE hx hy => ck_mul_ok hE hx hy (ck_tM p q)) hl h hG
  · exact ck_x_b2 (f := fun x y => x &&& y) (fun _ _ _ _ _ => rfl) (fun r E x y p q hE hx hy => ck_and_ok hE hx hy) hl h hG
  · exact ck_x_b2 (f := fun x y => x ||| y) (fun _ _ _ _ _ => rfl) (fun r E x y p q hE hx hy => ck_or_ok hE hx hy) hl h hG
  · exact ck_x_b2 (fun _ _ _ _ _ => rfl) (ck_anyb_ok _) hl h hG
  · exact ck_x_b2 (fun _ _ _ _ _ => rfl) (ck_anyb_ok _) hl h hG
  · exact ck_x_b2 (fun _ _ _ _ _ => rfl) (ck_anyb_ok _) hl h hG
  · exact ck_x_b2 (fun _ _ _ _ _ => rfl) (ck_anyb_ok _) hl h hG
  · exact ck_x_b2o (f := fun x y => x / y) (fun _ _ _ _ _ _ _ => rfl) (fun r E x y z p q hE hx hy hz => ck_div_ok hE hx hy hz) hl h hG
  · exact ck_x_b2o (f := fun x y => x - x / y * y) (fun _ _ _ _ _ _ _ => rfl) (fun r E x y z p q hE hx hy hz => ck_rem_ok hE hx hy hz) hl h hG
  · exact ck_x_lop (fun _ _ _ _ _ => rfl) hl h hG
  · exact ck_x_lop (fun _ _ _ _ _ => rfl) hl h hG
  · exact ck_x_lop (fun _ _ _ _ _ => rfl) hl h hG
  · exact ck_x_lop (fun _ _ _ _ _ => rfl) hl h hG
  · exact ck_x_lop (fun _ _ _ _ _ => rfl) hl h hG
  · exact ck_x_lop (fun _ _ _ _ _ => rfl) hl h hG
  · exact ck_x_lsh (fun _ _ _ _ _ => rfl) hl h hG
  · exact ck_x_lsh (fun _ _ _ _ _ => rfl) hl h hG
  · split at h
    · rename_i rr hll
      obtain ⟨y, x, rfl, hy0, hx0⟩ := ck_ll_ok hll
      unfold ck_pq at h
      cases h
      refine ck_one hl _ (ck_1 hG) (fun r Lc sc hh c s h1 h2 h3 h4 h5 => ?_)
      obtain ⟨w1, sc1, rfl, hok1, h2'⟩ := ck_al_c h2
      obtain ⟨w2, sc2, rfl, hok2, h2''⟩ := ck_al_c h2'
      obtain ⟨q, rfl⟩ := ck_l hy0 hok1
      obtain ⟨p, rfl⟩ := ck_l hx0 hok2
      obtain ⟨u, g1, g2⟩ := ck_any_ok (z := lg_cmp p q) h3 (ck_rg _).1 (ck_rg _).2
      exact ⟨u, [], Lc, _, rfl, trivial, ck_al_x u h1, ⟨g2, ck_al_x u h2''⟩, g1, ck_mx u h5⟩
    · cases h
  · split at h
    · split at h
      · rename_i hp
        cases h
        refine ck_one0 hl (ck_1 hG) (fun r Lc sc hh c s h1 h2 h3 h4 h5 => ?_)
        obtain ⟨w1, sc1, rfl, hok1, h2'⟩ := ck_al_c h2
        obtain ⟨z, rfl, -⟩ := ck_i (Nat.eq_of_beq_eq_true hp) hok1
        exact ⟨[], Lc, _, rfl, trivial, h1, ck_lg_ok _, h2'⟩
      · cases h
    · cases h
  · split at h
    · split at h
      · rename_i hp
        unfold ck_pq at h
        cases h
        refine ck_one hl _ (ck_1 hG) (fun r Lc sc hh c s h1 h2 h3 h4 h5 => ?_)
        obtain ⟨w1, sc1, rfl, hok1, h2'⟩ := ck_al_c h2
        obtain ⟨z, rfl⟩ := ck_l (Nat.eq_of_beq_eq_true hp) hok1
        obtain ⟨u, g1, g2⟩ := ck_any_ok (z := z.toInt32) h3 (ck_rg _).1 (ck_rg _).2
        exact ⟨u, [], Lc, _, rfl, trivial, ck_al_x u h1, ⟨g2, ck_al_x u h2'⟩, g1, ck_mx u h5⟩
      · cases h
    · cases h
  · split at h
    · split at h
      · rename_i hp
        cases h
        exact ck_x_dup hl hp (ck_1 hG)
      · cases h
    · cases h
  · split at h
    · split at h
      · rename_i hp
        rw [Bool.and_eq_true] at hp
        cases h
        exact ck_x_dup1 hl hp.1 hp.2 (ck_1 hG)
      · cases h
    · cases h
  · split at h
    · split at h
      · rename_i hp
        rw [Bool.and_eq_true, Bool.and_eq_true] at hp
        cases h
        exact ck_x_dupx2 hl hp.1 hp.2.1 hp.2.2 (ck_1 hG)
      · cases h
    · cases h
  · split at h
    · split at h
      · rename_i hp
        rw [Bool.and_eq_true] at hp
        cases h
        exact ck_x_dup2 hl hp.1 hp.2 (ck_1 hG)
      · cases h
    · cases h
  · split at h
    · split at h
      · rename_i hp
        cases h
        exact ck_x_pop hl hp (ck_1 hG)
      · cases h
    · cases h
  · cases h
    exact ck_one0 hl (ck_1 hG) (fun r Lc sc hh c s h1 h2 h3 h4 h5 => ⟨[], Lc, sc, rfl, trivial, h1, h2⟩)
  · split at h
    · split at h
      · rename_i hp
        cases h
        refine ck_x_br (x := _) (y := ck_ct 0) (fun r Lc sc hh c s h2 => ?_) hl hG
        obtain ⟨w1, sc1, rfl, hok1, h2'⟩ := ck_al_c h2
        obtain ⟨z, rfl, ez⟩ := ck_i (Nat.eq_of_beq_eq_true hp) hok1
        exact ⟨z, 0, sc1, rfl, ez, ck_ev_0 rfl, h2'⟩
      · cases h
    · cases h
  · split at h
    · rename_i y x rr hii
      obtain ⟨rfl, hy0, hx0⟩ := ck_ii_ok hii
      cases h
      refine ck_x_br (fun r Lc sc hh c s h2 => ?_) hl hG
      obtain ⟨w1, sc1, rfl, hok1, h2'⟩ := ck_al_c h2
      obtain ⟨w2, sc2, rfl, hok2, h2''⟩ := ck_al_c h2'
      obtain ⟨q, rfl, eq⟩ := ck_i hy0 hok1
      obtain ⟨p, rfl, ep⟩ := ck_i hx0 hok2
      exact ⟨p, q, sc2, rfl, ep, eq, h2''⟩
    · cases h
  · split at h
    · split at h
      · rename_i hp
        cases h
        exact ck_x_sw (Nat.eq_of_beq_eq_true hp) hl hG
      · cases h
    · cases h
  · cases h
    exact ck_one0 hl (ck_1 hG) (fun r Lc sc hh c s h1 h2 h3 h4 h5 => ⟨[], Lc, _, rfl, trivial, h1, rfl, h2⟩)
  · split at h
    · exact ck_x_getf hl h hG
    · cases h
  · split at h
    · exact ck_x_putf hX hl h hG
    · cases h
  · split at h
    · exact ck_x_alen (RL := RL) hFA hl (by unfold ck_nx; exact h) hG
    · cases h
  · split at h
    · refine ck_x_ald hR hFA (fun Lc sc hh c s x k n f hf => ?_) (fun _ Lc sc hh c s x k => rfl) hl h hG
      unfold pm_ex
      dsimp only
      rw [ck_par hf]
    · cases h
  · split at h
    · refine ck_x_ald (t := 2) hR hFA (fun Lc sc hh c s x k n f hf => ?_) (fun e => absurd e (by decide)) hl h hG
      unfold pm_ex
      dsimp only
      rw [ck_par hf]
    · cases h
  · split at h
    · refine ck_x_ast hX (fun y => y) (fun e => absurd rfl e) (fun _ _ => rfl) (fun Lc sc hh c s y x k n f hf => ?_) hl h hG
      unfold pm_ex
      dsimp only
      rw [ck_par hf]
    · cases h
  · split at h
    · refine ck_x_ast (t := 2) hX (fun y => vp_nar .boolean y) (fun _ y => ck_nar y) (fun e => absurd e (by decide)) (fun Lc sc hh c s y x k n f hf => ?_) hl h hG
      unfold pm_ex
      dsimp only
      rw [ck_par hf]
    · cases h
  · split at h
    · split at h
      · rename_i hp
        rw [Bool.and_eq_true] at hp
        cases h
        exact ck_x_lald hl hp.1 hp.2 (ck_1 hG)
      · cases h
    · cases h
  · split at h
    · split at h
      · rename_i hp
        simp only [Bool.and_eq_true] at hp
        cases h
        exact ck_x_last hX hl hp.1 hp.2.1 hp.2.2.1 hp.2.2.2.1 (by simpa using hp.2.2.2.2) (ck_1 hG)
      · cases h
    · cases h
  · cases h
end CKJ
