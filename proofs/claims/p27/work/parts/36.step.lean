variable {θ : Th}
section STEPW
variable {L : Nat} {xs : Nat → Int32}
theorem w_step0 : ck_Val jga (XI θ) j_ft j_df (j_SL L) (j_SV xs) j_MT j_EX kh_step0 mm_X12_step := kc_of (fun r0 as S n ha hE hm hG => by
  obtain ⟨w1, as1, rfl, rfl, ha1⟩ := ck_al_c ha
  obtain ⟨w2, as2, rfl, ⟨s, rfl, es⟩, ha2⟩ := ck_al_c ha1
  obtain ⟨w3, as3, rfl, ⟨k, rfl, ek⟩, ha3⟩ := ck_al_c ha2
  cases ck_al_n ha3
  have fin : ∀ (x : Int32) (S' : Nat → pm_E), GS θ S' n → fr1 kh_step0.2.2.2.2 S S' n → KC θ kh_step0 r0 S n (some (.int x)) S' n := fun x S' q1 q2 => w_int rfl hE q1 q2
  have hn := gs_n hG
  obtain ⟨fs, h46, hf⟩ := gs_obj hG (k := 46) rfl
  change PQ (j_SL L) (j_SV xs) j_EX mm_X12_step 0 [.ref 46, .int s, .int k, pm_un, pm_un, pm_un] [] S n 0 0 _
  have m1 : PQ (j_SL L) (j_SV xs) j_EX mm_X12_step 8 [.ref 46, .int s, .int k, pm_un, pm_un, pm_un] [] S n 0 0 (KC θ kh_step0 r0 S n) := by
    refine q_iconst rfl rfl ?_
    exact q_iret rfl rfl trivial (fin _ S hG fr1_rf)
  have lk : ∀ S1 : Nat → pm_E, GS θ S1 n → PM (j_SL L) (j_SV xs) j_EX mm_X12_lacks [.ref 46, .int s] S1 n (fun r S' n' => n' = n ∧ GS θ S' n ∧ fr1 kh_step0.2.2.2.2 S1 S' n ∧ ∃ x : Int32, r = some (.int x) ∧ (x = 0 → 0 ≤ s.toInt ∧ s.toInt ≤ 1999)) := by
    intro S1 hG1
    refine pm_weak (q_kc w207 [s.toInt] hG1 ⟨rfl, ck_oku rfl rfl, trivial⟩ (ck_en_c (fullI s).1 (fullI s).2 ck_en_n) (fun d hd => by cases hd)) (fun r S9 n9 h => ?_)
    obtain ⟨h1, h2, h3, P, hp, h4, h5, -⟩ := h
    rcases List.mem_cons.mp hp with e | e
    · subst e
      obtain ⟨x, hx, b1, b2⟩ := h5
      exact ⟨h1, h2, h3, x, hx, fun e => by rw [e] at b2; exact absurd b2 (by decide)⟩
    · rw [List.mem_singleton.mp e] at h4 h5
      obtain ⟨x, hx, b1, b2⟩ := h5
      exact ⟨h1, h2, h3, x, hx, fun _ => (ck_en_h h4).1⟩
  refine q_iload_n rfl rfl rfl ?_
  refine q_iflt rfl rfl (fun _ => m1) (fun c1 => ?_)
  refine q_iload_n rfl rfl rfl ?_
  refine q_ifge rfl rfl (fun c2 => ?_) (fun _ => m1)
  refine q_aload_n rfl rfl rfl ?_
  refine q_iload_n rfl rfl rfl ?_
  refine q_cV rfl rfl (Or.inl rfl) rfl rfl rfl rfl (by omega) h46 trivial rfl rfl rfl rfl rfl (lk S hG) ?_
  rintro r S1 n1 ⟨rfl, hG1, hF1, x, rfl, hx⟩
  obtain ⟨fs1, h461, hf1⟩ := gs_obj hG1 (k := 46) rfl
  show PQ (j_SL L) (j_SV xs) j_EX mm_X12_step 15 _ [.int x] S1 n1 0 0 _
  refine q_ifeq rfl rfl (fun c3 => ?_) (fun c3 => ?_)
  · obtain ⟨s0, s1⟩ := hx c3
    refine q_aload_n rfl rfl rfl ?_
    refine q_iload_n rfl rfl rfl ?_
    obtain ⟨cf, h56, b56⟩ := gs_a1 hG1 (k := 56) rfl
    refine q_cV (K' := fun r S' n' => S' = S1 ∧ n' = n1 ∧ ∃ c : Nat, c ≤ 2000 ∧ LN cf s c ∧ r = some (.int (nI c))) rfl rfl (Or.inl rfl) rfl rfl rfl rfl (by omega) h461 trivial rfl rfl rfl rfl rfl (l_length hn h461 (fo_ref (hf1 12 _ rfl) rfl) h56 b56 (xc_get hn hG1.2 h56) s0 s1 (fun c q1 q2 => ⟨rfl, rfl, c, q1, q2, rfl⟩)) ?_
    rintro r S2 n2 ⟨rfl, rfl, c, hc, hLN, rfl⟩
    show PQ (j_SL L) (j_SV xs) j_EX mm_X12_step 29 _ [.int (nI c)] S2 n2 0 0 _
    have k0 : 0 ≤ k.toInt := by
      rw [Int32.le_iff_toInt_le] at c2
      exact c2
    have kb := (fullI k).2
    have cI : (nI c).toInt = (c : Int) := nI_toInt (by omega)
    have e1 : (nI c - 1).toInt = (c : Int) - 1 := by
      have e : (nI c - 1).toInt = ((nI c).toInt - (1 : Int32).toInt).bmod 4294967296 := Int32.toInt_sub _ _
      rw [e, cI, show (1 : Int32).toInt = 1 from rfl]
      exact ck_bm (by unfold ck_lo; omega) (by unfold ck_hi; omega)
    have e2 : (nI c - 1 - k).toInt = (c : Int) - 1 - k.toInt := by
      have e : (nI c - 1 - k).toInt = ((nI c - 1).toInt - k.toInt).bmod 4294967296 := Int32.toInt_sub _ _
      rw [e, e1]
      exact ck_bm (by unfold ck_lo; omega) (by unfold ck_hi; omega)
    refine q_iconst rfl rfl ?_
    refine q_isub rfl rfl ?_
    refine q_iload_n rfl rfl rfl ?_
    refine q_isub rfl rfl ?_
    refine q_ist3n rfl rfl rfl rfl ?_
    refine q_iload_n rfl rfl rfl ?_
    refine q_ifge rfl rfl (fun c4 => ?_) (fun _ => ?_)
    · have b0 : 0 ≤ (nI c - 1 - k).toInt := by
        rw [Int32.le_iff_toInt_le] at c4
        exact c4
      obtain ⟨B, hB⟩ : ∃ B : Nat, (nI c - 1 - k) = nI B ∧ B < c := ⟨(nI c - 1 - k).toInt.toNat, Int32.toInt_inj.mp (by rw [nI_toInt (by omega)]; omega), by omega⟩
      rw [hB.1]
      have hBc := hB.2
      refine q_iload_n rfl rfl rfl ?_
      refine q_ist4 rfl rfl rfl rfl ?_
      refine q_iconst rfl rfl ?_
      refine q_ist5 rfl rfl rfl rfl ?_
      have key : ∀ m b : Nat, b + m = B → ∀ y : Int32, y = nI b → PQ (j_SL L) (j_SV xs) j_EX mm_X12_step 47 [.ref 46, .int s, .int k, .int (nI B), .int (itc cf s b), .int y] [] S2 n2 0 0 (KC θ kh_step0 r0 S n2) := by
        intro m
        induction m with
        | zero =>
          intro b hb y hy
          have e : b = B := by omega
          subst e
          subst hy
          refine q_iload rfl rfl rfl ?_
          refine q_iload_n rfl rfl rfl ?_
          refine q_icge rfl rfl (fun _ => ?_) (fun c => absurd (Int32.le_refl _) c)
          obtain ⟨cb, h57, -⟩ := gs_arr hG1 (k := 57) rfl
          have hh := hLN.1 b hBc
          refine q_aload_n rfl rfl rfl ?_
          refine q_getf rfl rfl (by omega) h461 (fo_ref (hf1 13 _ rfl) rfl) ?_
          refine q_iload rfl rfl rfl ?_
          refine q_iald rfl rfl (by show 57 < n2; omega) h57 (in_of (by omega) (by omega)) ?_
          exact q_iret rfl rfl trivial (fin _ S2 hG1 hF1)
        | succ m ih =>
          intro b hb y hy
          subst hy
          have hh := hLN.1 b (by omega)
          refine q_iload rfl rfl rfl ?_
          refine q_iload_n rfl rfl rfl ?_
          refine q_icge rfl rfl (fun c => absurd c (nI_ge (by omega) (by omega))) (fun _ => ?_)
          refine q_aload_n rfl rfl rfl ?_
          refine q_getf rfl rfl (by omega) h461 (fo_ref (hf1 12 _ rfl) rfl) ?_
          refine q_iload rfl rfl rfl ?_
          refine q_iald rfl rfl (by show 56 < n2; omega) h56 (in_of (by omega) (by omega)) ?_
          refine q_ist4 rfl rfl rfl rfl ?_
          refine q_inc5 rfl rfl rfl rfl ?_
          refine q_goto rfl ?_
          exact ih (b + 1) (by omega) _ (nI_1 b)
      exact key B 0 (by omega) 0 rfl
    · refine q_bipush rfl rfl ?_
      exact q_iret rfl rfl trivial (fin _ S2 hG1 hF1)
  · refine q_aload_n rfl rfl rfl ?_
    refine q_iload_n rfl rfl rfl ?_
    refine q_cV rfl rfl (Or.inl rfl) rfl rfl rfl rfl (by omega) h461 trivial rfl rfl rfl rfl rfl (lk S1 hG1) ?_
    rintro r S2 n2 ⟨rfl, hG2, hF2, x2, rfl, -⟩
    exact q_iret rfl rfl trivial (fin _ S2 hG2 (fr1_tr (l3 := kh_step0.2.2.2.2) hF1 hF2 rfl rfl)))
end STEPW
