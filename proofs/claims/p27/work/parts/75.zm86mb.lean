/-! the class's Machine: jumps, calls, meetings; a step -/
section MB
variable {L : Nat} {xs : Nat → Int32} {S : Nat → pm_E} {n c m pic : Nat} {P : PG} {s t t2 : Int64} {x : Nat} {D f : Nat → Nat}
theorem m_jump {a : Nat} (hW : WFP P) (hc : c + 6 ≤ n) (hm : m < n) (hj : JPc c P S) (hJ : JMc m c pic S) (hp5 : pic < 5) (hx : x < pH P) (ha : a ≤ 10) : PM (j_SL L) (j_SV xs) j_EX mm_X6_jumped [.ref m, .long s, .int (nI x), .int (nI a)] S n (lg S n (atD (e_D s) x (min a (pL P x)))) := by
  have hH := hW.2.1
  obtain ⟨gs, kM, g0, g1⟩ := hJ
  obtain ⟨fs, k0, f0, f1, fa, k1, h1⟩ := p_obj hj
  have hl8 := hW.2.2.1 x hx
  change PQ (j_SL L) (j_SV xs) j_EX mm_X6_jumped 0 [.ref m, .long s, pm_un, .int (nI x), .int (nI a)] [] S n 0 0 _
  refine q_lload_n rfl rfl rfl ?_
  refine q_iload_n rfl rfl rfl ?_
  refine q_iload rfl rfl rfl ?_
  refine q_aload_n rfl rfl rfl ?_
  refine q_getf rfl rfl hm kM g0 ?_
  refine q_iload_n rfl rfl rfl ?_
  refine q_cV rfl rfl (Or.inl rfl) rfl rfl rfl rfl (by omega) k0 trivial rfl rfl rfl rfl rfl (p_len hW hc hj hx) ?_
  rintro r _ _ ⟨rfl, rfl, rfl⟩
  show PQ (j_SL L) (j_SV xs) j_EX mm_X6_jumped 12 _ [.int (nI (pL P x)), .int (nI a), .int (nI x), .long s] S n 0 0 _
  refine q_mn (idx := 120) (z := nI (min a (pL P x))) rfl (by decide +kernel) rfl rfl ?_ ?_
  · by_cases h : pL P x < a
    · rw [if_pos ((m_lt (by omega) (by omega)).mpr h), Nat.min_eq_right (by omega)]
    · rw [if_neg (fun h9 => h ((m_lt (by omega) (by omega)).mp h9)), Nat.min_eq_left (by omega)]
  refine q_cS rfl rfl (Or.inl rfl) rfl rfl trivial rfl rfl rfl rfl rfl (b_withPosition (by omega) (by omega)) ?_
  rintro r _ _ ⟨rfl, rfl, t, rfl, h⟩
  show PQ (j_SL L) (j_SV xs) j_EX mm_X6_jumped 18 _ [.long t] S n 0 0 _
  exact q_lret rfl rfl trivial ⟨rfl, rfl, t, rfl, h⟩
theorem calB_ok {q o : Nat} : calB P D q o = true ↔ o < pH P ∧ D (4 * o + 3) = 1 ∧ oA P D o = q := by
  unfold calB
  simp only [Bool.and_eq_true, decide_eq_true_eq]
theorem cal_at {q o : Nat} (ho : o < 3) (h : ∀ y, y < o → calB P D q y = false) (h1 : calB P D q o = true) : calD P D q = e_up D (4 * o + 3) 2 := by
  unfold calD
  match o, ho with
  | 0, _ => rw [h1]; rfl
  | 1, _ => rw [h 0 (by decide), h1]; rfl
  | 2, _ => rw [h 0 (by decide), h 1 (by decide), h1]; rfl
  | o + 3, h => omega
theorem cal_no {q : Nat} (hP : pH P ≤ 3) (h : ∀ y, y < pH P → calB P D q y = false) : calD P D q = D := by
  have h' : ∀ y, calB P D q y = false := fun y => by
    by_cases hy : y < pH P
    · exact h y hy
    · cases e : calB P D q y
      · rfl
      · exact absurd (calB_ok.mp e).1 hy
  unfold calD
  rw [h' 0, h' 1, h' 2]
  rfl
set_option maxHeartbeats 4000000 in
theorem m_call {l : Nat} (hW : WFP P) (hc : c + 6 ≤ n) (hm : m < n) (hj : JPc c P S) (hJ : JMc m c pic S) (hp5 : pic < 5) (hl : l < 3) (hD : WFD P pic (e_D s)) : PM (j_SL L) (j_SV xs) j_EX mm_X6_called [.ref m, .long s, .int (nI l)] S n (lg S n (calD P (e_D s) l)) := by
  have hH := hW.2.1
  obtain ⟨gs, kM, g0, g1⟩ := hJ
  obtain ⟨fs, k0, f0, f1, fa, k1, h1⟩ := p_obj hj
  change PQ (j_SL L) (j_SV xs) j_EX mm_X6_called 0 [.ref m, .long s, pm_un, .int (nI l), pm_un, pm_un] [] S n 0 0 _
  have key : ∀ q o : Nat, o + q = pH P → (∀ y, y < o → calB P (e_D s) l y = false) → ∀ w : Value, PQ (j_SL L) (j_SV xs) j_EX mm_X6_called 3 [.ref m, .long s, pm_un, .int (nI l), .int (nI o), w] [] S n 0 0 (lg S n (calD P (e_D s) l)) := by
    intro q
    induction q with
    | zero =>
      intro o hx hy w
      refine q_iload rfl rfl rfl ?_
      refine q_aload_n rfl rfl rfl ?_
      refine q_getf rfl rfl hm kM g0 ?_
      refine q_getf rfl rfl (by omega) k0 f0 ?_
      refine q_icge rfl rfl (fun _ => ?_) (fun h => absurd ((m_le (by omega) (by omega)).mpr (by omega)) h)
      refine q_lload_n rfl rfl rfl ?_
      exact q_lret rfl rfl trivial ⟨rfl, rfl, s, rfl, by rw [cal_no hH (fun y h => hy y (by omega))]; exact is_rf⟩
    | succ q ih =>
      intro o hxq hy w
      have ho : o < pH P := by omega
      have hD4 := e_D4 (s := s) (x := o) (by omega)
      have hw := hD.1 o ho
      refine q_iload rfl rfl rfl ?_
      refine q_aload_n rfl rfl rfl ?_
      refine q_getf rfl rfl hm kM g0 ?_
      refine q_getf rfl rfl (by omega) k0 f0 ?_
      refine q_icge rfl rfl (fun h => absurd ((m_le (by omega) (by omega)).mp h) (by omega)) (fun _ => ?_)
      have next : calB P (e_D s) l o = false → ∀ w : Value, PQ (j_SL L) (j_SV xs) j_EX mm_X6_called 63 [.ref m, .long s, pm_un, .int (nI l), .int (nI o), w] [] S n 0 0 (lg S n (calD P (e_D s) l)) := by
        intro h w
        refine q_inc4 rfl rfl rfl rfl ?_
        refine q_goto rfl ?_
        rw [show nI o + 1 = nI (o + 1) from nI_add o 1]
        refine ih (o + 1) (by omega) (fun y hy' => ?_) w
        by_cases e : y = o
        · rw [e]
          exact h
        · exact hy y (by omega)
      have nob : ¬ (o < pH P ∧ e_D s (4 * o + 3) = 1 ∧ oA P (e_D s) o = l) → calB P (e_D s) l o = false := fun h => by
        cases e : calB P (e_D s) l o
        · rfl
        · exact absurd (calB_ok.mp e) h
      have tail : ∀ z : Int32, (e_D s (4 * o) < pL P o → z = nI (8 * o + e_D s (4 * o))) → PQ (j_SL L) (j_SV xs) j_EX mm_X6_called 30 [.ref m, .long s, pm_un, .int (nI l), .int (nI o), w] [.int z] S n 0 0 (lg S n (calD P (e_D s) l)) := by
        intro z hz
        refine q_ist5 rfl rfl rfl rfl ?_
        refine q_lload_n rfl rfl rfl ?_
        refine q_iload rfl rfl rfl ?_
        refine q_cS rfl rfl (Or.inl rfl) rfl rfl trivial rfl rfl rfl rfl rfl (b_sleep (by omega)) ?_
        rintro r _ _ ⟨rfl, rfl, rfl⟩
        show PQ (j_SL L) (j_SV xs) j_EX mm_X6_called 38 _ [.int (nI (e_D s (4 * o + 3)))] S n 0 0 _
        refine q_iconst rfl rfl ?_
        refine q_icne rfl rfl (fun h => ?_) (fun h => next (nob (fun h9 => h (by rw [h9.2.1]; rfl))) _)
        have h1 := (m_eq (b := 1) (by omega) (by omega)).mp h
        obtain ⟨hlt, hk, -⟩ := hw.2.2.2.2.1 (by omega)
        obtain ⟨q3, eq⟩ := wfp_l (D := e_D s) hW ho (by unfold ovr; omega) (by unfold hasL; omega)
        rw [hz hlt]
        refine q_aload_n rfl rfl rfl ?_
        refine q_getf rfl rfl hm kM g0 ?_
        refine q_iload rfl rfl rfl ?_
        refine q_cV rfl rfl (Or.inl rfl) rfl rfl rfl rfl (by omega) k0 trivial rfl rfl rfl rfl rfl (p_oper hW hc hj ho hlt) ?_
        rintro r _ _ ⟨rfl, rfl, rfl⟩
        show PQ (j_SL L) (j_SV xs) j_EX mm_X6_called 51 _ [.int (pO P o (e_D s (4 * o)))] S n 0 0 _
        rw [eq]
        refine q_iload_n rfl rfl rfl ?_
        refine q_icne rfl rfl (fun h => ?_) (fun h => next (nob (fun h9 => h (by rw [h9.2.2]))) _)
        have h2 := (m_eq (by omega) (by omega)).mp h
        refine q_lload_n rfl rfl rfl ?_
        refine q_iload rfl rfl rfl ?_
        refine q_iconst rfl rfl ?_
        refine q_cS rfl rfl (Or.inl rfl) rfl rfl trivial rfl rfl rfl rfl rfl (b_withSleep (v := 2) (by omega) (by decide)) ?_
        rintro r _ _ ⟨rfl, rfl, t1, rfl, q1⟩
        show PQ (j_SL L) (j_SV xs) j_EX mm_X6_called 62 _ [.long t1] S n 0 0 _
        refine q_lret rfl rfl trivial ⟨rfl, rfl, t1, rfl, ?_⟩
        rw [cal_at (by omega) hy (calB_ok.mpr ⟨ho, h1, h2⟩)]
        exact q1
      refine q_aload_n rfl rfl rfl ?_
      refine q_getf rfl rfl hm kM g0 ?_
      refine q_iload rfl rfl rfl ?_
      refine q_lload_n rfl rfl rfl ?_
      refine q_iload rfl rfl rfl ?_
      refine q_cS rfl rfl (Or.inl rfl) rfl rfl trivial rfl rfl rfl rfl rfl (b_position (by omega)) ?_
      rintro r _ _ ⟨rfl, rfl, rfl⟩
      show PQ (j_SL L) (j_SV xs) j_EX mm_X6_called 27 [.ref m, .long s, pm_un, .int (nI l), .int (nI o), w] [.int (nI (e_D s (4 * o))), .int (nI o), .ref c] S n 0 0 _
      refine q_cV rfl rfl (Or.inl rfl) rfl rfl rfl rfl (by omega) k0 trivial rfl rfl rfl rfl rfl (p_cell hW hc hj ho (e_D4 (by omega)).1) ?_
      rintro r _ _ ⟨rfl, rfl, hr⟩
      rcases hr with ⟨hlt, rfl⟩ | ⟨hge, rfl⟩
      · exact tail _ (fun _ => rfl)
      · exact tail _ (fun h => absurd h (by omega))
  refine q_iconst rfl rfl ?_
  refine q_ist4 rfl rfl rfl rfl ?_
  exact key (pH P) 0 (by omega) (fun y h => absurd h (by omega)) _
theorem metB_ok {o : Nat} : metB P D o = true ↔ o < pH P ∧ D (4 * o) < pL P o ∧ kA P D o = 12 := by
  unfold metB
  simp only [Bool.and_eq_true, decide_eq_true_eq]
set_option maxHeartbeats 4000000 in
theorem m_met (hW : WFP P) (hc : c + 6 ≤ n) (hm : m < n) (hj : JPc c P S) (hJ : JMc m c pic S) (hp5 : pic < 5) : PM (j_SL L) (j_SV xs) j_EX mm_X6_met [.ref m, .long s] S n (lg S n (metD P (e_D s) (pH P))) := by
  have hH := hW.2.1
  obtain ⟨gs, kM, g0, g1⟩ := hJ
  obtain ⟨fs, k0, f0, f1, fa, k1, h1⟩ := p_obj hj
  change PQ (j_SL L) (j_SV xs) j_EX mm_X6_met 0 [.ref m, .long s, pm_un, pm_un, pm_un, pm_un, pm_un] [] S n 0 0 _
  have key : ∀ q o : Nat, o + q = pH P → ∀ t : Int64, e_is t (metD P (e_D s) o) → ∀ w : Value, PQ (j_SL L) (j_SV xs) j_EX mm_X6_met 5 [.ref m, .long s, pm_un, .long t, pm_un, .int (nI o), w] [] S n 0 0 (lg S n (metD P (e_D s) (pH P))) := by
    intro q
    induction q with
    | zero =>
      intro o hx t ht w
      refine q_iload rfl rfl rfl ?_
      refine q_aload_n rfl rfl rfl ?_
      refine q_getf rfl rfl hm kM g0 ?_
      refine q_getf rfl rfl (by omega) k0 f0 ?_
      refine q_icge rfl rfl (fun _ => ?_) (fun h => absurd ((m_le (by omega) (by omega)).mpr (by omega)) h)
      refine q_lload_n rfl rfl rfl ?_
      exact q_lret rfl rfl trivial ⟨rfl, rfl, t, rfl, by rw [← show o = pH P by omega]; exact ht⟩
    | succ q ih =>
      intro o hxq t ht w
      have ho : o < pH P := by omega
      have hD4 := e_D4 (s := s) (x := o) (by omega)
      refine q_iload rfl rfl rfl ?_
      refine q_aload_n rfl rfl rfl ?_
      refine q_getf rfl rfl hm kM g0 ?_
      refine q_getf rfl rfl (by omega) k0 f0 ?_
      refine q_icge rfl rfl (fun h => absurd ((m_le (by omega) (by omega)).mp h) (by omega)) (fun _ => ?_)
      have next : ∀ (t' : Int64) (w : Value), e_is t' (metD P (e_D s) (o + 1)) → PQ (j_SL L) (j_SV xs) j_EX mm_X6_met 55 [.ref m, .long s, pm_un, .long t', pm_un, .int (nI o), w] [] S n 0 0 (lg S n (metD P (e_D s) (pH P))) := by
        intro t' w h
        refine q_inc5 rfl rfl rfl rfl ?_
        refine q_goto rfl ?_
        rw [show nI o + 1 = nI (o + 1) from nI_add o 1]
        exact ih (o + 1) (by omega) t' h w
      have stay : metB P (e_D s) o = false → e_is t (metD P (e_D s) (o + 1)) := fun h => by
        unfold metD
        rw [h]
        exact ht
      refine q_aload_n rfl rfl rfl ?_
      refine q_getf rfl rfl hm kM g0 ?_
      refine q_iload rfl rfl rfl ?_
      refine q_lload_n rfl rfl rfl ?_
      refine q_iload rfl rfl rfl ?_
      refine q_cS rfl rfl (Or.inl rfl) rfl rfl trivial rfl rfl rfl rfl rfl (b_position (by omega)) ?_
      rintro r _ _ ⟨rfl, rfl, rfl⟩
      show PQ (j_SL L) (j_SV xs) j_EX mm_X6_met 29 [.ref m, .long s, pm_un, .long t, pm_un, .int (nI o), w] [.int (nI (e_D s (4 * o))), .int (nI o), .ref c] S n 0 0 _
      refine q_cV rfl rfl (Or.inl rfl) rfl rfl rfl rfl (by omega) k0 trivial rfl rfl rfl rfl rfl (p_cell hW hc hj ho (e_D4 (by omega)).1) ?_
      rintro r _ _ ⟨rfl, rfl, hr⟩
      rcases hr with ⟨hlt, rfl⟩ | ⟨hge, rfl⟩
      rotate_left
      · show PQ (j_SL L) (j_SV xs) j_EX mm_X6_met 32 _ [.int (-1)] S n 0 0 _
        refine q_ist6 rfl rfl rfl rfl ?_
        refine q_aload_n rfl rfl rfl ?_
        refine q_getf rfl rfl hm kM g0 ?_
        refine q_iload rfl rfl rfl ?_
        refine q_cV rfl rfl (Or.inl rfl) rfl rfl rfl rfl (by omega) k0 trivial rfl rfl rfl rfl rfl (p_kindm hc hj) ?_
        rintro r _ _ ⟨rfl, rfl, rfl⟩
        show PQ (j_SL L) (j_SV xs) j_EX mm_X6_met 43 _ [.int (-1)] S n 0 0 _
        refine q_bipush rfl rfl ?_
        refine q_icne rfl rfl (fun h => absurd h (by decide)) (fun _ => next t _ (stay ?_))
        cases e : metB P (e_D s) o
        · rfl
        · exact absurd (metB_ok.mp e).2.1 (by omega)
      show PQ (j_SL L) (j_SV xs) j_EX mm_X6_met 32 _ [.int (nI (8 * o + e_D s (4 * o)))] S n 0 0 _
      have hk12 := wfp_k (D := e_D s) hW ho (by unfold ovr; omega)
      have hl8 := hW.2.2.1 o ho
      refine q_ist6 rfl rfl rfl rfl ?_
      refine q_aload_n rfl rfl rfl ?_
      refine q_getf rfl rfl hm kM g0 ?_
      refine q_iload rfl rfl rfl ?_
      refine q_cV rfl rfl (Or.inl rfl) rfl rfl rfl rfl (by omega) k0 trivial rfl rfl rfl rfl rfl (p_kind hW hc hj ho hlt) ?_
      rintro r _ _ ⟨rfl, rfl, rfl⟩
      show PQ (j_SL L) (j_SV xs) j_EX mm_X6_met 43 _ [.int (nI (kA P (e_D s) o))] S n 0 0 _
      refine q_bipush rfl rfl ?_
      refine q_icne rfl rfl (fun h => ?_) (fun h => next t _ (stay ?_))
      · have hk := (m_eq (b := 12) (by omega) (by omega)).mp h
        refine q_lload_n rfl rfl rfl ?_
        refine q_iload rfl rfl rfl ?_
        have e4 : e_D t (4 * o) = e_D s (4 * o) := by rw [ht _ (by omega), met_ot (Nat.le_refl _)]
        refine q_cS rfl rfl (Or.inl rfl) rfl rfl trivial rfl rfl rfl rfl rfl (b_passed (by omega) (by omega)) ?_
        rintro r _ _ ⟨rfl, rfl, t1, rfl, q1⟩
        show PQ (j_SL L) (j_SV xs) j_EX mm_X6_met 54 _ [.long t1] S n 0 0 _
        refine q_lst3n rfl rfl rfl rfl ?_
        refine next t1 _ ?_
        unfold metD
        rw [metB_ok.mpr ⟨ho, hlt, hk⟩]
        exact is_pass ht (by omega) q1
      · cases e : metB P (e_D s) o
        · rfl
        · exact absurd (by rw [(metB_ok.mp e).2.2]; rfl) h
  refine q_lload_n rfl rfl rfl ?_
  refine q_lst3n rfl rfl rfl rfl ?_
  refine q_iconst rfl rfl ?_
  refine q_ist5 rfl rfl rfl rfl ?_
  exact key (pH P) 0 (by omega) s is_rf _
set_option maxHeartbeats 4000000 in
theorem m_after (hW : WFP P) (hc : c + 6 ≤ n) (hm : m < n) (hj : JPc c P S) (hJ : JMc m c pic S) (hp5 : pic < 5) (hx : x < pH P) (ho : ¬ ovr P (e_D s) x) (hD : WFD P pic (e_D s)) : PM (j_SL L) (j_SV xs) j_EX mm_X6_after [.ref m, .long s, .int (nI x)] S n (lg S n (aftD P pic (e_D s) x)) := by
  have hH := hW.2.1
  obtain ⟨gs, kM, g0, g1⟩ := hJ
  obtain ⟨fs, k0, f0, f1, fa, k1, h1⟩ := p_obj hj
  have hD4 := e_D4 (s := s) (x := x) (by omega)
  have hr := hD.1 x hx
  have hl8 := hW.2.2.1 x hx
  have hlt : e_D s (4 * x) < pL P x := by unfold ovr at ho; omega
  change PQ (j_SL L) (j_SV xs) j_EX mm_X6_after 0 [.ref m, .long s, pm_un, .int (nI x), pm_un, pm_un, pm_un, pm_un] [] S n 0 0 _
  refine q_aload_n rfl rfl rfl ?_
  refine q_getf rfl rfl hm kM g0 ?_
  refine q_iload_n rfl rfl rfl ?_
  refine q_lload_n rfl rfl rfl ?_
  refine q_iload_n rfl rfl rfl ?_
  refine q_cS rfl rfl (Or.inl rfl) rfl rfl trivial rfl rfl rfl rfl rfl (b_position (by omega)) ?_
  rintro r _ _ ⟨rfl, rfl, rfl⟩
  show PQ (j_SL L) (j_SV xs) j_EX mm_X6_after 10 [.ref m, .long s, pm_un, .int (nI x), pm_un, pm_un, pm_un, pm_un] [.int (nI (e_D s (4 * x))), .int (nI x), .ref c] S n 0 0 _
  refine q_cV rfl rfl (Or.inl rfl) rfl rfl rfl rfl (by omega) k0 trivial rfl rfl rfl rfl rfl (p_cell hW hc hj hx (e_D4 (by omega)).1) ?_
  rintro r _ _ ⟨rfl, rfl, hr9⟩
  rcases hr9 with ⟨-, rfl⟩ | ⟨hge, -⟩
  rotate_left
  · omega
  show PQ (j_SL L) (j_SV xs) j_EX mm_X6_after 13 _ [.int (nI (8 * x + e_D s (4 * x)))] S n 0 0 _
  refine q_ist4 rfl rfl rfl rfl ?_
  refine q_aload_n rfl rfl rfl ?_
  refine q_getf rfl rfl hm kM g0 ?_
  refine q_iload rfl rfl rfl ?_
  refine q_cV rfl rfl (Or.inl rfl) rfl rfl rfl rfl (by omega) k0 trivial rfl rfl rfl rfl rfl (p_oper hW hc hj hx hlt) ?_
  rintro r _ _ ⟨rfl, rfl, rfl⟩
  show PQ (j_SL L) (j_SV xs) j_EX mm_X6_after 24 _ [.int (pO P x (e_D s (4 * x)))] S n 0 0 _
  refine q_ist5 rfl rfl rfl rfl ?_
  refine q_aload_n rfl rfl rfl ?_
  refine q_getf rfl rfl hm kM g0 ?_
  refine q_iload rfl rfl rfl ?_
  refine q_cV rfl rfl (Or.inl rfl) rfl rfl rfl rfl (by omega) k0 trivial rfl rfl rfl rfl rfl (p_numb hW hc hj hx hlt) ?_
  rintro r _ _ ⟨rfl, rfl, rfl⟩
  show PQ (j_SL L) (j_SV xs) j_EX mm_X6_after 35 _ [.int (pN P x (e_D s (4 * x)))] S n 0 0 _
  refine q_ist6 rfl rfl rfl rfl ?_
  refine q_lload_n rfl rfl rfl ?_
  refine q_iload_n rfl rfl rfl ?_
  refine q_cS rfl rfl (Or.inl rfl) rfl rfl trivial rfl rfl rfl rfl rfl (b_register (by omega)) ?_
  rintro r _ _ ⟨rfl, rfl, rfl⟩
  show PQ (j_SL L) (j_SV xs) j_EX mm_X6_after 42 _ [.int (nI (e_D s (4 * x + 1)))] S n 0 0 _
  refine q_ist7 rfl rfl rfl rfl ?_
  refine q_aload_n rfl rfl rfl ?_
  refine q_getf rfl rfl hm kM g0 ?_
  refine q_iload rfl rfl rfl ?_
  refine q_cV rfl rfl (Or.inl rfl) rfl rfl rfl rfl (by omega) k0 trivial rfl rfl rfl rfl rfl (p_kind hW hc hj hx hlt) ?_
  rintro r _ _ ⟨rfl, rfl, rfl⟩
  show PQ (j_SL L) (j_SV xs) j_EX mm_X6_after 53 [.ref m, .long s, pm_un, .int (nI x), .int (nI (8 * x + e_D s (4 * x))), .int (pO P x (e_D s (4 * x))), .int (pN P x (e_D s (4 * x))), .int (nI (e_D s (4 * x + 1)))] [.int (nI (kA P (e_D s) x))] S n 0 0 _
  have hk12 := wfp_k hW hx ho
  generalize hk : kA P (e_D s) x = kk at hk12 ⊢
  match kk, hk12 with
  | 0, _ =>
    refine q_switch (q := 120) rfl rfl ?_
    obtain ⟨q4, eq⟩ := wfp_o hW hx ho (by unfold hasP; omega)
    obtain ⟨n9, en⟩ := wfp_n hW hx ho (by unfold hasN; omega)
    rw [eq, en]
    refine q_lload_n rfl rfl rfl ?_
    refine q_iload rfl rfl rfl ?_
    refine q_iload rfl rfl rfl ?_
    refine q_cS rfl rfl (Or.inl rfl) rfl rfl trivial rfl rfl rfl rfl rfl (b_withPlace q4 (by omega)) ?_
    rintro r _ _ ⟨rfl, rfl, t1, rfl, q1⟩
    show PQ (j_SL L) (j_SV xs) j_EX mm_X6_after 128 _ [.long t1] S n 0 0 _
    refine q_iload_n rfl rfl rfl ?_
    have e4 : e_D t1 (4 * x) = e_D s (4 * x) := by rw [q1 _ (by omega), e_up_ot (by omega)]
    refine q_cS rfl rfl (Or.inl rfl) rfl rfl trivial rfl rfl rfl rfl rfl (b_passed (by omega) (by omega)) ?_
    rintro r _ _ ⟨rfl, rfl, t2, rfl, q2⟩
    show PQ (j_SL L) (j_SV xs) j_EX mm_X6_after 132 _ [.long t2] S n 0 0 _
    exact q_lret rfl rfl trivial ⟨rfl, rfl, t2, rfl, by rw [aft_0 hk]; exact is_pass q1 (by omega) q2⟩
  | 1, _ =>
    refine q_switch (q := 133) rfl rfl ?_
    obtain ⟨q4, eq⟩ := wfp_o hW hx ho (by unfold hasP; omega)
    have hpl := hD.2.2.1 _ q4
    rw [eq]
    refine q_lload_n rfl rfl rfl ?_
    refine q_iload_n rfl rfl rfl ?_
    refine q_iload rfl rfl rfl ?_
    refine q_cS rfl rfl (Or.inl rfl) rfl rfl trivial rfl rfl rfl rfl rfl (m_taken (by omega) q4 hpl) ?_
    rintro r _ _ ⟨rfl, rfl, t1, rfl, q1⟩
    show PQ (j_SL L) (j_SV xs) j_EX mm_X6_after 140 _ [.long t1] S n 0 0 _
    refine q_iload_n rfl rfl rfl ?_
    have e4 : e_D t1 (4 * x) = e_D s (4 * x) := by rw [q1 _ (by omega), e_up_ot (by omega)]
    refine q_cS rfl rfl (Or.inl rfl) rfl rfl trivial rfl rfl rfl rfl rfl (b_passed (by omega) (by omega)) ?_
    rintro r _ _ ⟨rfl, rfl, t2, rfl, q2⟩
    show PQ (j_SL L) (j_SV xs) j_EX mm_X6_after 144 _ [.long t2] S n 0 0 _
    exact q_lret rfl rfl trivial ⟨rfl, rfl, t2, rfl, by rw [aft_1 hk]; exact is_pass q1 (by omega) q2⟩
  | 2, _ =>
    refine q_switch (q := 145) rfl rfl ?_
    obtain ⟨q4, eq⟩ := wfp_o hW hx ho (by unfold hasP; omega)
    rw [eq]
    refine q_lload_n rfl rfl rfl ?_
    refine q_iload rfl rfl rfl ?_
    refine q_iload rfl rfl rfl ?_
    refine q_cS rfl rfl (Or.inl rfl) rfl rfl trivial rfl rfl rfl rfl rfl (b_withPlace q4 (by omega)) ?_
    rintro r _ _ ⟨rfl, rfl, t1, rfl, q1⟩
    show PQ (j_SL L) (j_SV xs) j_EX mm_X6_after 153 _ [.long t1] S n 0 0 _
    refine q_iload_n rfl rfl rfl ?_
    have e4 : e_D t1 (4 * x) = e_D s (4 * x) := by rw [q1 _ (by omega), e_up_ot (by omega)]
    refine q_cS rfl rfl (Or.inl rfl) rfl rfl trivial rfl rfl rfl rfl rfl (b_passed (by omega) (by omega)) ?_
    rintro r _ _ ⟨rfl, rfl, t2, rfl, q2⟩
    show PQ (j_SL L) (j_SV xs) j_EX mm_X6_after 157 _ [.long t2] S n 0 0 _
    exact q_lret rfl rfl trivial ⟨rfl, rfl, t2, rfl, by rw [aft_2 hk]; exact is_pass q1 (by omega) q2⟩
  | 3, _ =>
    refine q_switch (q := 158) rfl rfl ?_
    obtain ⟨n9, en⟩ := wfp_n hW hx ho (by unfold hasN; omega)
    rw [en]
    refine q_lload_n rfl rfl rfl ?_
    refine q_iload_n rfl rfl rfl ?_
    refine q_iload rfl rfl rfl ?_
    refine q_cS rfl rfl (Or.inl rfl) rfl rfl trivial rfl rfl rfl rfl rfl (m_added (by omega) n9 hr.2.1) ?_
    rintro r _ _ ⟨rfl, rfl, t1, rfl, q1⟩
    show PQ (j_SL L) (j_SV xs) j_EX mm_X6_after 165 _ [.long t1] S n 0 0 _
    refine q_iload_n rfl rfl rfl ?_
    have e4 : e_D t1 (4 * x) = e_D s (4 * x) := by rw [q1 _ (by omega), e_up_ot (by omega)]
    refine q_cS rfl rfl (Or.inl rfl) rfl rfl trivial rfl rfl rfl rfl rfl (b_passed (by omega) (by omega)) ?_
    rintro r _ _ ⟨rfl, rfl, t2, rfl, q2⟩
    show PQ (j_SL L) (j_SV xs) j_EX mm_X6_after 169 _ [.long t2] S n 0 0 _
    exact q_lret rfl rfl trivial ⟨rfl, rfl, t2, rfl, by rw [aft_3 hk]; exact is_pass q1 (by omega) q2⟩
  | 4, _ =>
    refine q_switch (q := 170) rfl rfl ?_
    obtain ⟨n9, en⟩ := wfp_j hW hx ho hk
    rw [en]
    refine q_iload rfl rfl rfl ?_
    refine q_ifne rfl rfl (fun h => ?_) (fun h => ?_)
    · have h0 := (m_eq (b := 0) (by omega) (by omega)).mp h
      refine q_aload_n rfl rfl rfl ?_
      refine q_lload_n rfl rfl rfl ?_
      refine q_iload_n rfl rfl rfl ?_
      refine q_iload rfl rfl rfl ?_
      refine q_cV rfl rfl (Or.inl rfl) rfl rfl rfl rfl hm kM trivial rfl rfl rfl rfl rfl (m_jump hW hc hm hj ⟨gs, kM, g0, g1⟩ hp5 hx n9) ?_
      rintro r _ _ ⟨rfl, rfl, t1, rfl, q1⟩
      show PQ (j_SL L) (j_SV xs) j_EX mm_X6_after 183 _ [.long t1] S n 0 0 _
      refine q_goto rfl ?_
      exact q_lret rfl rfl trivial ⟨rfl, rfl, t1, rfl, by rw [aft_4 hk, if_pos h0]; exact q1⟩
    · have h0 : ¬ e_D s (4 * x + 1) = 0 := fun e => h (by rw [e]; rfl)
      refine q_lload_n rfl rfl rfl ?_
      refine q_iload_n rfl rfl rfl ?_
      refine q_cS rfl rfl (Or.inl rfl) rfl rfl trivial rfl rfl rfl rfl rfl (b_passed (by omega) (by omega)) ?_
      rintro r _ _ ⟨rfl, rfl, t2, rfl, q2⟩
      show PQ (j_SL L) (j_SV xs) j_EX mm_X6_after 191 _ [.long t2] S n 0 0 _
      exact q_lret rfl rfl trivial ⟨rfl, rfl, t2, rfl, by rw [aft_4 hk, if_neg h0]; exact q2⟩
  | 5, _ =>
    refine q_switch (q := 192) rfl rfl ?_
    refine q_lload_n rfl rfl rfl ?_
    refine q_iload_n rfl rfl rfl ?_
    refine q_cS rfl rfl (Or.inl rfl) rfl rfl trivial rfl rfl rfl rfl rfl (b_passed (by omega) (by omega)) ?_
    rintro r _ _ ⟨rfl, rfl, t2, rfl, q2⟩
    show PQ (j_SL L) (j_SV xs) j_EX mm_X6_after 197 _ [.long t2] S n 0 0 _
    exact q_lret rfl rfl trivial ⟨rfl, rfl, t2, rfl, by rw [aft_5 hk]; exact q2⟩
  | 6, _ =>
    refine q_switch (q := 198) rfl rfl ?_
    obtain ⟨q4, eq⟩ := wfp_o hW hx ho (by unfold hasP; omega)
    obtain ⟨n9, en⟩ := wfp_n hW hx ho (by unfold hasN; omega)
    have hpl := hD.2.2.1 _ q4
    rw [eq, en]
    refine q_aload_n rfl rfl rfl ?_
    refine q_getf rfl rfl hm kM g1 ?_
    refine q_iconst rfl rfl ?_
    refine q_icne rfl rfl (fun h => ?_) (fun h => ?_)
    · have h3 := (m_eq (b := 3) (by omega) (by omega)).mp h
      refine q_lload_n rfl rfl rfl ?_
      refine q_iload_n rfl rfl rfl ?_
      refine q_iload rfl rfl rfl ?_
      refine q_iload rfl rfl rfl ?_
      refine q_cS rfl rfl (Or.inl rfl) rfl rfl trivial rfl rfl rfl rfl rfl (m_longW (by omega) q4 n9 hpl (by omega)) ?_
      rintro r _ _ ⟨rfl, rfl, t2, rfl, q2⟩
      show PQ (j_SL L) (j_SV xs) j_EX mm_X6_after 215 _ [.long t2] S n 0 0 _
      refine q_goto rfl ?_
      exact q_lret rfl rfl trivial ⟨rfl, rfl, t2, rfl, by rw [aft_6 hk, if_pos h3]; exact q2⟩
    · have h3 : ¬ pic = 3 := fun e => h (by rw [e]; rfl)
      refine q_lload_n rfl rfl rfl ?_
      refine q_iload_n rfl rfl rfl ?_
      refine q_iload rfl rfl rfl ?_
      refine q_iload rfl rfl rfl ?_
      refine q_cS rfl rfl (Or.inl rfl) rfl rfl trivial rfl rfl rfl rfl rfl (m_longS (by omega) q4 n9 hpl hr.2.1 (by omega)) ?_
      rintro r _ _ ⟨rfl, rfl, t2, rfl, q2⟩
      show PQ (j_SL L) (j_SV xs) j_EX mm_X6_after 227 _ [.long t2] S n 0 0 _
      exact q_lret rfl rfl trivial ⟨rfl, rfl, t2, rfl, by rw [aft_6 hk, if_neg h3]; exact q2⟩
  | 7, _ =>
    refine q_switch (q := 228) rfl rfl ?_
    obtain ⟨q4, eq⟩ := wfp_o hW hx ho (by unfold hasP; omega)
    have hpl := hD.2.2.1 _ q4
    rw [eq]
    refine q_lload_n rfl rfl rfl ?_
    refine q_iload_n rfl rfl rfl ?_
    refine q_iload rfl rfl rfl ?_
    refine q_cS rfl rfl (Or.inl rfl) rfl rfl trivial rfl rfl rfl rfl rfl (m_taken (by omega) q4 hpl) ?_
    rintro r _ _ ⟨rfl, rfl, t0, rfl, q0⟩
    show PQ (j_SL L) (j_SV xs) j_EX mm_X6_after 235 _ [.long t0] S n 0 0 _
    refine q_iload rfl rfl rfl ?_
    refine q_iconst rfl rfl ?_
    refine q_cS rfl rfl (Or.inl rfl) rfl rfl trivial rfl rfl rfl rfl rfl (b_withPlace (v := 1) q4 (by decide)) ?_
    rintro r _ _ ⟨rfl, rfl, t1, rfl, q1⟩
    show PQ (j_SL L) (j_SV xs) j_EX mm_X6_after 241 _ [.long t1] S n 0 0 _
    refine q_iload_n rfl rfl rfl ?_
    have q01 := is_up q0 q1
    have e4 : e_D t1 (4 * x) = e_D s (4 * x) := by rw [q01 _ (by omega), e_up_ot (by omega), e_up_ot (by omega)]
    refine q_cS rfl rfl (Or.inl rfl) rfl rfl trivial rfl rfl rfl rfl rfl (b_passed (by omega) (by omega)) ?_
    rintro r _ _ ⟨rfl, rfl, t2, rfl, q2⟩
    show PQ (j_SL L) (j_SV xs) j_EX mm_X6_after 245 _ [.long t2] S n 0 0 _
    exact q_lret rfl rfl trivial ⟨rfl, rfl, t2, rfl, by rw [aft_7 hk]; exact is_pass q01 (by omega) q2⟩
  | 8, _ =>
    refine q_switch (q := 246) rfl rfl ?_
    obtain ⟨q3, eq⟩ := wfp_l hW hx ho (by unfold hasL; omega)
    rw [eq]
    refine q_lload_n rfl rfl rfl ?_
    refine q_iload rfl rfl rfl ?_
    refine q_iload_n rfl rfl rfl ?_
    refine q_tn (z := nI (x + 1) - 1) (by rw [show nI (x + 1) = nI x + 1 from (nI_add x 1).symm]; exact (Int32.add_sub_cancel (nI x) 1).symm) ?_
    refine q_cS rfl rfl (Or.inl rfl) rfl rfl trivial rfl rfl rfl rfl rfl (b_withOwner (v := x + 1) q3 (by omega)) ?_
    rintro r _ _ ⟨rfl, rfl, t1, rfl, q1⟩
    show PQ (j_SL L) (j_SV xs) j_EX mm_X6_after 253 _ [.long t1] S n 0 0 _
    refine q_iload_n rfl rfl rfl ?_
    have e4 : e_D t1 (4 * x) = e_D s (4 * x) := by rw [q1 _ (by omega), e_up_ot (by omega)]
    refine q_cS rfl rfl (Or.inl rfl) rfl rfl trivial rfl rfl rfl rfl rfl (b_passed (by omega) (by omega)) ?_
    rintro r _ _ ⟨rfl, rfl, t2, rfl, q2⟩
    show PQ (j_SL L) (j_SV xs) j_EX mm_X6_after 257 _ [.long t2] S n 0 0 _
    exact q_lret rfl rfl trivial ⟨rfl, rfl, t2, rfl, by rw [aft_8 hk]; exact is_pass q1 (by omega) q2⟩
  | 9, _ =>
    refine q_switch (q := 258) rfl rfl ?_
    obtain ⟨q3, eq⟩ := wfp_l hW hx ho (by unfold hasL; omega)
    rw [eq]
    refine q_lload_n rfl rfl rfl ?_
    refine q_iload_n rfl rfl rfl ?_
    refine q_iload rfl rfl rfl ?_
    refine q_cS rfl rfl (Or.inl rfl) rfl rfl trivial rfl rfl rfl rfl rfl (m_left (by omega) q3 (by omega)) ?_
    rintro r _ _ ⟨rfl, rfl, t2, rfl, q2⟩
    show PQ (j_SL L) (j_SV xs) j_EX mm_X6_after 265 _ [.long t2] S n 0 0 _
    exact q_lret rfl rfl trivial ⟨rfl, rfl, t2, rfl, by rw [aft_9 hk]; exact q2⟩
  | 10, _ =>
    refine q_switch (q := 266) rfl rfl ?_
    obtain ⟨q3, eq⟩ := wfp_l hW hx ho (by unfold hasL; omega)
    rw [eq]
    refine q_lload_n rfl rfl rfl ?_
    refine q_iload_n rfl rfl rfl ?_
    refine q_iload rfl rfl rfl ?_
    refine q_cS rfl rfl (Or.inl rfl) rfl rfl trivial rfl rfl rfl rfl rfl (m_wait (by omega) q3 (by omega)) ?_
    rintro r _ _ ⟨rfl, rfl, t2, rfl, q2⟩
    show PQ (j_SL L) (j_SV xs) j_EX mm_X6_after 273 _ [.long t2] S n 0 0 _
    exact q_lret rfl rfl trivial ⟨rfl, rfl, t2, rfl, by rw [aft_10 hk]; exact q2⟩
  | 11, _ =>
    refine q_switch (q := 274) rfl rfl ?_
    obtain ⟨q3, eq⟩ := wfp_l hW hx ho (by unfold hasL; omega)
    rw [eq]
    refine q_aload_n rfl rfl rfl ?_
    refine q_lload_n rfl rfl rfl ?_
    refine q_iload rfl rfl rfl ?_
    refine q_cV rfl rfl (Or.inl rfl) rfl rfl rfl rfl hm kM trivial rfl rfl rfl rfl rfl (m_call hW hc hm hj ⟨gs, kM, g0, g1⟩ hp5 q3 hD) ?_
    rintro r _ _ ⟨rfl, rfl, t1, rfl, q1⟩
    show PQ (j_SL L) (j_SV xs) j_EX mm_X6_after 281 _ [.long t1] S n 0 0 _
    refine q_iload_n rfl rfl rfl ?_
    have e4 : e_D t1 (4 * x) = e_D s (4 * x) := by rw [q1 _ (by omega), cal_ot (fun o _ => by omega)]
    refine q_cS rfl rfl (Or.inl rfl) rfl rfl trivial rfl rfl rfl rfl rfl (b_passed (by omega) (by omega)) ?_
    rintro r _ _ ⟨rfl, rfl, t2, rfl, q2⟩
    show PQ (j_SL L) (j_SV xs) j_EX mm_X6_after 285 _ [.long t2] S n 0 0 _
    exact q_lret rfl rfl trivial ⟨rfl, rfl, t2, rfl, by rw [aft_11 hk]; exact is_pass q1 (by omega) q2⟩
  | 12, _ =>
    refine q_switch (q := 286) rfl rfl ?_
    refine q_aload_n rfl rfl rfl ?_
    refine q_lload_n rfl rfl rfl ?_
    refine q_cV rfl rfl (Or.inl rfl) rfl rfl rfl rfl hm kM trivial rfl rfl rfl rfl rfl (m_met hW hc hm hj ⟨gs, kM, g0, g1⟩ hp5) ?_
    rintro r _ _ ⟨rfl, rfl, t1, rfl, q1⟩
    show PQ (j_SL L) (j_SV xs) j_EX mm_X6_after 291 _ [.long t1] S n 0 0 _
    exact q_lret rfl rfl trivial ⟨rfl, rfl, t1, rfl, by rw [aft_12 hk]; exact q1⟩
  | kk + 13, h => omega
end MB
