/-! the class's Machine: what its hands are able to do -/
section MC
variable {L : Nat} {xs : Nat → Int32} {S : Nat → pm_E} {n c m pic : Nat} {P : PG} {s : Int64} {x : Nat}
theorem m_sub {d : Nat} (hd : d < 2 ^ 30) : (nI d - 1).toInt = (d : Int) - 1 := by
  have e2 : (nI d - 1).toInt = ((nI d).toInt - (1 : Int32).toInt).bmod 4294967296 := Int32.toInt_sub (nI d) 1
  have e1 : (1 : Int32).toInt = 1 := rfl
  have e := nI_toInt (n := d) (by omega)
  rw [ck_bm (by show (-2147483648 : Int) ≤ _; omega) (by show _ ≤ (2147483647 : Int); omega)] at e2
  omega
theorem m_sub0 {d : Nat} (hd : d < 2 ^ 30) : (0 : Int32) ≤ nI d - 1 ↔ 1 ≤ d := by
  rw [Int32.le_iff_toInt_le, m_sub hd]
  show (0 : Int) ≤ _ ↔ _
  omega
theorem m_subx {d x : Nat} (hd : d < 2 ^ 30) (hx : x < 2 ^ 30) : nI d - 1 = nI x ↔ d = x + 1 := by
  rw [← Int32.toInt_inj, m_sub hd, nI_toInt (by omega)]
  omega
theorem e_D4 (hx : x < 3) : e_D s (4 * x) < 16 ∧ e_D s (4 * x + 1) < 16 ∧ e_D s (4 * x + 2) < 4 ∧ e_D s (4 * x + 3) < 4 := by
  obtain ⟨-, -, -, -, w0, w1, w2, w3⟩ := e_hd_off hx
  have a := e_D_lt s (4 * x)
  have b := e_D_lt s (4 * x + 1)
  have c := e_D_lt s (4 * x + 2)
  have d := e_D_lt s (4 * x + 3)
  rw [w0] at a
  rw [w1] at b
  rw [w2] at c
  rw [w3] at d
  exact ⟨a, b, c, d⟩
theorem e_Dp {p : Nat} (hp : p < 4) : e_D s (12 + p) < 16 := by
  have a := e_D_lt s (12 + p)
  rw [(e_pl_off hp).2] at a
  exact a
theorem e_Do {l : Nat} (hl : l < 3) : e_D s (16 + l) < 4 := by
  have a := e_D_lt s (16 + l)
  rw [(e_ow_off hl).2] at a
  exact a
theorem able_t {D : Nat → Nat} (ho : ¬ ovr P D x) (h5 : kA P D x ≠ 5) (h8 : kA P D x ≠ 8) (h10 : kA P D x ≠ 10) (h12 : kA P D x ≠ 12) : ableP P pic D x := ⟨ho, fun h => absurd h h5, fun h => absurd h h8, fun h => absurd h h10, fun h => absurd h h12⟩
/-- yes or no -/
def yn (A : Prop) (S : Nat → pm_E) (n : Nat) : q_K := fun r S' n' => S = S' ∧ n = n' ∧ ((A ∧ r = some (.int 1)) ∨ (¬ A ∧ r = some (.int 0)))
set_option maxHeartbeats 4000000 in
theorem m_able {mt : Int32} (hW : WFP P) (hc : c + 6 ≤ n) (hm : m < n) (hj : JPc c P S) (hJ : JMc m c pic S) (hp5 : pic < 5) (hx : x < pH P) (hmt : (mt = 1 ∧ meetP P (e_D s)) ∨ (mt = 0 ∧ ¬ meetP P (e_D s))) : PM (j_SL L) (j_SV xs) j_EX mm_X6_isAble [.ref m, .long s, .int (nI x), .int mt] S n (yn (ableP P pic (e_D s) x) S n) := by
  have hH := hW.2.1
  obtain ⟨gs, kM, g0, g1⟩ := hJ
  obtain ⟨fs, k0, f0, f1, fa, k1, h1⟩ := p_obj hj
  have hD4 := e_D4 (s := s) (x := x) (by omega)
  change PQ (j_SL L) (j_SV xs) j_EX mm_X6_isAble 0 [.ref m, .long s, pm_un, .int (nI x), .int mt, pm_un, pm_un, pm_un] [] S n 0 0 _
  refine q_aload_n rfl rfl rfl ?_
  refine q_getf rfl rfl hm kM g0 ?_
  refine q_iload_n rfl rfl rfl ?_
  refine q_lload_n rfl rfl rfl ?_
  refine q_iload_n rfl rfl rfl ?_
  refine q_cS rfl rfl (Or.inl rfl) rfl rfl trivial rfl rfl rfl rfl rfl (b_position (by omega)) ?_
  rintro r _ _ ⟨rfl, rfl, rfl⟩
  show PQ (j_SL L) (j_SV xs) j_EX mm_X6_isAble 10 [.ref m, .long s, pm_un, .int (nI x), .int mt, pm_un, pm_un, pm_un] [.int (nI (e_D s (4 * x))), .int (nI x), .ref c] S n 0 0 _
  refine q_cV rfl rfl (Or.inl rfl) rfl rfl rfl rfl (by omega) k0 trivial rfl rfl rfl rfl rfl (p_cell hW hc hj hx (e_D4 (by omega)).1) ?_
  rintro r _ _ ⟨rfl, rfl, hr⟩
  rcases hr with ⟨hlt, rfl⟩ | ⟨hge, rfl⟩
  rotate_left
  · show PQ (j_SL L) (j_SV xs) j_EX mm_X6_isAble 13 _ [.int (-1)] S n 0 0 _
    refine q_ist5 rfl rfl rfl rfl ?_
    refine q_iload rfl rfl rfl ?_
    refine q_ifge rfl rfl (fun h => absurd h (by decide)) (fun _ => ?_)
    refine q_iconst rfl rfl ?_
    exact q_iret rfl rfl rfl ⟨rfl, rfl, Or.inr ⟨fun h => h.1 hge, rfl⟩⟩
  have ho : ¬ ovr P (e_D s) x := by unfold ovr; omega
  show PQ (j_SL L) (j_SV xs) j_EX mm_X6_isAble 13 _ [.int (nI (8 * x + e_D s (4 * x)))] S n 0 0 _
  refine q_ist5 rfl rfl rfl rfl ?_
  refine q_iload rfl rfl rfl ?_
  refine q_ifge rfl rfl (fun _ => ?_) (fun h => absurd (i_nlt (m_n0 (by omega))) h)
  refine q_aload_n rfl rfl rfl ?_
  refine q_getf rfl rfl hm kM g0 ?_
  refine q_iload rfl rfl rfl ?_
  refine q_cV rfl rfl (Or.inl rfl) rfl rfl rfl rfl (by omega) k0 trivial rfl rfl rfl rfl rfl (p_oper hW hc hj hx hlt) ?_
  rintro r _ _ ⟨rfl, rfl, rfl⟩
  show PQ (j_SL L) (j_SV xs) j_EX mm_X6_isAble 31 _ [.int (pO P x (e_D s (4 * x)))] S n 0 0 _
  refine q_ist6 rfl rfl rfl rfl ?_
  refine q_aload_n rfl rfl rfl ?_
  refine q_getf rfl rfl hm kM g0 ?_
  refine q_iload rfl rfl rfl ?_
  refine q_cV rfl rfl (Or.inl rfl) rfl rfl rfl rfl (by omega) k0 trivial rfl rfl rfl rfl rfl (p_kind hW hc hj hx hlt) ?_
  rintro r _ _ ⟨rfl, rfl, rfl⟩
  show PQ (j_SL L) (j_SV xs) j_EX mm_X6_isAble 42 [.ref m, .long s, pm_un, .int (nI x), .int mt, .int (nI (8 * x + e_D s (4 * x))), .int (pO P x (e_D s (4 * x))), pm_un] [.int (nI (kA P (e_D s) x))] S n 0 0 _
  have yes : kA P (e_D s) x ≠ 5 → kA P (e_D s) x ≠ 8 → kA P (e_D s) x ≠ 10 → kA P (e_D s) x ≠ 12 → PQ (j_SL L) (j_SV xs) j_EX mm_X6_isAble 190 [.ref m, .long s, pm_un, .int (nI x), .int mt, .int (nI (8 * x + e_D s (4 * x))), .int (pO P x (e_D s (4 * x))), pm_un] [] S n 0 0 (yn (ableP P pic (e_D s) x) S n) := by
    intro a1 a2 a3 a4
    refine q_iconst rfl rfl ?_
    exact q_iret rfl rfl rfl ⟨rfl, rfl, Or.inl ⟨able_t ho a1 a2 a3 a4, rfl⟩⟩
  have hk12 := wfp_k hW hx ho
  generalize hk : kA P (e_D s) x = kk at hk12 yes ⊢
  match kk, hk12 with
  | 0, _ => exact q_switch (q := 190) rfl rfl (yes (by decide) (by decide) (by decide) (by decide))
  | 1, _ => exact q_switch (q := 190) rfl rfl (yes (by decide) (by decide) (by decide) (by decide))
  | 2, _ => exact q_switch (q := 190) rfl rfl (yes (by decide) (by decide) (by decide) (by decide))
  | 3, _ => exact q_switch (q := 190) rfl rfl (yes (by decide) (by decide) (by decide) (by decide))
  | 4, _ => exact q_switch (q := 190) rfl rfl (yes (by decide) (by decide) (by decide) (by decide))
  | 6, _ => exact q_switch (q := 190) rfl rfl (yes (by decide) (by decide) (by decide) (by decide))
  | 7, _ => exact q_switch (q := 190) rfl rfl (yes (by decide) (by decide) (by decide) (by decide))
  | 9, _ => exact q_switch (q := 190) rfl rfl (yes (by decide) (by decide) (by decide) (by decide))
  | 11, _ => exact q_switch (q := 190) rfl rfl (yes (by decide) (by decide) (by decide) (by decide))
  | 5, _ =>
    refine q_switch (q := 88) rfl rfl ?_
    obtain ⟨q4, eq⟩ := wfp_o hW hx ho (by unfold hasP; omega)
    obtain ⟨n9, en⟩ := wfp_n hW hx ho (by unfold hasN; omega)
    have hDp := e_Dp (s := s) q4
    refine q_lload_n rfl rfl rfl ?_
    refine q_iload rfl rfl rfl ?_
    rw [eq]
    refine q_cS rfl rfl (Or.inl rfl) rfl rfl trivial rfl rfl rfl rfl rfl (b_place q4) ?_
    rintro r _ _ ⟨rfl, rfl, rfl⟩
    show PQ (j_SL L) (j_SV xs) j_EX mm_X6_isAble 94 _ [.int (nI (e_D s (12 + oA P (e_D s) x)))] S n 0 0 _
    refine q_aload_n rfl rfl rfl ?_
    refine q_getf rfl rfl hm kM g0 ?_
    refine q_iload rfl rfl rfl ?_
    refine q_cV rfl rfl (Or.inl rfl) rfl rfl rfl rfl (by omega) k0 trivial rfl rfl rfl rfl rfl (p_numb hW hc hj hx hlt) ?_
    rintro r _ _ ⟨rfl, rfl, rfl⟩
    show PQ (j_SL L) (j_SV xs) j_EX mm_X6_isAble 103 _ [.int (pN P x (e_D s (4 * x))), .int (nI (e_D s (12 + oA P (e_D s) x)))] S n 0 0 _
    rw [en]
    refine q_icne rfl rfl (fun h => ?_) (fun h => ?_)
    · refine q_iconst rfl rfl ?_
      refine q_goto rfl ?_
      exact q_iret rfl rfl rfl ⟨rfl, rfl, Or.inl ⟨⟨ho, fun _ => (m_eq (by omega) (by omega)).mp h, fun h => absurd (hk.symm.trans h) (by decide), fun h => absurd (hk.symm.trans h) (by decide), fun h => absurd (hk.symm.trans h) (by decide)⟩, rfl⟩⟩
    · refine q_iconst rfl rfl ?_
      exact q_iret rfl rfl rfl ⟨rfl, rfl, Or.inr ⟨fun ha => h ((m_eq (by omega) (by omega)).mpr (ha.2.1 hk)), rfl⟩⟩
  | 8, _ =>
    refine q_switch (q := 112) rfl rfl ?_
    obtain ⟨q3, eq⟩ := wfp_l hW hx ho (by unfold hasL; omega)
    have hDo := e_Do (s := s) q3
    have y : pic = 4 ∨ e_D s (16 + oA P (e_D s) x) = 0 → PQ (j_SL L) (j_SV xs) j_EX mm_X6_isAble 129 [.ref m, .long s, pm_un, .int (nI x), .int mt, .int (nI (8 * x + e_D s (4 * x))), .int (pO P x (e_D s (4 * x))), pm_un] [] S n 0 0 (yn (ableP P pic (e_D s) x) S n) := by
      intro h
      refine q_iconst rfl rfl ?_
      refine q_goto rfl ?_
      exact q_iret rfl rfl rfl ⟨rfl, rfl, Or.inl ⟨⟨ho, fun h => absurd (hk.symm.trans h) (by decide), fun _ => h, fun h => absurd (hk.symm.trans h) (by decide), fun h => absurd (hk.symm.trans h) (by decide)⟩, rfl⟩⟩
    refine q_aload_n rfl rfl rfl ?_
    refine q_getf rfl rfl hm kM g1 ?_
    refine q_iconst rfl rfl ?_
    refine q_iceq rfl rfl (fun h => y (Or.inl ((m_eq (b := 4) (by omega) (by omega)).mp h))) (fun h4 => ?_)
    refine q_lload_n rfl rfl rfl ?_
    refine q_iload rfl rfl rfl ?_
    have y' := y
    rw [eq] at y' ⊢
    refine q_cS rfl rfl (Or.inl rfl) rfl rfl trivial rfl rfl rfl rfl rfl (b_owner q3) ?_
    rintro r _ _ ⟨rfl, rfl, rfl⟩
    show PQ (j_SL L) (j_SV xs) j_EX mm_X6_isAble 126 _ [.int (nI (e_D s (16 + oA P (e_D s) x)) - 1)] S n 0 0 _
    refine q_ifge rfl rfl (fun h => ?_) (fun h => y' (Or.inr ?_))
    · have h1 := (m_sub0 (by omega)).mp h
      refine q_iconst rfl rfl ?_
      refine q_iret rfl rfl rfl ⟨rfl, rfl, Or.inr ⟨fun ha => ?_, rfl⟩⟩
      rcases ha.2.2.1 hk with e | e
      · exact h4 (by rw [e]; rfl)
      · omega
    · rw [m_sub0 (by omega)] at h
      omega
  | 10, _ =>
    refine q_switch (q := 135) rfl rfl ?_
    obtain ⟨q3, eq⟩ := wfp_l hW hx ho (by unfold hasL; omega)
    have hDo := e_Do (s := s) q3
    have ya : ∀ w : Value, (e_D s (4 * x + 2) = 0 ∨ (e_D s (4 * x + 3) = 2 ∧ (pic = 4 ∨ e_D s (16 + oA P (e_D s) x) = 0))) → PQ (j_SL L) (j_SV xs) j_EX mm_X6_isAble 181 [.ref m, .long s, pm_un, .int (nI x), .int mt, .int (nI (8 * x + e_D s (4 * x))), .int (pO P x (e_D s (4 * x))), w] [] S n 0 0 (yn (ableP P pic (e_D s) x) S n) := by
      intro w h
      refine q_iconst rfl rfl ?_
      refine q_goto rfl ?_
      exact q_iret rfl rfl rfl ⟨rfl, rfl, Or.inl ⟨⟨ho, fun h => absurd (hk.symm.trans h) (by decide), fun h => absurd (hk.symm.trans h) (by decide), fun _ => h, fun h => absurd (hk.symm.trans h) (by decide)⟩, rfl⟩⟩
    have na : ∀ w : Value, ¬ (e_D s (4 * x + 2) = 0 ∨ (e_D s (4 * x + 3) = 2 ∧ (pic = 4 ∨ e_D s (16 + oA P (e_D s) x) = 0))) → PQ (j_SL L) (j_SV xs) j_EX mm_X6_isAble 185 [.ref m, .long s, pm_un, .int (nI x), .int mt, .int (nI (8 * x + e_D s (4 * x))), .int (pO P x (e_D s (4 * x))), w] [] S n 0 0 (yn (ableP P pic (e_D s) x) S n) := by
      intro w h
      refine q_iconst rfl rfl ?_
      exact q_iret rfl rfl rfl ⟨rfl, rfl, Or.inr ⟨fun ha => h (ha.2.2.2.1 hk), rfl⟩⟩
    have rest : ∀ w : Int32, (w = 0 ↔ ¬ e_D s (4 * x + 3) = 2) → PQ (j_SL L) (j_SV xs) j_EX mm_X6_isAble 149 [.ref m, .long s, pm_un, .int (nI x), .int mt, .int (nI (8 * x + e_D s (4 * x))), .int (pO P x (e_D s (4 * x))), pm_un] [.int w] S n 0 0 (yn (ableP P pic (e_D s) x) S n) := by
      intro w hw
      refine q_ist7 rfl rfl rfl rfl ?_
      refine q_lload_n rfl rfl rfl ?_
      refine q_iload_n rfl rfl rfl ?_
      refine q_cS rfl rfl (Or.inl rfl) rfl rfl trivial rfl rfl rfl rfl rfl (b_made (by omega)) ?_
      rintro r _ _ ⟨rfl, rfl, rfl⟩
      show PQ (j_SL L) (j_SV xs) j_EX mm_X6_isAble 156 _ [.int (nI (e_D s (4 * x + 2)))] S n 0 0 _
      refine q_ifeq rfl rfl (fun h => ya _ (Or.inl ((m_eq (b := 0) (by omega) (by omega)).mp h))) (fun h2 => ?_)
      have h2' : ¬ e_D s (4 * x + 2) = 0 := fun e => h2 (by rw [e]; rfl)
      refine q_iload rfl rfl rfl ?_
      refine q_ifeq rfl rfl (fun h => na _ (fun h9 => ?_)) (fun h3 => ?_)
      · rcases h9 with h9 | h9
        · exact h2' h9
        · exact hw.mp h h9.1
      have h3' : e_D s (4 * x + 3) = 2 := Classical.byContradiction (fun h9 => h3 (hw.mpr h9))
      refine q_aload_n rfl rfl rfl ?_
      refine q_getf rfl rfl hm kM g1 ?_
      refine q_iconst rfl rfl ?_
      refine q_iceq rfl rfl (fun h => ya _ (Or.inr ⟨h3', Or.inl ((m_eq (b := 4) (by omega) (by omega)).mp h)⟩)) (fun h4 => ?_)
      have h4' : ¬ pic = 4 := fun e => h4 (by rw [e]; rfl)
      refine q_lload_n rfl rfl rfl ?_
      refine q_iload rfl rfl rfl ?_
      have ya' := ya
      have na' := na
      rw [eq] at ya' na' ⊢
      refine q_cS rfl rfl (Or.inl rfl) rfl rfl trivial rfl rfl rfl rfl rfl (b_owner q3) ?_
      rintro r _ _ ⟨rfl, rfl, rfl⟩
      show PQ (j_SL L) (j_SV xs) j_EX mm_X6_isAble 178 _ [.int (nI (e_D s (16 + oA P (e_D s) x)) - 1)] S n 0 0 _
      refine q_ifge rfl rfl (fun h => na' _ (fun h9 => ?_)) (fun h => ya' _ (Or.inr ⟨h3', Or.inr ?_⟩))
      · have h1 := (m_sub0 (by omega)).mp h
        omega
      · rw [m_sub0 (by omega)] at h
        omega
    refine q_lload_n rfl rfl rfl ?_
    refine q_iload_n rfl rfl rfl ?_
    refine q_cS rfl rfl (Or.inl rfl) rfl rfl trivial rfl rfl rfl rfl rfl (b_sleep (by omega)) ?_
    rintro r _ _ ⟨rfl, rfl, rfl⟩
    show PQ (j_SL L) (j_SV xs) j_EX mm_X6_isAble 140 _ [.int (nI (e_D s (4 * x + 3)))] S n 0 0 _
    refine q_iconst rfl rfl ?_
    refine q_icne rfl rfl (fun h => ?_) (fun h => ?_)
    · refine q_iconst rfl rfl ?_
      refine q_goto rfl ?_
      exact rest 1 ⟨fun h => absurd h (by decide), fun h9 => absurd ((m_eq (b := 2) (by omega) (by omega)).mp h) h9⟩
    · refine q_iconst rfl rfl ?_
      exact rest 0 ⟨fun _ e => h (by rw [e]; rfl), fun _ => rfl⟩
  | 12, _ =>
    refine q_switch (q := 187) rfl rfl ?_
    refine q_iload rfl rfl rfl ?_
    rcases hmt with ⟨rfl, hmm⟩ | ⟨rfl, hmm⟩
    · exact q_iret rfl rfl rfl ⟨rfl, rfl, Or.inl ⟨⟨ho, fun h => absurd (hk.symm.trans h) (by decide), fun h => absurd (hk.symm.trans h) (by decide), fun h => absurd (hk.symm.trans h) (by decide), fun _ => hmm⟩, rfl⟩⟩
    · exact q_iret rfl rfl rfl ⟨rfl, rfl, Or.inr ⟨fun ha => hmm (ha.2.2.2.2 hk), rfl⟩⟩
  | kk + 13, h => omega
set_option maxHeartbeats 4000000 in
theorem m_meet (hW : WFP P) (hc : c + 6 ≤ n) (hm : m < n) (hj : JPc c P S) (hJ : JMc m c pic S) (hp5 : pic < 5) : PM (j_SL L) (j_SV xs) j_EX mm_X6_allMeet [.ref m, .long s] S n (yn (meetP P (e_D s)) S n) := by
  have hH := hW.2.1
  obtain ⟨gs, kM, g0, g1⟩ := hJ
  obtain ⟨fs, k0, f0, f1, fa, k1, h1⟩ := p_obj hj
  change PQ (j_SL L) (j_SV xs) j_EX mm_X6_allMeet 0 [.ref m, .long s, pm_un, pm_un, pm_un] [] S n 0 0 _
  have key : ∀ q x : Nat, x + q = pH P → (∀ y, y < x → ovr P (e_D s) y ∨ kA P (e_D s) y = 12) → ∀ w : Value, PQ (j_SL L) (j_SV xs) j_EX mm_X6_allMeet 2 [.ref m, .long s, pm_un, .int (nI x), w] [] S n 0 0 (yn (meetP P (e_D s)) S n) := by
    intro q
    induction q with
    | zero =>
      intro x hx hy w
      refine q_iload_n rfl rfl rfl ?_
      refine q_aload_n rfl rfl rfl ?_
      refine q_getf rfl rfl hm kM g0 ?_
      refine q_getf rfl rfl (by omega) k0 f0 ?_
      refine q_icge rfl rfl (fun _ => ?_) (fun h => absurd ((m_le (by omega) (by omega)).mpr (by omega)) h)
      refine q_iconst rfl rfl ?_
      exact q_iret rfl rfl rfl ⟨rfl, rfl, Or.inl ⟨fun y h => hy y (by omega), rfl⟩⟩
    | succ q ih =>
      intro x hxq hy w
      have hx : x < pH P := by omega
      have hD4 := e_D4 (s := s) (x := x) (by omega)
      refine q_iload_n rfl rfl rfl ?_
      refine q_aload_n rfl rfl rfl ?_
      refine q_getf rfl rfl hm kM g0 ?_
      refine q_getf rfl rfl (by omega) k0 f0 ?_
      refine q_icge rfl rfl (fun h => absurd ((m_le (by omega) (by omega)).mp h) (by omega)) (fun _ => ?_)
      have next : (ovr P (e_D s) x ∨ kA P (e_D s) x = 12) → ∀ w : Value, PQ (j_SL L) (j_SV xs) j_EX mm_X6_allMeet 49 [.ref m, .long s, pm_un, .int (nI x), w] [] S n 0 0 (yn (meetP P (e_D s)) S n) := by
        intro h w
        refine q_inc3 rfl rfl rfl rfl ?_
        refine q_goto rfl ?_
        rw [show nI x + 1 = nI (x + 1) from nI_add x 1]
        refine ih (x + 1) (by omega) (fun y hy' => ?_) w
        by_cases e : y = x
        · rw [e]
          exact h
        · exact hy y (by omega)
      refine q_aload_n rfl rfl rfl ?_
      refine q_getf rfl rfl hm kM g0 ?_
      refine q_iload_n rfl rfl rfl ?_
      refine q_lload_n rfl rfl rfl ?_
      refine q_iload_n rfl rfl rfl ?_
      refine q_cS rfl rfl (Or.inl rfl) rfl rfl trivial rfl rfl rfl rfl rfl (b_position (by omega)) ?_
      rintro r _ _ ⟨rfl, rfl, rfl⟩
      show PQ (j_SL L) (j_SV xs) j_EX mm_X6_allMeet 23 [.ref m, .long s, pm_un, .int (nI x), w] [.int (nI (e_D s (4 * x))), .int (nI x), .ref c] S n 0 0 _
      refine q_cV rfl rfl (Or.inl rfl) rfl rfl rfl rfl (by omega) k0 trivial rfl rfl rfl rfl rfl (p_cell hW hc hj hx (e_D4 (by omega)).1) ?_
      rintro r _ _ ⟨rfl, rfl, hr⟩
      rcases hr with ⟨hlt, rfl⟩ | ⟨hge, rfl⟩
      rotate_left
      · show PQ (j_SL L) (j_SV xs) j_EX mm_X6_allMeet 26 _ [.int (-1)] S n 0 0 _
        refine q_ist4 rfl rfl rfl rfl ?_
        refine q_iload rfl rfl rfl ?_
        exact q_iflt rfl rfl (fun _ => next (Or.inl hge) _) (fun h => absurd (by decide) h)
      show PQ (j_SL L) (j_SV xs) j_EX mm_X6_allMeet 26 _ [.int (nI (8 * x + e_D s (4 * x)))] S n 0 0 _
      have ho : ¬ ovr P (e_D s) x := by unfold ovr; omega
      have hk12 := wfp_k hW hx ho
      refine q_ist4 rfl rfl rfl rfl ?_
      refine q_iload rfl rfl rfl ?_
      refine q_iflt rfl rfl (fun h => absurd h (m_n0 (by omega))) (fun _ => ?_)
      refine q_aload_n rfl rfl rfl ?_
      refine q_getf rfl rfl hm kM g0 ?_
      refine q_iload rfl rfl rfl ?_
      refine q_cV rfl rfl (Or.inl rfl) rfl rfl rfl rfl (by omega) k0 trivial rfl rfl rfl rfl rfl (p_kind hW hc hj hx hlt) ?_
      rintro r _ _ ⟨rfl, rfl, rfl⟩
      show PQ (j_SL L) (j_SV xs) j_EX mm_X6_allMeet 42 _ [.int (nI (kA P (e_D s) x))] S n 0 0 _
      refine q_bipush rfl rfl ?_
      refine q_iceq rfl rfl (fun h => next (Or.inr ((m_eq (b := 12) (by omega) (by omega)).mp h)) _) (fun h => ?_)
      refine q_iconst rfl rfl ?_
      refine q_iret rfl rfl rfl ⟨rfl, rfl, Or.inr ⟨fun hmm => ?_, rfl⟩⟩
      rcases hmm x hx with h9 | h9
      · exact ho h9
      · exact h (by rw [h9]; rfl)
  refine q_iconst rfl rfl ?_
  refine q_ist3n rfl rfl rfl rfl ?_
  exact key (pH P) 0 (by omega) (fun y h => absurd h (by omega)) _
end MC
