/-! race: class and reference -/
section JD
variable {θ : Th} {P : PG} {S S' : Nat → pm_E} {n k c m pic x y : Nat} {s : Int64} {D : Nat → Nat} {L : Nat} {xs : Nat → Int32}
def tchP (P : PG) (D : Nat → Nat) (x : Nat) : Prop := ¬ ovr P D x ∧ hasP (kA P D x) ∧ ¬ (kA P D x = 6 ∧ D (4 * x + 2) = 1)
def wrP (P : PG) (D : Nat → Nat) (x : Nat) : Prop := ¬ ovr P D x ∧ (kA P D x = 0 ∨ kA P D x = 2 ∨ kA P D x = 7 ∨ (kA P D x = 6 ∧ D (4 * x + 2) = 2))
def rcP (P : PG) (D : Nat → Nat) (x y : Nat) : Prop := ableP P 0 D x ∧ ableP P 0 D y ∧ tchP P D x ∧ tchP P D y ∧ oA P D x = oA P D y ∧ (wrP P D x ∨ wrP P D y)
theorem x_opv1 : ∀ k : Fin 13, (jv0.getD k.val 0 = 1) ↔ (k.val = 0 ∨ k.val = 1 ∨ k.val = 2 ∨ k.val = 5 ∨ k.val = 6 ∨ k.val = 7) := by decide +kernel
theorem c_op1 (hk : k ≤ 12) : PM (j_SL L) (j_SV xs) j_EX mm_X11_operandOf [.int (nI k)] S n (fun r S' n' => S = S' ∧ n = n' ∧ ∃ v : Int32, r = some (.int v) ∧ (v = 1 ↔ hasP k)) := by
  change PQ (j_SL L) (j_SV xs) j_EX mm_X11_operandOf 0 [.int (nI k)] [] S n 0 0 _
  refine q_iload_n rfl rfl rfl ?_
  refine q_bipush rfl rfl ?_
  refine q_cS rfl rfl (Or.inl rfl) rfl rfl trivial rfl rfl rfl rfl rfl c_wi ?_
  rintro r _ _ ⟨rfl, rfl, hr⟩
  rcases hr with ⟨q, rfl⟩ | ⟨q, rfl⟩
  · exact (c_out q (n_in (b := 13) rfl (by decide) (by omega))).elim
  show PQ (j_SL L) (j_SV xs) j_EX mm_X11_operandOf 6 [.int (nI k)] [.int 1] S n 0 0 _
  refine q_ifeq rfl rfl (fun c => absurd c (by decide)) (fun _ => ?_)
  refine q_gets rfl rfl ?_
  refine q_iload_n rfl rfl rfl ?_
  refine q_ialdF rfl rfl (q_inN (m := 13) (show k < 13 by omega) (by decide)) ?_
  refine q_goto rfl ?_
  refine q_iret rfl rfl trivial ⟨rfl, rfl, _, rfl, ?_⟩
  rw [nI_clamp (by omega)]
  show jv0.getD k 0 = 1 ↔ _
  unfold hasP
  exact x_opv1 ⟨k, by omega⟩
theorem c_opm : PM (j_SL L) (j_SV xs) j_EX mm_X11_operandOf [.int (-1)] S n (fun r S' n' => S = S' ∧ n = n' ∧ r = some (.int 0)) := by
  change PQ (j_SL L) (j_SV xs) j_EX mm_X11_operandOf 0 [.int (-1)] [] S n 0 0 _
  refine q_iload_n rfl rfl rfl ?_
  refine q_bipush rfl rfl ?_
  refine q_cS rfl rfl (Or.inl rfl) rfl rfl trivial rfl rfl rfl rfl rfl c_wi ?_
  rintro r _ _ ⟨rfl, rfl, hr⟩
  rcases hr with ⟨q, rfl⟩ | ⟨q, rfl⟩
  · show PQ (j_SL L) (j_SV xs) j_EX mm_X11_operandOf 6 [.int (-1)] [.int 0] S n 0 0 _
    refine q_ifeq rfl rfl (fun _ => ?_) (fun c => absurd rfl c)
    refine q_iconst rfl rfl ?_
    exact q_iret rfl rfl trivial ⟨rfl, rfl, rfl⟩
  · exact absurd q.1 (by decide)
set_option maxHeartbeats 4000000 in
theorem m_tch (hW : WFP P) (hc : c + 6 ≤ n) (hm : m < n) (hj : JPc c P S) (hJ : JMc m c pic S) (hx : x < pH P) : PM (j_SL L) (j_SV xs) j_EX mm_X6_touched [.ref m, .long s, .int (nI x)] S n (fun r S' n' => S = S' ∧ n = n' ∧ ((tchP P (e_D s) x ∧ r = some (.int (nI (oA P (e_D s) x)))) ∨ (¬ tchP P (e_D s) x ∧ r = some (.int (-1))))) := by
  have hH := hW.2.1
  obtain ⟨gs, kM, g0, g1⟩ := hJ
  obtain ⟨fs, k0, f0, f1, fa, k1, h1⟩ := p_obj hj
  have hD4 := e_D4 (s := s) (x := x) (by omega)
  change PQ (j_SL L) (j_SV xs) j_EX mm_X6_touched 0 [.ref m, .long s, pm_un, .int (nI x), pm_un, pm_un, pm_un] [] S n 0 0 _
  refine q_aload_n rfl rfl rfl ?_
  refine q_getf rfl rfl hm kM g0 ?_
  refine q_iload_n rfl rfl rfl ?_
  refine q_lload_n rfl rfl rfl ?_
  refine q_iload_n rfl rfl rfl ?_
  refine q_cS rfl rfl (Or.inl rfl) rfl rfl trivial rfl rfl rfl rfl rfl (b_position (by omega)) ?_
  rintro r _ _ ⟨rfl, rfl, rfl⟩
  show PQ (j_SL L) (j_SV xs) j_EX mm_X6_touched 10 [.ref m, .long s, pm_un, .int (nI x), pm_un, pm_un, pm_un] [.int (nI (e_D s (4 * x))), .int (nI x), .ref c] S n 0 0 _
  refine q_cV rfl rfl (Or.inl rfl) rfl rfl rfl rfl (by omega) k0 trivial rfl rfl rfl rfl rfl (p_cell hW hc hj hx (e_D4 (by omega)).1) ?_
  rintro r _ _ ⟨rfl, rfl, hr⟩
  rcases hr with ⟨hlt, rfl⟩ | ⟨hge, rfl⟩
  rotate_left
  · show PQ (j_SL L) (j_SV xs) j_EX mm_X6_touched 13 [.ref m, .long s, pm_un, .int (nI x), pm_un, pm_un, pm_un] [.int (-1)] S n 0 0 _
    refine q_ist4 rfl rfl rfl rfl ?_
    refine q_aload_n rfl rfl rfl ?_
    refine q_getf rfl rfl hm kM g0 ?_
    refine q_iload rfl rfl rfl ?_
    refine q_cV rfl rfl (Or.inl rfl) rfl rfl rfl rfl (by omega) k0 trivial rfl rfl rfl rfl rfl (p_kindm hc hj) ?_
    rintro r _ _ ⟨rfl, rfl, rfl⟩
    show PQ (j_SL L) (j_SV xs) j_EX mm_X6_touched 24 [.ref m, .long s, pm_un, .int (nI x), .int (-1), pm_un, pm_un] [.int (-1)] S n 0 0 _
    refine q_ist5 rfl rfl rfl rfl ?_
    refine q_iload rfl rfl rfl ?_
    refine q_bipush rfl rfl ?_
    refine q_icne rfl rfl (fun h => absurd h (by decide)) (fun _ => ?_)
    refine q_iconst rfl rfl ?_
    refine q_ist6 rfl rfl rfl rfl ?_
    refine q_iload rfl rfl rfl ?_
    refine q_cS rfl rfl (Or.inr rfl) rfl rfl trivial rfl rfl rfl rfl rfl c_opm ?_
    rintro r _ _ ⟨rfl, rfl, rfl⟩
    show PQ (j_SL L) (j_SV xs) j_EX mm_X6_touched 54 [.ref m, .long s, pm_un, .int (nI x), .int (-1), .int (-1), .int 0] [.int 0] S n 0 0 _
    refine q_iconst rfl rfl ?_
    refine q_icne rfl rfl (fun h => absurd h (by decide)) (fun _ => ?_)
    refine q_iconst rfl rfl ?_
    refine q_goto rfl ?_
    exact q_iret rfl rfl trivial ⟨rfl, rfl, Or.inr ⟨fun h => h.1 hge, rfl⟩⟩
  have ho : ¬ ovr P (e_D s) x := by unfold ovr; omega
  show PQ (j_SL L) (j_SV xs) j_EX mm_X6_touched 13 [.ref m, .long s, pm_un, .int (nI x), pm_un, pm_un, pm_un] [.int (nI (8 * x + e_D s (4 * x)))] S n 0 0 _
  refine q_ist4 rfl rfl rfl rfl ?_
  refine q_aload_n rfl rfl rfl ?_
  refine q_getf rfl rfl hm kM g0 ?_
  refine q_iload rfl rfl rfl ?_
  refine q_cV rfl rfl (Or.inl rfl) rfl rfl rfl rfl (by omega) k0 trivial rfl rfl rfl rfl rfl (p_kind hW hc hj hx hlt) ?_
  rintro r _ _ ⟨rfl, rfl, rfl⟩
  have hk12 := wfp_k hW hx ho
  show PQ (j_SL L) (j_SV xs) j_EX mm_X6_touched 24 [.ref m, .long s, pm_un, .int (nI x), .int (nI (8 * x + e_D s (4 * x))), pm_un, pm_un] [.int (nI (kA P (e_D s) x))] S n 0 0 _
  have no63 : ∀ b : Value, ¬ tchP P (e_D s) x → PQ (j_SL L) (j_SV xs) j_EX mm_X6_touched 63 [.ref m, .long s, pm_un, .int (nI x), .int (nI (8 * x + e_D s (4 * x))), .int (nI (kA P (e_D s) x)), b] [] S n 0 0 (fun r S' n' => S = S' ∧ n = n' ∧ ((tchP P (e_D s) x ∧ r = some (.int (nI (oA P (e_D s) x)))) ∨ (¬ tchP P (e_D s) x ∧ r = some (.int (-1))))) := by
    intro b h
    refine q_iconst rfl rfl ?_
    refine q_goto rfl ?_
    exact q_iret rfl rfl trivial ⟨rfl, rfl, Or.inr ⟨h, rfl⟩⟩
  have tail : ∀ b : Int32, ((b = 1 ∧ (kA P (e_D s) x = 6 ∧ e_D s (4 * x + 2) = 1)) ∨ (b = 0 ∧ ¬ (kA P (e_D s) x = 6 ∧ e_D s (4 * x + 2) = 1))) → PQ (j_SL L) (j_SV xs) j_EX mm_X6_touched 49 [.ref m, .long s, pm_un, .int (nI x), .int (nI (8 * x + e_D s (4 * x))), .int (nI (kA P (e_D s) x)), .int b] [] S n 0 0 (fun r S' n' => S = S' ∧ n = n' ∧ ((tchP P (e_D s) x ∧ r = some (.int (nI (oA P (e_D s) x)))) ∨ (¬ tchP P (e_D s) x ∧ r = some (.int (-1))))) := by
    intro b hb
    refine q_iload rfl rfl rfl ?_
    refine q_cS rfl rfl (Or.inr rfl) rfl rfl trivial rfl rfl rfl rfl rfl (c_op1 hk12) ?_
    rintro r _ _ ⟨rfl, rfl, v, rfl, hv⟩
    show PQ (j_SL L) (j_SV xs) j_EX mm_X6_touched 54 [.ref m, .long s, pm_un, .int (nI x), .int (nI (8 * x + e_D s (4 * x))), .int (nI (kA P (e_D s) x)), .int b] [.int v] S n 0 0 _
    refine q_iconst rfl rfl ?_
    refine q_icne rfl rfl (fun h => ?_) (fun h => no63 _ (fun h9 => h (hv.mpr h9.2.1)))
    refine q_iload rfl rfl rfl ?_
    rcases hb with ⟨rfl, hi⟩ | ⟨rfl, hi⟩
    · exact q_ifeq rfl rfl (fun c => absurd c (by decide)) (fun _ => no63 _ (fun h9 => h9.2.2 hi))
    refine q_ifeq rfl rfl (fun _ => ?_) (fun c => absurd rfl c)
    refine q_aload_n rfl rfl rfl ?_
    refine q_getf rfl rfl hm kM g0 ?_
    refine q_iload rfl rfl rfl ?_
    refine q_cV rfl rfl (Or.inl rfl) rfl rfl rfl rfl (by omega) k0 trivial rfl rfl rfl rfl rfl (p_oper hW hc hj hx hlt) ?_
    rintro r _ _ ⟨rfl, rfl, rfl⟩
    show PQ (j_SL L) (j_SV xs) j_EX mm_X6_touched 76 [.ref m, .long s, pm_un, .int (nI x), .int (nI (8 * x + e_D s (4 * x))), .int (nI (kA P (e_D s) x)), .int 0] [.int (pO P x (e_D s (4 * x)))] S n 0 0 _
    rw [(wfp_o hW hx ho (hv.mp h)).2]
    exact q_iret rfl rfl trivial ⟨rfl, rfl, Or.inl ⟨⟨ho, hv.mp h, hi⟩, rfl⟩⟩
  refine q_ist5 rfl rfl rfl rfl ?_
  refine q_iload rfl rfl rfl ?_
  refine q_bipush rfl rfl ?_
  refine q_icne rfl rfl (fun h => ?_) (fun h => ?_)
  · have h6 : kA P (e_D s) x = 6 := (m_eq (b := 6) (by omega) (by decide)).mp h
    refine q_lload_n rfl rfl rfl ?_
    refine q_iload_n rfl rfl rfl ?_
    refine q_cS rfl rfl (Or.inl rfl) rfl rfl trivial rfl rfl rfl rfl rfl (b_made (h := x) (by omega)) ?_
    rintro r _ _ ⟨rfl, rfl, rfl⟩
    show PQ (j_SL L) (j_SV xs) j_EX mm_X6_touched 38 [.ref m, .long s, pm_un, .int (nI x), .int (nI (8 * x + e_D s (4 * x))), .int (nI (kA P (e_D s) x)), pm_un] [.int (nI (e_D s (4 * x + 2)))] S n 0 0 _
    refine q_iconst rfl rfl ?_
    refine q_icne rfl rfl (fun h2 => ?_) (fun h2 => ?_)
    · have g2 : e_D s (4 * x + 2) = 1 := (m_eq (b := 1) (by omega) (by decide)).mp h2
      refine q_iconst rfl rfl ?_
      refine q_goto rfl ?_
      refine q_ist6 rfl rfl rfl rfl ?_
      exact tail 1 (Or.inl ⟨rfl, h6, g2⟩)
    · refine q_iconst rfl rfl ?_
      refine q_ist6 rfl rfl rfl rfl ?_
      exact tail 0 (Or.inr ⟨rfl, fun h9 => h2 (by rw [h9.2]; rfl)⟩)
  · refine q_iconst rfl rfl ?_
    refine q_ist6 rfl rfl rfl rfl ?_
    exact tail 0 (Or.inr ⟨rfl, fun h9 => h (by rw [h9.1]; rfl)⟩)
set_option maxHeartbeats 4000000 in
theorem m_wr (hW : WFP P) (hc : c + 6 ≤ n) (hm : m < n) (hj : JPc c P S) (hJ : JMc m c pic S) (hx : x < pH P) : PM (j_SL L) (j_SV xs) j_EX mm_X6_writes [.ref m, .long s, .int (nI x)] S n (yn (wrP P (e_D s) x) S n) := by
  have hH := hW.2.1
  obtain ⟨gs, kM, g0, g1⟩ := hJ
  obtain ⟨fs, k0, f0, f1, fa, k1, h1⟩ := p_obj hj
  have hD4 := e_D4 (s := s) (x := x) (by omega)
  change PQ (j_SL L) (j_SV xs) j_EX mm_X6_writes 0 [.ref m, .long s, pm_un, .int (nI x), pm_un, pm_un] [] S n 0 0 _
  refine q_aload_n rfl rfl rfl ?_
  refine q_getf rfl rfl hm kM g0 ?_
  refine q_aload_n rfl rfl rfl ?_
  refine q_getf rfl rfl hm kM g0 ?_
  refine q_iload_n rfl rfl rfl ?_
  refine q_lload_n rfl rfl rfl ?_
  refine q_iload_n rfl rfl rfl ?_
  refine q_cS rfl rfl (Or.inl rfl) rfl rfl trivial rfl rfl rfl rfl rfl (b_position (by omega)) ?_
  rintro r _ _ ⟨rfl, rfl, rfl⟩
  show PQ (j_SL L) (j_SV xs) j_EX mm_X6_writes 14 [.ref m, .long s, pm_un, .int (nI x), pm_un, pm_un] [.int (nI (e_D s (4 * x))), .int (nI x), .ref c, .ref c] S n 0 0 _
  refine q_cV rfl rfl (Or.inl rfl) rfl rfl rfl rfl (by omega) k0 trivial rfl rfl rfl rfl rfl (p_cell hW hc hj hx (e_D4 (by omega)).1) ?_
  rintro r _ _ ⟨rfl, rfl, hr⟩
  rcases hr with ⟨hlt, rfl⟩ | ⟨hge, rfl⟩
  rotate_left
  · show PQ (j_SL L) (j_SV xs) j_EX mm_X6_writes 17 [.ref m, .long s, pm_un, .int (nI x), pm_un, pm_un] [.int (-1), .ref c] S n 0 0 _
    refine q_cV rfl rfl (Or.inl rfl) rfl rfl rfl rfl (by omega) k0 trivial rfl rfl rfl rfl rfl (p_kindm hc hj) ?_
    rintro r _ _ ⟨rfl, rfl, rfl⟩
    show PQ (j_SL L) (j_SV xs) j_EX mm_X6_writes 20 [.ref m, .long s, pm_un, .int (nI x), pm_un, pm_un] [.int (-1)] S n 0 0 _
    refine q_ist4 rfl rfl rfl rfl ?_
    refine q_iload rfl rfl rfl ?_
    refine q_bipush rfl rfl ?_
    refine q_icne rfl rfl (fun h => absurd h (by decide)) (fun _ => ?_)
    refine q_iconst rfl rfl ?_
    refine q_ist5 rfl rfl rfl rfl ?_
    refine q_iload rfl rfl rfl ?_
    refine q_ifeq rfl rfl (fun h => absurd h (by decide)) (fun _ => ?_)
    refine q_iload rfl rfl rfl ?_
    refine q_iconst rfl rfl ?_
    refine q_iceq rfl rfl (fun h => absurd h (by decide)) (fun _ => ?_)
    refine q_iload rfl rfl rfl ?_
    refine q_bipush rfl rfl ?_
    refine q_iceq rfl rfl (fun h => absurd h (by decide)) (fun _ => ?_)
    refine q_iload rfl rfl rfl ?_
    refine q_ifeq rfl rfl (fun _ => ?_) (fun h => absurd rfl h)
    refine q_iconst rfl rfl ?_
    exact q_iret rfl rfl rfl ⟨rfl, rfl, Or.inr ⟨fun h => h.1 hge, rfl⟩⟩
  have ho : ¬ ovr P (e_D s) x := by unfold ovr; omega
  show PQ (j_SL L) (j_SV xs) j_EX mm_X6_writes 17 [.ref m, .long s, pm_un, .int (nI x), pm_un, pm_un] [.int (nI (8 * x + e_D s (4 * x))), .ref c] S n 0 0 _
  refine q_cV rfl rfl (Or.inl rfl) rfl rfl rfl rfl (by omega) k0 trivial rfl rfl rfl rfl rfl (p_kind hW hc hj hx hlt) ?_
  rintro r _ _ ⟨rfl, rfl, rfl⟩
  have hk12 := wfp_k hW hx ho
  show PQ (j_SL L) (j_SV xs) j_EX mm_X6_writes 20 [.ref m, .long s, pm_un, .int (nI x), pm_un, pm_un] [.int (nI (kA P (e_D s) x))] S n 0 0 _
  have y68 : ∀ b : Value, wrP P (e_D s) x → PQ (j_SL L) (j_SV xs) j_EX mm_X6_writes 68 [.ref m, .long s, pm_un, .int (nI x), .int (nI (kA P (e_D s) x)), b] [] S n 0 0 (yn (wrP P (e_D s) x) S n) := by
    intro b h
    refine q_iconst rfl rfl ?_
    refine q_goto rfl ?_
    exact q_iret rfl rfl rfl ⟨rfl, rfl, Or.inl ⟨h, rfl⟩⟩
  have tail : ∀ b : Int32, ((b = 1 ∧ (kA P (e_D s) x = 6 ∧ e_D s (4 * x + 2) = 2)) ∨ (b = 0 ∧ ¬ (kA P (e_D s) x = 6 ∧ e_D s (4 * x + 2) = 2))) → PQ (j_SL L) (j_SV xs) j_EX mm_X6_writes 45 [.ref m, .long s, pm_un, .int (nI x), .int (nI (kA P (e_D s) x)), .int b] [] S n 0 0 (yn (wrP P (e_D s) x) S n) := by
    intro b hb
    refine q_iload rfl rfl rfl ?_
    refine q_ifeq rfl rfl (fun h => y68 _ ⟨ho, Or.inl ((m_eq (b := 0) (by omega) (by decide)).mp h)⟩) (fun h0 => ?_)
    refine q_iload rfl rfl rfl ?_
    refine q_iconst rfl rfl ?_
    refine q_iceq rfl rfl (fun h => y68 _ ⟨ho, Or.inr (Or.inl ((m_eq (b := 2) (by omega) (by decide)).mp h))⟩) (fun h2 => ?_)
    refine q_iload rfl rfl rfl ?_
    refine q_bipush rfl rfl ?_
    refine q_iceq rfl rfl (fun h => y68 _ ⟨ho, Or.inr (Or.inr (Or.inl ((m_eq (b := 7) (by omega) (by decide)).mp h)))⟩) (fun h7 => ?_)
    refine q_iload rfl rfl rfl ?_
    rcases hb with ⟨rfl, hi⟩ | ⟨rfl, hi⟩
    · exact q_ifeq rfl rfl (fun c => absurd c (by decide)) (fun _ => y68 _ ⟨ho, Or.inr (Or.inr (Or.inr hi))⟩)
    refine q_ifeq rfl rfl (fun _ => ?_) (fun c => absurd rfl c)
    refine q_iconst rfl rfl ?_
    refine q_iret rfl rfl rfl ⟨rfl, rfl, Or.inr ⟨fun h => ?_, rfl⟩⟩
    rcases h.2 with e | e | e | e
    · exact h0 (by rw [e]; rfl)
    · exact h2 (by rw [e]; rfl)
    · exact h7 (by rw [e]; rfl)
    · exact hi e
  refine q_ist4 rfl rfl rfl rfl ?_
  refine q_iload rfl rfl rfl ?_
  refine q_bipush rfl rfl ?_
  refine q_icne rfl rfl (fun h => ?_) (fun h => ?_)
  · have h6 : kA P (e_D s) x = 6 := (m_eq (b := 6) (by omega) (by decide)).mp h
    refine q_lload_n rfl rfl rfl ?_
    refine q_iload_n rfl rfl rfl ?_
    refine q_cS rfl rfl (Or.inl rfl) rfl rfl trivial rfl rfl rfl rfl rfl (b_made (h := x) (by omega)) ?_
    rintro r _ _ ⟨rfl, rfl, rfl⟩
    show PQ (j_SL L) (j_SV xs) j_EX mm_X6_writes 34 [.ref m, .long s, pm_un, .int (nI x), .int (nI (kA P (e_D s) x)), pm_un] [.int (nI (e_D s (4 * x + 2)))] S n 0 0 _
    refine q_iconst rfl rfl ?_
    refine q_icne rfl rfl (fun h2 => ?_) (fun h2 => ?_)
    · have g2 : e_D s (4 * x + 2) = 2 := (m_eq (b := 2) (by omega) (by decide)).mp h2
      refine q_iconst rfl rfl ?_
      refine q_goto rfl ?_
      refine q_ist5 rfl rfl rfl rfl ?_
      exact tail 1 (Or.inl ⟨rfl, h6, g2⟩)
    · refine q_iconst rfl rfl ?_
      refine q_ist5 rfl rfl rfl rfl ?_
      exact tail 0 (Or.inr ⟨rfl, fun h9 => h2 (by rw [h9.2]; rfl)⟩)
  · refine q_iconst rfl rfl ?_
    refine q_ist5 rfl rfl rfl rfl ?_
    exact tail 0 (Or.inr ⟨rfl, fun h9 => h (by rw [h9.1]; rfl)⟩)
theorem bm_and6 : ∀ a0 a1 a2 c0 c1 c2 : Bool, nI ((if a0 then 1 else 0) + ((if a1 then 2 else 0) + (if a2 then 4 else 0))) &&& nI ((if c0 then 1 else 0) + ((if c1 then 2 else 0) + (if c2 then 4 else 0))) = nI ((if (a0 && c0) then 1 else 0) + ((if (a1 && c1) then 2 else 0) + (if (a2 && c2) then 4 else 0))) := by decide
theorem bm_and (b c : Nat → Bool) : nI (bm b) &&& nI (bm c) = nI (bm (fun q => b q && c q)) := bm_and6 (b 0) (b 1) (b 2) (c 0) (c 1) (c 2)
theorem bm_inj {b c : Nat → Bool} (h : bm b = bm c) : b 0 = c 0 ∧ b 1 = c 1 ∧ b 2 = c 2 := by
  unfold bm at h
  revert h
  cases b 0 <;> cases b 1 <;> cases b 2 <;> cases c 0 <;> cases c 1 <;> cases c 2 <;> decide
theorem bm_sub {b c : Nat → Bool} : nI (bm b) &&& nI (bm c) = nI (bm c) ↔ ∀ q, q < 3 → c q = true → b q = true := by
  rw [bm_and]
  have h1 := bm_lt (fun q => b q && c q)
  have h2 := bm_lt c
  constructor
  · intro h q hq hc
    obtain ⟨e0, e1, e2⟩ := bm_inj ((m_eq (by omega) (by omega)).mp h)
    match q, hq with
    | 0, _ => rw [hc, Bool.and_true] at e0; exact e0
    | 1, _ => rw [hc, Bool.and_true] at e1; exact e1
    | 2, _ => rw [hc, Bool.and_true] at e2; exact e2
    | q + 3, hq => omega
  · intro h
    have e : ∀ q, q < 3 → (b q && c q) = c q := fun q hq => by
      cases hc : c q
      · rw [Bool.and_false]
      · rw [h q hq hc]
        rfl
    unfold bm
    simp only [e 0 (by decide), e 1 (by decide), e 2 (by decide)]
set_option maxHeartbeats 4000000 in
theorem m_race (hW : WFP P) (hc : c + 6 ≤ n) (hm : m < n) (hj : JPc c P S) (hJ : JMc m c 0 S) (hx : x < pH P) (hy : y < pH P) (hxy : x ≠ y) : PM (j_SL L) (j_SV xs) j_EX mm_X6_races [.ref m, .long s, .int (nI x), .int (nI y)] S n (yn (rcP P (e_D s) x y) S n) := by
  have hH := hW.2.1
  have hJ' := hJ
  obtain ⟨gs, kM, g0, g1⟩ := hJ
  change PQ (j_SL L) (j_SV xs) j_EX mm_X6_races 0 [.ref m, .long s, pm_un, .int (nI x), .int (nI y), pm_un, pm_un, pm_un] [] S n 0 0 _
  have no25 : ∀ a b c : Value, ¬ rcP P (e_D s) x y → PQ (j_SL L) (j_SV xs) j_EX mm_X6_races 25 [.ref m, .long s, pm_un, .int (nI x), .int (nI y), a, b, c] [] S n 0 0 (yn (rcP P (e_D s) x y) S n) := by
    intro a b c h
    refine q_iconst rfl rfl ?_
    exact q_iret rfl rfl rfl ⟨rfl, rfl, Or.inr ⟨h, rfl⟩⟩
  refine q_aload_n rfl rfl rfl ?_
  refine q_lload_n rfl rfl rfl ?_
  refine q_iload_n rfl rfl rfl ?_
  refine q_cV rfl rfl (Or.inl rfl) rfl rfl rfl rfl (by omega) kM trivial rfl rfl rfl rfl rfl (m_tch hW hc hm hj hJ' hx) ?_
  rintro r _ _ ⟨rfl, rfl, hr⟩
  rcases hr with ⟨tx, rfl⟩ | ⟨tx, rfl⟩
  rotate_left
  · show PQ (j_SL L) (j_SV xs) j_EX mm_X6_races 6 [.ref m, .long s, pm_un, .int (nI x), .int (nI y), pm_un, pm_un, pm_un] [.int (-1)] S n 0 0 _
    refine q_ist5 rfl rfl rfl rfl ?_
    refine q_iload rfl rfl rfl ?_
    exact q_iflt rfl rfl (fun _ => no25 _ _ _ (fun h => tx h.2.2.1)) (fun h => absurd (by decide) h)
  have ox := (wfp_o hW hx tx.1 tx.2.1).1
  show PQ (j_SL L) (j_SV xs) j_EX mm_X6_races 6 [.ref m, .long s, pm_un, .int (nI x), .int (nI y), pm_un, pm_un, pm_un] [.int (nI (oA P (e_D s) x))] S n 0 0 _
  refine q_ist5 rfl rfl rfl rfl ?_
  refine q_iload rfl rfl rfl ?_
  refine q_iflt rfl rfl (fun h => absurd h (m_n0 (by omega))) (fun _ => ?_)
  refine q_iload rfl rfl rfl ?_
  refine q_aload_n rfl rfl rfl ?_
  refine q_lload_n rfl rfl rfl ?_
  refine q_iload rfl rfl rfl ?_
  refine q_cV rfl rfl (Or.inl rfl) rfl rfl rfl rfl (by omega) kM trivial rfl rfl rfl rfl rfl (m_tch hW hc hm hj hJ' hy) ?_
  rintro r _ _ ⟨rfl, rfl, hr⟩
  rcases hr with ⟨ty, rfl⟩ | ⟨ty, rfl⟩
  rotate_left
  · show PQ (j_SL L) (j_SV xs) j_EX mm_X6_races 22 [.ref m, .long s, pm_un, .int (nI x), .int (nI y), .int (nI (oA P (e_D s) x)), pm_un, pm_un] [.int (-1), .int (nI (oA P (e_D s) x))] S n 0 0 _
    refine q_iceq rfl rfl (fun h => ?_) (fun _ => no25 _ _ _ (fun h => ty h.2.2.2.1))
    exfalso
    have e9 := congrArg Int32.toInt h
    rw [nI_toInt (by omega)] at e9
    have e5 : (-1 : Int32).toInt = -1 := rfl
    omega
  have oy := (wfp_o hW hy ty.1 ty.2.1).1
  show PQ (j_SL L) (j_SV xs) j_EX mm_X6_races 22 [.ref m, .long s, pm_un, .int (nI x), .int (nI y), .int (nI (oA P (e_D s) x)), pm_un, pm_un] [.int (nI (oA P (e_D s) y)), .int (nI (oA P (e_D s) x))] S n 0 0 _
  refine q_iceq rfl rfl (fun h => ?_) (fun h => no25 _ _ _ (fun h9 => h (by rw [h9.2.2.2.2.1])))
  have eo := (m_eq (by omega) (by omega)).mp h
  have hB : ((1 : Int32) <<< (nI x &&& 31)) ||| ((1 : Int32) <<< (nI y &&& 31)) = nI (bm (bup (fun q => decide (q = x)) y)) := by
    rw [bm_one (by omega), bm_or (by omega) (decide_eq_false (fun e => hxy e.symm))]
  refine q_iconst rfl rfl ?_
  refine q_iload_n rfl rfl rfl ?_
  refine q_ishl rfl rfl ?_
  refine q_iconst rfl rfl ?_
  refine q_iload rfl rfl rfl ?_
  refine q_ishl rfl rfl ?_
  refine q_ior rfl rfl (q_tn (z := nI (bm (bup (fun q => decide (q = x)) y))) hB ?_)
  refine q_ist6 rfl rfl rfl rfl ?_
  have no60 : ¬ rcP P (e_D s) x y → PQ (j_SL L) (j_SV xs) j_EX mm_X6_races 60 [.ref m, .long s, pm_un, .int (nI x), .int (nI y), .int (nI (oA P (e_D s) x)), .int (nI (bm (bup (fun q => decide (q = x)) y))), pm_un] [] S n 0 0 (yn (rcP P (e_D s) x y) S n) := by
    intro h
    refine q_iconst rfl rfl ?_
    refine q_ist7 rfl rfl rfl rfl ?_
    refine q_iload rfl rfl rfl ?_
    refine q_ifeq rfl rfl (fun _ => ?_) (fun c => absurd rfl c)
    refine q_iconst rfl rfl ?_
    exact q_iret rfl rfl rfl ⟨rfl, rfl, Or.inr ⟨h, rfl⟩⟩
  have y56 : wrP P (e_D s) x ∨ wrP P (e_D s) y → PQ (j_SL L) (j_SV xs) j_EX mm_X6_races 56 [.ref m, .long s, pm_un, .int (nI x), .int (nI y), .int (nI (oA P (e_D s) x)), .int (nI (bm (bup (fun q => decide (q = x)) y))), pm_un] [] S n 0 0 (yn (rcP P (e_D s) x y) S n) := by
    intro hw
    refine q_iconst rfl rfl ?_
    refine q_goto rfl ?_
    refine q_ist7 rfl rfl rfl rfl ?_
    refine q_iload rfl rfl rfl ?_
    refine q_ifeq rfl rfl (fun c => absurd c (by decide)) (fun _ => ?_)
    refine q_aload_n rfl rfl rfl ?_
    refine q_lload_n rfl rfl rfl ?_
    refine q_cV rfl rfl (Or.inl rfl) rfl rfl rfl rfl (by omega) kM trivial rfl rfl rfl rfl rfl (m_ables hW hc hm hj hJ' (by decide)) ?_
    rintro r _ _ ⟨rfl, rfl, b, rfl, hb, hb0⟩
    show PQ (j_SL L) (j_SV xs) j_EX mm_X6_races 73 [.ref m, .long s, pm_un, .int (nI x), .int (nI y), .int (nI (oA P (e_D s) x)), .int (nI (bm (bup (fun q => decide (q = x)) y))), .int 1] [.int (nI (bm b))] S n 0 0 _
    refine q_iload rfl rfl rfl ?_
    refine q_iand rfl rfl ?_
    refine q_iload rfl rfl rfl ?_
    refine q_icne rfl rfl (fun h9 => ?_) (fun h9 => ?_)
    · have hs := bm_sub.mp h9
      refine q_iconst rfl rfl ?_
      refine q_goto rfl ?_
      refine q_iret rfl rfl rfl ⟨rfl, rfl, Or.inl ⟨⟨(hb x hx).mp (hs x (by omega) ?_), (hb y hy).mp (hs y (by omega) ?_), tx, ty, eo, hw⟩, rfl⟩⟩
      · unfold bup
        rw [if_neg hxy]
        exact decide_eq_true rfl
      · unfold bup
        rw [if_pos rfl]
    · refine q_iconst rfl rfl ?_
      refine q_iret rfl rfl rfl ⟨rfl, rfl, Or.inr ⟨fun h8 => h9 (bm_sub.mpr (fun q _ hq => ?_)), rfl⟩⟩
      unfold bup at hq
      by_cases e : q = y
      · rw [e]
        exact (hb y hy).mpr h8.2.1
      · rw [if_neg e] at hq
        rw [of_decide_eq_true hq]
        exact (hb x hx).mpr h8.1
  refine q_aload_n rfl rfl rfl ?_
  refine q_lload_n rfl rfl rfl ?_
  refine q_iload_n rfl rfl rfl ?_
  refine q_cV rfl rfl (Or.inl rfl) rfl rfl rfl rfl (by omega) kM trivial rfl rfl rfl rfl rfl (m_wr hW hc hm hj hJ' hx) ?_
  rintro r _ _ ⟨rfl, rfl, hr⟩
  rcases hr with ⟨wx, rfl⟩ | ⟨wx, rfl⟩
  · show PQ (j_SL L) (j_SV xs) j_EX mm_X6_races 43 [.ref m, .long s, pm_un, .int (nI x), .int (nI y), .int (nI (oA P (e_D s) x)), .int (nI (bm (bup (fun q => decide (q = x)) y))), pm_un] [.int 1] S n 0 0 _
    exact q_ifne rfl rfl (fun c => absurd c (by decide)) (fun _ => y56 (Or.inl wx))
  show PQ (j_SL L) (j_SV xs) j_EX mm_X6_races 43 [.ref m, .long s, pm_un, .int (nI x), .int (nI y), .int (nI (oA P (e_D s) x)), .int (nI (bm (bup (fun q => decide (q = x)) y))), pm_un] [.int 0] S n 0 0 _
  refine q_ifne rfl rfl (fun _ => ?_) (fun c => absurd rfl c)
  refine q_aload_n rfl rfl rfl ?_
  refine q_lload_n rfl rfl rfl ?_
  refine q_iload rfl rfl rfl ?_
  refine q_cV rfl rfl (Or.inl rfl) rfl rfl rfl rfl (by omega) kM trivial rfl rfl rfl rfl rfl (m_wr hW hc hm hj hJ' hy) ?_
  rintro r _ _ ⟨rfl, rfl, hr⟩
  rcases hr with ⟨wy, rfl⟩ | ⟨wy, rfl⟩
  · show PQ (j_SL L) (j_SV xs) j_EX mm_X6_races 53 [.ref m, .long s, pm_un, .int (nI x), .int (nI y), .int (nI (oA P (e_D s) x)), .int (nI (bm (bup (fun q => decide (q = x)) y))), pm_un] [.int 1] S n 0 0 _
    exact q_ifeq rfl rfl (fun c => absurd c (by decide)) (fun _ => y56 (Or.inr wy))
  show PQ (j_SL L) (j_SV xs) j_EX mm_X6_races 53 [.ref m, .long s, pm_un, .int (nI x), .int (nI y), .int (nI (oA P (e_D s) x)), .int (nI (bm (bup (fun q => decide (q = x)) y))), pm_un] [.int 0] S n 0 0 _
  exact q_ifeq rfl rfl (fun _ => no60 (fun h => h.2.2.2.2.2.elim wx wy)) (fun c => absurd rfl c)
end JD
section JDR
variable {θ : Th} {P : PG} {S S' : Nat → pm_E} {n : Nat} {D : Nat → Nat} {L : Nat} {xs : Nat → Int32} {x y : Int32}
def okR (P : PG) (x y : Int32) (X Y : Nat) : Prop := (X < pH P ∧ x = nI X) ∧ (Y < pH P ∧ y = nI Y) ∧ X ≠ Y
def rcQ (P : PG) (x y r : Int32) : Prop := ((¬ ∃ X Y, okR P x y X Y) ∧ r = -1) ∨ ∃ X Y, okR P x y X Y ∧ ((xP (xE P 0) = true ∧ r = -5) ∨ (xP (xE P 0) = false ∧ fsP (fun j => rcP P (xS (xE P 0) j) X Y) (xN (xE P 0)) r))
theorem rc_fn (hW : WFP P) (r r' : Int32) (h : rcQ P x y r) (h' : rcQ P x y r') : r = r' := by
  have h3 := hW.2.1
  rcases h with ⟨a, rfl⟩ | ⟨X, Y, a1, a2⟩ <;> rcases h' with ⟨b, rfl⟩ | ⟨X', Y', b1, b2⟩
  · rfl
  · exact absurd ⟨X', Y', b1⟩ a
  · exact absurd ⟨X, Y, a1⟩ b
  · obtain ⟨⟨hX, ex⟩, ⟨hY, ey⟩, -⟩ := a1
    obtain ⟨⟨hX', ex'⟩, ⟨hY', ey'⟩, -⟩ := b1
    have q1 : X = X' := nI_inj (by omega) (by omega) (ex.symm.trans ex')
    have q2 : Y = Y' := nI_inj (by omega) (by omega) (ey.symm.trans ey')
    subst q1 q2
    rcases a2 with ⟨c, rfl⟩ | ⟨c, d⟩ <;> rcases b2 with ⟨c', rfl⟩ | ⟨c', d'⟩
    · rfl
    · rw [c] at c'
      cases c'
    · rw [c] at c'
      cases c'
    · exact fs_fn d d'
theorem hnP (hW : WFP P) {x : Int32} (h : 0 ≤ x ∧ x < nI (pH P)) : ∃ X, X < pH P ∧ x = nI X := by
  have h3 := hW.2.1
  have h1 := h.1
  have h2 := h.2
  rw [Int32.le_iff_toInt_le] at h1
  rw [Int32.lt_iff_toInt_lt, nI_toInt (by omega)] at h2
  have e0 : (0 : Int32).toInt = 0 := rfl
  obtain ⟨X, hX, e⟩ := nI_rg (x := x) (m := 3) (by omega) (by omega)
  rw [e, nI_toInt (by omega)] at h2
  exact ⟨X, by omega, e⟩
theorem hPn (hW : WFP P) {X : Nat} (h : X < pH P) : 0 ≤ nI X ∧ nI X < nI (pH P) := ⟨nI_p0 (by have := hW.2.1; omega), (m_lt (by have := hW.2.1; omega) (by have := hW.2.1; omega)).mpr h⟩
set_option maxHeartbeats 4000000 in
theorem c_race (hG : GS θ S n) (hZ : JZ P S) : PM (j_SL L) (j_SV xs) j_EX mm_X11_race [.ref 0, .int x, .int y] S n (fun r S' n' => r = some (.int (epR (rcQ P x y)))) := by
  have hn := gs_n hG
  obtain ⟨ts0, k0, hf⟩ := gs_obj hG (k := 0) rfl
  have t00 : ts0[0]? = some (.ref 1) := fo_ref (hf 0 _ rfl) rfl
  have hjp := hZ.2.1.1
  obtain ⟨fs1, k1, f10, -⟩ := p_obj hjp
  change PQ (j_SL L) (j_SV xs) j_EX mm_X11_race 0 [.ref 0, .int x, .int y, pm_un] [] S n 0 0 _
  have bad : ∀ x y : Int32, (¬ ∃ X Y, okR P x y X Y) → PQ (j_SL L) (j_SV xs) j_EX mm_X11_race 27 [.ref 0, .int x, .int y, pm_un] [] S n 0 0 (fun r S' n' => r = some (.int (epR (rcQ P x y)))) := by
    intro x y h
    refine q_iconst rfl rfl ?_
    exact q_iret rfl rfl trivial (ep_r (rc_fn hZ.1) (Or.inl ⟨h, rfl⟩))
  refine q_aload_n rfl rfl rfl ?_
  refine q_getf rfl rfl (by omega) k0 t00 ?_
  refine q_iload_n rfl rfl rfl ?_
  refine q_cV rfl rfl (Or.inl rfl) rfl rfl rfl rfl (by omega) k1 trivial rfl rfl rfl rfl rfl (c_hh hn k1 f10) ?_
  rintro r _ _ ⟨rfl, rfl, hr⟩
  rcases hr with ⟨q, rfl⟩ | ⟨q, rfl⟩
  · show PQ (j_SL L) (j_SV xs) j_EX mm_X11_race 8 [.ref 0, .int x, .int y, pm_un] [.int 0] S n 0 0 _
    exact q_ifeq rfl rfl (fun _ => bad _ _ (fun ⟨X, Y, h⟩ => q (by rw [h.1.2]; exact hPn hZ.1 h.1.1))) (fun c => absurd rfl c)
  show PQ (j_SL L) (j_SV xs) j_EX mm_X11_race 8 [.ref 0, .int x, .int y, pm_un] [.int 1] S n 0 0 _
  refine q_ifeq rfl rfl (fun c => absurd c (by decide)) (fun _ => ?_)
  obtain ⟨X, hX, rfl⟩ := hnP hZ.1 q
  refine q_aload_n rfl rfl rfl ?_
  refine q_getf rfl rfl (by omega) k0 t00 ?_
  refine q_iload_n rfl rfl rfl ?_
  refine q_cV rfl rfl (Or.inl rfl) rfl rfl rfl rfl (by omega) k1 trivial rfl rfl rfl rfl rfl (c_hh hn k1 f10) ?_
  rintro r _ _ ⟨rfl, rfl, hr⟩
  rcases hr with ⟨q2, rfl⟩ | ⟨q2, rfl⟩
  · show PQ (j_SL L) (j_SV xs) j_EX mm_X11_race 19 [.ref 0, .int (nI X), .int y, pm_un] [.int 0] S n 0 0 _
    exact q_ifeq rfl rfl (fun _ => bad _ _ (fun ⟨X', Y, h⟩ => q2 (by rw [h.2.1.2]; exact hPn hZ.1 h.2.1.1))) (fun c => absurd rfl c)
  show PQ (j_SL L) (j_SV xs) j_EX mm_X11_race 19 [.ref 0, .int (nI X), .int y, pm_un] [.int 1] S n 0 0 _
  refine q_ifeq rfl rfl (fun c => absurd c (by decide)) (fun _ => ?_)
  obtain ⟨Y, hY, rfl⟩ := hnP hZ.1 q2
  have h3 := hZ.1.2.1
  refine q_iload_n rfl rfl rfl ?_
  refine q_iload_n rfl rfl rfl ?_
  refine q_icne rfl rfl (fun h => bad _ _ (fun ⟨X', Y', h'⟩ => h'.2.2 (nI_inj (by have := h'.1.1; omega) (by have := h'.2.1.1; omega) (h'.1.2.symm.trans (h.trans h'.2.1.2))))) (fun h => ?_)
  clear bad
  have ok : okR P (nI X) (nI Y) X Y := ⟨⟨hX, rfl⟩, ⟨hY, rfl⟩, fun e => h (by rw [e])⟩
  refine q_aload_n rfl rfl rfl ?_
  refine q_iconst rfl rfl ?_
  refine q_cV rfl rfl (Or.inl rfl) rfl rfl rfl rfl (by omega) k0 trivial rfl rfl rfl rfl rfl (c_sz3 hG hZ) ?_
  rintro r T _ ⟨rfl, rfl, hC, hF, hCS⟩
  show PQ (j_SL L) (j_SV xs) j_EX mm_X11_race 34 [.ref 0, .int (nI X), .int (nI Y), pm_un] [.int (szR P 0)] T n 0 0 _
  refine q_bipush rfl rfl ?_
  have hN := (xe_wx (k := 0) hZ.1).1.2.1
  cases hp1 : xP (xE P 0)
  rotate_left
  · rw [szR_t hp1]
    refine q_icne rfl rfl (fun _ => ?_) (fun h => absurd rfl h)
    refine q_bipush rfl rfl ?_
    exact q_iret rfl rfl trivial (ep_r (rc_fn hZ.1) (Or.inr ⟨X, Y, ok, Or.inl ⟨hp1, rfl⟩⟩))
  rw [szR_f hp1]
  refine q_icne rfl rfl (fun h => ?_) (fun _ => ?_)
  · exfalso
    have e9 := congrArg Int32.toInt h
    rw [nI_toInt (by omega)] at e9
    have e5 : (-5 : Int32).toInt = -5 := rfl
    omega
  obtain ⟨ts, os, fo, og, mv, so, fw, t0, u1, u2, t8, o0, o4, o5, o6, o7, o8, t9, t10, t11, t12, t13, hfo, hog, hso, hfw⟩ := hCS hp1
  obtain ⟨hjT, hmT, -⟩ := hC
  have hmT' := hmT
  obtain ⟨gs, k7, -⟩ := hmT'
  clear hCS hF
  have loop : ∀ q s : Nat, s + q = xN (xE P 0) → (∀ j, j < s → ¬ rcP P (xS (xE P 0) j) X Y) → PQ (j_SL L) (j_SV xs) j_EX mm_X11_race 44 [.ref 0, .int (nI X), .int (nI Y), .int (nI s)] [] T n 0 0 (fun r S' n' => r = some (.int (epR (rcQ P (nI X) (nI Y))))) := by
    intro q
    induction q with
    | zero =>
      intro s hs hno
      have e : s = xN (xE P 0) := by omega
      subst e
      refine q_iload_n rfl rfl rfl ?_
      refine q_aload_n rfl rfl rfl ?_
      refine q_getf rfl rfl (by omega) t0 u2 ?_
      refine q_getf rfl rfl (by omega) t8 o0 ?_
      refine q_icge rfl rfl (fun _ => ?_) (fun h => absurd (Int32.le_refl _) h)
      refine q_bipush rfl rfl ?_
      exact q_iret rfl rfl trivial (ep_r (rc_fn hZ.1) (Or.inr ⟨X, Y, ok, Or.inr ⟨hp1, Or.inr ⟨hno, rfl⟩⟩⟩))
    | succ q ih =>
      intro s hsq hno
      have hs : s < xN (xE P 0) := by omega
      refine q_iload_n rfl rfl rfl ?_
      refine q_aload_n rfl rfl rfl ?_
      refine q_getf rfl rfl (by omega) t0 u2 ?_
      refine q_getf rfl rfl (by omega) t8 o0 ?_
      refine q_icge rfl rfl (fun h => absurd h (nI_ge (a := s) (b := xN (xE P 0)) (by omega) (by omega))) (fun _ => ?_)
      refine q_aload_n rfl rfl rfl ?_
      refine q_getf rfl rfl (by omega) t0 u1 ?_
      refine q_aload_n rfl rfl rfl ?_
      refine q_getf rfl rfl (by omega) t0 u2 ?_
      refine q_iload_n rfl rfl rfl ?_
      refine q_cV rfl rfl (Or.inl rfl) rfl rfl rfl rfl (by omega) t8 trivial rfl rfl rfl rfl rfl (c_stAt hn t8 o0 o4 t9 hN hs) ?_
      rintro r _ _ ⟨rfl, rfl, rfl⟩
      show PQ (j_SL L) (j_SV xs) j_EX mm_X11_race 67 [.ref 0, .int (nI X), .int (nI Y), .int (nI s)] [.long (fo s), .ref 7] T n 0 0 _
      refine q_iload_n rfl rfl rfl ?_
      refine q_iload_n rfl rfl rfl ?_
      refine q_cV rfl rfl (Or.inl rfl) rfl rfl rfl rfl (by omega) k7 trivial rfl rfl rfl rfl rfl (m_race hZ.1 (by omega) (by omega) hjT hmT hX hY ok.2.2) ?_
      rintro r _ _ ⟨rfl, rfl, hr⟩
      rw [hfo s hs] at hr
      rcases hr with ⟨h9, rfl⟩ | ⟨h9, rfl⟩
      · show PQ (j_SL L) (j_SV xs) j_EX mm_X11_race 72 [.ref 0, .int (nI X), .int (nI Y), .int (nI s)] [.int 1] T n 0 0 _
        refine q_ifeq rfl rfl (fun c => absurd c (by decide)) (fun _ => ?_)
        refine q_iload_n rfl rfl rfl ?_
        exact q_iret rfl rfl trivial (ep_r (rc_fn hZ.1) (Or.inr ⟨X, Y, ok, Or.inr ⟨hp1, Or.inl ⟨s, hs, h9, hno, rfl⟩⟩⟩))
      show PQ (j_SL L) (j_SV xs) j_EX mm_X11_race 72 [.ref 0, .int (nI X), .int (nI Y), .int (nI s)] [.int 0] T n 0 0 _
      refine q_ifeq rfl rfl (fun _ => ?_) (fun c => absurd rfl c)
      refine q_inc3 rfl rfl rfl rfl ?_
      refine q_goto rfl ?_
      rw [show nI s + 1 = nI (s + 1) from nI_add s 1]
      refine ih (s + 1) (by omega) (fun j hj => ?_)
      rcases Nat.lt_or_eq_of_le (Nat.le_of_lt_succ hj) with c | c
      · exact hno j c
      · rw [c]
        exact h9
  refine q_iconst rfl rfl ?_
  refine q_ist3n rfl rfl rfl rfl ?_
  exact loop (xN (xE P 0)) 0 (by omega) (fun j hj => absurd hj (by omega))
end JDR
section JDL
variable {θ : Th} {P : PG} {S S' : Nat → pm_E} {n x : Nat} {D : Nat → Nat} {nw : Nat → Int32} {fs : List Value} {L : Nat} {xs : Nat → Int32}
def tcK (P : PG) (D : Nat → Nat) (x : Nat) (fs : List Value) (S : Nat → pm_E) (n : Nat) : q_K := fun r S' n' => n = n' ∧ (∀ k, k ≠ 46 → S' k = S k) ∧ S' 46 = .inr (10, fs.set 29 (.int (pO P x (D (4 * x))))) ∧ ∃ t : Int32, r = some (.int t) ∧ (0 < t ↔ tchP P D x) ∧ (1 < t ↔ wrP P D x)
theorem jr_46 {v : Value} (h : JR 0 P S) (k46 : S 46 = .inr (10, fs)) (e46 : S' 46 = .inr (10, fs.set 29 v)) (e : ∀ k, k ≠ 46 → S' k = S k) : JR 0 P S' := by
  obtain ⟨gs, mn, fk, fa, fn, vl, a46, f1, f2, f3, f4, f5, f6, f7, f8, f9, f10, k47, k48, k49, k50, k51, h1, h2, h3⟩ := h
  have ef := (Prod.mk.inj (Sum.inr.inj (k46.symm.trans a46))).2
  subst ef
  have g : ∀ j, j ≠ 29 → (fs.set 29 v)[j]? = fs[j]? := fun j hj => List.getElem?_set_ne (fun h => hj h.symm)
  exact ⟨_, mn, fk, fa, fn, vl, e46, (g 1 (by decide)).trans f1, (g 2 (by decide)).trans f2, (g 3 (by decide)).trans f3, (g 4 (by decide)).trans f4, (g 5 (by decide)).trans f5, (g 6 (by decide)).trans f6, (g 7 (by decide)).trans f7, (g 8 (by decide)).trans f8, (g 9 (by decide)).trans f9, (g 10 (by decide)).trans f10, (e 47 (by decide)).trans k47, (e 48 (by decide)).trans k48, (e 49 (by decide)).trans k49, (e 50 (by decide)).trans k50, (e 51 (by decide)).trans k51, h1, h2, h3⟩
theorem rso_46 {v : Value} (h : RSo P S) (k46 : S 46 = .inr (10, fs)) (e46 : S' 46 = .inr (10, fs.set 29 v)) (e : ∀ k, k ≠ 46 → S' k = S k) : RSo P S' := by
  obtain ⟨st, cf, cb, ch, sp, ct, nt, nx, nw0, ⟨gs, u46, g8, g9, g11, g12, g13, g14, g15, g16, g17, t53, t55, t56, t57, t58, t59, t60, t61, hct⟩, t52, hJ, h1, h2, h3⟩ := h
  have ef := (Prod.mk.inj (Sum.inr.inj (k46.symm.trans u46))).2
  subst ef
  have g : ∀ j, j ≠ 29 → (fs.set 29 v)[j]? = fs[j]? := fun j hj => List.getElem?_set_ne (fun h => hj h.symm)
  exact ⟨st, cf, cb, ch, sp, ct, nt, nx, nw0, ⟨_, e46, (g 8 (by decide)).trans g8, (g 9 (by decide)).trans g9, (g 11 (by decide)).trans g11, (g 12 (by decide)).trans g12, (g 13 (by decide)).trans g13, (g 14 (by decide)).trans g14, (g 15 (by decide)).trans g15, (g 16 (by decide)).trans g16, (g 17 (by decide)).trans g17, (e 53 (by decide)).trans t53, (e 55 (by decide)).trans t55, (e 56 (by decide)).trans t56, (e 57 (by decide)).trans t57, (e 58 (by decide)).trans t58, (e 59 (by decide)).trans t59, (e 60 (by decide)).trans t60, (e 61 (by decide)).trans t61, hct⟩, (e 52 (by decide)).trans t52, jr_46 hJ k46 e46 e, h1, h2, h3⟩
set_option maxHeartbeats 4000000 in
theorem l_tch {v29 : Value} (hW : WFP P) (hn : 82 ≤ n) (hR : JR 0 P S) (k46 : S 46 = .inr (10, fs)) (f29 : fs[29]? = some v29) (t52 : S 52 = .inl (0, 20, .inl nw)) (hN : ∀ i, i < 20 → nw i = ra P D i) (hD : WFD P 0 D) (hx : x < pH P) (ho : ¬ ovr P D x) : PM (j_SL L) (j_SV xs) j_EX mm_X12_touches [.ref 46, .int (nI x)] S n (tcK P D x fs S n) := by
  have hH := hW.2.1
  have hL8 := hW.2.2.1 x hx
  have hlt : D (4 * x) < pL P x := by unfold ovr at ho; omega
  have hR' := hR
  obtain ⟨gs, mn, fk, fa, fn, vl, a46, f1, f2, f3, f4, f5, f6, f7, f8, f9, f10, k47, k48, k49, k50, k51, h1, h2, h3⟩ := hR'
  have ef := (Prod.mk.inj (Sum.inr.inj (k46.symm.trans a46))).2
  subst ef
  obtain ⟨q1, q2, q3⟩ := h2 x (D (4 * x)) hx hlt
  have hk12 := wfp_k hW hx ho
  have hm := (hD.1 x hx).2.2.1
  change PQ (j_SL L) (j_SV xs) j_EX mm_X12_touches 0 [.ref 46, .int (nI x), pm_un] [] S n 0 0 _
  refine q_aload_n rfl rfl rfl ?_
  refine q_iload_n rfl rfl rfl ?_
  refine q_cV rfl rfl (Or.inl rfl) rfl rfl rfl rfl (by omega) k46 trivial rfl rfl rfl rfl rfl (l_at hW hn (by decide) hR t52 hN hx ho) ?_
  rintro r _ _ ⟨rfl, rfl, rfl⟩
  show PQ (j_SL L) (j_SV xs) j_EX mm_X12_touches 5 [.ref 46, .int (nI x), pm_un] [.int (nI (8 * (0 + x) + D (4 * x)))] S n 0 0 _
  refine q_ist2n rfl rfl rfl rfl ?_
  refine q_aload_n rfl rfl rfl ?_
  refine q_aload_n rfl rfl rfl ?_
  refine q_getf rfl rfl (by omega) k46 f4 ?_
  refine q_iload_n rfl rfl rfl ?_
  refine q_iald rfl rfl (by omega) k49 (q_inN (by omega) (by decide)) (q_tn (z := pO P x (D (4 * x))) (by rw [nI_clamp (by omega)]; exact q2) ?_)
  refine q_putf rfl rfl (by omega) k46 (List.getElem?_eq_some_iff.mp f29).1 rfl trivial ?_
  have e1 : ∀ j, j ≠ 46 → va_up S 46 (.inr (10, fs.set 29 (.int (pO P x (D (4 * x)))))) j = S j := fun j hj => u_ne hj
  have x46 : va_up S 46 (.inr (10, fs.set 29 (.int (pO P x (D (4 * x)))))) 46 = .inr (10, fs.set 29 (.int (pO P x (D (4 * x))))) := u_eq
  generalize va_up S 46 (.inr (10, fs.set 29 (.int (pO P x (D (4 * x)))))) = S1 at e1 x46 ⊢
  have g : ∀ j, j ≠ 29 → (fs.set 29 (.int (pO P x (D (4 * x)))))[j]? = fs[j]? := fun j hj => List.getElem?_set_ne (fun h => hj h.symm)
  refine q_aload_n rfl rfl rfl ?_
  refine q_getf rfl rfl (by omega) x46 ((g 3 (by decide)).trans f3) ?_
  refine q_iload_n rfl rfl rfl ?_
  refine q_iald rfl rfl (by omega) ((e1 48 (by decide)).trans k48) (q_inN (by omega) (by decide)) (q_tn (z := nI (kA P D x)) (by rw [nI_clamp (by omega)]; exact q1) ?_)
  have ans : ∀ t : Int32, (0 < t ↔ tchP P D x) → (1 < t ↔ wrP P D x) → (tcK P D x fs S n) (some (.int t)) S1 n := fun t a b => ⟨rfl, e1, x46, t, rfl, a, b⟩
  have a111 : ¬ hasP (kA P D x) → PQ (j_SL L) (j_SV xs) j_EX mm_X12_touches 111 [.ref 46, .int (nI x), .int (nI (8 * (0 + x) + D (4 * x)))] [] S1 n 0 0 (tcK P D x fs S n) := by
    intro h
    refine q_iconst rfl rfl ?_
    refine q_iret rfl rfl trivial (ans 0 ⟨fun c => absurd c (by decide), fun c => absurd c.2.1 h⟩ ⟨fun c => absurd c (by decide), fun c => absurd ?_ h⟩)
    unfold hasP
    have := c.2
    omega
  have a68 : kA P D x = 0 ∨ kA P D x = 2 → PQ (j_SL L) (j_SV xs) j_EX mm_X12_touches 68 [.ref 46, .int (nI x), .int (nI (8 * (0 + x) + D (4 * x)))] [] S1 n 0 0 (tcK P D x fs S n) := by
    intro h
    refine q_iconst rfl rfl ?_
    exact q_iret rfl rfl trivial (ans 2 ⟨fun _ => ⟨ho, by unfold hasP; omega, fun c => by omega⟩, fun _ => by decide⟩ ⟨fun _ => ⟨ho, by omega⟩, fun _ => by decide⟩)
  have a70 : kA P D x = 1 ∨ kA P D x = 5 → PQ (j_SL L) (j_SV xs) j_EX mm_X12_touches 70 [.ref 46, .int (nI x), .int (nI (8 * (0 + x) + D (4 * x)))] [] S1 n 0 0 (tcK P D x fs S n) := by
    intro h
    refine q_iconst rfl rfl ?_
    exact q_iret rfl rfl trivial (ans 1 ⟨fun _ => ⟨ho, by unfold hasP; omega, fun c => by omega⟩, fun _ => by decide⟩ ⟨fun c => absurd c (by decide), fun c => by have := c.2; omega⟩)
  have mX : (4 : Int32) * nI x = nI (4 * x) := by rw [show (4 : Int32) = nI 4 from rfl, pk_mul]
  have r2 : nw (4 * x + 2) = nI (D (4 * x + 2)) := (hN _ (by omega)).trans (ra_k (by omega))
  have v52 := (e1 52 (by decide)).trans t52
  generalize hk : kA P D x = kk at hk12 ⊢
  match kk, hk12 with
  | 0, _ => exact q_switch (q := 68) rfl rfl (a68 (by omega))
  | 1, _ => exact q_switch (q := 70) rfl rfl (a70 (by omega))
  | 2, _ => exact q_switch (q := 68) rfl rfl (a68 (by omega))
  | 5, _ => exact q_switch (q := 70) rfl rfl (a70 (by omega))
  | 7, _ =>
    refine q_switch (q := 109) rfl rfl ?_
    refine q_iconst rfl rfl ?_
    exact q_iret rfl rfl trivial (ans 3 ⟨fun _ => ⟨ho, by unfold hasP; omega, fun c => by omega⟩, fun _ => by decide⟩ ⟨fun _ => ⟨ho, by omega⟩, fun _ => by decide⟩)
  | 6, _ =>
    refine q_switch (q := 72) rfl rfl ?_
    refine q_aload_n rfl rfl rfl ?_
    refine q_getf rfl rfl (by omega) x46 ((g 8 (by decide)).trans f8) ?_
    refine q_iconst rfl rfl ?_
    refine q_iload_n rfl rfl rfl ?_
    refine q_imul rfl rfl (q_tn (z := nI (4 * x)) mX ?_)
    refine q_iconst rfl rfl ?_
    refine q_iadd rfl rfl (q_tn (z := nI (4 * x + 2)) (nI_add _ 2) ?_)
    refine q_iald rfl rfl (by omega) v52 (q_inN (by omega) (by decide)) (q_tn (z := nI (D (4 * x + 2))) (by rw [nI_clamp (by omega)]; exact r2) ?_)
    refine q_ifne rfl rfl (fun h0 => ?_) (fun h0 => ?_)
    · have d0 : D (4 * x + 2) = 0 := (m_eq (b := 0) (by omega) (by decide)).mp h0
      refine q_iconst rfl rfl ?_
      refine q_goto rfl ?_
      exact q_iret rfl rfl trivial (ans 1 ⟨fun _ => ⟨ho, by unfold hasP; omega, fun c => by omega⟩, fun _ => by decide⟩ ⟨fun c => absurd c (by decide), fun c => by have := c.2; omega⟩)
    refine q_aload_n rfl rfl rfl ?_
    refine q_getf rfl rfl (by omega) x46 ((g 8 (by decide)).trans f8) ?_
    refine q_iconst rfl rfl ?_
    refine q_iload_n rfl rfl rfl ?_
    refine q_imul rfl rfl (q_tn (z := nI (4 * x)) mX ?_)
    refine q_iconst rfl rfl ?_
    refine q_iadd rfl rfl (q_tn (z := nI (4 * x + 2)) (nI_add _ 2) ?_)
    refine q_iald rfl rfl (by omega) v52 (q_inN (by omega) (by decide)) (q_tn (z := nI (D (4 * x + 2))) (by rw [nI_clamp (by omega)]; exact r2) ?_)
    refine q_iconst rfl rfl ?_
    refine q_icne rfl rfl (fun h1 => ?_) (fun h1 => ?_)
    · have d1 : D (4 * x + 2) = 1 := (m_eq (b := 1) (by omega) (by decide)).mp h1
      refine q_iconst rfl rfl ?_
      refine q_goto rfl ?_
      exact q_iret rfl rfl trivial (ans 0 ⟨fun c => absurd c (by decide), fun c => absurd ⟨hk, d1⟩ c.2.2⟩ ⟨fun c => absurd c (by decide), fun c => by have := c.2; omega⟩)
    · have d0 : D (4 * x + 2) ≠ 0 := fun e => h0 (by rw [e]; rfl)
      have d1 : D (4 * x + 2) ≠ 1 := fun e => h1 (by rw [e]; rfl)
      refine q_iconst rfl rfl ?_
      exact q_iret rfl rfl trivial (ans 2 ⟨fun _ => ⟨ho, by unfold hasP; omega, fun c => by omega⟩, fun _ => by decide⟩ ⟨fun _ => ⟨ho, by omega⟩, fun _ => by decide⟩)
  | 3, _ => exact q_switch (q := 111) rfl rfl (a111 (by unfold hasP; omega))
  | 4, _ => exact q_switch (q := 111) rfl rfl (a111 (by unfold hasP; omega))
  | 8, _ => exact q_switch (q := 111) rfl rfl (a111 (by unfold hasP; omega))
  | 9, _ => exact q_switch (q := 111) rfl rfl (a111 (by unfold hasP; omega))
  | 10, _ => exact q_switch (q := 111) rfl rfl (a111 (by unfold hasP; omega))
  | 11, _ => exact q_switch (q := 111) rfl rfl (a111 (by unfold hasP; omega))
  | 12, _ => exact q_switch (q := 111) rfl rfl (a111 (by unfold hasP; omega))
end JDL
section JDQ
variable {θ : Th} {P : PG} {S S' : Nat → pm_E} {n : Nat} {L : Nat} {xs : Nat → Int32} {x y : Int32}
set_option maxHeartbeats 8000000 in
theorem l_race (hG : GS θ S n) (hT : tie θ P) (hZ : JZ P S) : PM (j_SL L) (j_SV xs) j_EX mm_X12_race [.ref 46, .int x, .int y] S n (fun r S' n' => r = some (.int (epR (rcQ P x y)))) := by
  have hn := gs_n hG
  obtain ⟨mn, fk, fa, fn, fs, k47, k48, k49, k50, k46, m5, m6, f1, hd, hm, hf⟩ := xm_get hG
  have h3 := hZ.1.2.1
  have hPX : ∀ X : Nat, X < 3 → (X : Int) < θ.2.2.2.2.toInt → X < pH P := fun X hX h => by
    rw [hT.1, nI_toInt (by omega)] at h
    omega
  have hin : ∀ X : Nat, X < pH P → inP (nI X) 0 (θ.2.2.2.2 - 1) := fun X hX => (hnd hd.1 hd.2 ⟨nI_p0 (by omega), by rw [hT.1]; exact (m_lt (by omega) (by omega)).mpr hX⟩).2
  change PQ (j_SL L) (j_SV xs) j_EX mm_X12_race 0 [.ref 46, .int x, .int y, pm_un, pm_un, pm_un, pm_un] [] S n 0 0 _
  have bad : ∀ x y : Int32, (¬ ∃ X Y, okR P x y X Y) → PQ (j_SL L) (j_SV xs) j_EX mm_X12_race 21 [.ref 46, .int x, .int y, pm_un, pm_un, pm_un, pm_un] [] S n 0 0 (fun r S' n' => r = some (.int (epR (rcQ P x y)))) := by
    intro x y h
    refine q_iconst rfl rfl ?_
    exact q_iret rfl rfl trivial (ep_r (rc_fn hZ.1) (Or.inl ⟨h, rfl⟩))
  refine q_aload_n rfl rfl rfl ?_
  refine q_iload_n rfl rfl rfl ?_
  refine q_cV rfl rfl (Or.inl rfl) rfl rfl rfl rfl (by omega) k46 trivial rfl rfl rfl rfl rfl (l_isHand hn k46 f1) ?_
  rintro r S1 n1 ⟨e1, e2, hr⟩
  obtain rfl := e1.symm
  obtain rfl := e2.symm
  rcases hr with ⟨q, rfl⟩ | ⟨q, rfl⟩
  · show PQ (j_SL L) (j_SV xs) j_EX mm_X12_race 5 [.ref 46, .int x, .int y, pm_un, pm_un, pm_un, pm_un] [.int 0] S n 0 0 _
    exact q_ifeq rfl rfl (fun _ => bad _ _ (fun ⟨X, Y, h⟩ => q (by rw [h.1.2]; exact hin X h.1.1))) (fun c => absurd rfl c)
  show PQ (j_SL L) (j_SV xs) j_EX mm_X12_race 5 [.ref 46, .int x, .int y, pm_un, pm_un, pm_un, pm_un] [.int 1] S n 0 0 _
  refine q_ifeq rfl rfl (fun c => absurd c (by decide)) (fun _ => ?_)
  obtain ⟨X, hX3, rfl, hXh⟩ := hand_of hd q
  have hX := hPX X hX3 hXh
  refine q_aload_n rfl rfl rfl ?_
  refine q_iload_n rfl rfl rfl ?_
  refine q_cV rfl rfl (Or.inl rfl) rfl rfl rfl rfl (by omega) k46 trivial rfl rfl rfl rfl rfl (l_isHand hn k46 f1) ?_
  rintro r S1 n1 ⟨e1, e2, hr⟩
  obtain rfl := e1.symm
  obtain rfl := e2.symm
  rcases hr with ⟨q2, rfl⟩ | ⟨q2, rfl⟩
  · show PQ (j_SL L) (j_SV xs) j_EX mm_X12_race 13 [.ref 46, .int (nI X), .int y, pm_un, pm_un, pm_un, pm_un] [.int 0] S n 0 0 _
    exact q_ifeq rfl rfl (fun _ => bad _ _ (fun ⟨X', Y, h⟩ => q2 (by rw [h.2.1.2]; exact hin Y h.2.1.1))) (fun c => absurd rfl c)
  show PQ (j_SL L) (j_SV xs) j_EX mm_X12_race 13 [.ref 46, .int (nI X), .int y, pm_un, pm_un, pm_un, pm_un] [.int 1] S n 0 0 _
  refine q_ifeq rfl rfl (fun c => absurd c (by decide)) (fun _ => ?_)
  obtain ⟨Y, hY3, rfl, hYh⟩ := hand_of hd q2
  have hY := hPX Y hY3 hYh
  refine q_iload_n rfl rfl rfl ?_
  refine q_iload_n rfl rfl rfl ?_
  refine q_icne rfl rfl (fun h => bad _ _ (fun ⟨X', Y', h'⟩ => h'.2.2 (nI_inj (by have := h'.1.1; omega) (by have := h'.2.1.1; omega) (h'.1.2.symm.trans (h.trans h'.2.1.2))))) (fun h => ?_)
  clear bad
  have ok : okR P (nI X) (nI Y) X Y := ⟨⟨hX, rfl⟩, ⟨hY, rfl⟩, fun e => h (by rw [e])⟩
  refine q_aload_n rfl rfl rfl ?_
  refine q_iconst rfl rfl ?_
  refine q_cV rfl rfl (Or.inl rfl) rfl rfl rfl rfl (by omega) k46 trivial rfl rfl rfl rfl rfl (l_sp3 hG hT hZ) ?_
  rintro r T _ ⟨rfl, rfl, gT, -, -, hRS⟩
  show PQ (j_SL L) (j_SV xs) j_EX mm_X12_race 28 [.ref 46, .int (nI X), .int (nI Y), pm_un, pm_un, pm_un, pm_un] [.int (spR P 0)] T n 0 0 _
  have hN := (xe_wx (k := 0) hZ.1).1.2.1
  cases hp1 : xP (xE P 0)
  rotate_left
  · rw [spR_t hp1]
    refine q_ifeq rfl rfl (fun h => absurd h (by decide)) (fun _ => ?_)
    refine q_bipush rfl rfl ?_
    exact q_iret rfl rfl trivial (ep_r (rc_fn hZ.1) (Or.inr ⟨X, Y, ok, Or.inl ⟨hp1, rfl⟩⟩))
  rw [spR_f hp1]
  refine q_ifeq rfl rfl (fun _ => ?_) (fun h => absurd rfl h)
  obtain ⟨fsT, kT, hfT⟩ := gs_obj gT (k := 46) rfl
  obtain ⟨v29, f29, -⟩ := hfT 29 _ rfl
  have loop : ∀ q s : Nat, s + q = xN (xE P 0) → (∀ j, j < s → ¬ rcP P (xS (xE P 0) j) X Y) → ∀ (T : Nat → pm_E) (fs : List Value) (v29 a b c : Value), RSo P T → T 46 = .inr (10, fs) → fs[29]? = some v29 → PQ (j_SL L) (j_SV xs) j_EX mm_X12_race 36 [.ref 46, .int (nI X), .int (nI Y), .int (nI s), a, b, c] [] T n 0 0 (fun r S' n' => r = some (.int (epR (rcQ P (nI X) (nI Y))))) := by
    intro q
    induction q with
    | zero =>
      intro s hs hno T fs v29 a b c hR e46 e29
      have e : s = xN (xE P 0) := by omega
      subst e
      obtain ⟨st, cf, cb, ch, sp, ct, nt, nx, nw0, ⟨gs, u46, g8, g9, g11, g12, g13, g14, g15, g16, g17, t53, t55, t56, t57, t58, t59, t60, t61, hct⟩, t52, hJ, h1, h2, h3⟩ := hR
      refine q_iload_n rfl rfl rfl ?_
      refine q_aload_n rfl rfl rfl ?_
      refine q_getf rfl rfl (by omega) u46 g16 ?_
      refine q_iconst rfl rfl ?_
      refine q_iald rfl rfl (by omega) t60 rfl (q_tn (z := nI (xN (xE P 0))) hct ?_)
      refine q_icge rfl rfl (fun _ => ?_) (fun h => absurd (Int32.le_refl _) h)
      refine q_bipush rfl rfl ?_
      exact q_iret rfl rfl trivial (ep_r (rc_fn hZ.1) (Or.inr ⟨X, Y, ok, Or.inr ⟨hp1, Or.inr ⟨hno, rfl⟩⟩⟩))
    | succ q ih =>
      intro s hsq hno T fs v29 a b c hR e46 e29
      have hs : s < xN (xE P 0) := by omega
      have hR9 := hR
      obtain ⟨st, cf, cb, ch, sp, ct, nt, nx, nw0, ⟨gs, u46, g8, g9, g11, g12, g13, g14, g15, g16, g17, t53, t55, t56, t57, t58, t59, t60, t61, hct⟩, t52, hJ, h1, h2, h4⟩ := hR
      refine q_iload_n rfl rfl rfl ?_
      refine q_aload_n rfl rfl rfl ?_
      refine q_getf rfl rfl (by omega) u46 g16 ?_
      refine q_iconst rfl rfl ?_
      refine q_iald rfl rfl (by omega) t60 rfl (q_tn (z := nI (xN (xE P 0))) hct ?_)
      refine q_icge rfl rfl (fun h => absurd h (nI_ge (a := s) (b := xN (xE P 0)) (by omega) (by omega))) (fun _ => ?_)
      refine q_aload_n rfl rfl rfl ?_
      refine q_iconst rfl rfl ?_
      refine q_iload_n rfl rfl rfl ?_
      refine q_cV rfl rfl (Or.inl rfl) rfl rfl rfl rfl (by omega) e46 trivial rfl rfl rfl rfl rfl (l_std hZ.1 hn hR9 hs) ?_
      rintro r U _ ⟨rfl, rfl, eU, hU, nw, v52, hnw⟩
      show PQ (j_SL L) (j_SV xs) j_EX mm_X12_race 52 [.ref 46, .int (nI X), .int (nI Y), .int (nI s), a, b, c] [] U n 0 0 _
      have v46 := (eU 46 (by decide)).trans e46
      have hD := (xe_wx (k := 0) hZ.1).1.2.2.1 s hs
      have hJU : JR 0 P U := by
        obtain ⟨_, _, _, _, _, _, _, _, _, -, -, hJ', -⟩ := hU
        exact hJ'
      have nx' : ∀ (V : Nat → pm_E) (gs : List Value) (w29 a b c : Value), RSo P V → V 46 = .inr (10, gs) → gs[29]? = some w29 → ¬ rcP P (xS (xE P 0) s) X Y → PQ (j_SL L) (j_SV xs) j_EX mm_X12_race 126 [.ref 46, .int (nI X), .int (nI Y), .int (nI s), a, b, c] [] V n 0 0 (fun r S' n' => r = some (.int (epR (rcQ P (nI X) (nI Y))))) := by
        intro V gs w29 a b c hV g46 g29 h
        refine q_inc3 rfl rfl rfl rfl ?_
        refine q_goto rfl ?_
        rw [show nI s + 1 = nI (s + 1) from nI_add s 1]
        refine ih (s + 1) (by omega) (fun j hj => ?_) V gs w29 a b c hV g46 g29
        rcases Nat.lt_or_eq_of_le (Nat.le_of_lt_succ hj) with c | c
        · exact hno j c
        · rw [c]
          exact h
      refine q_aload_n rfl rfl rfl ?_
      refine q_iload_n rfl rfl rfl ?_
      refine q_iconst rfl rfl ?_
      refine q_cV rfl rfl (Or.inl rfl) rfl rfl rfl rfl (by omega) v46 trivial rfl rfl rfl rfl rfl (l_can (pic := 0) hZ.1 hn (by decide) hJU v52 hnw hD (by decide) hX) ?_
      rintro r _ _ ⟨rfl, rfl, hr⟩
      rcases hr with ⟨ax, rfl⟩ | ⟨ax, rfl⟩
      rotate_left
      · show PQ (j_SL L) (j_SV xs) j_EX mm_X12_race 58 [.ref 46, .int (nI X), .int (nI Y), .int (nI s), a, b, c] [.int 0] U n 0 0 _
        exact q_ifeq rfl rfl (fun _ => nx' U fs v29 _ _ _ hU v46 e29 (fun h => ax h.1)) (fun c => absurd rfl c)
      show PQ (j_SL L) (j_SV xs) j_EX mm_X12_race 58 [.ref 46, .int (nI X), .int (nI Y), .int (nI s), a, b, c] [.int 1] U n 0 0 _
      refine q_ifeq rfl rfl (fun c => absurd c (by decide)) (fun _ => ?_)
      refine q_aload_n rfl rfl rfl ?_
      refine q_iload_n rfl rfl rfl ?_
      refine q_iconst rfl rfl ?_
      refine q_cV rfl rfl (Or.inl rfl) rfl rfl rfl rfl (by omega) v46 trivial rfl rfl rfl rfl rfl (l_can (pic := 0) hZ.1 hn (by decide) hJU v52 hnw hD (by decide) hY) ?_
      rintro r _ _ ⟨rfl, rfl, hr⟩
      rcases hr with ⟨ay, rfl⟩ | ⟨ay, rfl⟩
      rotate_left
      · show PQ (j_SL L) (j_SV xs) j_EX mm_X12_race 67 [.ref 46, .int (nI X), .int (nI Y), .int (nI s), a, b, c] [.int 0] U n 0 0 _
        refine q_ifne rfl rfl (fun _ => ?_) (fun c => absurd rfl c)
        refine q_goto rfl ?_
        exact nx' U fs v29 _ _ _ hU v46 e29 (fun h => ay h.2.1)
      show PQ (j_SL L) (j_SV xs) j_EX mm_X12_race 67 [.ref 46, .int (nI X), .int (nI Y), .int (nI s), a, b, c] [.int 1] U n 0 0 _
      refine q_ifne rfl rfl (fun c => absurd c (by decide)) (fun _ => ?_)
      refine q_aload_n rfl rfl rfl ?_
      refine q_iload_n rfl rfl rfl ?_
      refine q_cV rfl rfl (Or.inl rfl) rfl rfl rfl rfl (by omega) v46 trivial rfl rfl rfl rfl rfl (l_tch hZ.1 hn hJU v46 e29 v52 hnw hD hX ax.1) ?_
      rintro r V _ ⟨rfl, eV, w46, t1, rfl, p1, p2⟩
      show PQ (j_SL L) (j_SV xs) j_EX mm_X12_race 78 [.ref 46, .int (nI X), .int (nI Y), .int (nI s), a, b, c] [.int t1] V n 0 0 _
      have hV := rso_46 hU v46 w46 eV
      have hJV := jr_46 hJU v46 w46 eV
      have w29 : (fs.set 29 (.int (pO P X (xS (xE P 0) s (4 * X)))))[29]? = some (.int (pO P X (xS (xE P 0) s (4 * X)))) := os_at e29
      refine q_ist4 rfl rfl rfl rfl ?_
      refine q_aload_n rfl rfl rfl ?_
      refine q_getf rfl rfl (by omega) w46 w29 ?_
      refine q_ist5 rfl rfl rfl rfl ?_
      refine q_aload_n rfl rfl rfl ?_
      refine q_iload_n rfl rfl rfl ?_
      refine q_cV rfl rfl (Or.inl rfl) rfl rfl rfl rfl (by omega) w46 trivial rfl rfl rfl rfl rfl (l_tch hZ.1 hn hJV w46 w29 ((eV 52 (by decide)).trans v52) hnw hD hY ay.1) ?_
      rintro r W _ ⟨rfl, eW, z46, t2, rfl, p3, p4⟩
      show PQ (j_SL L) (j_SV xs) j_EX mm_X12_race 91 [.ref 46, .int (nI X), .int (nI Y), .int (nI s), .int t1, .int (pO P X (xS (xE P 0) s (4 * X))), c] [.int t2] W n 0 0 _
      have hW9 := rso_46 hV w46 z46 eW
      have z29 := os_at (v := .int (pO P Y (xS (xE P 0) s (4 * Y)))) w29
      have no : ∀ a b c : Value, ¬ rcP P (xS (xE P 0) s) X Y → PQ (j_SL L) (j_SV xs) j_EX mm_X12_race 126 [.ref 46, .int (nI X), .int (nI Y), .int (nI s), a, b, c] [] W n 0 0 (fun r S' n' => r = some (.int (epR (rcQ P (nI X) (nI Y))))) := fun a b c => nx' W _ _ a b c hW9 z46 z29
      have i1 : ∀ t : Int32, ¬ t ≤ 0 → 0 < t := fun t h => by
        rw [Int32.le_iff_toInt_le] at h
        rw [Int32.lt_iff_toInt_lt]
        omega
      have i2 : ∀ t : Int32, t ≤ 0 → ¬ 0 < t := fun t h h2 => by
        rw [Int32.le_iff_toInt_le] at h
        rw [Int32.lt_iff_toInt_lt] at h2
        omega
      have i3 : ∀ t : Int32, t ≤ 1 → ¬ 1 < t := fun t h h2 => by
        rw [Int32.le_iff_toInt_le] at h
        rw [Int32.lt_iff_toInt_lt] at h2
        omega
      have i4 : ∀ t : Int32, ¬ t ≤ 1 → 1 < t := fun t h => by
        rw [Int32.le_iff_toInt_le] at h
        rw [Int32.lt_iff_toInt_lt]
        omega
      refine q_ist6 rfl rfl rfl rfl ?_
      refine q_iload rfl rfl rfl ?_
      refine q_ifle rfl rfl (fun h9 => no _ _ _ (fun h => i2 _ h9 (p1.mpr h.2.2.1))) (fun h9 => ?_)
      refine q_iload rfl rfl rfl ?_
      refine q_ifle rfl rfl (fun h8 => no _ _ _ (fun h => i2 _ h8 (p3.mpr h.2.2.2.1))) (fun h8 => ?_)
      have tx := p1.mp (i1 _ h9)
      have ty := p3.mp (i1 _ h8)
      have qx := wfp_o hZ.1 hX tx.1 tx.2.1
      have qy := wfp_o hZ.1 hY ty.1 ty.2.1
      refine q_iload rfl rfl rfl ?_
      refine q_aload_n rfl rfl rfl ?_
      refine q_getf rfl rfl (by omega) z46 z29 ?_
      refine q_icne rfl rfl (fun h7 => ?_) (fun h7 => no _ _ _ (fun h => h7 (by rw [qx.2, qy.2, h.2.2.2.2.1])))
      have eo : oA P (xS (xE P 0) s) X = oA P (xS (xE P 0) s) Y := by
        rw [qx.2, qy.2] at h7
        exact (m_eq (by omega) (by omega)).mp h7
      have yes : wrP P (xS (xE P 0) s) X ∨ wrP P (xS (xE P 0) s) Y → PQ (j_SL L) (j_SV xs) j_EX mm_X12_race 124 [.ref 46, .int (nI X), .int (nI Y), .int (nI s), .int t1, .int (pO P X (xS (xE P 0) s (4 * X))), .int t2] [] W n 0 0 (fun r S' n' => r = some (.int (epR (rcQ P (nI X) (nI Y))))) := by
        intro hw
        refine q_iload_n rfl rfl rfl ?_
        exact q_iret rfl rfl trivial (ep_r (rc_fn hZ.1) (Or.inr ⟨X, Y, ok, Or.inr ⟨hp1, Or.inl ⟨s, hs, ⟨ax, ay, tx, ty, eo, hw⟩, hno, rfl⟩⟩⟩))
      refine q_iload rfl rfl rfl ?_
      refine q_iconst rfl rfl ?_
      refine q_icgt rfl rfl (fun h6 => yes (Or.inl (p2.mp h6))) (fun h6 => ?_)
      refine q_iload rfl rfl rfl ?_
      refine q_iconst rfl rfl ?_
      refine q_icle rfl rfl (fun h5 => no _ _ _ (fun h => h.2.2.2.2.2.elim (fun a => h6 (p2.mpr a)) (fun a => i3 _ h5 (p4.mpr a)))) (fun h5 => yes (Or.inr (p4.mp (i4 _ h5))))
  refine q_iconst rfl rfl ?_
  refine q_ist3n rfl rfl rfl rfl ?_
  exact loop (xN (xE P 0)) 0 (by omega) (fun j hj => absurd hj (by omega)) T fsT v29 _ _ _ (hRS hp1) kT f29
end JDQ
