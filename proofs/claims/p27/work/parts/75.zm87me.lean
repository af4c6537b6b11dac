/-! the class's Machine: who may step; ends; the first state -/
section ME
variable {L : Nat} {xs : Nat → Int32} {S : Nat → pm_E} {n c m pic : Nat} {P : PG} {s t t2 : Int64} {x : Nat} {D f : Nat → Nat}
/-- three yes or no in one int -/
def bm (b : Nat → Bool) : Nat := (if b 0 then 1 else 0) + ((if b 1 then 2 else 0) + (if b 2 then 4 else 0))
theorem bm_lt (b : Nat → Bool) : bm b < 8 := by
  unfold bm
  split <;> split <;> split <;> decide
def bup (b : Nat → Bool) (o : Nat) : Nat → Bool := fun x => if x = o then true else b x
theorem bm_or {b : Nat → Bool} {o : Nat} (ho : o < 3) (h : b o = false) : nI (bm b) ||| ((1 : Int32) <<< (nI o &&& 31)) = nI (bm (bup b o)) := by
  unfold bm bup
  match o, ho with
  | 0, _ => rw [h]; cases b 1 <;> cases b 2 <;> decide
  | 1, _ => rw [h]; cases b 0 <;> cases b 2 <;> decide
  | 2, _ => rw [h]; cases b 0 <;> cases b 1 <;> decide
  | o + 3, h => omega
theorem bm_one {o : Nat} (ho : o < 3) : (1 : Int32) <<< (nI o &&& 31) = nI (bm (fun x => decide (x = o))) := by
  match o, ho with
  | 0, _ => decide
  | 1, _ => decide
  | 2, _ => decide
  | o + 3, h => omega
theorem bm_bit {b : Nat → Bool} {o : Nat} (ho : o < 3) : ((nI (bm b)).toUInt32 >>> ((nI o).toUInt32 &&& Int32.toUInt32 31)).toInt32 &&& 1 = if b o then 1 else 0 := by
  unfold bm
  match o, ho with
  | 0, _ => cases b 0 <;> cases b 1 <;> cases b 2 <;> decide
  | 1, _ => cases b 0 <;> cases b 1 <;> cases b 2 <;> decide
  | 2, _ => cases b 0 <;> cases b 1 <;> cases b 2 <;> decide
  | o + 3, h => omega
theorem bm_0 {b : Nat → Bool} (h : nI (bm b) = 0) (x : Nat) (hx : x < 3) : b x = false := by
  have h' : bm b = 0 := (m_eq (b := 0) (by have := bm_lt b; omega) (by decide)).mp h
  unfold bm at h'
  match x, hx with
  | 0, _ => cases e : b 0
            · rfl
            · rw [e, if_pos rfl] at h'; omega
  | 1, _ => cases e : b 1
            · rfl
            · rw [e, if_pos rfl] at h'; omega
  | 2, _ => cases e : b 2
            · rfl
            · rw [e, if_pos rfl] at h'; omega
  | x + 3, h => omega
def ablK (A : Nat → Prop) (P : PG) (S : Nat → pm_E) (n : Nat) : q_K := fun r S' n' => S = S' ∧ n = n' ∧ ∃ b : Nat → Bool, r = some (.int (nI (bm b))) ∧ (∀ x, x < pH P → (b x = true ↔ A x)) ∧ ∀ x, pH P ≤ x → b x = false
set_option maxHeartbeats 4000000 in
theorem m_ables (hW : WFP P) (hc : c + 6 ≤ n) (hm : m < n) (hj : JPc c P S) (hJ : JMc m c pic S) (hp5 : pic < 5) : PM (j_SL L) (j_SV xs) j_EX mm_X6_ableHands [.ref m, .long s] S n (ablK (fun x => ableP P pic (e_D s) x) P S n) := by
  have hH := hW.2.1
  obtain ⟨gs, kM, g0, g1⟩ := hJ
  obtain ⟨fs, k0, f0, f1, fa, k1, h1⟩ := p_obj hj
  change PQ (j_SL L) (j_SV xs) j_EX mm_X6_ableHands 0 [.ref m, .long s, pm_un, pm_un, pm_un, pm_un] [] S n 0 0 _
  have key : ∀ mt : Int32, ((mt = 1 ∧ meetP P (e_D s)) ∨ (mt = 0 ∧ ¬ meetP P (e_D s))) → ∀ q o : Nat, o + q = pH P → ∀ b : Nat → Bool, (∀ x, x < o → (b x = true ↔ ableP P pic (e_D s) x)) → (∀ x, o ≤ x → b x = false) → PQ (j_SL L) (j_SV xs) j_EX mm_X6_ableHands 12 [.ref m, .long s, pm_un, .int mt, .int (nI (bm b)), .int (nI o)] [] S n 0 0 (ablK (fun x => ableP P pic (e_D s) x) P S n) := by
    intro mt hmt q
    induction q with
    | zero =>
      intro o hx b h1 h2
      refine q_iload rfl rfl rfl ?_
      refine q_aload_n rfl rfl rfl ?_
      refine q_getf rfl rfl hm kM g0 ?_
      refine q_getf rfl rfl (by omega) k0 f0 ?_
      refine q_icge rfl rfl (fun _ => ?_) (fun h => absurd ((m_le (by omega) (by omega)).mpr (by omega)) h)
      refine q_iload rfl rfl rfl ?_
      exact q_iret rfl rfl trivial ⟨rfl, rfl, b, rfl, fun x hx => h1 x (by omega), fun x hx => h2 x (by omega)⟩
    | succ q ih =>
      intro o hxq b h1 h2
      have ho : o < pH P := by omega
      refine q_iload rfl rfl rfl ?_
      refine q_aload_n rfl rfl rfl ?_
      refine q_getf rfl rfl hm kM g0 ?_
      refine q_getf rfl rfl (by omega) k0 f0 ?_
      refine q_icge rfl rfl (fun h => absurd ((m_le (by omega) (by omega)).mp h) (by omega)) (fun _ => ?_)
      refine q_aload_n rfl rfl rfl ?_
      refine q_lload_n rfl rfl rfl ?_
      refine q_iload rfl rfl rfl ?_
      refine q_iload_n rfl rfl rfl ?_
      refine q_cV rfl rfl (Or.inl rfl) rfl rfl rfl rfl hm kM trivial rfl rfl rfl rfl rfl (m_able hW hc hm hj ⟨gs, kM, g0, g1⟩ hp5 ho hmt) ?_
      rintro r _ _ ⟨rfl, rfl, hr⟩
      rcases hr with ⟨ha, rfl⟩ | ⟨ha, rfl⟩
      · show PQ (j_SL L) (j_SV xs) j_EX mm_X6_ableHands 32 _ [.int 1] S n 0 0 _
        refine q_ifeq rfl rfl (fun h => absurd h (by decide)) (fun _ => ?_)
        refine q_iload rfl rfl rfl ?_
        refine q_iconst rfl rfl ?_
        refine q_iload rfl rfl rfl ?_
        refine q_ishl rfl rfl ?_
        refine q_ior rfl rfl (q_tn (z := nI (bm (bup b o))) (bm_or (by omega) (h2 o (Nat.le_refl o))) ?_)
        refine q_ist4 rfl rfl rfl rfl ?_
        refine q_inc5 rfl rfl rfl rfl ?_
        refine q_goto rfl ?_
        rw [show nI o + 1 = nI (o + 1) from nI_add o 1]
        refine ih (o + 1) (by omega) (bup b o) (fun x hx => ?_) (fun x hx => ?_)
        · unfold bup
          split
          · rename_i e
            rw [e]
            exact ⟨fun _ => ha, fun _ => rfl⟩
          · exact h1 x (by omega)
        · unfold bup
          rw [if_neg (by omega)]
          exact h2 x (by omega)
      · show PQ (j_SL L) (j_SV xs) j_EX mm_X6_ableHands 32 _ [.int 0] S n 0 0 _
        refine q_ifeq rfl rfl (fun _ => ?_) (fun h => absurd rfl h)
        refine q_inc5 rfl rfl rfl rfl ?_
        refine q_goto rfl ?_
        rw [show nI o + 1 = nI (o + 1) from nI_add o 1]
        refine ih (o + 1) (by omega) b (fun x hx => ?_) (fun x hx => h2 x (by omega))
        by_cases e : x = o
        · rw [e, h2 o (Nat.le_refl o)]
          exact ⟨fun h => absurd h (by decide), fun h => absurd h ha⟩
        · exact h1 x (by omega)
  refine q_aload_n rfl rfl rfl ?_
  refine q_lload_n rfl rfl rfl ?_
  refine q_cV rfl rfl (Or.inl rfl) rfl rfl rfl rfl hm kM trivial rfl rfl rfl rfl rfl (m_meet hW hc hm hj ⟨gs, kM, g0, g1⟩ hp5) ?_
  rintro r _ _ ⟨rfl, rfl, hr⟩
  have go : ∀ mt : Int32, ((mt = 1 ∧ meetP P (e_D s)) ∨ (mt = 0 ∧ ¬ meetP P (e_D s))) → PQ (j_SL L) (j_SV xs) j_EX mm_X6_ableHands 5 [.ref m, .long s, pm_un, pm_un, pm_un, pm_un] [.int mt] S n 0 0 (ablK (fun x => ableP P pic (e_D s) x) P S n) := by
    intro mt hmt
    refine q_ist3n rfl rfl rfl rfl ?_
    refine q_iconst rfl rfl ?_
    refine q_ist4 rfl rfl rfl rfl ?_
    refine q_iconst rfl rfl ?_
    refine q_ist5 rfl rfl rfl rfl ?_
    exact key mt hmt (pH P) 0 (by omega) (fun _ => false) (fun x h => absurd h (by omega)) (fun _ _ => rfl)
  rcases hr with ⟨ha, rfl⟩ | ⟨ha, rfl⟩
  · exact go 1 (Or.inl ⟨rfl, ha⟩)
  · exact go 0 (Or.inr ⟨rfl, ha⟩)
/-- who may step, by the picture -/
def mayP (P : PG) (pic : Nat) (D : Nat → Nat) (x : Nat) : Prop := ableP P pic D x ∧ (pic = 1 → D 19 = 0 ∨ D 19 = x + 1 ∨ ¬ ableP P pic D (D 19 - 1)) ∧ (pic = 2 → ∃ k, k < pH P ∧ (D 19 + k) % pH P = x ∧ ∀ k', k' < k → ¬ ableP P pic D ((D 19 + k') % pH P))
theorem b_of {b : Nat → Bool} {A : Nat → Prop} {H : Nat} (h : ∀ x, x < H → (b x = true ↔ A x)) {x : Nat} (hx : x < H) (hb : b x = false) : ¬ A x := fun h9 => by
  rw [(h x hx).mpr h9] at hb
  cases hb
theorem md_h {d k H : Nat} (hd : d ≤ H) (hk : k < H) : (d + k) % H = if d + k < H then d + k else d + k - H := by
  split
  · exact Nat.mod_eq_of_lt (by assumption)
  · rw [Nat.mod_eq_sub_mod (by omega), Nat.mod_eq_of_lt (by omega)]
set_option maxHeartbeats 4000000 in
theorem m_chosen {b : Nat → Bool} (hW : WFP P) (hc : c + 6 ≤ n) (hm : m < n) (hj : JPc c P S) (hJ : JMc m c pic S) (hp5 : pic < 5) (hD : WFD P pic D) (hb : ∀ x, x < pH P → (b x = true ↔ ableP P pic D x)) (hb0 : ∀ x, pH P ≤ x → b x = false) : PM (j_SL L) (j_SV xs) j_EX mm_X6_chosenHands [.ref m, .int (nI (bm b)), .int (nI (D 19) - 1)] S n (ablK (fun x => mayP P pic D x) P S n) := by
  have hH := hW.2.1
  obtain ⟨gs, kM, g0, g1⟩ := hJ
  obtain ⟨fs, k0, f0, f1, fa, k1, h1⟩ := p_obj hj
  have hd := hD.2.2.2.2.1
  have hH1 := hW.1
  generalize hd9 : D 19 = d at hd ⊢
  change PQ (j_SL L) (j_SV xs) j_EX mm_X6_chosenHands 0 [.ref m, .int (nI (bm b)), .int (nI d - 1), pm_un, pm_un] [] S n 0 0 _
  have s24 : (pic = 1 → d = 0 ∨ ¬ ableP P pic D (d - 1)) → PQ (j_SL L) (j_SV xs) j_EX mm_X6_chosenHands 24 [.ref m, .int (nI (bm b)), .int (nI d - 1), pm_un, pm_un] [] S n 0 0 (ablK (fun x => mayP P pic D x) P S n) := by
    intro h1
    refine q_aload_n rfl rfl rfl ?_
    refine q_getf rfl rfl hm kM g1 ?_
    refine q_iconst rfl rfl ?_
    refine q_iceq rfl rfl (fun h => ?_) (fun h => ?_)
    rotate_left
    · have h2 : ¬ pic = 2 := fun e => h (by rw [e]; rfl)
      refine q_iload_n rfl rfl rfl ?_
      refine q_iret rfl rfl trivial ⟨rfl, rfl, b, rfl, fun x hx => ?_, hb0⟩
      refine (hb x hx).trans ⟨fun ha => ⟨ha, fun e => ?_, fun e => absurd e h2⟩, fun ha => ha.1⟩
      rw [hd9]
      rcases h1 e with q | q
      · exact Or.inl q
      · exact Or.inr (Or.inr q)
    have h2 := (m_eq (b := 2) (by omega) (by omega)).mp h
    have key : ∀ q k : Nat, k + q = pH P → (∀ k', k' < k → ¬ ableP P pic D ((d + k') % pH P)) → ∀ w : Value, PQ (j_SL L) (j_SV xs) j_EX mm_X6_chosenHands 36 [.ref m, .int (nI (bm b)), .int (nI d - 1), .int (nI (k + 1)), w] [] S n 0 0 (ablK (fun x => mayP P pic D x) P S n) := by
      intro q
      induction q with
      | zero =>
        intro k hk hn w
        refine q_iload_n rfl rfl rfl ?_
        refine q_aload_n rfl rfl rfl ?_
        refine q_getf rfl rfl hm kM g0 ?_
        refine q_getf rfl rfl (by omega) k0 f0 ?_
        refine q_icgt rfl rfl (fun _ => ?_) (fun h => absurd ((m_lt (by omega) (by omega)).mpr (by omega)) h)
        refine q_iconst rfl rfl ?_
        refine q_iret rfl rfl trivial ⟨rfl, rfl, fun _ => false, rfl, fun x hx => ⟨fun h => (by cases h), fun h => ?_⟩, fun _ _ => rfl⟩
        obtain ⟨k1, hk1, e1, -⟩ := h.2.2 h2
        rw [hd9] at e1
        have := hn k1 (by omega)
        rw [e1] at this
        exact absurd h.1 this
      | succ q ih =>
        intro k hk hn w
        have hkH : k < pH P := by omega
        have emd := md_h hd hkH
        refine q_iload_n rfl rfl rfl ?_
        refine q_aload_n rfl rfl rfl ?_
        refine q_getf rfl rfl hm kM g0 ?_
        refine q_getf rfl rfl (by omega) k0 f0 ?_
        refine q_icgt rfl rfl (fun h => absurd ((m_lt (by omega) (by omega)).mp h) (by omega)) (fun _ => ?_)
        have esum : nI d - 1 + nI (k + 1) = nI (d + k) := by
          rw [show nI (k + 1) = nI k + 1 from (nI_add k 1).symm, show nI (d + k) = nI d + nI k from (nI_add d k).symm]
          rw [Int32.sub_eq_add_neg, Int32.add_assoc, Int32.add_comm (nI k) 1, ← Int32.add_assoc (-1) 1 (nI k)]
          rw [show (-1 : Int32) + 1 = 0 from rfl, Int32.zero_add]
        have tail : PQ (j_SL L) (j_SV xs) j_EX mm_X6_chosenHands 77 [.ref m, .int (nI (bm b)), .int (nI d - 1), .int (nI (k + 1)), w] [.int (nI ((d + k) % pH P))] S n 0 0 (ablK (fun x => mayP P pic D x) P S n) := by
          have hmo : (d + k) % pH P < pH P := Nat.mod_lt _ (by omega)
          generalize hh : (d + k) % pH P = hn9 at hmo
          refine q_ist4 rfl rfl rfl rfl ?_
          refine q_iload_n rfl rfl rfl ?_
          refine q_iload rfl rfl rfl ?_
          refine q_iushr rfl rfl ?_
          refine q_iconst rfl rfl ?_
          refine q_iand rfl rfl (q_tn (z := if b hn9 then 1 else 0) (bm_bit (by omega)) ?_)
          cases eb : b hn9
          · refine q_ifeq rfl rfl (fun _ => ?_) (fun h => absurd rfl h)
            refine q_inc3 rfl rfl rfl rfl ?_
            refine q_goto rfl ?_
            rw [show nI (k + 1) + 1 = nI (k + 1 + 1) from nI_add (k + 1) 1]
            refine ih (k + 1) (by omega) (fun k' hk' => ?_) _
            by_cases e : k' = k
            · rw [e, hh]
              exact b_of hb hmo eb
            · exact hn k' (by omega)
          · refine q_ifeq rfl rfl (fun h => absurd h (by decide)) (fun _ => ?_)
            refine q_iconst rfl rfl ?_
            refine q_iload rfl rfl rfl ?_
            refine q_ishl rfl rfl (q_tn (z := nI (bm (fun x => decide (x = hn9)))) (bm_one (by omega)) ?_)
            refine q_iret rfl rfl trivial ⟨rfl, rfl, _, rfl, fun x hx => ?_, fun x hx => decide_eq_false (by omega)⟩
            rw [decide_eq_true_eq]
            constructor
            · rintro rfl
              exact ⟨(hb x hx).mp eb, fun e => absurd e (by omega), fun _ => ⟨k, hkH, by rw [hd9]; exact hh, fun k' hk' => by rw [hd9]; exact hn k' hk'⟩⟩
            · intro hx9
              obtain ⟨k1, hk1, e1, h1'⟩ := hx9.2.2 h2
              rw [hd9] at e1
              rcases Nat.lt_trichotomy k1 k with q1 | q1 | q1
              · have := hn k1 q1
                rw [e1] at this
                exact absurd hx9.1 this
              · rw [q1, hh] at e1
                exact e1.symm
              · have := h1' k q1
                rw [hd9, hh] at this
                exact absurd ((hb hn9 hmo).mp eb) this
        refine q_iload_n rfl rfl rfl ?_
        refine q_iload_n rfl rfl rfl ?_
        refine q_iadd rfl rfl (q_tn (z := nI (d + k)) esum ?_)
        refine q_aload_n rfl rfl rfl ?_
        refine q_getf rfl rfl hm kM g0 ?_
        refine q_getf rfl rfl (by omega) k0 f0 ?_
        refine q_icge rfl rfl (fun h => ?_) (fun h => ?_)
        · have hge := (m_le (by omega) (by omega)).mp h
          refine q_iload_n rfl rfl rfl ?_
          refine q_iload_n rfl rfl rfl ?_
          refine q_iadd rfl rfl (q_tn (z := nI (d + k)) esum ?_)
          refine q_aload_n rfl rfl rfl ?_
          refine q_getf rfl rfl hm kM g0 ?_
          refine q_getf rfl rfl (by omega) k0 f0 ?_
          refine q_isub rfl rfl (q_tn (z := nI ((d + k) % pH P)) ?_ tail)
          rw [emd, if_neg (by omega)]
          have e2 : nI (d + k) = nI (d + k - pH P) + nI (pH P) := by
            rw [show nI (d + k - pH P) + nI (pH P) = nI (d + k - pH P + pH P) from nI_add _ _]
            congr 1
            omega
          rw [e2]
          exact Int32.add_sub_cancel _ _
        · have hlt : d + k < pH P := by
            rw [m_le (by omega) (by omega)] at h
            omega
          refine q_iload_n rfl rfl rfl ?_
          refine q_iload_n rfl rfl rfl ?_
          refine q_iadd rfl rfl (q_tn (z := nI ((d + k) % pH P)) ?_ ?_)
          · rw [emd, if_pos hlt]
            exact esum
          · refine q_goto rfl ?_
            exact tail
    refine q_iconst rfl rfl ?_
    refine q_ist3n rfl rfl rfl rfl ?_
    exact key (pH P) 0 (by omega) (fun k' h => absurd h (by omega)) _
  refine q_aload_n rfl rfl rfl ?_
  refine q_getf rfl rfl hm kM g1 ?_
  refine q_iconst rfl rfl ?_
  refine q_icne rfl rfl (fun h => ?_) (fun h => s24 (fun e => absurd (by rw [e]; rfl) h))
  have h1 := (m_eq (b := 1) (by omega) (by omega)).mp h
  refine q_iload_n rfl rfl rfl ?_
  refine q_iflt rfl rfl (fun h => s24 (fun _ => Or.inl ?_)) (fun h => ?_)
  · have h' : ¬ (0 : Int32) ≤ nI d - 1 := fun h9 => i_ab h h9
    rw [m_sub0 (by omega)] at h'
    omega
  have hd1 : 1 ≤ d := (m_sub0 (by omega)).mp (i_nlt h)
  have ed : nI d - 1 = nI (d - 1) := (m_subx (by omega) (by omega)).mpr (by omega)
  refine q_iload_n rfl rfl rfl ?_
  refine q_iload_n rfl rfl rfl ?_
  refine q_tn (z := nI (d - 1)) ed ?_
  refine q_iushr rfl rfl ?_
  refine q_iconst rfl rfl ?_
  refine q_iand rfl rfl (q_tn (z := if b (d - 1) then 1 else 0) (bm_bit (by omega)) ?_)
  cases eb : b (d - 1)
  · exact q_ifeq rfl rfl (fun _ => s24 (fun _ => Or.inr (b_of hb (by omega) eb))) (fun h => absurd rfl h)
  · refine q_ifeq rfl rfl (fun h => absurd h (by decide)) (fun _ => ?_)
    refine q_iconst rfl rfl ?_
    refine q_iload_n rfl rfl rfl ?_
    refine q_tn (z := nI (d - 1)) ed ?_
    refine q_ishl rfl rfl (q_tn (z := nI (bm (fun x => decide (x = d - 1)))) (bm_one (by omega)) ?_)
    refine q_iret rfl rfl trivial ⟨rfl, rfl, _, rfl, fun x hx => ?_, fun x hx => decide_eq_false (by omega)⟩
    rw [decide_eq_true_eq]
    have ha := (hb (d - 1) (by omega)).mp eb
    constructor
    · rintro rfl
      exact ⟨ha, fun _ => by rw [hd9]; exact Or.inr (Or.inl (by omega)), fun e => absurd e (by omega)⟩
    · intro hx9
      have := hx9.2.1 h1
      rw [hd9] at this
      rcases this with q | q | q
      · omega
      · omega
      · exact absurd ha q
theorem m_marked (hW : WFP P) (hc : c + 6 ≤ n) (hm : m < n) (hj : JPc c P S) (hJ : JMc m c pic S) (hp5 : pic < 5) (hx : x < pH P) : PM (j_SL L) (j_SV xs) j_EX mm_X6_marked [.ref m, .long s, .int (nI x)] S n (lg S n (mkD pic (e_D s) x)) := by
  have hH := hW.2.1
  obtain ⟨gs, kM, g0, g1⟩ := hJ
  obtain ⟨fs, k0, f0, f1, fa, k1, h1⟩ := p_obj hj
  change PQ (j_SL L) (j_SV xs) j_EX mm_X6_marked 0 [.ref m, .long s, pm_un, .int (nI x)] [] S n 0 0 _
  have y : pic = 1 ∨ pic = 2 → PQ (j_SL L) (j_SV xs) j_EX mm_X6_marked 16 [.ref m, .long s, pm_un, .int (nI x)] [] S n 0 0 (lg S n (mkD pic (e_D s) x)) := by
    intro h
    refine q_lload_n rfl rfl rfl ?_
    refine q_iload_n rfl rfl rfl ?_
    refine q_tn (z := nI (x + 1) - 1) (by rw [show nI (x + 1) = nI x + 1 from (nI_add x 1).symm]; exact (Int32.add_sub_cancel (nI x) 1).symm) ?_
    refine q_cS rfl rfl (Or.inl rfl) rfl rfl trivial rfl rfl rfl rfl rfl (b_withLast (v := x + 1) (by omega)) ?_
    rintro r _ _ ⟨rfl, rfl, t, rfl, q1⟩
    show PQ (j_SL L) (j_SV xs) j_EX mm_X6_marked 21 _ [.long t] S n 0 0 _
    refine q_goto rfl ?_
    exact q_lret rfl rfl trivial ⟨rfl, rfl, t, rfl, by unfold mkD; rw [if_pos h]; exact q1⟩
  refine q_aload_n rfl rfl rfl ?_
  refine q_getf rfl rfl hm kM g1 ?_
  refine q_iconst rfl rfl ?_
  refine q_iceq rfl rfl (fun h => y (Or.inl ((m_eq (b := 1) (by omega) (by omega)).mp h))) (fun h1 => ?_)
  refine q_aload_n rfl rfl rfl ?_
  refine q_getf rfl rfl hm kM g1 ?_
  refine q_iconst rfl rfl ?_
  refine q_icne rfl rfl (fun h => y (Or.inr ((m_eq (b := 2) (by omega) (by omega)).mp h))) (fun h2 => ?_)
  refine q_lload_n rfl rfl rfl ?_
  refine q_lret rfl rfl trivial ⟨rfl, rfl, s, rfl, ?_⟩
  unfold mkD
  rw [if_neg (fun h => h.elim (fun e => h1 (by rw [e]; rfl)) (fun e => h2 (by rw [e]; rfl)))]
  exact is_rf
def endP (P : PG) (D : Nat → Nat) : Prop := ∀ x, x < pH P → ovr P D x
def failP (P : PG) (D : Nat → Nat) : Prop := ∃ x, x < pH P ∧ D (4 * x) = 15
set_option maxHeartbeats 4000000 in
theorem m_end (hW : WFP P) (hc : c + 6 ≤ n) (hm : m < n) (hj : JPc c P S) (hJ : JMc m c pic S) (hp5 : pic < 5) : PM (j_SL L) (j_SV xs) j_EX mm_X6_isEnd [.ref m, .long s] S n (yn (endP P (e_D s)) S n) := by
  have hH := hW.2.1
  obtain ⟨gs, kM, g0, g1⟩ := hJ
  obtain ⟨fs, k0, f0, f1, fa, k1, h1⟩ := p_obj hj
  change PQ (j_SL L) (j_SV xs) j_EX mm_X6_isEnd 0 [.ref m, .long s, pm_un, pm_un] [] S n 0 0 _
  have key : ∀ q x : Nat, x + q = pH P → (∀ y, y < x → ovr P (e_D s) y) → PQ (j_SL L) (j_SV xs) j_EX mm_X6_isEnd 2 [.ref m, .long s, pm_un, .int (nI x)] [] S n 0 0 (yn (endP P (e_D s)) S n) := by
    intro q
    induction q with
    | zero =>
      intro x hx hy
      refine q_iload_n rfl rfl rfl ?_
      refine q_aload_n rfl rfl rfl ?_
      refine q_getf rfl rfl hm kM g0 ?_
      refine q_getf rfl rfl (by omega) k0 f0 ?_
      refine q_icge rfl rfl (fun _ => ?_) (fun h => absurd ((m_le (by omega) (by omega)).mpr (by omega)) h)
      refine q_iconst rfl rfl ?_
      exact q_iret rfl rfl rfl ⟨rfl, rfl, Or.inl ⟨fun y h => hy y (by omega), rfl⟩⟩
    | succ q ih =>
      intro x hxq hy
      have hx : x < pH P := by omega
      have hD4 := e_D4 (s := s) (x := x) (by omega)
      refine q_iload_n rfl rfl rfl ?_
      refine q_aload_n rfl rfl rfl ?_
      refine q_getf rfl rfl hm kM g0 ?_
      refine q_getf rfl rfl (by omega) k0 f0 ?_
      refine q_icge rfl rfl (fun h => absurd ((m_le (by omega) (by omega)).mp h) (by omega)) (fun _ => ?_)
      refine q_aload_n rfl rfl rfl ?_
      refine q_getf rfl rfl hm kM g0 ?_
      refine q_iload_n rfl rfl rfl ?_
      refine q_lload_n rfl rfl rfl ?_
      refine q_iload_n rfl rfl rfl ?_
      refine q_cS rfl rfl (Or.inl rfl) rfl rfl trivial rfl rfl rfl rfl rfl (b_position (by omega)) ?_
      rintro r _ _ ⟨rfl, rfl, rfl⟩
      show PQ (j_SL L) (j_SV xs) j_EX mm_X6_isEnd 23 [.ref m, .long s, pm_un, .int (nI x)] [.int (nI (e_D s (4 * x))), .int (nI x), .ref c] S n 0 0 _
      refine q_cV rfl rfl (Or.inl rfl) rfl rfl rfl rfl (by omega) k0 trivial rfl rfl rfl rfl rfl (p_cell hW hc hj hx (e_D4 (by omega)).1) ?_
      rintro r _ _ ⟨rfl, rfl, hr⟩
      rcases hr with ⟨hlt, rfl⟩ | ⟨hge, rfl⟩
      · show PQ (j_SL L) (j_SV xs) j_EX mm_X6_isEnd 26 _ [.int (nI (8 * x + e_D s (4 * x)))] S n 0 0 _
        refine q_iflt rfl rfl (fun h => absurd h (m_n0 (by omega))) (fun _ => ?_)
        refine q_iconst rfl rfl ?_
        exact q_iret rfl rfl rfl ⟨rfl, rfl, Or.inr ⟨fun h => absurd (h x hx) (by unfold ovr; omega), rfl⟩⟩
      · show PQ (j_SL L) (j_SV xs) j_EX mm_X6_isEnd 26 _ [.int (-1)] S n 0 0 _
        refine q_iflt rfl rfl (fun _ => ?_) (fun h => absurd (by decide) h)
        refine q_inc3 rfl rfl rfl rfl ?_
        refine q_goto rfl ?_
        rw [show nI x + 1 = nI (x + 1) from nI_add x 1]
        refine ih (x + 1) (by omega) (fun y hy' => ?_)
        by_cases e : y = x
        · rw [e]
          exact hge
        · exact hy y (by omega)
  refine q_iconst rfl rfl ?_
  refine q_ist3n rfl rfl rfl rfl ?_
  exact key (pH P) 0 (by omega) (fun y h => absurd h (by omega))
set_option maxHeartbeats 4000000 in
theorem m_fail (hW : WFP P) (hc : c + 6 ≤ n) (hm : m < n) (hj : JPc c P S) (hJ : JMc m c pic S) (hp5 : pic < 5) : PM (j_SL L) (j_SV xs) j_EX mm_X6_someFailed [.ref m, .long s] S n (yn (failP P (e_D s)) S n) := by
  have hH := hW.2.1
  obtain ⟨gs, kM, g0, g1⟩ := hJ
  obtain ⟨fs, k0, f0, f1, fa, k1, h1⟩ := p_obj hj
  change PQ (j_SL L) (j_SV xs) j_EX mm_X6_someFailed 0 [.ref m, .long s, pm_un, pm_un] [] S n 0 0 _
  have key : ∀ q x : Nat, x + q = pH P → (∀ y, y < x → ¬ e_D s (4 * y) = 15) → PQ (j_SL L) (j_SV xs) j_EX mm_X6_someFailed 2 [.ref m, .long s, pm_un, .int (nI x)] [] S n 0 0 (yn (failP P (e_D s)) S n) := by
    intro q
    induction q with
    | zero =>
      intro x hx hy
      refine q_iload_n rfl rfl rfl ?_
      refine q_aload_n rfl rfl rfl ?_
      refine q_getf rfl rfl hm kM g0 ?_
      refine q_getf rfl rfl (by omega) k0 f0 ?_
      refine q_icge rfl rfl (fun _ => ?_) (fun h => absurd ((m_le (by omega) (by omega)).mpr (by omega)) h)
      refine q_iconst rfl rfl ?_
      exact q_iret rfl rfl rfl ⟨rfl, rfl, Or.inr ⟨fun ⟨y, h1, h2⟩ => hy y (by omega) h2, rfl⟩⟩
    | succ q ih =>
      intro x hxq hy
      have hx : x < pH P := by omega
      have hD4 := e_D4 (s := s) (x := x) (by omega)
      refine q_iload_n rfl rfl rfl ?_
      refine q_aload_n rfl rfl rfl ?_
      refine q_getf rfl rfl hm kM g0 ?_
      refine q_getf rfl rfl (by omega) k0 f0 ?_
      refine q_icge rfl rfl (fun h => absurd ((m_le (by omega) (by omega)).mp h) (by omega)) (fun _ => ?_)
      refine q_lload_n rfl rfl rfl ?_
      refine q_iload_n rfl rfl rfl ?_
      refine q_cS rfl rfl (Or.inl rfl) rfl rfl trivial rfl rfl rfl rfl rfl (b_position (by omega)) ?_
      rintro r _ _ ⟨rfl, rfl, rfl⟩
      show PQ (j_SL L) (j_SV xs) j_EX mm_X6_someFailed 18 _ [.int (nI (e_D s (4 * x)))] S n 0 0 _
      refine q_bipush rfl rfl ?_
      refine q_icne rfl rfl (fun h => ?_) (fun h => ?_)
      · refine q_iconst rfl rfl ?_
        exact q_iret rfl rfl rfl ⟨rfl, rfl, Or.inl ⟨⟨x, hx, (m_eq (b := 15) (by omega) (by omega)).mp h⟩, rfl⟩⟩
      · refine q_inc3 rfl rfl rfl rfl ?_
        refine q_goto rfl ?_
        rw [show nI x + 1 = nI (x + 1) from nI_add x 1]
        refine ih (x + 1) (by omega) (fun y hy' => ?_)
        by_cases e : y = x
        · rw [e]
          exact fun e15 => h (by rw [e15]; rfl)
        · exact hy y (by omega)
  refine q_iconst rfl rfl ?_
  refine q_ist3n rfl rfl rfl rfl ?_
  exact key (pH P) 0 (by omega) (fun y h => absurd h (by omega))
def firK (P : PG) (k : Nat) : Nat → Nat := fun j => if 12 ≤ j ∧ j < 12 + k then pV P (j - 12) else 0
set_option maxHeartbeats 4000000 in
theorem m_first (hW : WFP P) (hc : c + 6 ≤ n) (hm : m < n) (hj : JPc c P S) (hJ : JMc m c pic S) (hp5 : pic < 5) : PM (j_SL L) (j_SV xs) j_EX mm_X6_first [.ref m] S n (lg S n (firD P)) := by
  have hH := hW.2.1
  obtain ⟨gs, kM, g0, g1⟩ := hJ
  obtain ⟨fs, k0, f0, f1, fa, k1, h1⟩ := p_obj hj
  have hv := hW.2.2.2.1
  change PQ (j_SL L) (j_SV xs) j_EX mm_X6_first 0 [.ref m, pm_un, pm_un, pm_un] [] S n 0 0 _
  have key : ∀ q p : Nat, p + q = 4 → ∀ t : Int64, e_is t (firK P p) → PQ (j_SL L) (j_SV xs) j_EX mm_X6_first 4 [.ref m, .long t, pm_un, .int (nI p)] [] S n 0 0 (lg S n (firD P)) := by
    intro q
    induction q with
    | zero =>
      intro p hp t ht
      have e : p = 4 := by omega
      subst e
      refine q_iload_n rfl rfl rfl ?_
      refine q_iconst rfl rfl ?_
      refine q_icge rfl rfl (fun _ => ?_) (fun h => absurd (by decide) h)
      refine q_lload_n rfl rfl rfl ?_
      exact q_lret rfl rfl trivial ⟨rfl, rfl, t, rfl, ht⟩
    | succ q ih =>
      intro p hp t ht
      have hp4 : p < 4 := by omega
      have h9 := hv p hp4
      refine q_iload_n rfl rfl rfl ?_
      refine q_iconst rfl rfl ?_
      refine q_icge rfl rfl (fun h => absurd h (nI_ge (a := p) (b := 4) hp4 (by decide))) (fun _ => ?_)
      refine q_lload_n rfl rfl rfl ?_
      refine q_iload_n rfl rfl rfl ?_
      refine q_aload_n rfl rfl rfl ?_
      refine q_getf rfl rfl hm kM g0 ?_
      refine q_getf rfl rfl (by omega) k0 f1 ?_
      refine q_iload_n rfl rfl rfl ?_
      refine q_iald rfl rfl (by omega) k1 (q_inN hp4 (by decide)) (q_tn (z := nI (pV P p)) (by rw [nI_clamp (by omega)]; exact h1 p hp4) ?_)
      refine q_cS rfl rfl (Or.inl rfl) rfl rfl trivial rfl rfl rfl rfl rfl (b_withPlace hp4 (by omega)) ?_
      rintro r _ _ ⟨rfl, rfl, t1, rfl, q1⟩
      show PQ (j_SL L) (j_SV xs) j_EX mm_X6_first 23 _ [.long t1] S n 0 0 _
      refine q_lst1n rfl rfl rfl rfl ?_
      refine q_inc3 rfl rfl rfl rfl ?_
      refine q_goto rfl ?_
      rw [show nI p + 1 = nI (p + 1) from nI_add p 1]
      refine ih (p + 1) (by omega) t1 (fun j hj => ?_)
      rw [is_up ht q1 j hj]
      unfold e_up firK
      by_cases e : j = 12 + p
      · rw [if_pos e, if_pos (by omega), e, Nat.add_sub_cancel_left]
      · rw [if_neg e]
        by_cases e2 : 12 ≤ j ∧ j < 12 + p
        · rw [if_pos e2, if_pos (by omega)]
        · rw [if_neg e2, if_neg (by omega)]
  refine q_lconst rfl rfl ?_
  refine q_lst1n rfl rfl rfl rfl ?_
  refine q_iconst rfl rfl ?_
  refine q_ist3n rfl rfl rfl rfl ?_
  refine key 4 0 rfl 0 (fun j hj => ?_)
  have z : ∀ j : Fin 21, e_D 0 j.val = 0 := by decide +kernel
  rw [z ⟨j, hj⟩]
  unfold firK
  rw [if_neg (by omega)]
end ME
