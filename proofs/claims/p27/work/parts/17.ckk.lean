/-! THE CHECKER: one state held against another; ranks -/
def ck_sb (σ : List ck_V) (u : ck_V) : Option ck_V := match decide (u.2.2.1 = 0) with
  | true => some (0, 0, 0, u.2.2.2)
  | false => match σ[u.2.1]? with
    | some w => some (0, w.2.1, u.2.2.1 * w.2.2.1, u.2.2.1 * w.2.2.2 + u.2.2.2)
    | none => none
def ck_sm (x w : ck_V) : Bool := decide (x.2.2.1 = w.2.2.1) && (decide (x.2.2.2 = w.2.2.2) && (decide (x.2.2.1 = 0) || Nat.beq x.2.1 w.2.1))
def ck_mt (σ : List ck_V) (u w : ck_V) : Bool := match u.1 with
  | 0 => Nat.beq w.1 0 && (match ck_sb σ u with
    | some x => ck_sm x w
    | none => false)
  | 5 => true
  | t => Nat.beq w.1 t && Nat.beq w.2.1 u.2.1
def ck_mta (σ : List ck_V) : List ck_V → List ck_V → Bool
  | [], [] => true
  | u :: us, w :: ws => ck_mt σ u w && ck_mta σ us ws
  | _, _ => false
def ck_vs (r : List Int) (σ : List ck_V) (rs : List Int) : Prop := rs.length = σ.length ∧ ∀ (j : Nat) (w : ck_V), σ[j]? = some w → ∃ a, rs[j]? = some a ∧ ck_ev r w = some a
theorem ck_vs_ex {r : List Int} : ∀ {σ : List ck_V}, (∀ w ∈ σ, ∃ a, ck_ev r w = some a) → ∃ rs, ck_vs r σ rs
  | [], _ => ⟨[], rfl, fun j w h => by simp at h⟩
  | v :: σ, h => by
    obtain ⟨a, ha⟩ := h v List.mem_cons_self
    obtain ⟨rs, h1, h2⟩ := ck_vs_ex (fun w hw => h w (List.mem_cons_of_mem _ hw))
    refine ⟨a :: rs, by rw [List.length_cons, List.length_cons, h1], fun j w hj => ?_⟩
    cases j with
    | zero =>
      rw [List.getElem?_cons_zero] at hj ⊢
      cases hj
      exact ⟨a, rfl, ha⟩
    | succ j =>
      rw [List.getElem?_cons_succ] at hj ⊢
      exact h2 j w hj
theorem ck_sm_ok {r : List Int} {x w : ck_V} (h : ck_sm x w = true) : ck_ev r x = ck_ev r w := by
  unfold ck_sm at h
  simp only [Bool.and_eq_true, Bool.or_eq_true, decide_eq_true_eq] at h
  obtain ⟨h1, h2, h3⟩ := h
  unfold ck_ev
  rw [h1, h2]
  rcases h3 with h3 | h3
  · rw [h1] at h3
    rw [decide_eq_true h3]
  · rw [Nat.eq_of_beq_eq_true h3]
theorem ck_sb_ok {r rs : List Int} {σ : List ck_V} {u x : ck_V} {a : Int} (hv : ck_vs r σ rs) (h : ck_sb σ u = some x) (hx : ck_ev r x = some a) : ck_ev rs u = some a := by
  unfold ck_sb at h
  by_cases h0 : u.2.2.1 = 0
  · rw [decide_eq_true h0] at h
    cases h
    rw [ck_ev_0 h0, ← hx]
    exact (ck_ev_0 (v := ((0, 0, 0, u.2.2.2) : ck_V)) rfl).symm
  · rw [decide_eq_false h0] at h
    dsimp only at h
    cases hs : σ[u.2.1]? with
    | none => rw [hs] at h; cases h
    | some w =>
      rw [hs] at h
      cases h
      obtain ⟨b, hb1, hb2⟩ := hv.2 _ _ hs
      rw [ck_ev_1 h0 hb1]
      rcases ck_ev_d hb2 with ⟨g0, rfl⟩ | ⟨y, g0, hy, rfl⟩
      · rw [ck_ev_0 (v := (0, w.2.1, u.2.2.1 * w.2.2.1, u.2.2.1 * w.2.2.2 + u.2.2.2)) (show u.2.2.1 * w.2.2.1 = 0 by rw [g0, Int.mul_zero])] at hx
        exact hx
      · rw [ck_ev_g 0 (Or.inr hy)] at hx
        rw [← hx]
        congr 1
        rw [Int.mul_add, Int.mul_assoc]
        omega
theorem ck_mt_ok {r rs : List Int} {σ : List ck_V} {u w : ck_V} {z : Value} (hv : ck_vs r σ rs) (h : ck_mt σ u w = true) (hw : ck_ok r w z) : ck_ok rs u z := by
  unfold ck_mt at h
  split at h
  · rename_i hu
    rw [Bool.and_eq_true] at h
    obtain ⟨x, rfl, ex⟩ := ck_i (Nat.eq_of_beq_eq_true h.1) hw
    unfold ck_ok
    rw [hu]
    refine ⟨x, rfl, ?_⟩
    cases hs : ck_sb σ u with
    | none => rw [hs] at h; cases h.2
    | some y =>
      rw [hs] at h
      exact ck_sb_ok hv hs ((ck_sm_ok h.2).trans ex)
  · rename_i hu
    unfold ck_ok
    rw [hu]
    trivial
  · rw [Bool.and_eq_true] at h
    have e1 := Nat.eq_of_beq_eq_true h.1
    have e2 := Nat.eq_of_beq_eq_true h.2
    unfold ck_ok at hw ⊢
    rw [e1, e2] at hw
    split at hw
    · rename_i h5 hu
      exact absurd hu (by assumption)
    all_goals exact hw
theorem ck_mta_ok {r rs : List Int} {σ : List ck_V} (hv : ck_vs r σ rs) : ∀ {us ws : List ck_V} {zs : List Value}, ck_mta σ us ws = true → ck_al r ws zs → ck_al rs us zs
  | [], [], [], _, _ => trivial
  | u :: us, w :: ws, z :: zs, h, hw => by
    unfold ck_mta at h
    rw [Bool.and_eq_true] at h
    exact ⟨ck_mt_ok hv h.1 hw.1, ck_mta_ok hv h.2 hw.2⟩
  | [], [], _ :: _, _, hw => hw.elim
  | _ :: _, _ :: _, [], _, hw => hw.elim
  | [], _ :: _, _, h, _ => by cases h
  | _ :: _, [], _, h, _ => by cases h
def ck_sg (σ : List ck_V) : List ck_V → List ck_V → List ck_V
  | u :: us, w :: ws => match Nat.beq u.1 0 && (decide (u.2.2.1 = 1) && (decide (u.2.2.2 = 0) && (Nat.beq u.2.1 σ.length && Nat.beq w.1 0))) with
    | true => ck_sg (σ ++ [w]) us ws
    | false => ck_sg σ us ws
  | _, _ => σ
theorem ck_sg_ok {r : List Int} : ∀ {us ws σ : List ck_V}, (∀ w ∈ σ, ∃ a, ck_ev r w = some a) → (∀ w ∈ ws, ∃ z, ck_ok r w z) → ∀ w ∈ ck_sg σ us ws, ∃ a, ck_ev r w = some a
  | [], _, σ, h, _ => by unfold ck_sg; exact h
  | _ :: _, [], σ, h, _ => by unfold ck_sg; exact h
  | u :: us, w :: ws, σ, h, hw => by
    unfold ck_sg
    have hw' : ∀ x ∈ ws, ∃ z, ck_ok r x z := fun x hx => hw x (List.mem_cons_of_mem _ hx)
    split
    · rename_i hp
      simp only [Bool.and_eq_true] at hp
      refine ck_sg_ok (fun x hx => ?_) hw'
      rcases List.mem_append.mp hx with hx | hx
      · exact h x hx
      · rw [List.mem_singleton] at hx
        subst hx
        obtain ⟨z, hz⟩ := hw x List.mem_cons_self
        obtain ⟨y, -, ey⟩ := ck_i (Nat.eq_of_beq_eq_true hp.2.2.2.2) hz
        exact ⟨_, ey⟩
    · exact ck_sg_ok h hw'
theorem ck_sg_p : ∀ {us ws σ : List ck_V}, ∃ τ, ck_sg σ us ws = σ ++ τ
  | [], _, σ => ⟨[], by unfold ck_sg; rw [List.append_nil]⟩
  | _ :: _, [], σ => ⟨[], by unfold ck_sg; rw [List.append_nil]⟩
  | u :: us, w :: ws, σ => by
    unfold ck_sg
    split
    · obtain ⟨τ, h⟩ := ck_sg_p (us := us) (ws := ws) (σ := σ ++ [w])
      exact ⟨w :: τ, by rw [h, List.append_assoc]; rfl⟩
    · exact ck_sg_p
theorem ck_al_o {r : List Int} : ∀ {vs : List ck_V} {ws : List Value}, ck_al r vs ws → ∀ v ∈ vs, ∃ z, ck_ok r v z
  | [], _, _, v, hv => by cases hv
  | u :: us, w :: ws, h, v, hv => by
    rcases List.mem_cons.mp hv with e | e
    · subst e
      exact ⟨w, h.1⟩
    · exact ck_al_o h.2 v e
  | _ :: _, [], h, _, _ => h.elim
def ck_ec (E : ck_N) : List ck_V → ck_N → Bool
  | [], [] => true
  | w :: σ, q :: T => (decide (q.1 ≤ (ck_iv E w).1) && decide ((ck_iv E w).2 ≤ q.2)) && ck_ec E σ T
  | _, _ => false
theorem ck_ec_ok {r : List Int} {E : ck_N} (hE : ck_en r E) : ∀ {σ : List ck_V} {rs : List Int} {T : ck_N}, ck_vs r σ rs → ck_ec E σ T = true → ck_en rs T
  | [], rs, [], hv, _ => ⟨hv.1, fun i q y hi _ => by simp at hi⟩
  | w :: σ, rs, q :: T, hv, h => by
    unfold ck_ec at h
    rw [Bool.and_eq_true, Bool.and_eq_true] at h
    cases rs with
    | nil => cases hv.1
    | cons a rs =>
      have hv' : ck_vs r σ rs := ⟨Nat.succ.inj hv.1, fun j u hj => by
        have := hv.2 (j + 1) u (by rw [List.getElem?_cons_succ]; exact hj)
        rw [List.getElem?_cons_succ] at this
        exact this⟩
      have ih := ck_ec_ok hE hv' h.2
      obtain ⟨b, hb1, hb2⟩ := hv.2 0 w rfl
      cases hb1
      obtain ⟨g1, g2⟩ := ck_iv_ok hE hb2
      refine ⟨by rw [List.length_cons, List.length_cons, ih.1], fun i q' y hi hy => ?_⟩
      cases i with
      | zero =>
        cases hi
        cases hy
        exact ⟨Int.le_trans (of_decide_eq_true h.1.1) g1, Int.le_trans g2 (of_decide_eq_true h.1.2)⟩
      | succ i =>
        rw [List.getElem?_cons_succ] at hi hy
        exact ih.2 i q' y hi hy
  | [], _, _ :: _, _, h => by cases h
  | _ :: _, _, [], _, h => by cases h
/-- what is known of the fields that the other state names -/
def ck_md (σ : List ck_V) (m : List ck_D) (d : ck_D) : Option ck_V := match d.1 with
  | 0 => ck_fd m d.2.1 d.2.2.1.2.1
  | _ => match ck_sb σ d.2.2.1 with
    | some i => ck_fe m d.2.1 i
    | none => none
def ck_ml (σ : List ck_V) (m : List ck_D) : List ck_D → Option (List ck_V)
  | [] => some []
  | d :: ds => match ck_md σ m d, ck_ml σ m ds with
    | some w, some ws => some (w :: ws)
    | _, _ => none
theorem ck_vs_p {r rs : List Int} {σ τ : List ck_V} {u x : ck_V} {a : Int} (hv : ck_vs r (σ ++ τ) rs) (h : ck_sb σ u = some x) (hx : ck_ev r x = some a) : ck_ev rs u = some a := by
  refine ck_sb_ok hv (x := x) ?_ hx
  unfold ck_sb at h ⊢
  cases h0 : decide (u.2.2.1 = 0)
  · rw [h0] at h
    dsimp only at h ⊢
    cases hs : σ[u.2.1]? with
    | none => rw [hs] at h; cases h
    | some w =>
      rw [hs] at h
      rw [List.getElem?_append_left (List.getElem?_eq_some_iff.mp hs).1, hs]
      exact h
  · rw [h0] at h
    exact h
theorem ck_md_ok {r rs : List Int} {hh : pm_H} {m : List ck_D} {d : ck_D} {w : ck_V} {σ : List ck_V} (h5 : ∀ d ∈ m, ck_mo r hh d) (h : ck_md σ m d = some w) : (∃ z, ck_ok r w z) ∧ ∀ τ, ck_vs r (σ ++ τ) rs → ((∀ z, ck_ok r w z → ck_ok rs d.2.2.2 z) → ck_mo rs hh d) := by
  unfold ck_md at h
  split at h
  · rename_i hd
    obtain ⟨e, he, e1, e2, e3, e4⟩ := ck_fd_ok h
    have hm := h5 e he
    unfold ck_mo at hm
    rw [e1] at hm
    obtain ⟨ci, fs, z, m1, m2, m3⟩ := hm
    rw [e4] at m3
    refine ⟨⟨z, m3⟩, fun τ hv hz => ?_⟩
    unfold ck_mo
    rw [hd]
    exact ⟨ci, fs, z, by rw [← e2]; exact m1, by rw [← e3]; exact m2, hz z m3⟩
  · rename_i hd
    split at h
    · rename_i x hx
      obtain ⟨e, he, e1, e2, e3, e4⟩ := ck_fe_ok (r := r) h
      have hm := h5 e he
      unfold ck_mo at hm
      rw [e1] at hm
      obtain ⟨t, n, f, a, m1, m2, m3⟩ := hm
      rw [e4] at m3
      refine ⟨⟨_, m3⟩, fun τ hv hz => ?_⟩
      rw [e3] at m2
      unfold ck_mo
      split
      · rename_i hc
        exact absurd hc (by assumption)
      · exact ⟨t, n, f, a, by rw [← e2]; exact m1, ck_vs_p hv hx m2, hz _ m3⟩
    · cases h
theorem ck_ml_ok {r rs : List Int} {hh : pm_H} {m : List ck_D} {σ0 : List ck_V} (h5 : ∀ d ∈ m, ck_mo r hh d) : ∀ {ds : List ck_D} {ws : List ck_V}, ck_ml σ0 m ds = some ws → (∀ w ∈ ws, ∃ z, ck_ok r w z) ∧ ∀ τ, ck_vs r (σ0 ++ τ) rs → ck_mta (σ0 ++ τ) (ds.map (fun d => d.2.2.2)) ws = true → ∀ d ∈ ds, ck_mo rs hh d
  | [], ws, h => by
    cases h
    exact ⟨fun w hw => (by cases hw), fun _ _ _ d hd => (by cases hd)⟩
  | d :: ds, ws, h => by
    unfold ck_ml at h
    split at h
    · rename_i w ws' h1 h2
      cases h
      obtain ⟨g1, g2⟩ := ck_md_ok (rs := rs) h5 h1
      obtain ⟨i1, i2⟩ := ck_ml_ok h5 h2
      refine ⟨fun x hx => ?_, fun τ hv hm e he => ?_⟩
      · rcases List.mem_cons.mp hx with e | e
        · subst e
          exact g1
        · exact i1 x e
      · rw [List.map_cons] at hm
        unfold ck_mta at hm
        rw [Bool.and_eq_true] at hm
        rcases List.mem_cons.mp he with e' | e'
        · subst e'
          exact g2 τ hv (fun z hz => ck_mt_ok hv hm.1 hz)
        · exact i2 τ hv hm.2 e e'
    · cases h
def ck_dot : List Int → List Int → Int
  | a :: as, b :: bs => a * b + ck_dot as bs
  | _, _ => 0
def ck_va : List Int → List Int → List Int
  | a :: as, b :: bs => (a + b) :: ck_va as bs
  | [], bs => bs
  | as, [] => as
theorem ck_dot_n (r : List Int) : ck_dot [] r = 0 := by unfold ck_dot; rfl
theorem ck_dot_m (k : List Int) : ck_dot k [] = 0 := by cases k <;> rfl
theorem ck_dot_a : ∀ (a b r : List Int), ck_dot (ck_va a b) r = ck_dot a r + ck_dot b r
  | [], b, r => by
    rw [ck_dot_n, Int.zero_add]
    cases b <;> rfl
  | a :: as, [], r => by
    rw [ck_dot_n, Int.add_zero]
    rfl
  | a :: as, b :: bs, [] => rfl
  | a :: as, b :: bs, y :: r => by
    show (a + b) * y + ck_dot (ck_va as bs) r = (a * y + ck_dot as r) + (b * y + ck_dot bs r)
    rw [ck_dot_a as bs r, Int.add_mul]
    omega
def ck_unit : Nat → Int → List Int
  | 0, k => [k]
  | n + 1, k => 0 :: ck_unit n k
theorem ck_unit_ok : ∀ {i : Nat} {k y : Int} {r : List Int}, r[i]? = some y → ck_dot (ck_unit i k) r = k * y
  | 0, k, y, x :: r, h => by
    cases h
    show k * y + ck_dot [] r = k * y
    rw [ck_dot_n, Int.add_zero]
  | i + 1, k, y, x :: r, h => by
    rw [List.getElem?_cons_succ] at h
    show 0 * x + ck_dot (ck_unit i k) r = k * y
    rw [ck_unit_ok h, Int.zero_mul, Int.zero_add]
  | _, _, _, [], h => by simp at h
def ck_cf : List Int → List ck_V → Int × List Int
  | k :: ks, v :: σ => ((ck_cf ks σ).1 + k * v.2.2.2, match decide (v.2.2.1 = 0) with
    | true => (ck_cf ks σ).2
    | false => ck_va (ck_unit v.2.1 (k * v.2.2.1)) (ck_cf ks σ).2)
  | _, _ => (0, [])
theorem ck_cf_ok {r : List Int} : ∀ {ks : List Int} {σ : List ck_V} {rs : List Int}, ck_vs r σ rs → ck_dot ks rs = (ck_cf ks σ).1 + ck_dot (ck_cf ks σ).2 r
  | [], σ, rs, _ => by
    rw [ck_dot_n]
    show 0 = 0 + ck_dot [] r
    rw [ck_dot_n]
    rfl
  | k :: ks, [], rs, hv => by
    have e : rs = [] := List.length_eq_zero_iff.mp hv.1
    subst e
    show 0 = 0 + ck_dot [] r
    rw [ck_dot_n]
    rfl
  | k :: ks, v :: σ, [], hv => by cases hv.1
  | k :: ks, v :: σ, a :: rs, hv => by
    have hv' : ck_vs r σ rs := ⟨Nat.succ.inj hv.1, fun j u hj => by
      have := hv.2 (j + 1) u (by rw [List.getElem?_cons_succ]; exact hj)
      rw [List.getElem?_cons_succ] at this
      exact this⟩
    have ih := ck_cf_ok (ks := ks) hv'
    obtain ⟨b, hb1, hb2⟩ := hv.2 0 v rfl
    cases hb1
    show k * a + ck_dot ks rs = ((ck_cf ks σ).1 + k * v.2.2.2) + ck_dot (match decide (v.2.2.1 = 0) with
      | true => (ck_cf ks σ).2
      | false => ck_va (ck_unit v.2.1 (k * v.2.2.1)) (ck_cf ks σ).2) r
    rw [ih]
    rcases ck_ev_d hb2 with ⟨g0, rfl⟩ | ⟨y, g0, hy, rfl⟩
    · rw [decide_eq_true g0]
      dsimp only
      omega
    · rw [decide_eq_false g0]
      dsimp only
      rw [ck_dot_a, ck_unit_ok hy, Int.mul_add, Int.mul_assoc]
      omega
def ck_ub : List Int → ck_N → Int
  | k :: ks, q :: E => (match decide (0 ≤ k) with
    | true => k * q.2
    | false => k * q.1) + ck_ub ks E
  | _, _ => 0
theorem ck_en_t {y : Int} {r : List Int} {q : Int × Int} {E : ck_N} (h : ck_en (y :: r) (q :: E)) : (q.1 ≤ y ∧ y ≤ q.2) ∧ ck_en r E :=
  ⟨h.2 0 q y rfl rfl, Nat.succ.inj h.1, fun i q' y' hi hy => h.2 (i + 1) q' y' (by rw [List.getElem?_cons_succ]; exact hi) (by rw [List.getElem?_cons_succ]; exact hy)⟩
theorem ck_ub_ok : ∀ {ks r : List Int} {E : ck_N}, ck_en r E → ck_dot ks r ≤ ck_ub ks E
  | [], r, E, _ => by
    rw [ck_dot_n]
    cases E <;> exact Int.le_refl _
  | k :: ks, [], [], _ => Int.le_refl _
  | k :: ks, y :: r, q :: E, h => by
    obtain ⟨⟨h1, h2⟩, h3⟩ := ck_en_t h
    have ih := ck_ub_ok (ks := ks) h3
    show k * y + ck_dot ks r ≤ (match decide (0 ≤ k) with
      | true => k * q.2
      | false => k * q.1) + ck_ub ks E
    cases hk : decide (0 ≤ k)
    · have hk' : k ≤ 0 := by
        have := of_decide_eq_false hk
        omega
      have := Int.mul_le_mul_of_nonpos_left hk' h1
      dsimp only
      omega
    · have := Int.mul_le_mul_of_nonneg_left h2 (of_decide_eq_true hk)
      dsimp only
      omega
  | _ :: _, [], _ :: _, h => by cases h.1
  | _ :: _, _ :: _, [], h => by cases h.1
def ck_ng (ks : List Int) : List Int := ks.map (fun k => - k)
theorem ck_ng_ok : ∀ (ks r : List Int), ck_dot (ck_ng ks) r = - ck_dot ks r
  | [], r => by
    show ck_dot [] r = - ck_dot [] r
    rw [ck_dot_n]
    rfl
  | k :: ks, [] => rfl
  | k :: ks, y :: r => by
    show - k * y + ck_dot (ck_ng ks) r = - (k * y + ck_dot ks r)
    rw [ck_ng_ok ks r, Int.neg_mul]
    omega
theorem ck_dot_x : ∀ {ks r : List Int} (t : List Int), ks.length ≤ r.length → ck_dot ks (r ++ t) = ck_dot ks r
  | [], r, t, _ => by rw [ck_dot_n, ck_dot_n]
  | k :: ks, [], t, h => by cases h
  | k :: ks, y :: r, t, h => by
    show k * y + ck_dot ks (r ++ t) = k * y + ck_dot ks r
    rw [ck_dot_x t (Nat.le_of_succ_le_succ h)]
