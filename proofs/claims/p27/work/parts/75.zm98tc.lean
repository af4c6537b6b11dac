/-! element: what the shelves hold, in both; what keep, make and copy make of it -/
section TC
variable {θ : Th} {L : Nat} {xs : Nat → Int32} {S S1 S2 : Nat → pm_E} {n n1 : Nat} {f : Nat → Option Nat} {HF SF : Nat → Int32} {g g' : Nat → Int64}
def JEd (S : Nat → pm_E) (D : Nat) (c : Option Nat) (h sz : Int32) (g : Nat → Int64) : Prop := (c = none ∧ h = 0) ∨ (∃ y a b, c = some y ∧ S y = .inr (8, [.int a, .int b]) ∧ h = 1) ∨ (∃ y z len q, c = some y ∧ S y = .inr (2, [.ref z]) ∧ S z = .inl (1, len, .inr (.inl q)) ∧ len ≤ 60 ∧ h = 3 ∧ sz = nI len ∧ ∀ i, i < len → q i = g (60 * D + i)) ∨ (∃ y z len q, c = some y ∧ S y = .inr (7, [.ref z]) ∧ S z = .inl (3, len, .inl q) ∧ len ≤ 60 ∧ h = 4 ∧ sz = nI len ∧ ∀ i, i < len → (q i).toInt64 = g (60 * D + i))
def rwz (S : Nat → pm_E) (c : Option Nat) (z : Nat) : Prop := ∃ y t, c = some y ∧ S y = .inr (t, [.ref z])
def JEf (S : Nat → pm_E) (f : Nat → Option Nat) (HF SF : Nat → Int32) (g : Nat → Int64) : Prop := S 43 = sh43 f ∧ S 75 = ar8 HF ∧ S 78 = ar8 SF ∧ S 79 = it79 g ∧ (∀ D, D < 8 → JEd S D (f D) (HF D) (SF D) g) ∧ ∀ D E z, D < 8 → E < 8 → rwz S (f D) z → rwz S (f E) z → D = E
def JE (S : Nat → pm_E) : Prop := ∃ f HF SF g, JEf S f HF SF g
theorem hcs_z {y z t : Nat} (h : hcs S n y) (hy : S y = .inr (t, [.ref z])) : 82 ≤ z ∧ z < n := by
  rcases h with ⟨a, b, h9⟩ | ⟨z9, l9, g9, h9, q1, q2, -⟩ | ⟨z9, l9, g9, h9, q1, q2, -⟩
  · rw [hy] at h9
    cases h9
  · rw [hy] at h9
    cases h9
    exact ⟨q1, q2⟩
  · rw [hy] at h9
    cases h9
    exact ⟨q1, q2⟩
def hcO (S : Nat → pm_E) (n : Nat) (c : Option Nat) : Prop := ∀ y, c = some y → 82 ≤ y ∧ y < n ∧ hcs S n y
theorem je_hc (hG : GS θ S n) (h43 : S 43 = sh43 f) {D : Nat} (hD : D < 8) : hcO S n (f D) := fun y e => by
  have h := js_hc hG h43 D hD y e
  have h2 := xh_cs h.2
  exact ⟨h.1, h2.1, h2.2⟩
theorem rwz_lt {c : Option Nat} {z : Nat} (hc : hcO S n c) (h : rwz S c z) : 82 ≤ z ∧ z < n := by
  obtain ⟨y, t, e, hy⟩ := h
  exact hcs_z (hc y e).2.2 hy
theorem rwz_bk {c : Option Nat} {z : Nat} (hc : hcO S n c) (e : ∀ k, 82 ≤ k → k < n → S2 k = S k) (h : rwz S2 c z) : rwz S c z := by
  obtain ⟨y, t, e1, e2⟩ := h
  obtain ⟨u1, u2, -⟩ := hc y e1
  exact ⟨y, t, e1, (e y u1 u2).symm.trans e2⟩
/-- a shelf over a call that leaves its cells and its items -/
theorem jed_mo {D : Nat} {c : Option Nat} {h sz : Int32} (hc : hcO S n c) (e : ∀ k, 82 ≤ k → k < n → (∃ y, c = some y ∧ (k = y ∨ ∃ t, S y = .inr (t, [.ref k]))) → S2 k = S k) (hg : ∀ i, i < 60 → g' (60 * D + i) = g (60 * D + i)) (H : JEd S D c h sz g) : JEd S2 D c h sz g' := by
  rcases H with H | ⟨y, a, b, e1, e2, e3⟩ | ⟨y, z, len, q, e1, e2, e3, e4, e5, e6, e7⟩ | ⟨y, z, len, q, e1, e2, e3, e4, e5, e6, e7⟩
  · exact Or.inl H
  · obtain ⟨u1, u2, -⟩ := hc y e1
    exact Or.inr (Or.inl ⟨y, a, b, e1, (e y u1 u2 ⟨y, e1, Or.inl rfl⟩).trans e2, e3⟩)
  · obtain ⟨u1, u2, u3⟩ := hc y e1
    have hz := hcs_z u3 e2
    exact Or.inr (Or.inr (Or.inl ⟨y, z, len, q, e1, (e y u1 u2 ⟨y, e1, Or.inl rfl⟩).trans e2, (e z hz.1 hz.2 ⟨y, e1, Or.inr ⟨2, e2⟩⟩).trans e3, e4, e5, e6, fun i hi => (e7 i hi).trans (hg i (by omega)).symm⟩))
  · obtain ⟨u1, u2, u3⟩ := hc y e1
    have hz := hcs_z u3 e2
    exact Or.inr (Or.inr (Or.inr ⟨y, z, len, q, e1, (e y u1 u2 ⟨y, e1, Or.inl rfl⟩).trans e2, (e z hz.1 hz.2 ⟨y, e1, Or.inr ⟨7, e2⟩⟩).trans e3, e4, e5, e6, fun i hi => (e7 i hi).trans (hg i (by omega)).symm⟩))
theorem je_fr (hG : GS θ S n) (hJ : JE S) (e : ∀ k, k = 43 ∨ k = 75 ∨ k = 78 ∨ k = 79 ∨ (82 ≤ k ∧ k < n) → S2 k = S k) : JE S2 := by
  obtain ⟨f, HF, SF, g, b1, b2, b3, b4, b5, b6⟩ := hJ
  have e9 : ∀ k, 82 ≤ k → k < n → S2 k = S k := fun k h1 h2 => e k (by omega)
  exact ⟨f, HF, SF, g, (e 43 (by omega)).trans b1, (e 75 (by omega)).trans b2, (e 78 (by omega)).trans b3, (e 79 (by omega)).trans b4, fun D hD => jed_mo (je_hc hG b1 hD) (fun k h1 h2 _ => e9 k h1 h2) (fun _ _ => rfl) (b5 D hD), fun D E z hD hE h1 h2 => b6 D E z hD hE (rwz_bk (je_hc hG b1 hD) e9 h1) (rwz_bk (je_hc hG b1 hE) e9 h2)⟩
theorem je_fr1 {l : List Nat} (hG : GS θ S n) (hJ : JE S) (e : fr1 l S S2 n) (q3 : l.all (fun k => Nat.ble k 81) = true) (q4 : [43, 75, 78, 79].all (fun k => !(l.contains k)) = true) : JE S2 := by
  have hn := gs_n hG
  have nc : ∀ j, 82 ≤ j → l.contains j = false := fun j hj => by
    cases hc : l.contains j
    · rfl
    · have := Nat.le_of_ble_eq_true (List.all_eq_true.mp q3 j (List.contains_iff_mem.mp hc))
      omega
  have n4 : ∀ j, j ∈ [43, 75, 78, 79] → l.contains j = false := fun j hj => by simpa using List.all_eq_true.mp q4 j hj
  refine je_fr hG hJ (fun k hk => ?_)
  rcases hk with rfl | rfl | rfl | rfl | ⟨h1, h2⟩
  · exact e 43 (by omega) (n4 43 (by decide))
  · exact e 75 (by omega) (n4 75 (by decide))
  · exact e 78 (by omega) (n4 78 (by decide))
  · exact e 79 (by omega) (n4 79 (by decide))
  · exact e k h2 (nc k h1)
/-- the other shelves, over a call that lays something new on shelf D -/
theorem je_oth {f' : Nat → Option Nat} {HF' SF' : Nat → Int32} {D : Nat} (hG : GS θ S n) (hJ : JEf S f HF SF g) (hD8 : D < 8) (e : ∀ k, 82 ≤ k → k < n → S2 k = S k) (a1 : S2 43 = sh43 f') (a2 : S2 75 = ar8 HF') (a3 : S2 78 = ar8 SF') (a4 : S2 79 = it79 g') (hf : ∀ d, d ≠ D → f' d = f d ∧ HF' d = HF d ∧ SF' d = SF d) (hg : ioD D g g') (hd : JEd S2 D (f' D) (HF' D) (SF' D) g') (hz : ∀ z, rwz S2 (f' D) z → n ≤ z) : JE S2 := by
  obtain ⟨b1, b2, b3, b4, b5, b6⟩ := hJ
  refine ⟨f', HF', SF', g', a1, a2, a3, a4, fun d h8 => ?_, fun d E z hd8 hE h1 h2 => ?_⟩
  · by_cases ed : d = D
    · rw [ed]
      exact hd
    · obtain ⟨q1, q2, q3⟩ := hf d ed
      rw [q1, q2, q3]
      exact jed_mo (je_hc hG b1 h8) (fun k h1 h2 _ => e k h1 h2) (fun i hi => hg _ (by omega)) (b5 d h8)
  · by_cases e1 : d = D
    · by_cases e2 : E = D
      · rw [e1, e2]
      · exfalso
        rw [e1] at h1
        rw [(hf E e2).1] at h2
        have c1 := rwz_lt (je_hc hG b1 hE) (rwz_bk (je_hc hG b1 hE) e h2)
        have c2 := hz z h1
        omega
    · by_cases e2 : E = D
      · exfalso
        rw [e2] at h2
        rw [(hf d e1).1] at h1
        have c1 := rwz_lt (je_hc hG b1 hd8) (rwz_bk (je_hc hG b1 hd8) e h1)
        have c2 := hz z h2
        omega
      · rw [(hf d e1).1] at h1
        rw [(hf E e2).1] at h2
        exact b6 d E z hd8 hE (rwz_bk (je_hc hG b1 hd8) e h1) (rwz_bk (je_hc hG b1 hE) e h2)
theorem nc_82 {l : List Nat} (q3 : l.all (fun k => Nat.ble k 81) = true) {j : Nat} (hj : 82 ≤ j) : l.contains j = false := by
  cases hc : l.contains j
  · rfl
  · have := Nat.le_of_ble_eq_true (List.all_eq_true.mp q3 j (List.contains_iff_mem.mp hc))
    omega
set_option maxHeartbeats 4000000 in
theorem je_keep {D : Nat} {w k x : Int32} {x0 : Int64} {rn : Nat → Int32} {g0 : Nat → Int64} (hG : GS θ S n) (hJ : JE S) (h1 : ckpT θ D w k x0 S n S1) (e1 : ∀ j, j < n → j ≠ 43 → S1 j = S j) (h79 : S1 79 = it79 g0) (h2 : rkpT θ D w k x g0 rn S1 S2) (hG1 : GS θ S1 n1) (hle : n ≤ n1) (hD8 : D < 8) (e2 : fr1 [75, 76, 77, 78, 79] S1 S2 n1) (hv1 : ∀ i, i < 4 → rn (12 + i) = nI (e_D x0 (12 + i))) (hv2 : ∀ q, q < 3 → rn (4 * q + 1) = nI (e_D x0 (4 * q + 1))) : JE S2 := by
  have hn := gs_n hG
  obtain ⟨f, HF, SF, g, hJf⟩ := hJ
  obtain ⟨f9, h43, h1⟩ := h1
  obtain ⟨b1, b2, b3, b4, -⟩ := id hJf
  rw [h43] at b1
  cases b1
  obtain ⟨hf, kf, lf, sf, c1, c2, c3, c4, c5, h2, g', t79, hio, hw3, hw4⟩ := h2
  have t2 := (e1 75 (by omega) (by decide)).trans b2
  have t5 := (e1 78 (by omega) (by decide)).trans b3
  have t9 := (e1 79 (by omega) (by decide)).trans b4
  rw [t2] at c1
  rw [t5] at c4
  rw [t9] at h79
  cases c1
  cases c4
  cases h79
  have nc : ∀ j, 82 ≤ j → ([75, 76, 77, 78, 79] : List Nat).contains j = false := fun j hj => nc_82 rfl hj
  have e82 : ∀ j, 82 ≤ j → j < n → S2 j = S j := fun j h h' => (e2 j (by omega) (nc j h)).trans (e1 j h' (by omega))
  have s43 : S2 43 = S1 43 := e2 43 (by omega) rfl
  have hx : S1 43 = sh43 (va_up f D (some n)) → n < n1 ∧ (∀ t z, S1 n = .inr (t, [.ref z]) → z < n1) := by
    intro p0
    have h8 := je_hc hG1 p0 hD8 n u_at
    exact ⟨h8.2.1, fun t z h => (hcs_z h8.2.2 h).2⟩
  rcases h2 with ⟨rfl, q1, q2, q3⟩ | ⟨rfl, ⟨X, I, hA, q1, q2⟩, q3⟩ | ⟨rfl, q1, q2, q3⟩ | ⟨rfl, q1, q2, X, hX, ek, hXh, q3⟩
  · rcases h1 with ⟨-, p1⟩ | ⟨-, ⟨h, -⟩ | ⟨h, -⟩ | ⟨h, -⟩⟩
    · refine je_oth (D := D) hG hJf hD8 e82 (s43.trans p1) c5 (q3.trans t5) t79 (fun d hd => ⟨u_ot hd, upd_ot hd, rfl⟩) hio ?_ ?_
      · rw [u_at, upd_at]
        exact Or.inl ⟨rfl, rfl⟩
      · rintro z ⟨y, t, e, -⟩
        rw [u_at] at e
        cases e
    · exact absurd h (by decide)
    · exact absurd h (by decide)
    · exact absurd h (by decide)
  · rcases h1 with ⟨h, -⟩ | ⟨p0, ⟨-, a, b, p1⟩ | ⟨h, -⟩ | ⟨h, -⟩⟩
    · exact absurd h (by decide)
    · have s2n := (e2 n (hx p0).1 (nc n hn)).trans p1
      refine je_oth (D := D) hG hJf hD8 e82 (s43.trans p0) c5 (q3.trans t5) t79 (fun d hd => ⟨u_ot hd, upd_ot hd, rfl⟩) hio ?_ ?_
      · rw [u_at, upd_at]
        exact Or.inr (Or.inl ⟨n, _, _, rfl, s2n, rfl⟩)
      · rintro z ⟨y, t, e, ey⟩
        rw [u_at] at e
        cases e
        rw [s2n] at ey
        cases ey
    · exact absurd h (by decide)
    · exact absurd h (by decide)
  · rcases h1 with ⟨h, -⟩ | ⟨p0, ⟨h, -⟩ | ⟨-, H, hH, eH, p1, q, p2, p3, p4⟩ | ⟨h, -⟩⟩
    · exact absurd h (by decide)
    · exact absurd h (by decide)
    · have s2n := (e2 n (hx p0).1 (nc n hn)).trans p1
      have s2z := (e2 (n + 1) ((hx p0).2 2 (n + 1) p1) (nc (n + 1) (by omega))).trans p2
      refine je_oth (D := D) hG hJf hD8 e82 (s43.trans p0) c5 q3 t79 (fun d hd => ⟨u_ot hd, upd_ot hd, upd_ot hd⟩) hio ?_ ?_
      · rw [u_at, upd_at, upd_at]
        refine Or.inr (Or.inr (Or.inl ⟨n, n + 1, 4 + H, q, rfl, s2n, s2z, by omega, rfl, by rw [eH]; exact nI_add 4 H, fun i hi => ?_⟩))
        by_cases h4 : i < 4
        · rw [p3 i h4, (hw3 rfl).1 i h4, hv1 i h4]
        · obtain ⟨m, rfl⟩ : ∃ m, i = 4 + m := ⟨i - 4, by omega⟩
          rw [p4 m (by omega), (hw3 rfl).2 H hH eH m (by omega), hv2 m (by omega)]
      · rintro z ⟨y, t, e, ey⟩
        rw [u_at] at e
        cases e
        rw [s2n] at ey
        cases ey
        omega
    · exact absurd h (by decide)
  · rcases h1 with ⟨h, -⟩ | ⟨p0, ⟨h, -⟩ | ⟨h, -⟩ | ⟨-, Y, H, hY, eY, hH, eH, p1, q, p2, p3⟩⟩
    · exact absurd h (by decide)
    · exact absurd h (by decide)
    · exact absurd h (by decide)
    · have ex := nI_inj (by omega) (by omega) (ek.symm.trans eY)
      subst ex
      have s2n := (e2 n (hx p0).1 (nc n hn)).trans p1
      have s2z := (e2 (n + 1) ((hx p0).2 7 (n + 1) p1) (nc (n + 1) (by omega))).trans p2
      refine je_oth (D := D) hG hJf hD8 e82 (s43.trans p0) c5 q3 t79 (fun d hd => ⟨u_ot hd, upd_ot hd, upd_ot hd⟩) hio ?_ ?_
      · rw [u_at, upd_at, upd_at]
        refine Or.inr (Or.inr (Or.inr ⟨n, n + 1, H, q, rfl, s2n, s2z, by omega, rfl, eH, fun i hi => ?_⟩))
        rw [p3 i hi, hw4 rfl X H hX hH ek eH i hi]
      · rintro z ⟨y, t, e, ey⟩
        rw [u_at] at e
        cases e
        rw [s2n] at ey
        cases ey
        omega
set_option maxHeartbeats 4000000 in
theorem je_make {D : Nat} {d w x : Int32} {f0 : Nat → Option Nat} {hf sf : Nat → Int32} {g0 g' : Nat → Int64} (hG : GS θ S n) (hJ : JE S) (hO : mkO d w x) (hx : ¬ x < 0) (h43 : S 43 = sh43 f0) (hP : mkP S n f0 d w x S1 n1) (c1 : S1 75 = .inl (0, 8, .inl hf)) (c4 : S1 78 = .inl (0, 8, .inl sf)) (c5 : S2 75 = .inl (0, 8, .inl (upd hf d.toNatClampNeg w))) (c6 : S2 78 = .inl (0, 8, .inl (upd sf d.toNatClampNeg x))) (hD : D < 8) (eD : d = nI D) (h79 : S1 79 = it79 g0) (t79 : S2 79 = it79 g') (hio : ioD D g0 g') (hz : ∀ i, i < 60 → g' (60 * D + i) = 0) (e2 : fr1 [75, 78, 79] S1 S2 n1) : JE S2 := by
  have hn := gs_n hG
  subst eD
  rw [nI_clamp (by omega)] at c5 c6
  obtain ⟨f, HF, SF, g, hJf⟩ := hJ
  obtain ⟨b1, b2, b3, b4, -⟩ := id hJf
  rw [h43] at b1
  cases b1
  obtain ⟨en, p0, e1, hP⟩ := hP
  rw [nI_clamp (by omega)] at p0
  have t2 := (e1 75 (by omega) (by decide)).trans b2
  have t5 := (e1 78 (by omega) (by decide)).trans b3
  have t9 := (e1 79 (by omega) (by decide)).trans b4
  rw [t2] at c1
  rw [t5] at c4
  rw [t9] at h79
  cases c1
  cases c4
  cases h79
  have nc : ∀ j, 82 ≤ j → ([75, 78, 79] : List Nat).contains j = false := fun j hj => nc_82 rfl hj
  have e82 : ∀ j, 82 ≤ j → j < n → S2 j = S j := fun j h h' => (e2 j (by omega) (nc j h)).trans (e1 j h' (by omega))
  have hx60 : x.toNatClampNeg ≤ 60 := c_60 hx hO.2.2
  have ex : x = nI x.toNatClampNeg := by
    have h0 : (0 : Int) ≤ x.toInt := by
      rw [Int32.lt_iff_toInt_lt] at hx
      have e0 : (0 : Int32).toInt = 0 := rfl
      omega
    have h6 : x.toInt ≤ 60 := by
      have := hO.2.2
      rw [Int32.le_iff_toInt_le] at this
      exact this
    obtain ⟨p, hp, e⟩ := nat_of (x := x) (b := 60) h0 h6
    rw [e, nI_clamp (by omega)]
  rcases hP with ⟨rfl, p1, p2⟩ | ⟨rfl, p1, p2⟩
  · have s2n := (e2 n (by omega) (nc n hn)).trans p1
    have s2z := (e2 (n + 1) (by omega) (nc (n + 1) (by omega))).trans p2
    refine je_oth (D := D) hG hJf hD e82 ((e2 43 (by omega) rfl).trans p0) c5 c6 t79 (fun d hd => ⟨u_ot hd, upd_ot hd, upd_ot hd⟩) hio ?_ ?_
    · rw [u_at, upd_at, upd_at]
      exact Or.inr (Or.inr (Or.inl ⟨n, n + 1, x.toNatClampNeg, _, rfl, s2n, s2z, hx60, rfl, ex, fun i hi => (hz i (by omega)).symm⟩))
    · rintro z ⟨y, t, e, ey⟩
      rw [u_at] at e
      cases e
      rw [s2n] at ey
      cases ey
      omega
  · have s2n := (e2 n (by omega) (nc n hn)).trans p1
    have s2z := (e2 (n + 1) (by omega) (nc (n + 1) (by omega))).trans p2
    refine je_oth (D := D) hG hJf hD e82 ((e2 43 (by omega) rfl).trans p0) c5 c6 t79 (fun d hd => ⟨u_ot hd, upd_ot hd, upd_ot hd⟩) hio ?_ ?_
    · rw [u_at, upd_at, upd_at]
      exact Or.inr (Or.inr (Or.inr ⟨n, n + 1, x.toNatClampNeg, _, rfl, s2n, s2z, hx60, rfl, ex, fun i hi => (hz i (by omega)).symm⟩))
    · rintro z ⟨y, t, e, ey⟩
      rw [u_at] at e
      cases e
      rw [s2n] at ey
      cases ey
      omega
/-- what the class's copy does -/
def ccpI (S : Nat → pm_E) (f : Nat → Option Nat) (d i e j m : Int32) (u : Int32) (S' : Nat → pm_E) : Prop := (u < 0 ∧ S' = S) ∨ (u = m ∧ ∃ y y' z z' len len' : Nat, f d.toNatClampNeg = some y ∧ f e.toNatClampNeg = some y' ∧ sp2 len len' i j m ∧ ((∃ q q' : Nat → Int64, S y = .inr (2, [.ref z]) ∧ S y' = .inr (2, [.ref z']) ∧ S z = .inl (1, len, .inr (.inl q)) ∧ S z' = .inl (1, len', .inr (.inl q')) ∧ S' = va_up S z' (.inl (1, len', .inr (.inl (va_cpy q q' i.toNatClampNeg j.toNatClampNeg m.toNatClampNeg))))) ∨ (∃ q q' : Nat → Int32, S y = .inr (7, [.ref z]) ∧ S y' = .inr (7, [.ref z']) ∧ S z = .inl (3, len, .inl q) ∧ S z' = .inl (3, len', .inl q') ∧ S' = va_up S z' (.inl (3, len', .inl (va_cpy q q' i.toNatClampNeg j.toNatClampNeg m.toNatClampNeg))))))
theorem c_cp4 {d i e j m : Int32} (hG : GS θ S n) (h43 : S 43 = sh43 f) : PM (j_SL L) (j_SV xs) j_EX mm_X11_copy [.ref 0, .int d, .int i, .int e, .int j, .int m] S n (PX S n (ccpI S f d i e j m)) :=
  c_cp3 hG h43 (fun u hu => Or.inl ⟨hu, rfl⟩) (fun hd he y y' e1 e2 => ⟨fun u hu => Or.inl ⟨hu, rfl⟩, fun z z' len len' q q' a b c c9 hsp => Or.inr ⟨rfl, y, y', z, z', len, len', e1, e2, hsp, Or.inl ⟨q, q', a, b, c, c9, rfl⟩⟩, fun z z' len len' q q' a b c c9 hsp => Or.inr ⟨rfl, y, y', z, z', len, len', e1, e2, hsp, Or.inr ⟨q, q', a, b, c, c9, rfl⟩⟩⟩)
/-- the shelves over a call that writes the row on shelf E -/
theorem je_cpW {E z' y' t : Nat} {g' : Nat → Int64} (hG : GS θ S n) (hJ : JEf S f HF SF g) (hE : E < 8) (ey : f E = some y') (hy : S y' = .inr (t, [.ref z'])) (hcell : ∃ x, S z' = .inl x) (e : ∀ k, k < n → k ≠ z' → k ≠ 79 → k ≠ 80 → S2 k = S k) (t79 : S2 79 = it79 g') (hg : ∀ A i, A < 8 → A ≠ E → i < 60 → g' (60 * A + i) = g (60 * A + i)) (hd : JEd S2 E (f E) (HF E) (SF E) g') : JE S2 := by
  have hn := gs_n hG
  obtain ⟨b1, b2, b3, b4, b5, b6⟩ := hJ
  have hz' := rwz_lt (je_hc hG b1 hE) ⟨y', t, ey, hy⟩
  obtain ⟨x, hx⟩ := hcell
  have hob : ∀ y c, S y = .inr c → y ≠ z' := fun y c h h9 => by
    rw [h9, hx] at h
    cases h
  have bk : ∀ A z, A < 8 → rwz S2 (f A) z → rwz S (f A) z := by
    rintro A z hA ⟨y, t9, e1, e2⟩
    obtain ⟨u1, u2, u3⟩ := je_hc hG b1 hA y e1
    have hy9 : y ≠ z' := by
      rcases u3 with ⟨a, b, h9⟩ | ⟨z9, l9, g9, h9, -⟩ | ⟨z9, l9, g9, h9, -⟩
      · exact hob y _ h9
      · exact hob y _ h9
      · exact hob y _ h9
    exact ⟨y, t9, e1, (e y u2 hy9 (by omega) (by omega)).symm.trans e2⟩
  refine ⟨f, HF, SF, g', (e 43 (by omega) (by omega) (by decide) (by decide)).trans b1, (e 75 (by omega) (by omega) (by decide) (by decide)).trans b2, (e 78 (by omega) (by omega) (by decide) (by decide)).trans b3, t79, fun A hA => ?_, fun A B z hA hB h1 h2 => b6 A B z hA hB (bk A z hA h1) (bk B z hB h2)⟩
  by_cases eA : A = E
  · rw [eA]
    exact hd
  · refine jed_mo (je_hc hG b1 hA) (fun k h1 h2 h3 => e k h2 (fun h9 => ?_) (by omega) (by omega)) (fun i hi => hg A i hA eA hi) (b5 A hA)
    obtain ⟨y, e1, h4⟩ := h3
    rw [h9] at h4
    rcases h4 with h4 | ⟨t9, h4⟩
    · obtain ⟨u1, u2, u3⟩ := je_hc hG b1 hA y e1
      rcases u3 with ⟨a, b, h8⟩ | ⟨z9, l9, g9, h8, -⟩ | ⟨z9, l9, g9, h8, -⟩
      · exact hob y _ h8 h4.symm
      · exact hob y _ h8 h4.symm
      · exact hob y _ h8 h4.symm
    · exact eA (b6 A E z' hA hE ⟨y, t9, e1, h4⟩ ⟨y', t, ey, hy⟩)
theorem cp_at {α : Type} {q q' : Nat → α} {a a' b i : Nat} (h : a' ≤ i ∧ i < a' + b) : va_cpy q q' a a' b i = q (a + (i - a')) := if_pos h
theorem cp_ot {α : Type} {q q' : Nat → α} {a a' b i : Nat} (h : ¬ (a' ≤ i ∧ i < a' + b)) : va_cpy q q' a a' b i = q' i := if_neg h
set_option maxHeartbeats 4000000 in
theorem je_copy {d i e j m u z : Int32} {g' : Nat → Int64} (hG : GS θ S n) (hJ : JEf S f HF SF g) (h1 : ccpI S f d i e j m u S1) (h2 : cpI d i e j m z g g') (ez : u = z) (t79 : S2 79 = it79 g') (e2 : fr1 [79, 80] S1 S2 n) : JE S2 := by
  have hn := gs_n hG
  have z0 : (0 : Int32).toInt = 0 := rfl
  have nc : ∀ k, k ≠ 79 → k ≠ 80 → ([79, 80] : List Nat).contains k = false := fun k h h' => by
    cases hc : ([79, 80] : List Nat).contains k
    · rfl
    · have := List.contains_iff_mem.mp hc
      simp only [List.mem_cons, List.not_mem_nil, or_false] at this
      omega
  rcases h1 with ⟨hu, rfl⟩ | ⟨hu, y, y', q1, q2, len, len', ed, ee, hsp, hrow⟩
  · rcases h2 with ⟨hz, rfl⟩ | ⟨D, E, a, a', b, -, -, -, -, -, -, -, rfl, hb, -⟩
    · refine je_fr hG ⟨f, HF, SF, g', hJ⟩ (fun k hk => ?_)
      by_cases k9 : k = 79
      · rw [k9, t79]
        exact hJ.2.2.2.1.symm
      · exact e2 k (by omega) (nc k k9 (by omega))
    · exfalso
      rw [ez, Int32.lt_iff_toInt_lt, nI_toInt (by omega)] at hu
      omega
  rcases h2 with ⟨hz, -⟩ | ⟨D, E, a, a', b, hD, hE, rfl, rfl, rfl, rfl, rfl, -, hb, hb', hc1, hc2⟩
  · exact absurd (by rw [← ez, hu] at hz; exact hz) hsp.1.1
  rw [nI_clamp (by omega)] at ed ee
  obtain ⟨b1, b2, b3, b4, b5, b6⟩ := id hJ
  have hg : ∀ A i, A < 8 → A ≠ E → i < 60 → g' (60 * A + i) = g (60 * A + i) := fun A i hA hAE hi => hc2 _ (by omega)
  rcases hrow with ⟨q, q', hy, hy', hz, hz', rfl⟩ | ⟨q, q', hy, hy', hz, hz', rfl⟩
  · have eS : ∀ k, k < n → k ≠ q2 → k ≠ 79 → k ≠ 80 → S2 k = S k := fun k h3 h4 h5 h6 => (e2 k h3 (nc k h5 h6)).trans (u_ne h4)
    have hq2 := rwz_lt (je_hc hG b1 hE) ⟨y', 2, ee, hy'⟩
    have hyn := je_hc hG b1 hE y' ee
    have yne : y' ≠ q2 := fun h9 => by
      rw [h9, hz'] at hy'
      cases hy'
    refine je_cpW hG hJ hE ee hy' ⟨_, hz'⟩ eS t79 hg ?_
    have hcell : S2 q2 = .inl (1, len', .inr (.inl (va_cpy q q' (nI a).toNatClampNeg (nI a').toNatClampNeg (nI b).toNatClampNeg))) := (e2 q2 hq2.2 (nc q2 (by omega) (by omega))).trans u_eq
    rw [nI_clamp (by omega), nI_clamp (by omega), nI_clamp (by omega)] at hcell
    rcases b5 E hE with ⟨h7, -⟩ | ⟨y9, a9, b9, h7, h8, -⟩ | ⟨y9, z9, l9, p9, h7, h8, h9, h60, hh, hs, hp⟩ | ⟨y9, z9, l9, p9, h7, h8, -⟩
    · rw [ee] at h7
      cases h7
    · rw [ee] at h7
      cases h7
      rw [hy'] at h8
      cases h8
    · rw [ee] at h7
      cases h7
      rw [hy'] at h8
      cases h8
      rw [hz'] at h9
      cases h9
      refine Or.inr (Or.inr (Or.inl ⟨y', q2, len', _, ee, (eS y' hyn.2.1 yne (by omega) (by omega)).trans hy', hcell, h60, hh, hs, fun i hi => ?_⟩))
      by_cases ci : a' ≤ i ∧ i < a' + b
      · rw [cp_at ci]
        have l60 : len ≤ 60 := by
          rcases b5 D hD with ⟨h7, -⟩ | ⟨y9, a9, b9, h7, h8, -⟩ | ⟨y9, z9, l9, p9, h7, h8, h9, h60, -⟩ | ⟨y9, z9, l9, p9, h7, h8, -⟩
          · rw [ed] at h7
            cases h7
          · rw [ed] at h7
            cases h7
            rw [hy] at h8
            cases h8
          · rw [ed] at h7
            cases h7
            rw [hy] at h8
            cases h8
            rw [hz] at h9
            cases h9
            exact h60
          · rw [ed] at h7
            cases h7
            rw [hy] at h8
            cases h8
        have hlen := sp_o l60 hsp.1
        rw [nI_clamp (by omega), nI_clamp (by omega)] at hlen
        have k1 := hc1 (i - a') (by omega)
        rw [show 60 * E + a' + (i - a') = 60 * E + i by omega] at k1
        rw [k1]
        rcases b5 D hD with ⟨h7, -⟩ | ⟨y9, a9, b9, h7, h8, -⟩ | ⟨y9, z9, l9, p9, h7, h8, h9, -, -, -, hp9⟩ | ⟨y9, z9, l9, p9, h7, h8, -⟩
        · rw [ed] at h7
          cases h7
        · rw [ed] at h7
          cases h7
          rw [hy] at h8
          cases h8
        · rw [ed] at h7
          cases h7
          rw [hy] at h8
          cases h8
          rw [hz] at h9
          cases h9
          rw [hp9 (a + (i - a')) (by omega), show 60 * D + (a + (i - a')) = 60 * D + a + (i - a') by omega]
        · rw [ed] at h7
          cases h7
          rw [hy] at h8
          cases h8
      · rw [cp_ot ci, hp i hi]
        exact (hc2 _ (by omega)).symm
    · rw [ee] at h7
      cases h7
      rw [hy'] at h8
      cases h8
  · have eS : ∀ k, k < n → k ≠ q2 → k ≠ 79 → k ≠ 80 → S2 k = S k := fun k h3 h4 h5 h6 => (e2 k h3 (nc k h5 h6)).trans (u_ne h4)
    have hq2 := rwz_lt (je_hc hG b1 hE) ⟨y', 7, ee, hy'⟩
    have hyn := je_hc hG b1 hE y' ee
    have yne : y' ≠ q2 := fun h9 => by
      rw [h9, hz'] at hy'
      cases hy'
    refine je_cpW hG hJ hE ee hy' ⟨_, hz'⟩ eS t79 hg ?_
    have hcell : S2 q2 = .inl (3, len', .inl (va_cpy q q' (nI a).toNatClampNeg (nI a').toNatClampNeg (nI b).toNatClampNeg)) := (e2 q2 hq2.2 (nc q2 (by omega) (by omega))).trans u_eq
    rw [nI_clamp (by omega), nI_clamp (by omega), nI_clamp (by omega)] at hcell
    rcases b5 E hE with ⟨h7, -⟩ | ⟨y9, a9, b9, h7, h8, -⟩ | ⟨y9, z9, l9, p9, h7, h8, -⟩ | ⟨y9, z9, l9, p9, h7, h8, h9, h60, hh, hs, hp⟩
    · rw [ee] at h7
      cases h7
    · rw [ee] at h7
      cases h7
      rw [hy'] at h8
      cases h8
    · rw [ee] at h7
      cases h7
      rw [hy'] at h8
      cases h8
    · rw [ee] at h7
      cases h7
      rw [hy'] at h8
      cases h8
      rw [hz'] at h9
      cases h9
      refine Or.inr (Or.inr (Or.inr ⟨y', q2, len', _, ee, (eS y' hyn.2.1 yne (by omega) (by omega)).trans hy', hcell, h60, hh, hs, fun i hi => ?_⟩))
      by_cases ci : a' ≤ i ∧ i < a' + b
      · rw [cp_at ci]
        have l60 : len ≤ 60 := by
          rcases b5 D hD with ⟨h7, -⟩ | ⟨y9, a9, b9, h7, h8, -⟩ | ⟨y9, z9, l9, p9, h7, h8, -⟩ | ⟨y9, z9, l9, p9, h7, h8, h9, h60, -⟩
          · rw [ed] at h7
            cases h7
          · rw [ed] at h7
            cases h7
            rw [hy] at h8
            cases h8
          · rw [ed] at h7
            cases h7
            rw [hy] at h8
            cases h8
          · rw [ed] at h7
            cases h7
            rw [hy] at h8
            cases h8
            rw [hz] at h9
            cases h9
            exact h60
        have hlen := sp_o l60 hsp.1
        rw [nI_clamp (by omega), nI_clamp (by omega)] at hlen
        have k1 := hc1 (i - a') (by omega)
        rw [show 60 * E + a' + (i - a') = 60 * E + i by omega] at k1
        rw [k1]
        rcases b5 D hD with ⟨h7, -⟩ | ⟨y9, a9, b9, h7, h8, -⟩ | ⟨y9, z9, l9, p9, h7, h8, -⟩ | ⟨y9, z9, l9, p9, h7, h8, h9, -, -, -, hp9⟩
        · rw [ed] at h7
          cases h7
        · rw [ed] at h7
          cases h7
          rw [hy] at h8
          cases h8
        · rw [ed] at h7
          cases h7
          rw [hy] at h8
          cases h8
        · rw [ed] at h7
          cases h7
          rw [hy] at h8
          cases h8
          rw [hz] at h9
          cases h9
          rw [hp9 (a + (i - a')) (by omega), show 60 * D + (a + (i - a')) = 60 * D + a + (i - a') by omega]
      · rw [cp_ot ci, hp i hi]
        exact (hc2 _ (by omega)).symm
end TC
