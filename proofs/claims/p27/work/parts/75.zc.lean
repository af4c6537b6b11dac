/-! what keep and make do to the shelves -/
section ZC
variable {θ : Th} {L : Nat} {xs : Nat → Int32} {S S1 S2 : Nat → pm_E} {n : Nat}
theorem u_at {α : Type} {f : Nat → α} {D : Nat} {x : α} : va_up f D x D = x := if_pos rfl
theorem u_ot {α : Type} {f : Nat → α} {D d : Nat} {x : α} (h : d ≠ D) : va_up f D x d = f d := if_neg h
theorem upd_at {f : Nat → Int32} {D : Nat} {x : Int32} : upd f D x D = x := if_pos rfl
theorem upd_ot {f : Nat → Int32} {D d : Nat} {x : Int32} (h : d ≠ D) : upd f D x d = f d := if_neg h
/-- the other shelves, over a call that leaves what is below n but for 43 and 75 .. 79 -/
theorem js_oth {f f' : Nat → Option Nat} {HF KF LF SF HF' KF' LF' SF' : Nat → Int32} {D : Nat} (hG : GS θ S n) (hJ : JSf S f HF KF LF SF) (e : ∀ k, 82 ≤ k → k < n → S2 k = S k) (a1 : S2 43 = sh43 f') (a2 : S2 75 = ar8 HF') (a3 : S2 76 = ar8 KF') (a4 : S2 77 = ar8 LF') (a5 : S2 78 = ar8 SF') (hf : ∀ d, d ≠ D → f' d = f d ∧ HF' d = HF d ∧ KF' d = KF d ∧ LF' d = LF d ∧ SF' d = SF d) (hD : shD S2 (f' D) (HF' D) (KF' D) (LF' D) (SF' D)) : JS S2 := by
  obtain ⟨b1, b2, b3, b4, b5, g⟩ := hJ
  refine ⟨f', HF', KF', LF', SF', a1, a2, a3, a4, a5, fun d hd => ?_⟩
  by_cases ed : d = D
  · subst ed
    exact hD
  · obtain ⟨q1, q2, q3, q4, q5⟩ := hf d ed
    rw [q1, q2, q3, q4, q5]
    exact shD_mono (n := n) (fun k h1 h2 => shp_eq (e k h1 h2)) (js_hc hG b1 d hd) (g d hd)
theorem js_keep {D n1 : Nat} {w k x : Int32} (hG : GS θ S n) (hk : JK θ S) (hJ : JS S) (h1 : ckpS θ D w k x S n S1) (e1 : ∀ j, j < n → j ≠ 43 → S1 j = S j) (h2 : rkpS θ D w k x S1 S2) (hG1 : GS θ S1 n1) (hle : n ≤ n1) (hD8 : D < 8) (e2 : fr1 [75, 76, 77, 78, 79] S1 S2 n1) : JS S2 := by
  have hn := gs_n hG
  obtain ⟨f, HF, KF, LF, SF, hJf⟩ := hJ
  obtain ⟨f9, h43, h1⟩ := h1
  have b := hJf
  obtain ⟨b1, b2, b3, b4, b5, -⟩ := b
  rw [h43] at b1
  cases b1
  obtain ⟨hf, kf, lf, sf, c1, c2, c3, c4, c5, h2⟩ := h2
  have t2 := (e1 75 (by omega) (by decide)).trans b2
  have t3 := (e1 76 (by omega) (by decide)).trans b3
  have t4 := (e1 77 (by omega) (by decide)).trans b4
  have t5 := (e1 78 (by omega) (by decide)).trans b5
  rw [t2] at c1
  rw [t3] at c2
  rw [t4] at c3
  rw [t5] at c4
  cases c1
  cases c2
  cases c3
  cases c4
  have nc : ∀ j, 82 ≤ j → ([75, 76, 77, 78, 79] : List Nat).contains j = false := fun j hj => by
    cases hc : ([75, 76, 77, 78, 79] : List Nat).contains j
    · rfl
    · have := List.contains_iff_mem.mp hc
      simp only [List.mem_cons, List.not_mem_nil, or_false] at this
      omega
  have e82 : ∀ j, 82 ≤ j → j < n → S2 j = S j := fun j h h' => (e2 j (by omega) (nc j h)).trans (e1 j h' (by omega))
  have s43 : S2 43 = S1 43 := e2 43 (by omega) rfl
  have hx : S1 43 = sh43 (va_up f D (some n)) → n < n1 ∧ (S1 n = .inr (2, [.ref (n + 1)]) ∨ S1 n = .inr (7, [.ref (n + 1)]) → n + 1 < n1) := by
    intro p0
    obtain ⟨hlt, hcs⟩ := xh_cs (js_hc hG1 p0 D hD8 n u_at).2
    refine ⟨hlt, fun h => ?_⟩
    rcases hcs with ⟨a, b, h9⟩ | ⟨z9, l9, g9, h9, q1, q2, -⟩ | ⟨z9, l9, g9, h9, q1, q2, -⟩
    · rcases h with h | h <;> rw [h] at h9 <;> cases h9
    · rcases h with h | h
      · rw [h] at h9
        cases h9
        exact q2
      · rw [h] at h9
        cases h9
    · rcases h with h | h
      · rw [h] at h9
        cases h9
      · rw [h] at h9
        cases h9
        exact q2
  rcases h2 with ⟨rfl, q1, q2, q3⟩ | ⟨rfl, ⟨X, I, hA, q1, q2⟩, q3⟩ | ⟨rfl, q1, q2, q3⟩ | ⟨rfl, q1, q2, X, hX, ek, hXh, q3⟩
  · rcases h1 with ⟨-, p1⟩ | ⟨-, ⟨h, -⟩ | ⟨h, -⟩ | ⟨h, -⟩⟩
    · refine js_oth (D := D) hG hJf e82 (s43.trans p1) c5 (q1.trans t3) (q2.trans t4) (q3.trans t5) (fun d hd => ⟨u_ot hd, upd_ot hd, rfl, rfl, rfl⟩) ?_
      rw [u_at, upd_at]
      exact Or.inl ⟨rfl, rfl⟩
    · exact absurd h (by decide)
    · exact absurd h (by decide)
    · exact absurd h (by decide)
  · rcases h1 with ⟨h, -⟩ | ⟨p0, ⟨-, Y, J, hB, p1⟩ | ⟨h, -⟩ | ⟨h, -⟩⟩
    · exact absurd h (by decide)
    · obtain ⟨rfl, rfl⟩ := stA_fn hA hB
      obtain ⟨l4, l5, l6, k4, k5, k6, h9⟩ := hk
      obtain ⟨v1, v2, v3, -⟩ := h9 X I hA.1 hA.2.2.2.1 hA.2.2.2.2.2
      refine js_oth (D := D) hG hJf e82 (s43.trans p0) c5 q1 q2 (q3.trans t5) (fun d hd => ⟨u_ot hd, upd_ot hd, upd_ot hd, upd_ot hd, rfl⟩) ?_
      rw [u_at, upd_at, upd_at, upd_at]
      exact Or.inr (Or.inl ⟨n, _, _, rfl, (e2 n (hx p0).1 (nc n hn)).trans (p1 l4 l5 k4 k5), rfl, v2.symm, v3.symm, v1⟩)
    · exact absurd h (by decide)
    · exact absurd h (by decide)
  · rcases h1 with ⟨h, -⟩ | ⟨p0, ⟨h, -⟩ | ⟨-, H, hH, eH, p1, g, p2⟩ | ⟨h, -⟩⟩
    · exact absurd h (by decide)
    · exact absurd h (by decide)
    · refine js_oth (D := D) hG hJf e82 (s43.trans p0) c5 (q1.trans t3) (q2.trans t4) q3 (fun d hd => ⟨u_ot hd, upd_ot hd, rfl, rfl, upd_ot hd⟩) ?_
      rw [u_at, upd_at, upd_at]
      exact Or.inr (Or.inr (Or.inl ⟨n, n + 1, 4 + H, _, rfl, (e2 n (hx p0).1 (nc n hn)).trans p1, (e2 (n + 1) ((hx p0).2 (Or.inl p1)) (nc (n + 1) (by omega))).trans p2, by omega, rfl, by rw [eH]; exact nI_add 4 H⟩))
    · exact absurd h (by decide)
  · rcases h1 with ⟨h, -⟩ | ⟨p0, ⟨h, -⟩ | ⟨h, -⟩ | ⟨-, Y, h, hY, eY, hh, eh, p1, g, p2⟩⟩
    · exact absurd h (by decide)
    · exact absurd h (by decide)
    · exact absurd h (by decide)
    · have := nI_inj (by omega) (by omega) (ek.symm.trans eY)
      subst this
      refine js_oth (D := D) hG hJf e82 (s43.trans p0) c5 (q1.trans t3) (q2.trans t4) q3 (fun d hd => ⟨u_ot hd, upd_ot hd, rfl, rfl, upd_ot hd⟩) ?_
      rw [u_at, upd_at, upd_at]
      exact Or.inr (Or.inr (Or.inr ⟨n, n + 1, h, _, rfl, (e2 n (hx p0).1 (nc n hn)).trans p1, (e2 (n + 1) ((hx p0).2 (Or.inr p1)) (nc (n + 1) (by omega))).trans p2, by omega, rfl, eh⟩))
/-- make: the class, with what it leaves -/
def cmkK (θ : Th) (d w x : Int32) (S : Nat → pm_E) (n : Nat) : q_K := fun r S' n' => n ≤ n' ∧ GS θ S' n' ∧ (∀ j, j < n → j ≠ 43 → S' j = S j) ∧ ∃ z : Int32, r = some (.int z) ∧ mkR d w x z ∧ ((z ≠ 0 ∧ S = S') ∨ (z = 0 ∧ mkO d w x ∧ ¬ x < 0 ∧ ∃ f, S 43 = sh43 f ∧ mkP S n f d w x S' n'))
theorem c_mk2 {d w x : Int32} (hG : GS θ S n) : PM (j_SL L) (j_SV xs) j_EX mm_X11_make [.ref 0, .int d, .int w, .int x] S n (cmkK θ d w x S n) := by
  obtain ⟨f, h43, -⟩ := gs_43 hG
  refine c_make hG h43 (fun hO => ?_) (fun hO hx => ?_) (fun hO hx S' n' hP => ?_)
  · exact ⟨Nat.le_refl n, hG, fun _ _ _ => rfl, -1, rfl, Or.inl ⟨hO, rfl⟩, Or.inl ⟨by decide, rfl⟩⟩
  · exact ⟨Nat.le_refl n, hG, fun _ _ _ => rfl, -14, rfl, Or.inr (Or.inl ⟨hO, hx, rfl⟩), Or.inl ⟨by decide, rfl⟩⟩
  · exact ⟨by rw [hP.1]; omega, gs_make hG h43 hO hx hP, hP.2.2.1, 0, rfl, Or.inr (Or.inr ⟨hO, hx, rfl⟩), Or.inr ⟨rfl, hO, hx, f, h43, hP⟩⟩
theorem js_make {d w x : Int32} {f : Nat → Option Nat} {hf sf : Nat → Int32} {n1 : Nat} (hG : GS θ S n) (hJ : JS S) (hO : mkO d w x) (hx : ¬ x < 0) (h43 : S 43 = sh43 f) (hP : mkP S n f d w x S1 n1) (c1 : S1 75 = .inl (0, 8, .inl hf)) (c4 : S1 78 = .inl (0, 8, .inl sf)) (c5 : S2 75 = .inl (0, 8, .inl (upd hf d.toNatClampNeg w))) (c6 : S2 78 = .inl (0, 8, .inl (upd sf d.toNatClampNeg x))) (e2 : fr1 [75, 78, 79] S1 S2 n1) : JS S2 := by
  have hn := gs_n hG
  obtain ⟨f0, HF, KF, LF, SF, hJf⟩ := hJ
  have b := hJf
  obtain ⟨b1, b2, b3, b4, b5, -⟩ := b
  rw [h43] at b1
  cases b1
  obtain ⟨en, p0, e1, hP⟩ := hP
  have t2 := (e1 75 (by omega) (by decide)).trans b2
  have t3 := (e1 76 (by omega) (by decide)).trans b3
  have t4 := (e1 77 (by omega) (by decide)).trans b4
  have t5 := (e1 78 (by omega) (by decide)).trans b5
  rw [t2] at c1
  rw [t5] at c4
  cases c1
  cases c4
  have nc : ∀ j, 82 ≤ j → ([75, 78, 79] : List Nat).contains j = false := fun j hj => by
    cases hc : ([75, 78, 79] : List Nat).contains j
    · rfl
    · have := List.contains_iff_mem.mp hc
      simp only [List.mem_cons, List.not_mem_nil, or_false] at this
      omega
  have e82 : ∀ j, 82 ≤ j → j < n → S2 j = S j := fun j h h' => (e2 j (by omega) (nc j h)).trans (e1 j h' (by omega))
  have hx60 : x.toNatClampNeg ≤ 60 := c_60 hx hO.2.2
  have ex : x = nI x.toNatClampNeg := by
    have h0 : (0 : Int) ≤ x.toInt := by
      rw [Int32.lt_iff_toInt_lt] at hx
      have e0 : (0 : Int32).toInt = 0 := rfl
      omega
    have h6 : x.toInt ≤ 60 := by
      have := hO.2.2
      rw [Int32.le_iff_toInt_le] at this
      exact this
    obtain ⟨p, hp, e⟩ := nat_of (x := x) (b := 60) h0 h6
    rw [e, nI_clamp (by omega)]
  rcases hP with ⟨rfl, p1, p2⟩ | ⟨rfl, p1, p2⟩
  · refine js_oth (D := d.toNatClampNeg) hG hJf e82 ((e2 43 (by omega) rfl).trans p0) c5 ((e2 76 (by omega) rfl).trans t3) ((e2 77 (by omega) rfl).trans t4) c6 (fun d hd => ⟨u_ot hd, upd_ot hd, rfl, rfl, upd_ot hd⟩) ?_
    rw [u_at, upd_at, upd_at]
    exact Or.inr (Or.inr (Or.inl ⟨n, n + 1, x.toNatClampNeg, _, rfl, (e2 n (by omega) (nc n hn)).trans p1, (e2 (n + 1) (by omega) (nc (n + 1) (by omega))).trans p2, hx60, rfl, ex⟩))
  · refine js_oth (D := d.toNatClampNeg) hG hJf e82 ((e2 43 (by omega) rfl).trans p0) c5 ((e2 76 (by omega) rfl).trans t3) ((e2 77 (by omega) rfl).trans t4) c6 (fun d hd => ⟨u_ot hd, upd_ot hd, rfl, rfl, upd_ot hd⟩) ?_
    rw [u_at, upd_at, upd_at]
    exact Or.inr (Or.inr (Or.inr ⟨n, n + 1, x.toNatClampNeg, _, rfl, (e2 n (by omega) (nc n hn)).trans p1, (e2 (n + 1) (by omega) (nc (n + 1) (by omega))).trans p2, hx60, rfl, ex⟩))
end ZC
