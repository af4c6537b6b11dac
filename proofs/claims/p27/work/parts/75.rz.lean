/-! the class's puzzle against the reference's; cases 0 and 2 of the law -/
section RZ
variable {θ : Th} {L Ls : Nat} {xs : Nat → Int32} {S : Nat → pm_E} {n : Nat} {K : q_K}
theorem in13 {h : Int32} (h1 : ¬ h < 1) (h3 : h ≤ 3) : (1 : Int) ≤ h.toInt ∧ h.toInt ≤ 3 ∧ inP h 1 3 := by
  unfold inP
  simp only [Int32.lt_iff_toInt_lt, Int32.le_iff_toInt_le] at h1 h3 ⊢
  have e1 : (1 : Int32).toInt = 1 := rfl
  have e3 : (3 : Int32).toInt = 3 := rfl
  omega
set_option maxHeartbeats 4000000 in
theorem c_pz {h : Int32} (hG : GS θ S n) (hj : J2 θ S) : PM (j_SL L) (j_SV xs) j_EX mm_X11_puzzle [.ref 0, .int h] S n (fun r S' n' => ZP 44 S S' ∧ n = n' ∧ GS θ S' n ∧ fr1 [0, 1, 2, 3, 32, 42, 44] S S' n ∧ (¬ inP h 1 3 → S = S') ∧ (inP h 1 3 → zr 44 S' ∧ ∃ g : Nat → Int32, S' 2 = .inl (0, 4, .inl g) ∧ ∀ p, p < 4 → g p = 0) ∧ ∃ z : Int32, r = some (.int z) ∧ ∀ z' θ', pzR θ h z' θ' → z = z' ∧ J2 θ' S' ∧ (JK θ S → JK θ' S')) := by
  have hn := gs_n hG
  have hJ := hj
  obtain ⟨⟨fs1, k1, f10⟩, ln, k3, hln⟩ := hj
  obtain ⟨fs, k0, f0, -, -⟩ := gs_0 hG
  obtain ⟨gs, g1, hg⟩ := gs_obj hG (k := 1) rfl
  rw [k1] at g1
  cases g1
  have f12 : fs1[2]? = some (.ref 3) := fo_ref (hg 2 _ rfl) rfl
  obtain ⟨H0, e0, b1, b2⟩ := fo_int (hg 0 _ rfl) rfl
  rw [f10] at e0
  cases e0
  have b1' : (1 : Int) ≤ θ.2.2.2.2.toInt := b1
  have b2' : θ.2.2.2.2.toInt ≤ (3 : Int) := b2
  obtain ⟨H, hH, eH⟩ := nat_of (x := θ.2.2.2.2) (b := 3) (by omega) (by omega)
  have hH1 : 1 ≤ H := by
    rw [eH, nI_toInt (by omega)] at b1'
    omega
  have hlen : 0 < fs1.length := (List.getElem?_eq_some_iff.mp f10).1
  change PQ (j_SL L) (j_SV xs) j_EX mm_X11_puzzle 0 [.ref 0, .int h, pm_un] [] S n 0 0 _
  have s10 : ¬ inP h 1 3 → PQ (j_SL L) (j_SV xs) j_EX mm_X11_puzzle 10 [.ref 0, .int h, pm_un] [] S n 0 0 (fun r S' n' => ZP 44 S S' ∧ n = n' ∧ GS θ S' n ∧ fr1 [0, 1, 2, 3, 32, 42, 44] S S' n ∧ (¬ inP h 1 3 → S = S') ∧ (inP h 1 3 → zr 44 S' ∧ ∃ g : Nat → Int32, S' 2 = .inl (0, 4, .inl g) ∧ ∀ p, p < 4 → g p = 0) ∧ ∃ z : Int32, r = some (.int z) ∧ ∀ z' θ', pzR θ h z' θ' → z = z' ∧ J2 θ' S' ∧ (JK θ S → JK θ' S')) := by
    intro hni
    refine q_iconst rfl rfl ?_
    refine q_iret rfl rfl trivial ⟨Or.inl rfl, rfl, hG, fr1_rf, fun _ => rfl, fun h9 => absurd h9 hni, _, rfl, fun z' θ' hp => ?_⟩
    rcases hp with ⟨-, rfl, rfl⟩ | ⟨h9, -, -⟩
    · exact ⟨rfl, hJ, id⟩
    · exact absurd h9 hni
  refine q_iload_n rfl rfl rfl ?_
  refine q_iconst rfl rfl ?_
  refine q_iclt rfl rfl (fun c1 => s10 (fun h9 => i_ab2 h9.1 c1)) (fun c1 => ?_)
  refine q_iload_n rfl rfl rfl ?_
  refine q_iconst rfl rfl ?_
  refine q_icle rfl rfl (fun c3 => ?_) (fun c3 => s10 (fun h9 => c3 h9.2))
  obtain ⟨q1, q3, hin⟩ := in13 c1 c3
  refine q_aload_n rfl rfl rfl ?_
  refine q_getf rfl rfl (by omega) k0 f0 ?_
  refine q_cV rfl rfl (Or.inl rfl) rfl rfl rfl rfl (by omega) k1 trivial rfl rfl rfl rfl rfl (c_ss hn hH k1 (by rw [f10, eH]) f12 k3) ?_
  rintro r _ _ ⟨rfl, rfl, rfl⟩
  show PQ (j_SL L) (j_SV xs) j_EX mm_X11_puzzle 19 _ [.int (sumN ln 0 0 H)] S n 0 0 _
  rw [pz_sum hH1 hH eH hln]
  refine q_ist2n rfl rfl rfl rfl ?_
  refine q_aload_n rfl rfl rfl ?_
  refine q_getf rfl rfl (by omega) k0 f0 ?_
  refine q_iload_n rfl rfl rfl ?_
  refine q_cV rfl rfl (Or.inl rfl) rfl rfl rfl rfl (by omega) k1 trivial rfl rfl rfl rfl rfl (c_rn hG k1 q1 q3) ?_
  rintro r T1 _ ⟨rfl, rfl, hG1, e1, t1, ⟨g3, t3, z3⟩, g2, t2, z2⟩
  show PQ (j_SL L) (j_SV xs) j_EX mm_X11_puzzle 28 _ [] T1 n 0 0 _
  refine q_aload_n rfl rfl rfl ?_
  refine q_cV rfl rfl (Or.inl rfl) rfl rfl rfl rfl (by omega) ((e1 0 (by decide) (by decide) (by decide)).trans k0) trivial rfl rfl rfl rfl rfl (w_fgt hG1) ?_
  rintro r T2 _ ⟨rfl, rfl, hG2, e2, hzq⟩
  show PQ (j_SL L) (j_SV xs) j_EX mm_X11_puzzle 32 _ [] T2 n 0 0 _
  refine q_iload_n rfl rfl rfl ?_
  have hfr : fr1 [0, 1, 2, 3, 32, 42, 44] S T2 n := fr1_tr (l := [1, 2, 3]) (l2 := [0, 32, 42, 44]) (fun j _ hj => e1 j (fun e => by rw [e] at hj; cases hj) (fun e => by rw [e] at hj; cases hj) (fun e => by rw [e] at hj; cases hj)) e2 rfl rfl
  refine q_iret rfl rfl trivial ⟨Or.inr hzq, rfl, hG2, hfr, fun h9 => absurd hin h9, fun _ => ⟨hzq, g2, (e2 2 (by omega) rfl).trans t2, z2⟩, _, rfl, fun z' θ' hp => ?_⟩
  rcases hp with ⟨h9, -, -⟩ | ⟨-, rfl, rfl⟩
  · exact absurd hin h9
  · refine ⟨rfl, ⟨⟨_, (e2 1 (by omega) rfl).trans t1, by rw [List.getElem?_set_self hlen]; rfl⟩, g3, (e2 3 (by omega) rfl).trans t3, fun x hx => ?_⟩, fun hk => ?_⟩
    rotate_left
    · obtain ⟨l4, l5, l6, a4, a5, a6, -⟩ := hk
      refine ⟨l4, l5, l6, (hfr 4 (by omega) rfl).trans a4, (hfr 5 (by omega) rfl).trans a5, (hfr 6 (by omega) rfl).trans a6, fun X i hX _ hl => ?_⟩
      exfalso
      have e0 : (0 : Int32).toInt = 0 := rfl
      match X, hX, hl with
      | 0, _, hl => exact absurd hl (by show ¬ (i : Int) < (0 : Int32).toInt; omega)
      | 1, _, hl => exact absurd hl (by show ¬ (i : Int) < (0 : Int32).toInt; omega)
      | 2, _, hl => exact absurd hl (by show ¬ (i : Int) < (0 : Int32).toInt; omega)
      | X + 3, h, _ => omega
    rw [z3 x hx]
    match x, hx with
    | 0, _ => rfl
    | 1, _ => rfl
    | 2, _ => rfl
    | x + 3, h => omega
end RZ
