/-! the class's puzzle against the reference's; cases 0 and 2 of the law -/
section RZ
variable {θ : Th} {L Ls : Nat} {xs : Nat → Int32} {S : Nat → pm_E} {n : Nat} {K : q_K}
theorem in13 {h : Int32} (h1 : ¬ h < 1) (h3 : h ≤ 3) : (1 : Int) ≤ h.toInt ∧ h.toInt ≤ 3 ∧ inP h 1 3 := by
  unfold inP
  simp only [Int32.lt_iff_toInt_lt, Int32.le_iff_toInt_le] at h1 h3 ⊢
  have e1 : (1 : Int32).toInt = 1 := rfl
  have e3 : (3 : Int32).toInt = 3 := rfl
  omega
set_option maxHeartbeats 4000000 in
theorem c_pz {h : Int32} (hG : GS θ S n) (hj : J2 θ S) : PM (j_SL L) (j_SV xs) j_EX mm_X11_puzzle [.ref 0, .int h] S n (fun r S' n' => n = n' ∧ GS θ S' n ∧ ∃ z : Int32, r = some (.int z) ∧ ∀ z' θ', pzR θ h z' θ' → z = z' ∧ J2 θ' S') := by
  have hn := gs_n hG
  have hJ := hj
  obtain ⟨⟨fs1, k1, f10⟩, ln, k3, hln⟩ := hj
  obtain ⟨fs, k0, f0, -, -⟩ := gs_0 hG
  obtain ⟨gs, g1, hg⟩ := gs_obj hG (k := 1) rfl
  rw [k1] at g1
  cases g1
  have f12 : fs1[2]? = some (.ref 3) := fo_ref (hg 2 _ rfl) rfl
  obtain ⟨H0, e0, b1, b2⟩ := fo_int (hg 0 _ rfl) rfl
  rw [f10] at e0
  cases e0
  have b1' : (1 : Int) ≤ θ.2.2.2.2.toInt := b1
  have b2' : θ.2.2.2.2.toInt ≤ (3 : Int) := b2
  obtain ⟨H, hH, eH⟩ := nat_of (x := θ.2.2.2.2) (b := 3) (by omega) (by omega)
  have hH1 : 1 ≤ H := by
    rw [eH, nI_toInt (by omega)] at b1'
    omega
  have hlen : 0 < fs1.length := (List.getElem?_eq_some_iff.mp f10).1
  change PQ (j_SL L) (j_SV xs) j_EX mm_X11_puzzle 0 [.ref 0, .int h, pm_un] [] S n 0 0 _
  have s10 : ¬ inP h 1 3 → PQ (j_SL L) (j_SV xs) j_EX mm_X11_puzzle 10 [.ref 0, .int h, pm_un] [] S n 0 0 (fun r S' n' => n = n' ∧ GS θ S' n ∧ ∃ z : Int32, r = some (.int z) ∧ ∀ z' θ', pzR θ h z' θ' → z = z' ∧ J2 θ' S') := by
    intro hni
    refine q_iconst rfl rfl ?_
    refine q_iret rfl rfl trivial ⟨rfl, hG, _, rfl, fun z' θ' hp => ?_⟩
    rcases hp with ⟨-, rfl, rfl⟩ | ⟨h9, -, -⟩
    · exact ⟨rfl, hJ⟩
    · exact absurd h9 hni
  refine q_iload_n rfl rfl rfl ?_
  refine q_iconst rfl rfl ?_
  refine q_iclt rfl rfl (fun c1 => s10 (fun h9 => i_ab2 h9.1 c1)) (fun c1 => ?_)
  refine q_iload_n rfl rfl rfl ?_
  refine q_iconst rfl rfl ?_
  refine q_icle rfl rfl (fun c3 => ?_) (fun c3 => s10 (fun h9 => c3 h9.2))
  obtain ⟨q1, q3, hin⟩ := in13 c1 c3
  refine q_aload_n rfl rfl rfl ?_
  refine q_getf rfl rfl (by omega) k0 f0 ?_
  refine q_cV rfl rfl (Or.inl rfl) rfl rfl rfl rfl (by omega) k1 trivial rfl rfl rfl rfl rfl (c_ss hn hH k1 (by rw [f10, eH]) f12 k3) ?_
  rintro r _ _ ⟨rfl, rfl, rfl⟩
  show PQ (j_SL L) (j_SV xs) j_EX mm_X11_puzzle 19 _ [.int (sumN ln 0 0 H)] S n 0 0 _
  rw [pz_sum hH1 hH eH hln]
  refine q_ist2n rfl rfl rfl rfl ?_
  refine q_aload_n rfl rfl rfl ?_
  refine q_getf rfl rfl (by omega) k0 f0 ?_
  refine q_iload_n rfl rfl rfl ?_
  refine q_cV rfl rfl (Or.inl rfl) rfl rfl rfl rfl (by omega) k1 trivial rfl rfl rfl rfl rfl (c_rn hG k1 q1 q3) ?_
  rintro r T1 _ ⟨rfl, rfl, hG1, e1, t1, g3, t3, z3⟩
  show PQ (j_SL L) (j_SV xs) j_EX mm_X11_puzzle 28 _ [] T1 n 0 0 _
  refine q_aload_n rfl rfl rfl ?_
  refine q_cV rfl rfl (Or.inl rfl) rfl rfl rfl rfl (by omega) ((e1 0 (by decide) (by decide) (by decide)).trans k0) trivial rfl rfl rfl rfl rfl (w_fgt hG1) ?_
  rintro r T2 _ ⟨rfl, rfl, hG2, e2⟩
  show PQ (j_SL L) (j_SV xs) j_EX mm_X11_puzzle 32 _ [] T2 n 0 0 _
  refine q_iload_n rfl rfl rfl ?_
  refine q_iret rfl rfl trivial ⟨rfl, hG2, _, rfl, fun z' θ' hp => ?_⟩
  rcases hp with ⟨h9, -, -⟩ | ⟨-, rfl, rfl⟩
  · exact absurd hin h9
  · refine ⟨rfl, ⟨_, (e2 1 (by omega) rfl).trans t1, by rw [List.getElem?_set_self hlen]; rfl⟩, g3, (e2 3 (by omega) rfl).trans t3, fun x hx => ?_⟩
    rw [z3 x hx]
    match x, hx with
    | 0, _ => rfl
    | 1, _ => rfl
    | 2, _ => rfl
    | x + 3, h => omega
set_option maxHeartbeats 4000000 in
theorem k_0 (hL : Ls < 2 ^ 31) : OKJ J2 Ls xs K 172 := by
  intro θ S n c s p a5 a6 a7 hG hj hp hc hs hk
  have hn := gs_n hG
  obtain ⟨fs, k0, -, -, -⟩ := gs_0 hG
  refine q_aload_n rfl rfl rfl ?_
  refine q_aload_nF rfl rfl rfl ?_
  refine q_iload rfl rfl rfl ?_
  refine q_iconst rfl rfl ?_
  refine q_iadd rfl rfl (q_tn (z := nI (p + 1)) (nI_add p 1) ?_)
  refine q_ialdF rfl rfl (sc_i hp hL (by decide)) (q_tn (sc_v hp hL (by decide)) ?_)
  refine q_cV rfl rfl (Or.inl rfl) rfl rfl rfl rfl (by omega) k0 trivial rfl (c2 := c) (s2 := s) rfl rfl rfl rfl (c_pz hG hj) ?_
  rintro r T1 _ ⟨rfl, hG1, z, rfl, hz⟩
  show PQ (j_SL Ls) (j_SV xs) j_EX mm_L_law 182 [.float 5, .ref 0, .ref 46, .ref 81, .int (nI p), a5, a6, a7] [.int z] T1 n c s K
  obtain ⟨ob, hob, -⟩ := gs_obj hG1 (k := 46) rfl
  refine q_aload_n rfl rfl rfl ?_
  refine q_aload_nF rfl rfl rfl ?_
  refine q_iload rfl rfl rfl ?_
  refine q_iconst rfl rfl ?_
  refine q_iadd rfl rfl (q_tn (z := nI (p + 1)) (nI_add p 1) ?_)
  refine q_ialdF rfl rfl (sc_i hp hL (by decide)) (q_tn (sc_v hp hL (by decide)) ?_)
  refine q_cV rfl rfl (Or.inl rfl) rfl rfl rfl rfl (by omega) hob trivial rfl (c2 := c) (s2 := s) rfl rfl rfl rfl (l_rpuz hG1) ?_
  rintro r T2 m9 ⟨en, e2, -, -, z', θ', rfl, hG2, hr⟩
  subst m9
  show PQ (j_SL Ls) (j_SV xs) j_EX mm_L_law 192 [.float 5, .ref 0, .ref 46, .ref 81, .int (nI p), a5, a6, a7] [.int z', .int z] T2 n c s K
  obtain ⟨hzz, hJ1⟩ := hz z' θ' hr
  refine q_iceq rfl rfl (fun _ => ?_) (fun c9 => absurd hzz c9)
  exact hk θ' T2 n c s a5 a6 a7 hG2 (j2_smf θ' T1 T2 hJ1 (smf_of e2 hn rfl)) (by omega) (by omega)
set_option maxHeartbeats 4000000 in
theorem k_2 (hL : Ls < 2 ^ 31) : OKJ J2 Ls xs K 258 := by
  intro θ S n c s p a5 a6 a7 hG hj hp hc hs hk
  have hn := gs_n hG
  obtain ⟨fs, k0, -, -, -⟩ := gs_0 hG
  refine q_aload_n rfl rfl rfl ?_
  refine q_aload_nF rfl rfl rfl ?_
  refine q_iload rfl rfl rfl ?_
  refine q_iconst rfl rfl ?_
  refine q_iadd rfl rfl (q_tn (z := nI (p + 1)) (nI_add p 1) ?_)
  refine q_ialdF rfl rfl (sc_i hp hL (by decide)) (q_tn (sc_v hp hL (by decide)) ?_)
  refine q_cV rfl rfl (Or.inl rfl) rfl rfl rfl rfl (by omega) k0 trivial rfl (c2 := c) (s2 := s) rfl rfl rfl rfl (c_un hG hj) ?_
  rintro r T1 _ ⟨rfl, ⟨z, rfl⟩, hG1, hz⟩
  show PQ (j_SL Ls) (j_SV xs) j_EX mm_L_law 268 [.float 5, .ref 0, .ref 46, .ref 81, .int (nI p), a5, a6, a7] [.int z] T1 n c s K
  obtain ⟨ob, hob, -⟩ := gs_obj hG1 (k := 46) rfl
  refine q_pop rfl rfl ?_
  refine q_aload_n rfl rfl rfl ?_
  refine q_aload_nF rfl rfl rfl ?_
  refine q_iload rfl rfl rfl ?_
  refine q_iconst rfl rfl ?_
  refine q_iadd rfl rfl (q_tn (z := nI (p + 1)) (nI_add p 1) ?_)
  refine q_ialdF rfl rfl (sc_i hp hL (by decide)) (q_tn (sc_v hp hL (by decide)) ?_)
  refine q_cV rfl rfl (Or.inl rfl) rfl rfl rfl rfl (by omega) hob trivial rfl (c2 := c) (s2 := s) rfl rfl rfl rfl (l_runc hG1) ?_
  rintro r T2 m9 ⟨en, e2, z', θ', rfl, hG2, hr⟩
  subst m9
  show PQ (j_SL Ls) (j_SV xs) j_EX mm_L_law 279 [.float 5, .ref 0, .ref 46, .ref 81, .int (nI p), a5, a6, a7] [.int z'] T2 n c s K
  refine q_pop rfl rfl ?_
  refine q_goto rfl ?_
  exact hk θ' T2 n c s a5 a6 a7 hG2 (j2_smf θ' T1 T2 (hz z' θ' hr) (smf_of e2 hn rfl)) (by omega) (by omega)
end RZ
