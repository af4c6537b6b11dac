/-! element: the reference's answer, and that it is the class's -/
section TD
variable {θ : Th} {L : Nat} {xs : Nat → Int32} {S : Nat → pm_E} {n : Nat} {f : Nat → Option Nat} {HF SF : Nat → Int32} {g : Nat → Int64}
def elI (HF SF : Nat → Int32) (g : Nat → Int64) (p0 p1 : Int32) (kk : Int32) (w : Int64) : Prop := (¬ (0 ≤ p0 ∧ p0 < 8) ∧ kk = 1) ∨ ((0 ≤ p0 ∧ p0 < 8) ∧ (((HF p0.toNatClampNeg < 3 ∨ ¬ inP p1 0 (SF p0.toNatClampNeg - 1)) ∧ kk = 2) ∨ (¬ HF p0.toNatClampNeg < 3 ∧ inP p1 0 (SF p0.toNatClampNeg - 1) ∧ kk = 0 ∧ w = g (60 * p0.toNatClampNeg + p1.toNatClampNeg))))
def elK (HF SF : Nat → Int32) (g : Nat → Int64) (p0 p1 : Int32) (S : Nat → pm_E) : q_K := fun r S' n' => ∃ (fs : List Value) (kk : Int32) (w : Int64), S' 46 = .inr (10, fs) ∧ fs[0]? = some (.int kk) ∧ r = some (.long w) ∧ elI HF SF g p0 p1 kk w
theorem in_sz {p1 z : Int32} (h0 : (0 : Int) ≤ z.toInt) (h6 : z.toInt ≤ 60) (h : inP p1 0 (z - 1)) : ∃ I : Nat, p1 = nI I ∧ I < 60 ∧ (I : Int) < z.toInt := by
  obtain ⟨Z, hZ, rfl⟩ := nat_of (x := z) (b := 60) h0 h6
  unfold inP at h
  rw [Int32.le_iff_toInt_le, Int32.le_iff_toInt_le] at h
  have e0 : (0 : Int32).toInt = 0 := rfl
  have em : (nI Z - 1).toInt = (Z : Int) - 1 := (show ∀ q : Fin 61, (nI q.val - 1).toInt = (q.val : Int) - 1 from by decide +kernel) ⟨Z, by omega⟩
  rw [e0, em] at h
  obtain ⟨I, hI, rfl⟩ := nat_of (x := p1) (b := 60) h.1 (by omega)
  have h2 := h.2
  rw [nI_toInt (by omega)] at h2
  rw [nI_toInt (by omega)]
  exact ⟨I, rfl, by omega, by omega⟩
set_option maxHeartbeats 4000000 in
theorem l_elX {p0 p1 : Int32} (hG : GS θ S n) (k75 : S 75 = ar8 HF) (k78 : S 78 = ar8 SF) (k79 : S 79 = it79 g) : PM (j_SL L) (j_SV xs) j_EX mm_X12_element [.ref 46, .int p0, .int p1] S n (elK HF SF g p0 p1 S) := by
  have hn := gs_n hG
  obtain ⟨fs, k46, hf46⟩ := gs_obj hG (k := 46) rfl
  have f35 : fs[35]? = some (.ref 75) := fo_ref (hf46 35 _ rfl) rfl
  have f38 : fs[38]? = some (.ref 78) := fo_ref (hf46 38 _ rfl) rfl
  have f39 : fs[39]? = some (.ref 79) := fo_ref (hf46 39 _ rfl) rfl
  obtain ⟨t0, f0, -⟩ := fo_int (hf46 0 _ rfl) rfl
  obtain ⟨sz0, a78, hb78⟩ := gs_a1 hG (k := 78) rfl
  rw [k78] at a78
  cases a78
  change PQ (j_SL L) (j_SV xs) j_EX mm_X12_element 0 [.ref 46, .int p0, .int p1] [] S n 0 0 _
  have bad : ∀ kk : Int32, ¬ kk ≤ 0 → elI HF SF g p0 p1 kk 0 → PQ (j_SL L) (j_SV xs) j_EX mm_X12_element 45 [.ref 46, .int p0, .int p1] [.int kk, .ref 46] S n 0 0 (elK HF SF g p0 p1 S) := by
    intro kk hk hI
    refine q_putf rfl rfl (by omega) k46 (List.getElem?_eq_some_iff.mp f0).1 rfl trivial ?_
    refine q_aload_n rfl rfl rfl ?_
    refine q_getf rfl rfl (by omega) u_eq (os_at f0) ?_
    refine q_ifle rfl rfl (fun c => absurd c hk) (fun _ => ?_)
    refine q_lconst rfl rfl ?_
    refine q_goto rfl ?_
    exact q_lret rfl rfl trivial ⟨_, kk, 0, u_eq, os_at f0, rfl, hI⟩
  refine q_aload_n rfl rfl rfl ?_
  refine q_aload_n rfl rfl rfl ?_
  refine q_iload_n rfl rfl rfl ?_
  refine q_cV rfl rfl (Or.inl rfl) rfl rfl rfl rfl (by omega) k46 trivial rfl rfl rfl rfl rfl (l_isShelf hn k46) ?_
  rintro r S1 n1 ⟨e1, e2, hr⟩
  subst S1 n1
  rcases hr with ⟨q1, rfl⟩ | ⟨q1, rfl⟩
  · show PQ (j_SL L) (j_SV xs) j_EX mm_X12_element 6 [.ref 46, .int p0, .int p1] [.int 0, .ref 46] S n 0 0 _
    refine q_fne rfl rfl (fun c9 => absurd rfl c9) (fun _ => ?_)
    refine q_iconst rfl rfl ?_
    refine q_goto rfl ?_
    exact bad 1 (by decide) (Or.inl ⟨fun h => q1 (in07.mpr h), rfl⟩)
  show PQ (j_SL L) (j_SV xs) j_EX mm_X12_element 6 [.ref 46, .int p0, .int p1] [.int 1, .ref 46] S n 0 0 _
  refine q_fne rfl rfl (fun _ => ?_) (fun c9 => absurd (by decide) c9)
  have hd := in07.mp q1
  obtain ⟨hin, hd8⟩ := c_in8 hd
  have s40 : (HF p0.toNatClampNeg < 3 ∨ ¬ inP p1 0 (SF p0.toNatClampNeg - 1)) → PQ (j_SL L) (j_SV xs) j_EX mm_X12_element 40 [.ref 46, .int p0, .int p1] [.ref 46] S n 0 0 (elK HF SF g p0 p1 S) := by
    intro h
    refine q_iconst rfl rfl ?_
    refine q_goto rfl ?_
    exact bad 2 (by decide) (Or.inr ⟨hd, Or.inl ⟨h, rfl⟩⟩)
  refine q_aload_n rfl rfl rfl ?_
  refine q_getf rfl rfl (by omega) k46 f35 ?_
  refine q_iload_n rfl rfl rfl ?_
  refine q_iald rfl rfl (by omega) k75 hin ?_
  refine q_iconst rfl rfl ?_
  refine q_iclt rfl rfl (fun c => s40 (Or.inl c)) (fun h3 => ?_)
  refine q_aload_n rfl rfl rfl ?_
  refine q_iload_n rfl rfl rfl ?_
  refine q_iconst rfl rfl ?_
  refine q_aload_n rfl rfl rfl ?_
  refine q_getf rfl rfl (by omega) k46 f38 ?_
  refine q_iload_n rfl rfl rfl ?_
  refine q_iald rfl rfl (by omega) k78 hin ?_
  refine q_iconst rfl rfl ?_
  refine q_isub rfl rfl ?_
  refine q_cV rfl rfl (Or.inl rfl) rfl rfl rfl rfl (by omega) k46 trivial rfl rfl rfl rfl rfl l_in ?_
  rintro r S1 n1 ⟨e1, e2, hr⟩
  subst S1 n1
  rcases hr with ⟨q2, rfl⟩ | ⟨q2, rfl⟩
  · show PQ (j_SL L) (j_SV xs) j_EX mm_X12_element 37 [.ref 46, .int p0, .int p1] [.int 0, .ref 46] S n 0 0 _
    refine q_fne rfl rfl (fun c9 => absurd rfl c9) (fun _ => ?_)
    exact s40 (Or.inr q2)
  show PQ (j_SL L) (j_SV xs) j_EX mm_X12_element 37 [.ref 46, .int p0, .int p1] [.int 1, .ref 46] S n 0 0 _
  refine q_fne rfl rfl (fun _ => ?_) (fun c9 => absurd (by decide) c9)
  obtain ⟨D, hD, rfl⟩ := dn8 hd
  have hsz : (0 : Int) ≤ (SF (nI D).toNatClampNeg).toInt ∧ (SF (nI D).toNatClampNeg).toInt ≤ 60 := hb78 _ hd8
  obtain ⟨I, rfl, hI, -⟩ := in_sz hsz.1 hsz.2 q2
  refine q_iconst rfl rfl ?_
  refine q_putf rfl rfl (by omega) k46 (List.getElem?_eq_some_iff.mp f0).1 rfl trivial ?_
  refine q_aload_n rfl rfl rfl ?_
  refine q_getf rfl rfl (by omega) u_eq (os_at f0) ?_
  refine q_ifle rfl rfl (fun _ => ?_) (fun c => absurd (by decide) c)
  refine q_aload_n rfl rfl rfl ?_
  refine q_getf rfl rfl (by omega) u_eq ((os_ne (by decide)).trans f39) ?_
  refine q_bipush rfl rfl ?_
  refine q_iload_n rfl rfl rfl ?_
  refine q_imul rfl rfl (q_tn (z := nI (60 * D)) (by rw [show (60 : Int32) = nI 60 from rfl, pk_mul]) ?_)
  refine q_iload_n rfl rfl rfl ?_
  refine q_iadd rfl rfl (q_tn (z := nI (60 * D + I)) (nI_add _ _) ?_)
  refine q_lald rfl rfl (by omega) ((u_ne (by decide)).trans k79) (q_inN (by omega) (by decide)) ?_
  refine q_lret rfl rfl trivial ⟨_, 0, _, u_eq, os_at f0, rfl, Or.inr ⟨hd, Or.inr ⟨h3, q2, rfl, ?_⟩⟩⟩
  rw [nI_clamp (n := 60 * D + I) (by omega), nI_clamp (n := D) (by omega), nI_clamp (n := I) (by omega)]
theorem vp_iff {p1 : Int32} {len : Nat} (h6 : len ≤ 60) : vp_in p1 len ↔ inP p1 0 (nI len - 1) := by
  have e0 : (0 : Int32).toInt = 0 := rfl
  have em : (nI len - 1).toInt = (len : Int) - 1 := (show ∀ q : Fin 61, (nI q.val - 1).toInt = (q.val : Int) - 1 from by decide +kernel) ⟨len, by omega⟩
  unfold vp_in inP
  rw [Int32.le_iff_toInt_le, Int32.le_iff_toInt_le, Int32.lt_iff_toInt_lt, e0, em]
  have ec : p1.toNatClampNeg = p1.toInt.toNat := rfl
  rw [ec]
  omega
theorem el_eq {p0 p1 k kk : Int32} {v w : Int64} (hG : GS θ S n) (hJ : JEf S f HF SF g) (h1 : o_el (hp S n) f p0 p1 k v) (h2 : elI HF SF g p0 p1 kk w) : kk = k ∧ (k = 0 → v = w) := by
  obtain ⟨b1, b2, b3, b4, b5, b6⟩ := hJ
  rcases h1 with ⟨h0, rfl⟩ | ⟨h0, h1⟩
  · rcases h2 with ⟨-, rfl⟩ | ⟨h9, -⟩
    · exact ⟨rfl, fun h => absurd h (by decide)⟩
    · exact (c_out h0 h9).elim
  rcases h2 with ⟨h9, -⟩ | ⟨-, h2⟩
  · exact absurd h0 h9
  obtain ⟨-, hd8⟩ := c_in8 h0
  have two : ∀ k9 : Int32, k9 = 2 → (HF p0.toNatClampNeg < 3 ∨ ¬ inP p1 0 (SF p0.toNatClampNeg - 1)) → kk = k9 ∧ (k9 = 0 → v = w) := by
    rintro k9 rfl h
    rcases h2 with ⟨-, rfl⟩ | ⟨n3, n4, -⟩
    · exact ⟨rfl, fun h => absurd h (by decide)⟩
    · rcases h with h | h
      · exact absurd h n3
      · exact absurd n4 h
  have HD := b5 _ hd8
  rcases h1 with ⟨e, hk⟩ | ⟨y, e, ⟨a, b, hs, hk⟩ | ⟨z, len, q, hs, hz, hl, hv⟩ | ⟨z, len, q, hs, hz, hl, hv⟩⟩
  · refine two k hk (Or.inl ?_)
    rcases HD with ⟨-, h⟩ | ⟨y, a, b, h7, -⟩ | ⟨y, z, len, q, h7, -⟩ | ⟨y, z, len, q, h7, -⟩
    · rw [h]
      decide
    · rw [e] at h7
      cases h7
    · rw [e] at h7
      cases h7
    · rw [e] at h7
      cases h7
  · have hs := (hp_some hs).2
    refine two k hk (Or.inl ?_)
    rcases HD with ⟨h7, -⟩ | ⟨y9, a9, b9, h7, -, h⟩ | ⟨y9, z9, l9, q9, h7, h8, -⟩ | ⟨y9, z9, l9, q9, h7, h8, -⟩
    · rw [e] at h7
      cases h7
    · rw [h]
      decide
    · rw [e] at h7
      cases h7
      rw [hs] at h8
      cases h8
    · rw [e] at h7
      cases h7
      rw [hs] at h8
      cases h8
  · have hs := (hp_some hs).2
    have hz := (hp_some hz).2
    rcases HD with ⟨h7, -⟩ | ⟨y9, a9, b9, h7, h8, -⟩ | ⟨y9, z9, l9, q9, h7, h8, h9, -, hH, hS, hq⟩ | ⟨y9, z9, l9, q9, h7, h8, -⟩
    · rw [e] at h7
      cases h7
    · rw [e] at h7
      cases h7
      rw [hs] at h8
      cases h8
    · rw [e] at h7
      cases h7
      rw [hs] at h8
      cases h8
      rw [hz] at h9
      cases h9
      rcases hv with ⟨nv, hk⟩ | ⟨yv, hk, rfl⟩
      · exact two k hk (Or.inr (by rw [hS]; exact fun h => nv ((vp_iff hl).mpr h)))
      · have yi := (vp_iff hl).mp yv
        rw [← hS] at yi
        rcases h2 with ⟨h2, -⟩ | ⟨-, -, h2, rfl⟩
        · rcases h2 with h2 | h2
          · rw [hH] at h2
            exact absurd h2 (by decide)
          · exact absurd yi h2
        · exact ⟨h2.trans hk.symm, fun _ => hq _ (Nat.lt_of_not_le (fun h => yv (Or.inr h)))⟩
    · rw [e] at h7
      cases h7
      rw [hs] at h8
      cases h8
  · have hs := (hp_some hs).2
    have hz := (hp_some hz).2
    rcases HD with ⟨h7, -⟩ | ⟨y9, a9, b9, h7, h8, -⟩ | ⟨y9, z9, l9, q9, h7, h8, -⟩ | ⟨y9, z9, l9, q9, h7, h8, h9, -, hH, hS, hq⟩
    · rw [e] at h7
      cases h7
    · rw [e] at h7
      cases h7
      rw [hs] at h8
      cases h8
    · rw [e] at h7
      cases h7
      rw [hs] at h8
      cases h8
    · rw [e] at h7
      cases h7
      rw [hs] at h8
      cases h8
      rw [hz] at h9
      cases h9
      rcases hv with ⟨nv, hk⟩ | ⟨yv, hk, rfl⟩
      · exact two k hk (Or.inr (by rw [hS]; exact fun h => nv ((vp_iff hl).mpr h)))
      · have yi := (vp_iff hl).mp yv
        rw [← hS] at yi
        rcases h2 with ⟨h2, -⟩ | ⟨-, -, h2, rfl⟩
        · rcases h2 with h2 | h2
          · rw [hH] at h2
            exact absurd h2 (by decide)
          · exact absurd yi h2
        · exact ⟨h2.trans hk.symm, fun _ => hq _ (Nat.lt_of_not_le (fun h => yv (Or.inr h)))⟩
end TD
