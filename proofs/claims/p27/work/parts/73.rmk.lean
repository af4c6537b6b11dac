/-! the reference's make -/
section MK
variable {θ : Th} {L : Nat} {xs : Nat → Int32} {S : Nat → pm_E} {n : Nat}
theorem gs_ia {k t m0 X : Nat} {q : Nat × Int × Int} {f : Nat → Int32} {v : Int32} (hG : GS θ S n) (e : jga k = (0, t, m0, [q])) (hr : ck_ro (jga k) = false) (hs : S k = .inl (t, m0, .inl f)) (hv : q.2.1 ≤ v.toInt ∧ v.toInt ≤ q.2.2) : GS θ (va_up S k (.inl (t, m0, .inl (upd f X v)))) n := by
  obtain ⟨f', h1, h2⟩ := gs_a1 hG e
  rw [hs] at h1
  cases h1
  refine gs_st hG (by rw [e]; rfl) hr ?_ (pk_arr hs)
  rw [e]
  refine ⟨_, rfl, fun i hi => ⟨q, by show [q][i % 1]? = _; rw [Nat.mod_one]; rfl, ?_⟩⟩
  show q.2.1 ≤ (upd f X v i).toInt ∧ (upd f X v i).toInt ≤ q.2.2
  unfold upd
  split
  · exact hv
  · exact h2 i hi
theorem in07 {d : Int32} : inP d 0 7 ↔ (0 ≤ d ∧ d < 8) := by
  unfold inP
  simp only [Int32.lt_iff_toInt_lt, Int32.le_iff_toInt_le]
  have e0 : (0 : Int32).toInt = 0 := rfl
  have e7 : (7 : Int32).toInt = 7 := rfl
  have e8 : (8 : Int32).toInt = 8 := rfl
  omega
theorem in34 {w : Int32} : inP w 3 4 ↔ (w = 3 ∨ w = 4) := by
  unfold inP
  rw [← Int32.toInt_inj, ← Int32.toInt_inj]
  simp only [Int32.le_iff_toInt_le]
  have e3 : (3 : Int32).toInt = 3 := rfl
  have e4 : (4 : Int32).toInt = 4 := rfl
  omega
theorem w_clr {d : Int32} (hG : GS θ S n) (hd : 0 ≤ d ∧ d < 8) : PM (j_SL L) (j_SV xs) j_EX mm_X12_clear [.ref 46, .int d] S n (fun r S' n' => n = n' ∧ r = none ∧ GS θ S' n ∧ fr1 [79] S S' n) := by
  have e0 : (0 : Int32).toInt = 0 := rfl
  have e8 : (8 : Int32).toInt = 8 := rfl
  rw [Int32.lt_iff_toInt_lt, Int32.le_iff_toInt_le] at hd
  exact pm_weak (q_kc w276 [d.toInt] hG ⟨rfl, ck_oku rfl rfl, trivial⟩ (ck_en_c (by show (0 : Int) ≤ _; omega) (by show _ ≤ (7 : Int); omega) ck_en_n) (fun d hd => by cases hd)) (fun r S9 n9 h => by
    obtain ⟨h1, h2, h3, h4⟩ := kc_void rfl h
    exact ⟨h1.symm, h2, h3, h4⟩)
/-- what the reference's make does -/
def rmkK (θ : Th) (d w x : Int32) (S : Nat → pm_E) (n : Nat) : q_K := fun r S' n' => n = n' ∧ GS θ S' n ∧ fr1 [75, 78, 79] S S' n ∧ ∃ z : Int32, r = some (.int z) ∧ mkR d w x z ∧ ((z ≠ 0 ∧ S = S') ∨ (z = 0 ∧ ∃ hf sf : Nat → Int32, S 75 = .inl (0, 8, .inl hf) ∧ S 78 = .inl (0, 8, .inl sf) ∧ S' 75 = .inl (0, 8, .inl (upd hf d.toNatClampNeg w)) ∧ S' 78 = .inl (0, 8, .inl (upd sf d.toNatClampNeg x))))
theorem l_rmk {d w x : Int32} (hG : GS θ S n) : PM (j_SL L) (j_SV xs) j_EX mm_X12_make [.ref 46, .int d, .int w, .int x] S n (rmkK θ d w x S n) := by
  have hn := gs_n hG
  obtain ⟨fs, k46, hf46⟩ := gs_obj hG (k := 46) rfl
  obtain ⟨hf, k75, b75⟩ := gs_a1 hG (k := 75) rfl
  obtain ⟨sf, k78, b78⟩ := gs_a1 hG (k := 78) rfl
  have f35 : fs[35]? = some (.ref 75) := fo_ref (hf46 35 _ rfl) rfl
  have f38 : fs[38]? = some (.ref 78) := fo_ref (hf46 38 _ rfl) rfl
  change PQ (j_SL L) (j_SV xs) j_EX mm_X12_make 0 [.ref 46, .int d, .int w, .int x] [] S n 0 0 _
  have bad : ¬ mkO d w x → PQ (j_SL L) (j_SV xs) j_EX mm_X12_make 24 [.ref 46, .int d, .int w, .int x] [] S n 0 0 (rmkK θ d w x S n) := by
    intro hO
    refine q_iconst rfl rfl ?_
    exact q_iret rfl rfl trivial ⟨rfl, hG, fr1_rf, -1, rfl, Or.inl ⟨hO, rfl⟩, Or.inl ⟨by decide, rfl⟩⟩
  refine q_aload_n rfl rfl rfl ?_
  refine q_iload_n rfl rfl rfl ?_
  refine q_cV rfl rfl (Or.inl rfl) rfl rfl rfl rfl (by omega) k46 trivial rfl rfl rfl rfl rfl (l_isShelf hn k46) ?_
  rintro r S1 n1 ⟨e1, e2, hr⟩
  obtain rfl := e1.symm
  obtain rfl := e2.symm
  rcases hr with ⟨q, rfl⟩ | ⟨q, rfl⟩
  · show PQ (j_SL L) (j_SV xs) j_EX mm_X12_make 5 _ [.int 0] S n 0 0 _
    exact q_ifeq rfl rfl (fun _ => bad (fun h => q (in07.mpr h.1))) (fun c => absurd rfl c)
  show PQ (j_SL L) (j_SV xs) j_EX mm_X12_make 5 _ [.int 1] S n 0 0 _
  refine q_ifeq rfl rfl (fun c => absurd c (by decide)) (fun _ => ?_)
  refine q_aload_n rfl rfl rfl ?_
  refine q_iload_n rfl rfl rfl ?_
  refine q_iconst rfl rfl ?_
  refine q_iconst rfl rfl ?_
  refine q_cV rfl rfl (Or.inl rfl) rfl rfl rfl rfl (by omega) k46 trivial rfl rfl rfl rfl rfl l_in ?_
  rintro r S1 n1 ⟨e1, e2, hr⟩
  obtain rfl := e1.symm
  obtain rfl := e2.symm
  rcases hr with ⟨q2, rfl⟩ | ⟨q2, rfl⟩
  · show PQ (j_SL L) (j_SV xs) j_EX mm_X12_make 15 _ [.int 0] S n 0 0 _
    exact q_ifeq rfl rfl (fun _ => bad (fun h => q2 (in34.mpr h.2.1))) (fun c => absurd rfl c)
  show PQ (j_SL L) (j_SV xs) j_EX mm_X12_make 15 _ [.int 1] S n 0 0 _
  refine q_ifeq rfl rfl (fun c => absurd c (by decide)) (fun _ => ?_)
  refine q_iload_n rfl rfl rfl ?_
  refine q_bipush rfl rfl ?_
  refine q_icle rfl rfl (fun c6 => ?_) (fun c6 => bad (fun h => c6 h.2.2))
  have hd := in07.mp q
  have hO : mkO d w x := ⟨hd, in34.mp q2, c6⟩
  obtain ⟨hi, hd8⟩ := c_in8 hd
  refine q_iload_n rfl rfl rfl ?_
  refine q_ifge rfl rfl (fun c0 => ?_) (fun c0 => ?_)
  · have hx0 : ¬ x < 0 := fun h => i_ab h c0
    have hv75 : (0 : Int) ≤ w.toInt ∧ w.toInt ≤ 4 := by
      rcases hO.2.1 with rfl | rfl <;> decide
    have hv78 : (0 : Int) ≤ x.toInt ∧ x.toInt ≤ 60 := by
      rw [Int32.le_iff_toInt_le] at c0 c6
      exact ⟨c0, c6⟩
    refine q_aload_n rfl rfl rfl ?_
    refine q_getf rfl rfl (by omega) k46 f35 ?_
    refine q_iload_n rfl rfl rfl ?_
    refine q_iload_n rfl rfl rfl ?_
    refine q_iast rfl rfl (by omega) k75 hi ?_
    have g1 : GS θ (va_up S 75 (.inl (0, 8, .inl (upd hf d.toNatClampNeg w)))) n := gs_ia hG (k := 75) rfl rfl k75 hv75
    refine q_aload_n rfl rfl rfl ?_
    refine q_getf rfl rfl (by omega) ((u_ne (by decide)).trans k46) f38 ?_
    refine q_iload_n rfl rfl rfl ?_
    refine q_iload_n rfl rfl rfl ?_
    refine q_iast rfl rfl (by omega) ((u_ne (by decide)).trans k78) hi ?_
    have g2 := gs_ia (X := d.toNatClampNeg) (v := x) g1 (k := 78) rfl rfl ((u_ne (by decide)).trans k78) hv78
    refine q_aload_n rfl rfl rfl ?_
    refine q_iload_n rfl rfl rfl ?_
    refine q_cV rfl rfl (Or.inl rfl) rfl rfl rfl rfl (by omega) ((u_ne (by decide)).trans ((u_ne (by decide)).trans k46)) trivial rfl rfl rfl rfl rfl (w_clr g2 hd) ?_
    rintro r T n9 ⟨rfl, rfl, hT, eT⟩
    show PQ (j_SL L) (j_SV xs) j_EX mm_X12_make 52 _ [] T n 0 0 _
    refine q_iconst rfl rfl ?_
    refine q_iret rfl rfl trivial ⟨rfl, hT, ?_, 0, rfl, Or.inr (Or.inr ⟨hO, hx0, rfl⟩), Or.inr ⟨rfl, hf, sf, k75, k78, (eT 75 (by omega) rfl).trans ((u_ne (by decide)).trans u_eq), (eT 78 (by omega) rfl).trans u_eq⟩⟩
    exact fr1_tr (fr1_up (k := 78) (l := [75, 78]) (fr1_up (k := 75) (l := [75, 78]) fr1_rf rfl) rfl) eT rfl rfl
  · have hx0 : x < 0 := i_nle c0
    refine q_bipush rfl rfl ?_
    exact q_iret rfl rfl trivial ⟨rfl, hG, fr1_rf, -14, rfl, Or.inr (Or.inl ⟨hO, hx0, rfl⟩), Or.inl ⟨by decide, rfl⟩⟩
theorem mkR_fn {d w x z z' : Int32} (h : mkR d w x z) (h' : mkR d w x z') : z = z' := by
  rcases h with ⟨a, rfl⟩ | ⟨a, b, rfl⟩ | ⟨a, b, rfl⟩ <;> rcases h' with ⟨a', rfl⟩ | ⟨a', b', rfl⟩ | ⟨a', b', rfl⟩ <;> first | rfl | exact absurd a a' | exact absurd a' a | exact absurd b b' | exact absurd b' b
end MK
