/-! the class's code against the reference's; case 1 of the law -/
section VZ
variable {θ : Th} {L Ls : Nat} {xs : Nat → Int32} {S : Nat → pm_E} {n : Nat} {K : q_K}
set_option maxHeartbeats 4000000 in
theorem c_cd {x k a v : Int32} (hG : GS θ S n) (hj : J2 θ S) : PM (j_SL L) (j_SV xs) j_EX mm_X11_code [.ref 0, .int x, .int k, .int a, .int v] S n (fun r S' n' => ZQ 44 S S' ∧ n = n' ∧ GS θ S' n ∧ fr1 [0, 3, 4, 5, 6, 32, 42, 44] S S' n ∧ ∃ z : Int32, r = some (.int z) ∧ ∀ z' θ', cdR θ x k a v z' θ' → z = z' ∧ J2 θ' S' ∧ (JK θ S → JK θ' S')) := by
  have hn := gs_n hG
  have hJ := hj
  obtain ⟨⟨fs1, k1, f10⟩, ln, k3, hln⟩ := hj
  obtain ⟨fs, k0, f0, -, -⟩ := gs_0 hG
  obtain ⟨gs, g1, hg⟩ := gs_obj hG (k := 1) rfl
  rw [k1] at g1
  cases g1
  have f12 : fs1[2]? = some (.ref 3) := fo_ref (hg 2 _ rfl) rfl
  obtain ⟨H, e0, b1, b2⟩ := fo_int (hg 0 _ rfl) rfl
  rw [f10] at e0
  cases e0
  have b1' : (1 : Int) ≤ θ.2.2.2.2.toInt := b1
  have b2' : θ.2.2.2.2.toInt ≤ (3 : Int) := b2
  obtain ⟨ln', k3', hb3⟩ := gs_a1 hG (k := 3) rfl
  rw [k3] at k3'
  cases k3'
  change PQ (j_SL L) (j_SV xs) j_EX mm_X11_code 0 [.ref 0, .int x, .int k, .int a, .int v] [] S n 0 0 _
  have s21 : (∀ z θ', cdR θ x k a v z θ' → z = -1 ∧ θ' = θ) → PQ (j_SL L) (j_SV xs) j_EX mm_X11_code 21 [.ref 0, .int x, .int k, .int a, .int v] [] S n 0 0 (fun r S' n' => ZQ 44 S S' ∧ n = n' ∧ GS θ S' n ∧ fr1 [0, 3, 4, 5, 6, 32, 42, 44] S S' n ∧ ∃ z : Int32, r = some (.int z) ∧ ∀ z' θ', cdR θ x k a v z' θ' → z = z' ∧ J2 θ' S' ∧ (JK θ S → JK θ' S')) := by
    intro hh
    refine q_iconst rfl rfl ?_
    exact q_iret rfl rfl trivial ⟨Or.inl rfl, rfl, hG, fr1_rf, _, rfl, fun z θ' hu => by
      obtain ⟨rfl, rfl⟩ := hh z θ' hu
      exact ⟨rfl, hJ, id⟩⟩
  refine q_aload_n rfl rfl rfl ?_
  refine q_getf rfl rfl (by omega) k0 f0 ?_
  refine q_iload_n rfl rfl rfl ?_
  refine q_cV rfl rfl (Or.inl rfl) rfl rfl rfl rfl (by omega) k1 trivial rfl rfl rfl rfl rfl (c_hh hn k1 f10) ?_
  rintro r _ _ ⟨rfl, rfl, hr⟩
  rcases hr with ⟨hr, rfl⟩ | ⟨hx, rfl⟩
  · show PQ (j_SL L) (j_SV xs) j_EX mm_X11_code 8 _ [.int 0] S n 0 0 _
    refine q_ifeq rfl rfl (fun _ => s21 (fun z θ' hu => ?_)) (fun c => absurd rfl c)
    rcases hu with ⟨-, h9⟩ | ⟨-, X, m, hX, rfl, hXh, -⟩
    · exact h9
    · refine absurd ?_ hr
      have e := nI_toInt (n := X) (by omega)
      have e0 : (0 : Int32).toInt = 0 := rfl
      simp only [Int32.lt_iff_toInt_lt, Int32.le_iff_toInt_le]
      omega
  show PQ (j_SL L) (j_SV xs) j_EX mm_X11_code 8 _ [.int 1] S n 0 0 _
  refine q_ifeq rfl rfl (fun c => absurd c (by decide)) (fun _ => ?_)
  refine q_iload_n rfl rfl rfl ?_
  refine q_iload_n rfl rfl rfl ?_
  refine q_iload rfl rfl rfl ?_
  refine q_cS rfl rfl (Or.inl rfl) rfl rfl trivial rfl rfl rfl rfl rfl c_is ?_
  rintro r _ _ ⟨rfl, rfl, ⟨hi9, rfl⟩ | ⟨hi9, rfl⟩⟩
  · show PQ (j_SL L) (j_SV xs) j_EX mm_X11_code 18 _ [.int 0] S n 0 0 _
    refine q_ifne rfl rfl (fun _ => s21 (fun z θ' hu => ?_)) (fun c => absurd rfl c)
    rcases hu with ⟨-, h9⟩ | ⟨h9, -⟩
    · exact h9
    · exact absurd (is_ok.mpr h9) hi9
  show PQ (j_SL L) (j_SV xs) j_EX mm_X11_code 18 _ [.int 1] S n 0 0 _
  refine q_ifne rfl rfl (fun c => absurd c (by decide)) (fun _ => ?_)
  obtain ⟨⟨X, hX, rfl, hXh⟩, hin⟩ := hnd b1' b2' hx
  have hb := hb3 X hX
  obtain ⟨m, hm8, em⟩ := nat_of (x := ln X) (b := 8) hb.1 hb.2
  have hu1 : ∀ z θ', cdR θ (nI X) k a v z θ' → (m = 8 ∧ z = -2 ∧ θ' = θ) ∨ (m < 8 ∧ z = nI m ∧ θ' = (upd θ.1 X (nI (m + 1)), upd θ.2.1 (8 * X + m) k, upd θ.2.2.1 (8 * X + m) a, upd θ.2.2.2.1 (8 * X + m) v, θ.2.2.2.2)) := by
    intro z θ' hu
    rcases hu with ⟨h9, -, -⟩ | ⟨-, Y, m', hY, eY, -, eM, hM, h9⟩
    · exact absurd ⟨hin, is_ok.mp hi9⟩ h9
    · have e1 : X = Y := by
        have := congrArg Int32.toInt eY
        rw [nI_toInt (by omega), nI_toInt (by omega)] at this
        omega
      subst e1
      have e2 : m = m' := by
        have := congrArg Int32.toInt (em.symm.trans ((hln X hX).trans eM))
        rw [nI_toInt (by omega), nI_toInt (by omega)] at this
        omega
      subst e2
      exact h9
  refine q_aload_n rfl rfl rfl ?_
  refine q_getf rfl rfl (by omega) k0 f0 ?_
  refine q_iload_n rfl rfl rfl ?_
  refine q_cV rfl rfl (Or.inl rfl) rfl rfl rfl rfl (by omega) k1 trivial rfl rfl rfl rfl rfl (c_le hn k1 f10 f12 k3 hX hx) ?_
  rintro r _ _ ⟨rfl, rfl, rfl⟩
  show PQ (j_SL L) (j_SV xs) j_EX mm_X11_code 31 _ [.int (ln X)] S n 0 0 _
  rw [em]
  refine q_bipush rfl rfl ?_
  refine q_iclt rfl rfl (fun c8 => ?_) (fun c8 => ?_)
  rotate_left
  · refine q_bipush rfl rfl ?_
    refine q_iret rfl rfl trivial ⟨Or.inl rfl, rfl, hG, fr1_rf, _, rfl, fun z θ' hu => ?_⟩
    rcases hu1 z θ' hu with ⟨-, rfl, rfl⟩ | ⟨q1, -⟩
    · exact ⟨rfl, hJ, id⟩
    · exact absurd (i_nle (nI_ge (a := m) (b := 8) q1 (by decide))) c8
  have hm : m < 8 := by
    rw [Int32.lt_iff_toInt_lt, nI_toInt (by omega)] at c8
    have e8 : (8 : Int32).toInt = 8 := rfl
    omega
  refine q_aload_n rfl rfl rfl ?_
  refine q_getf rfl rfl (by omega) k0 f0 ?_
  refine q_iload_n rfl rfl rfl ?_
  refine q_iload_n rfl rfl rfl ?_
  refine q_iload_n rfl rfl rfl ?_
  refine q_iload rfl rfl rfl ?_
  refine q_cV rfl rfl (Or.inl rfl) rfl rfl rfl rfl (by omega) k1 trivial rfl rfl rfl rfl rfl (c_ap hG k1 f10 k3 hX hx em hm) ?_
  rintro r T1 _ ⟨rfl, rfl, hG1, t0, t1, t3, tf, t456⟩
  show PQ (j_SL L) (j_SV xs) j_EX mm_X11_code 51 _ [] T1 n 0 0 _
  refine q_aload_n rfl rfl rfl ?_
  refine q_cV rfl rfl (Or.inl rfl) rfl rfl rfl rfl (by omega) (t0.trans k0) trivial rfl rfl rfl rfl rfl (w_fgt hG1) ?_
  rintro r T2 _ ⟨rfl, rfl, hG2, e2, hzq⟩
  show PQ (j_SL L) (j_SV xs) j_EX mm_X11_code 55 _ [] T2 n 0 0 _
  obtain ⟨fs2, k02, f02, -, -⟩ := gs_0 hG2
  have u1 : T2 1 = .inr (6, fs1) := (e2 1 (by omega) rfl).trans (t1.trans k1)
  have u3 : T2 3 = .inl (0, 3, .inl (upd ln X (nI (m + 1)))) := (e2 3 (by omega) rfl).trans t3
  refine q_aload_n rfl rfl rfl ?_
  refine q_getf rfl rfl (by omega) k02 f02 ?_
  refine q_iload_n rfl rfl rfl ?_
  refine q_cV rfl rfl (Or.inl rfl) rfl rfl rfl rfl (by omega) u1 trivial rfl rfl rfl rfl rfl (c_le hn u1 f10 f12 u3 hX hx) ?_
  rintro r _ _ ⟨rfl, rfl, rfl⟩
  show PQ (j_SL L) (j_SV xs) j_EX mm_X11_code 63 _ [.int (upd ln X (nI (m + 1)) X)] T2 n 0 0 _
  refine q_iconst rfl rfl ?_
  refine q_isub rfl rfl ?_
  have hfr : fr1 [0, 3, 4, 5, 6, 32, 42, 44] S T2 n := fr1_tr tf e2 rfl rfl
  refine q_iret rfl rfl trivial ⟨Or.inr ⟨hzq, Or.inr ⟨rfl, Or.inl ⟨ln, _, k3, u3, X, hX, fun e => by
    have e9 : nI (m + 1) = nI m := (if_pos rfl).symm.trans (e.trans em)
    have e10 := congrArg Int32.toInt e9
    rw [nI_toInt (by omega), nI_toInt (by omega)] at e10
    omega⟩⟩⟩, rfl, hG2, hfr, _, rfl, fun z θ' hu => ?_⟩
  rcases hu1 z θ' hu with ⟨q1, -⟩ | ⟨-, rfl, rfl⟩
  · omega
  · refine ⟨?_, ⟨⟨fs1, u1, f10⟩, _, u3, fun y hy => ?_⟩, fun hk => ?_⟩
    · show upd ln X (nI (m + 1)) X - 1 = nI m
      rw [show upd ln X (nI (m + 1)) X = nI (m + 1) from if_pos rfl, ← nI_add m 1]
      exact Int32.add_sub_cancel (nI m) 1
    · show upd ln X (nI (m + 1)) y = upd θ.1 X (nI (m + 1)) y
      unfold upd
      split
      · rfl
      · exact hln y hy
    · obtain ⟨l4, l5, l6, a4, a5, a6, h9⟩ := hk
      obtain ⟨b4, b5, b6⟩ := t456 l4 l5 l6 a4 a5 a6
      refine ⟨_, _, _, (e2 4 (by omega) rfl).trans b4, (e2 5 (by omega) rfl).trans b5, (e2 6 (by omega) rfl).trans b6, fun Y i hY hi hl => ?_⟩
      have hl' : (i : Int) < (upd θ.1 X (nI (m + 1)) Y).toInt := hl
      show inP (upd l4 (8 * X + m) k (8 * Y + i)) 0 12 ∧ upd l4 (8 * X + m) k (8 * Y + i) = upd θ.2.1 (8 * X + m) k (8 * Y + i) ∧ upd l5 (8 * X + m) a (8 * Y + i) = upd θ.2.2.1 (8 * X + m) a (8 * Y + i) ∧ upd l6 (8 * X + m) v (8 * Y + i) = upd θ.2.2.2.1 (8 * X + m) v (8 * Y + i)
      unfold upd at hl' ⊢
      by_cases e : 8 * Y + i = 8 * X + m
      · rw [if_pos e, if_pos e, if_pos e, if_pos e, if_pos e, if_pos e]
        exact ⟨(is_ok.mp hi9).1, rfl, rfl, rfl⟩
      · rw [if_neg e, if_neg e, if_neg e, if_neg e, if_neg e, if_neg e]
        refine h9 Y i hY hi ?_
        by_cases eY : Y = X
        · subst eY
          rw [if_pos rfl, nI_toInt (by omega)] at hl'
          rw [← hln Y hY, em, nI_toInt (by omega)]
          omega
        · rw [if_neg eY] at hl'
          exact hl'
end VZ
