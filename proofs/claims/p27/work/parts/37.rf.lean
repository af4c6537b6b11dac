variable {θ : Th}
/-! the reference's tests; puzzle, code, uncode: what they answer and leave behind -/
def inP (v lo hi : Int32) : Prop := lo ≤ v ∧ v ≤ hi
def bK (A : Prop) (S : Nat → pm_E) (n : Nat) : q_K := fun r S' n' => S' = S ∧ n' = n ∧ ((¬ A ∧ r = some (.int 0)) ∨ (A ∧ r = some (.int 1)))
section RF
variable {SL : Nat → Nat} {SV : Nat → Nat → Int32} {EX : pm_M → pm_C → (pm_C → Prop) → Prop} {S : Nat → pm_E} {n : Nat} {K : q_K} {fs : List Value}
theorem l_in {v lo hi : Int32} : PM SL SV EX mm_X12_in [.ref 46, .int v, .int lo, .int hi] S n (bK (inP v lo hi) S n) := by
  change PQ SL SV EX mm_X12_in 0 [.ref 46, .int v, .int lo, .int hi] [] S n 0 0 _
  refine q_iload_n rfl rfl rfl ?_
  refine q_iload_n rfl rfl rfl ?_
  refine q_iclt rfl rfl (fun c => ?_) (fun c => ?_)
  · refine q_iconst rfl rfl ?_
    refine q_iret rfl rfl rfl ⟨rfl, rfl, Or.inl ⟨fun q => ?_, rfl⟩⟩
    have h1 := q.1
    rw [Int32.le_iff_toInt_le] at h1
    rw [Int32.lt_iff_toInt_lt] at c
    omega
  · refine q_iload_n rfl rfl rfl ?_
    refine q_iload_n rfl rfl rfl ?_
    refine q_icgt rfl rfl (fun c2 => ?_) (fun c2 => ?_)
    · refine q_iconst rfl rfl ?_
      refine q_iret rfl rfl rfl ⟨rfl, rfl, Or.inl ⟨fun q => ?_, rfl⟩⟩
      have h1 := q.2
      rw [Int32.le_iff_toInt_le] at h1
      rw [Int32.lt_iff_toInt_lt] at c2
      omega
    · refine q_iconst rfl rfl ?_
      refine q_goto rfl ?_
      exact q_iret rfl rfl rfl ⟨rfl, rfl, Or.inr ⟨⟨i_nlt c, i_nlt c2⟩, rfl⟩⟩
theorem l_isPlace {x : Int32} (hn : 82 ≤ n) (h46 : S 46 = .inr (10, fs)) : PM SL SV EX mm_X12_isPlace [.ref 46, .int x] S n (bK (inP x 0 3) S n) := by
  change PQ SL SV EX mm_X12_isPlace 0 [.ref 46, .int x] [] S n 0 0 _
  refine q_aload_n rfl rfl rfl ?_
  refine q_iload_n rfl rfl rfl ?_
  refine q_iconst rfl rfl ?_
  refine q_iconst rfl rfl ?_
  refine q_cV rfl rfl (Or.inl rfl) rfl rfl rfl rfl (by omega) h46 trivial rfl rfl rfl rfl rfl l_in ?_
  rintro r S1 n1 ⟨rfl, rfl, ⟨q, rfl⟩ | ⟨q, rfl⟩⟩
  · exact q_iret rfl rfl rfl ⟨rfl, rfl, Or.inl ⟨q, rfl⟩⟩
  · exact q_iret rfl rfl rfl ⟨rfl, rfl, Or.inr ⟨q, rfl⟩⟩
theorem l_hasLock {x : Int32} (hn : 82 ≤ n) (h46 : S 46 = .inr (10, fs)) : PM SL SV EX mm_X12_hasLock [.ref 46, .int x] S n (bK (inP x 8 11) S n) := by
  change PQ SL SV EX mm_X12_hasLock 0 [.ref 46, .int x] [] S n 0 0 _
  refine q_aload_n rfl rfl rfl ?_
  refine q_iload_n rfl rfl rfl ?_
  refine q_bipush rfl rfl ?_
  refine q_bipush rfl rfl ?_
  refine q_cV rfl rfl (Or.inl rfl) rfl rfl rfl rfl (by omega) h46 trivial rfl rfl rfl rfl rfl l_in ?_
  rintro r S1 n1 ⟨rfl, rfl, ⟨q, rfl⟩ | ⟨q, rfl⟩⟩
  · exact q_iret rfl rfl rfl ⟨rfl, rfl, Or.inl ⟨q, rfl⟩⟩
  · exact q_iret rfl rfl rfl ⟨rfl, rfl, Or.inr ⟨q, rfl⟩⟩
theorem l_isShelf {x : Int32} (hn : 82 ≤ n) (h46 : S 46 = .inr (10, fs)) : PM SL SV EX mm_X12_isShelf [.ref 46, .int x] S n (bK (inP x 0 7) S n) := by
  change PQ SL SV EX mm_X12_isShelf 0 [.ref 46, .int x] [] S n 0 0 _
  refine q_aload_n rfl rfl rfl ?_
  refine q_iload_n rfl rfl rfl ?_
  refine q_iconst rfl rfl ?_
  refine q_bipush rfl rfl ?_
  refine q_cV rfl rfl (Or.inl rfl) rfl rfl rfl rfl (by omega) h46 trivial rfl rfl rfl rfl rfl l_in ?_
  rintro r S1 n1 ⟨rfl, rfl, ⟨q, rfl⟩ | ⟨q, rfl⟩⟩
  · exact q_iret rfl rfl rfl ⟨rfl, rfl, Or.inl ⟨q, rfl⟩⟩
  · exact q_iret rfl rfl rfl ⟨rfl, rfl, Or.inr ⟨q, rfl⟩⟩
theorem l_isHand {x hd : Int32} (hn : 82 ≤ n) (h46 : S 46 = .inr (10, fs)) (f1 : fs[1]? = some (.int hd)) : PM SL SV EX mm_X12_isHand [.ref 46, .int x] S n (bK (inP x 0 (hd - 1)) S n) := by
  change PQ SL SV EX mm_X12_isHand 0 [.ref 46, .int x] [] S n 0 0 _
  refine q_aload_n rfl rfl rfl ?_
  refine q_iload_n rfl rfl rfl ?_
  refine q_iconst rfl rfl ?_
  refine q_aload_n rfl rfl rfl ?_
  refine q_getf rfl rfl (by omega) h46 f1 ?_
  refine q_iconst rfl rfl ?_
  refine q_isub rfl rfl ?_
  refine q_cV rfl rfl (Or.inl rfl) rfl rfl rfl rfl (by omega) h46 trivial rfl rfl rfl rfl rfl l_in ?_
  rintro r S1 n1 ⟨rfl, rfl, ⟨q, rfl⟩ | ⟨q, rfl⟩⟩
  · exact q_iret rfl rfl rfl ⟨rfl, rfl, Or.inl ⟨q, rfl⟩⟩
  · exact q_iret rfl rfl rfl ⟨rfl, rfl, Or.inr ⟨q, rfl⟩⟩
def hasPl (k : Int32) : Prop := k < 3 ∨ inP k 5 7
theorem l_hasPlace {x : Int32} (hn : 82 ≤ n) (h46 : S 46 = .inr (10, fs)) : PM SL SV EX mm_X12_hasPlace [.ref 46, .int x] S n (bK (hasPl x) S n) := by
  change PQ SL SV EX mm_X12_hasPlace 0 [.ref 46, .int x] [] S n 0 0 _
  refine q_iload_n rfl rfl rfl ?_
  refine q_iconst rfl rfl ?_
  refine q_iclt rfl rfl (fun c => ?_) (fun c => ?_)
  · refine q_iconst rfl rfl ?_
    refine q_goto rfl ?_
    exact q_iret rfl rfl rfl ⟨rfl, rfl, Or.inr ⟨Or.inl c, rfl⟩⟩
  · refine q_aload_n rfl rfl rfl ?_
    refine q_iload_n rfl rfl rfl ?_
    refine q_iconst rfl rfl ?_
    refine q_bipush rfl rfl ?_
    refine q_cV rfl rfl (Or.inl rfl) rfl rfl rfl rfl (by omega) h46 trivial rfl rfl rfl rfl rfl l_in ?_
    rintro r S1 n1 ⟨rfl, rfl, ⟨q, rfl⟩ | ⟨q, rfl⟩⟩
    · show PQ SL SV EX mm_X12_hasPlace 13 _ [.int 0] S1 n1 0 0 _
      refine q_ifeq rfl rfl (fun _ => ?_) (fun c => absurd rfl c)
      refine q_iconst rfl rfl ?_
      exact q_iret rfl rfl rfl ⟨rfl, rfl, Or.inl ⟨fun e => e.elim c q, rfl⟩⟩
    · show PQ SL SV EX mm_X12_hasPlace 13 _ [.int 1] S1 n1 0 0 _
      refine q_ifeq rfl rfl (fun c => absurd c (by decide)) (fun _ => ?_)
      refine q_iconst rfl rfl ?_
      refine q_goto rfl ?_
      exact q_iret rfl rfl rfl ⟨rfl, rfl, Or.inr ⟨Or.inr q, rfl⟩⟩
def hasNm (k : Int32) : Prop := k = 0 ∨ inP k 3 6
theorem l_hasNumber {x : Int32} (hn : 82 ≤ n) (h46 : S 46 = .inr (10, fs)) : PM SL SV EX mm_X12_hasNumber [.ref 46, .int x] S n (bK (hasNm x) S n) := by
  change PQ SL SV EX mm_X12_hasNumber 0 [.ref 46, .int x] [] S n 0 0 _
  refine q_iload_n rfl rfl rfl ?_
  refine q_ifeq rfl rfl (fun c => ?_) (fun c => ?_)
  · refine q_iconst rfl rfl ?_
    refine q_goto rfl ?_
    exact q_iret rfl rfl rfl ⟨rfl, rfl, Or.inr ⟨Or.inl c, rfl⟩⟩
  · refine q_aload_n rfl rfl rfl ?_
    refine q_iload_n rfl rfl rfl ?_
    refine q_iconst rfl rfl ?_
    refine q_bipush rfl rfl ?_
    refine q_cV rfl rfl (Or.inl rfl) rfl rfl rfl rfl (by omega) h46 trivial rfl rfl rfl rfl rfl l_in ?_
    rintro r S1 n1 ⟨rfl, rfl, ⟨q, rfl⟩ | ⟨q, rfl⟩⟩
    · show PQ SL SV EX mm_X12_hasNumber 12 _ [.int 0] S1 n1 0 0 _
      refine q_ifeq rfl rfl (fun _ => ?_) (fun c => absurd rfl c)
      refine q_iconst rfl rfl ?_
      exact q_iret rfl rfl rfl ⟨rfl, rfl, Or.inl ⟨fun e => e.elim c q, rfl⟩⟩
    · show PQ SL SV EX mm_X12_hasNumber 12 _ [.int 1] S1 n1 0 0 _
      refine q_ifeq rfl rfl (fun c => absurd c (by decide)) (fun _ => ?_)
      refine q_iconst rfl rfl ?_
      refine q_goto rfl ?_
      exact q_iret rfl rfl rfl ⟨rfl, rfl, Or.inr ⟨Or.inr q, rfl⟩⟩
/-- a statement as it must be -/
def okS (k p v : Int32) : Prop := inP k 0 12 ∧ (hasPl k → inP p 0 3) ∧ (inP k 8 11 → inP p 0 2) ∧ (hasNm k → inP v 0 (if k = 4 then 8 else 9))
end RF
theorem gs_mk2 {θ' : Th} {S S' : Nat → pm_E} {n : Nat} (hG : GS θ S n) (h : ∀ k, k < n → S' k = S k ∨ ck_cell (jga k) (S' k)) (hX : XI θ' (hp S' n)) : GS θ' S' n := by
  refine ⟨fun j hj => ?_, hX⟩
  obtain ⟨h1, h2⟩ := gs_get hG j hj
  rw [hp_get h1]
  refine ⟨_, rfl, ?_⟩
  rcases h j h1 with e | e
  · rw [e]; exact h2
  · exact e
theorem hp_one {S : Nat → pm_E} {n k j : Nat} {c : pm_E} (hk : k < n) (hj : j ≠ k) : (hp (va_up S k c) n)[j]? = (hp S n)[j]? := by
  rw [← hp_set hk]
  exact List.getElem?_set_ne (Ne.symm hj)
theorem xm_get {S : Nat → pm_E} {n : Nat} (hG : GS θ S n) : ∃ (mn fk fa fn : Nat → Int32) (fs : List Value), S 47 = .inl (0, 6, .inl mn) ∧ S 48 = .inl (0, 48, .inl fk) ∧ S 49 = .inl (0, 48, .inl fa) ∧ S 50 = .inl (0, 48, .inl fn) ∧ S 46 = .inr (10, fs) ∧ (∀ x, x < 3 → mn x = θ.1 x) ∧ (∀ j, j < 24 → fk j = θ.2.1 j ∧ fa j = θ.2.2.1 j ∧ fn j = θ.2.2.2.1 j) ∧ fs[1]? = some (.int θ.2.2.2.2) ∧ (1 ≤ θ.2.2.2.2.toInt ∧ θ.2.2.2.2.toInt ≤ 3) ∧ (∀ x, x < 3 → 0 ≤ (θ.1 x).toInt ∧ (θ.1 x).toInt ≤ 8) ∧ ∀ (b : Nat) (q : Nat × Int × Int), (jga 46).2.2.2[b]? = some q → ∃ w, fs[b]? = some w ∧ ck_fo q w := by
  have hn := gs_n hG
  obtain ⟨mn, fk, fa, fn, h1, h2, h3, h4, h5, h6, fs, h7, h8⟩ := hG.2.2.2.2
  have k46 := (hp_some h7).2
  have k47 := (hp_some h1).2
  obtain ⟨fs', e46, hf⟩ := gs_obj hG (k := 46) rfl
  rw [k46] at e46
  cases e46
  obtain ⟨mn', e47, b47⟩ := gs_arr hG (k := 47) rfl
  rw [k47] at e47
  cases e47
  obtain ⟨x, hx, b1, b2⟩ := fo_int (hf 1 _ rfl) rfl
  rw [h8] at hx
  cases hx
  refine ⟨mn, fk, fa, fn, fs, k47, (hp_some h2).2, (hp_some h3).2, (hp_some h4).2, k46, h5, h6, h8, ⟨b1, b2⟩, fun x hx => ?_, hf⟩
  rw [← h5 x hx]
  obtain ⟨q, q1, q2, q3⟩ := b47 x (by omega)
  rcases (show x = 0 ∨ x = 1 ∨ x = 2 by omega) with rfl | rfl | rfl <;> (cases q1; exact ⟨q2, q3⟩)
/-- the number of statements of a hand -/
theorem gs_many {S : Nat → pm_E} {n x : Nat} {mn : Nat → Int32} {v : Int32} (hG : GS θ S n) (h47 : S 47 = .inl (0, 6, .inl mn)) (hx : x < 3) (hv : 0 ≤ v.toInt ∧ v.toInt ≤ 8) : GS (upd θ.1 x v, θ.2) (va_up S 47 (.inl (0, 6, .inl (upd mn x v)))) n := by
  have hn := gs_n hG
  have e2 : ∀ j, j ≠ 47 → (hp (va_up S 47 (.inl (0, 6, .inl (upd mn x v)))) n)[j]? = (hp S n)[j]? := fun j hj => hp_one (by omega) hj
  obtain ⟨mn', fk, fa, fn, m1, m2, m3, m4, m5, m6, fs, m7, m8⟩ := hG.2.2.2.2
  rw [hp_get (by omega), h47] at m1
  cases m1
  obtain ⟨mn', e47, b47⟩ := gs_arr hG (k := 47) rfl
  rw [h47] at e47
  cases e47
  refine gs_mk2 hG (fun j hj => ?_) ⟨XC_same (e2 56 (by omega)) hG.2.1, XK_same (e2 48 (by omega)) (e2 49 (by omega)) (e2 50 (by omega)) hG.2.2.1, XS_same (e2 43 (by omega)) (fun j hj => e2 j (by omega)) hG.2.2.2.1, ⟨upd mn x v, fk, fa, fn, by rw [hp_get (by omega)]; rfl, by rw [e2 48 (by omega)]; exact m2, by rw [e2 49 (by omega)]; exact m3, by rw [e2 50 (by omega)]; exact m4, fun y hy => ?_, m6, fs, by rw [e2 46 (by omega)]; exact m7, m8⟩⟩
  · by_cases e : j = 47
    · subst e
      refine Or.inr ⟨_, rfl, fun a ha => ?_⟩
      unfold upd
      by_cases e3 : a = x
      · rw [if_pos e3]
        subst e3
        rcases (show a = 0 ∨ a = 1 ∨ a = 2 by omega) with rfl | rfl | rfl <;> exact ⟨_, rfl, hv⟩
      · rw [if_neg e3]
        exact b47 a ha
    · exact Or.inl (va_up_ne _ _ e)
  · show upd mn x v y = upd θ.1 x v y
    unfold upd
    by_cases e : y = x
    · rw [if_pos e, if_pos e]
    · rw [if_neg e, if_neg e]
      exact m5 y hy
/-- the number of hands -/
theorem gs_hands {S : Nat → pm_E} {n : Nat} {fs : List Value} {v : Int32} (hG : GS θ S n) (h46 : S 46 = .inr (10, fs)) (hv : 1 ≤ v.toInt ∧ v.toInt ≤ 3) : GS (θ.1, θ.2.1, θ.2.2.1, θ.2.2.2.1, v) (va_up S 46 (.inr (10, fs.set 1 (.int v)))) n := by
  have hn := gs_n hG
  have e2 : ∀ j, j ≠ 46 → (hp (va_up S 46 (.inr (10, fs.set 1 (.int v)))) n)[j]? = (hp S n)[j]? := fun j hj => hp_one (by omega) hj
  obtain ⟨mn, fk, fa, fn, m1, m2, m3, m4, m5, m6, fs', m7, m8⟩ := hG.2.2.2.2
  rw [hp_get (by omega), h46] at m7
  cases m7
  obtain ⟨fs', e46, hf⟩ := gs_obj hG (k := 46) rfl
  rw [h46] at e46
  cases e46
  have hl : 1 < fs.length := (List.getElem?_eq_some_iff.mp m8).1
  refine gs_mk2 hG (fun j hj => ?_) ⟨XC_same (e2 56 (by omega)) hG.2.1, XK_same (e2 48 (by omega)) (e2 49 (by omega)) (e2 50 (by omega)) hG.2.2.1, XS_same (e2 43 (by omega)) (fun j hj => e2 j (by omega)) hG.2.2.2.1, ⟨mn, fk, fa, fn, by rw [e2 47 (by omega)]; exact m1, by rw [e2 48 (by omega)]; exact m2, by rw [e2 49 (by omega)]; exact m3, by rw [e2 50 (by omega)]; exact m4, m5, m6, fs.set 1 (.int v), by rw [hp_get (by omega)]; rfl, List.getElem?_set_self hl⟩⟩
  by_cases e : j = 46
  · subst e
    refine Or.inr ⟨_, rfl, fun b q hq => ?_⟩
    by_cases e3 : 1 = b
    · subst e3
      cases hq
      exact ⟨.int v, List.getElem?_set_self hl, v, rfl, hv⟩
    · rw [List.getElem?_set_ne e3]
      exact hf b q hq
  · exact Or.inl (va_up_ne _ _ e)
/-- a statement of the first 24 -/
theorem gs_lay {S : Nat → pm_E} {n T : Nat} {kk ka kn : Nat → Int32} {k p v : Int32} (hG : GS θ S n) (h48 : S 48 = .inl (0, 48, .inl kk)) (h49 : S 49 = .inl (0, 48, .inl ka)) (h50 : S 50 = .inl (0, 48, .inl kn)) (hT : T < 24) (hx : xk k p v 8) : GS (θ.1, upd θ.2.1 T k, upd θ.2.2.1 T p, upd θ.2.2.2.1 T v, θ.2.2.2.2) (layS S T kk ka kn k p v) n := by
  have hn := gs_n hG
  have pne : ∀ j, j ≠ 48 → j ≠ 49 → j ≠ 50 → layS S T kk ka kn k p v j = S j := by
    intro j a1 a2 a3
    unfold layS
    rw [va_up_ne _ _ a3, va_up_ne _ _ a2, va_up_ne _ _ a1]
  have e2 : ∀ j, j ≠ 48 → j ≠ 49 → j ≠ 50 → (hp (layS S T kk ka kn k p v) n)[j]? = (hp S n)[j]? := by
    intro j a1 a2 a3
    rcases Nat.lt_or_ge j n with hl | hl
    · rw [hp_get hl, hp_get hl, pne j a1 a2 a3]
    · rw [List.getElem?_eq_none (by rw [hp_len]; exact hl), List.getElem?_eq_none (by rw [hp_len]; exact hl)]
  obtain ⟨kk', ka', kn', q1, q2, q3, q4⟩ := xk_get hG
  rw [h48] at q1
  rw [h49] at q2
  rw [h50] at q3
  cases q1
  cases q2
  cases q3
  obtain ⟨mn, fk, fa, fn, m1, m2, m3, m4, m5, m6, fs, m7, m8⟩ := hG.2.2.2.2
  rw [hp_get (by omega), h48] at m2
  rw [hp_get (by omega), h49] at m3
  rw [hp_get (by omega), h50] at m4
  cases m2
  cases m3
  cases m4
  refine gs_mk2 hG ?_ ⟨XC_same (e2 56 (by omega) (by omega) (by omega)) hG.2.1, ?_, XS_same (e2 43 (by omega) (by omega) (by omega)) (fun j hj => e2 j (by omega) (by omega) (by omega)) hG.2.2.2.1, ⟨mn, upd kk T k, upd ka T p, upd kn T v, by rw [e2 47 (by omega) (by omega) (by omega)]; exact m1, by rw [hp_get (by omega)]; rfl, by rw [hp_get (by omega)]; rfl, by rw [hp_get (by omega)]; rfl, m5, fun j hj => ?_, fs, by rw [e2 46 (by omega) (by omega) (by omega)]; exact m7, m8⟩⟩
  · intro j hj
    by_cases a1 : j = 48
    · subst a1
      exact Or.inr (cell_full (k := 48) rfl _)
    · by_cases a2 : j = 49
      · subst a2
        exact Or.inr (cell_full (k := 49) rfl _)
      · by_cases a3 : j = 50
        · subst a3
          exact Or.inr (cell_full (k := 50) rfl _)
        · exact Or.inl (pne j a1 a2 a3)
  · refine ⟨upd kk T k, upd ka T p, upd kn T v, by rw [hp_get (by omega)]; rfl, by rw [hp_get (by omega)]; rfl, by rw [hp_get (by omega)]; rfl, fun j hj => ?_⟩
    unfold upd
    by_cases e : j = T
    · rw [if_pos e, if_pos e, if_pos e, if_pos (by omega)]
      exact hx
    · rw [if_neg e, if_neg e, if_neg e]
      exact q4 j hj
  · show upd kk T k j = upd θ.2.1 T k j ∧ upd ka T p j = upd θ.2.2.1 T p j ∧ upd kn T v j = upd θ.2.2.2.1 T v j
    unfold upd
    by_cases e : j = T
    · rw [if_pos e, if_pos e, if_pos e, if_pos e, if_pos e, if_pos e]
      exact ⟨rfl, rfl, rfl⟩
    · rw [if_neg e, if_neg e, if_neg e, if_neg e, if_neg e, if_neg e]
      exact m6 j hj
theorem okS_xk {k p v : Int32} (h : okS k p v) : xk k p v 8 := by
  obtain ⟨h1, h2, h3, h4⟩ := h
  refine ⟨fun e => ?_, fun e => ?_, fun e => ?_⟩
  · have := h2 (by
      unfold hasPl inP
      rw [Int32.lt_iff_toInt_lt, Int32.le_iff_toInt_le, Int32.le_iff_toInt_le]
      show k.toInt < 3 ∨ (5 ≤ k.toInt ∧ k.toInt ≤ 7)
      omega)
    unfold inP at this
    rw [Int32.le_iff_toInt_le, Int32.le_iff_toInt_le] at this
    exact this
  · have := h3 (by
      unfold inP
      rw [Int32.le_iff_toInt_le, Int32.le_iff_toInt_le]
      exact e)
    unfold inP at this
    rw [Int32.le_iff_toInt_le, Int32.le_iff_toInt_le] at this
    exact this
  · have e4 : k = 4 := Int32.toInt_inj.mp e
    have := h4 (by
      subst e4
      exact Or.inr (by unfold inP; decide))
    rw [if_pos e4] at this
    unfold inP at this
    rw [Int32.le_iff_toInt_le, Int32.le_iff_toInt_le] at this
    exact this
theorem hand_of {x hd : Int32} (h1 : 1 ≤ hd.toInt ∧ hd.toInt ≤ 3) (h : inP x 0 (hd - 1)) : ∃ X : Nat, X < 3 ∧ x = nI X ∧ (X : Int) < hd.toInt := by
  have e : (hd - 1).toInt = hd.toInt - 1 := by
    have e1 : (hd - 1).toInt = (hd.toInt - (1 : Int32).toInt).bmod 4294967296 := Int32.toInt_sub _ _
    rw [e1, show (1 : Int32).toInt = 1 from rfl]
    exact ck_bm (by unfold ck_lo; omega) (by unfold ck_hi; omega)
  unfold inP at h
  rw [Int32.le_iff_toInt_le, Int32.le_iff_toInt_le, e] at h
  obtain ⟨X, hX, eX⟩ := nat_of (x := x) (b := 2) h.1 (by omega)
  refine ⟨X, by omega, eX, ?_⟩
  have := h.2
  rw [eX, nI_toInt (by omega)] at this
  omega
