/-! the class's forget: the pictures are not gone through -/
section ZF
variable {θ : Th} {L : Nat} {xs : Nat → Int32} {S : Nat → pm_E} {n : Nat}
theorem c_fl0 {k m0 : Nat} {f : Nat → Int32} (hk : k < n) (hs : S k = .inl (0, m0, .inl f)) (hm : m0 < 2 ^ 31) : PM (j_SL L) (j_SV xs) j_EX mm_J7_fill_53178 [.ref k, .int 0] S n (fun r S' n' => r = none ∧ n = n' ∧ (∀ j, j ≠ k → S' j = S j) ∧ ∃ g : Nat → Int32, S' k = .inl (0, m0, .inl g) ∧ ∀ i, i < m0 → g i = 0) := by
  change PQ (j_SL L) (j_SV xs) j_EX mm_J7_fill_53178 0 [.ref k, .int 0, pm_un, pm_un] [] S n 0 0 _
  refine q_iconst rfl rfl ?_
  refine q_ist2n rfl rfl rfl rfl ?_
  refine q_aload_n rfl rfl rfl ?_
  refine q_alen rfl rfl hk hs rfl ?_
  refine q_ist3n rfl rfl rfl rfl ?_
  have key : ∀ q i : Nat, i + q = m0 → ∀ (T : Nat → pm_E) (g : Nat → Int32), (∀ j, j ≠ k → T j = S j) → T k = .inl (0, m0, .inl g) → (∀ j, j < i → g j = 0) → PQ (j_SL L) (j_SV xs) j_EX mm_J7_fill_53178 5 [.ref k, .int 0, .int (nI i), .int (nI m0)] [] T n 0 0 (fun r S' n' => r = none ∧ n = n' ∧ (∀ j, j ≠ k → S' j = S j) ∧ ∃ g : Nat → Int32, S' k = .inl (0, m0, .inl g) ∧ ∀ i, i < m0 → g i = 0) := by
    intro q
    induction q with
    | zero =>
      intro i hi T g t1 t2 t3
      refine q_iload_n rfl rfl rfl ?_
      refine q_iload_n rfl rfl rfl ?_
      refine q_icge rfl rfl (fun _ => ?_) (fun c => absurd (by
        have e : i = m0 := by omega
        rw [e, Int32.le_iff_toInt_le]; omega) c)
      exact q_ret rfl rfl ⟨rfl, rfl, t1, g, t2, fun j hj => t3 j (by omega)⟩
    | succ q ih =>
      intro i hi T g t1 t2 t3
      refine q_iload_n rfl rfl rfl ?_
      refine q_iload_n rfl rfl rfl ?_
      refine q_icge rfl rfl (fun c => absurd c (nI_ge (a := i) (b := m0) (by omega) hm)) (fun _ => ?_)
      refine q_aload_n rfl rfl rfl ?_
      refine q_iload_n rfl rfl rfl ?_
      refine q_iload_n rfl rfl rfl ?_
      refine q_iast rfl rfl hk t2 (q_inN (by omega) hm) ?_
      refine q_inc2 rfl rfl rfl rfl ?_
      refine q_goto rfl ?_
      rw [show nI i + 1 = nI (i + 1) from nI_add i 1]
      refine ih (i + 1) (by omega) _ _ (fun j hj => (u_ne hj).trans (t1 j hj)) u_eq (fun j hj => ?_)
      rw [nI_clamp (by omega)]
      unfold upd
      split
      · rfl
      · exact t3 j (by omega)
  exact key m0 0 (by omega) S f (fun _ _ => rfl) hs (fun j hj => absurd hj (by omega))
theorem gs_pf {k ci mk b : Nat} {l : List (Nat × Int × Int)} {fs : List Value} {w : Value} (hG : GS θ S n) (e : jga k = (1, ci, mk, l)) (hs : S k = .inr (ci, fs)) (hb : mk.testBit b = false) (hq : ∀ q, l[b]? = some q → ck_fo q w) : GS θ (va_up S k (.inr (ci, fs.set b w))) n := by
  obtain ⟨fs0, h0, hf⟩ := gs_obj hG e
  rw [hs] at h0
  cases h0
  refine gs_st hG (by rw [e]; rfl) (by rw [e]; rfl) ?_ ?_
  · rw [e]
    refine ⟨_, rfl, fun b' q hb' => ?_⟩
    by_cases c : b' = b
    · subst c
      obtain ⟨w0, h1, -⟩ := hf b' q hb'
      exact ⟨w, List.getElem?_set_self (List.getElem?_eq_some_iff.mp h1).1, hq q hb'⟩
    · rw [List.getElem?_set_ne (fun h => c h.symm)]
      exact hf b' q hb'
  · rw [e]
    intro p fs1 hp e1
    rw [hs] at e1
    cases e1
    refine ⟨_, rfl, List.getElem?_set_ne (fun h => ?_)⟩
    rw [← h] at hp
    have hp' : mk.testBit b = true := hp
    rw [hb] at hp'
    cases hp'
theorem c_fgz (hG : GS θ S n) : PM (j_SL L) (j_SV xs) j_EX mm_X11_forget [.ref 0] S n (fun r S' n' => zr 44 S') := by
  have hn := gs_n hG
  obtain ⟨ts, k0, hf⟩ := gs_obj hG (k := 0) rfl
  obtain ⟨sz, k44, -⟩ := gs_arr hG (k := 44) rfl
  have t8 : ts[8]? = some (.ref 44) := fo_ref (hf 8 _ rfl) rfl
  obtain ⟨v10, t10, -⟩ := fo_int (hf 10 _ rfl) rfl
  change PQ (j_SL L) (j_SV xs) j_EX mm_X11_forget 0 [.ref 0] [] S n 0 0 _
  refine q_aload_n rfl rfl rfl ?_
  refine q_getf rfl rfl (by omega) k0 t8 ?_
  refine q_iconst rfl rfl ?_
  refine q_cS rfl rfl (Or.inl rfl) rfl rfl trivial rfl rfl rfl rfl rfl (c_fl0 (by omega) k44 (by decide)) ?_
  rintro r T1 _ ⟨rfl, rfl, e1, g, x44, hz⟩
  show PQ (j_SL L) (j_SV xs) j_EX mm_X11_forget 8 [.ref 0] [] T1 n 0 0 _
  have eT : T1 = va_up S 44 (.inl (0, 5, .inl g)) := funext (fun j => by
    by_cases e : j = 44
    · rw [e, u_eq, x44]
    · rw [u_ne e, e1 j e])
  have hG1 : GS θ T1 n := by
    rw [eT]
    exact gs_st (k := 44) hG rfl rfl (cell_full (k := 44) rfl _) (pk_arr k44)
  have y0 := (e1 0 (by decide)).trans k0
  refine q_aload_n rfl rfl rfl ?_
  refine q_iconst rfl rfl ?_
  refine q_putf rfl rfl (by omega) y0 (List.getElem?_eq_some_iff.mp t10).1 rfl rfl ?_
  have hG2 := gs_pf (b := 10) (w := .int 0) hG1 (k := 0) rfl y0 rfl (fun q hq => by cases hq; exact ⟨0, rfl, by decide, by decide⟩)
  have e2 : ∀ j, j ≠ 0 → va_up T1 0 (.inr (9, ts.set 10 (.int 0))) j = T1 j := fun j hj => u_ne hj
  have x0 : va_up T1 0 (.inr (9, ts.set 10 (.int 0))) 0 = .inr (9, ts.set 10 (.int 0)) := u_eq
  generalize va_up T1 0 (.inr (9, ts.set 10 (.int 0))) = T2 at hG2 e2 x0 ⊢
  obtain ⟨ts2, k02, hf2⟩ := gs_obj hG2 (k := 0) rfl
  obtain ⟨fx, k32, hfx⟩ := gs_obj hG2 (k := 32) rfl
  obtain ⟨v1, x1, -⟩ := fo_int (hfx 1 _ rfl) rfl
  refine q_aload_n rfl rfl rfl ?_
  refine q_getf rfl rfl (by omega) k02 (show ts2[5]? = some (.ref 32) from fo_ref (hf2 5 _ rfl) rfl) ?_
  refine q_iconst rfl rfl ?_
  refine q_putf rfl rfl (by show 32 < n; omega) k32 (List.getElem?_eq_some_iff.mp x1).1 rfl rfl ?_
  have hG3 := gs_pf (b := 1) (w := .int 1) hG2 (k := 32) rfl k32 rfl (fun q hq => by cases hq; exact ⟨1, rfl, by decide, by decide⟩)
  have e3 : ∀ j, j ≠ 32 → va_up T2 32 (.inr (0, fx.set 1 (.int 1))) j = T2 j := fun j hj => u_ne hj
  generalize va_up T2 32 (.inr (0, fx.set 1 (.int 1))) = T3 at hG3 e3 ⊢
  have z44 : T3 44 = .inl (0, 5, .inl g) := (e3 44 (by decide)).trans ((e2 44 (by decide)).trans x44)
  obtain ⟨ts3, k03, hf3⟩ := gs_obj hG3 (k := 0) rfl
  obtain ⟨lr, k42, -⟩ := gs_obj hG3 (k := 42) rfl
  refine q_aload_n rfl rfl rfl ?_
  refine q_getf rfl rfl (by omega) k03 (show ts3[6]? = some (.ref 42) from fo_ref (hf3 6 _ rfl) rfl) ?_
  refine q_cV rfl rfl (Or.inl rfl) rfl rfl rfl rfl (by show 42 < n; omega) k42 trivial rfl rfl rfl rfl rfl (pm_weak (q_kc w5 [] hG3 ⟨rfl, trivial⟩ ck_en_n (fun d hd => by cases hd)) (fun r S9 n9 h => kc_void rfl h)) ?_
  rintro r T4 n9 ⟨en, rfl, hG4, hF4⟩
  obtain rfl := en.symm
  have z44' : T4 44 = .inl (0, 5, .inl g) := (hF4 44 (by omega) rfl).trans z44
  show PQ (j_SL L) (j_SV xs) j_EX mm_X11_forget 28 [.ref 0] [] T4 n 0 0 _
  obtain ⟨ts4, k04, hf4⟩ := gs_obj hG4 (k := 0) rfl
  obtain ⟨mc, k7, -⟩ := gs_obj hG4 (k := 7) rfl
  refine q_aload_n rfl rfl rfl ?_
  refine q_aload_n rfl rfl rfl ?_
  refine q_getf rfl rfl (by omega) k04 (show ts4[1]? = some (.ref 7) from fo_ref (hf4 1 _ rfl) rfl) ?_
  refine q_cV rfl rfl (Or.inl rfl) rfl rfl rfl rfl (by show 7 < n; omega) k7 trivial rfl rfl rfl rfl rfl (q_kc w7 [] hG4 ⟨rfl, trivial⟩ ck_en_n (fun d hd => by cases hd)) ?_
  rintro r T5 n9 ⟨en, hG5, hF5, Q, hQ, -, hr, -⟩
  obtain rfl := en.symm
  have hr' : ∃ x : Int64, r = some (.long x) := by
    have e := List.mem_singleton.mp hQ
    subst e
    exact hr
  obtain ⟨x, rfl⟩ := hr'
  show PQ (j_SL L) (j_SV xs) j_EX mm_X11_forget 36 [.ref 0] [.long x, .ref 0] T5 n 0 0 _
  obtain ⟨ts5, k05, hf5⟩ := gs_obj hG5 (k := 0) rfl
  obtain ⟨w11, s11, -⟩ := hf5 11 _ rfl
  refine q_putf rfl rfl (by omega) k05 (List.getElem?_eq_some_iff.mp s11).1 rfl trivial ?_
  exact q_ret rfl rfl ⟨g, (u_ne (by decide)).trans ((hF5 44 (by omega) rfl).trans z44'), hz⟩
end ZF
