/-! the class's forget: the pictures are not gone through -/
section ZF
variable {θ : Th} {L : Nat} {xs : Nat → Int32} {S : Nat → pm_E} {n : Nat}
theorem c_fl0 {k m0 : Nat} {f : Nat → Int32} (hk : k < n) (hs : S k = .inl (0, m0, .inl f)) (hm : m0 < 2 ^ 31) : PM (j_SL L) (j_SV xs) j_EX mm_J7_fill_53178 [.ref k, .int 0] S n (fun r S' n' => r = none ∧ n = n' ∧ (∀ j, j ≠ k → S' j = S j) ∧ ∃ g : Nat → Int32, S' k = .inl (0, m0, .inl g) ∧ ∀ i, i < m0 → g i = 0) := by
  change PQ (j_SL L) (j_SV xs) j_EX mm_J7_fill_53178 0 [.ref k, .int 0, pm_un, pm_un] [] S n 0 0 _
  refine q_iconst rfl rfl ?_
  refine q_ist2n rfl rfl rfl rfl ?_
  refine q_aload_n rfl rfl rfl ?_
  refine q_alen rfl rfl hk hs rfl ?_
  refine q_ist3n rfl rfl rfl rfl ?_
  have key : ∀ q i : Nat, i + q = m0 → ∀ (T : Nat → pm_E) (g : Nat → Int32), (∀ j, j ≠ k → T j = S j) → T k = .inl (0, m0, .inl g) → (∀ j, j < i → g j = 0) → PQ (j_SL L) (j_SV xs) j_EX mm_J7_fill_53178 5 [.ref k, .int 0, .int (nI i), .int (nI m0)] [] T n 0 0 (fun r S' n' => r = none ∧ n = n' ∧ (∀ j, j ≠ k → S' j = S j) ∧ ∃ g : Nat → Int32, S' k = .inl (0, m0, .inl g) ∧ ∀ i, i < m0 → g i = 0) := by
    intro q
    induction q with
    | zero =>
      intro i hi T g t1 t2 t3
      refine q_iload_n rfl rfl rfl ?_
      refine q_iload_n rfl rfl rfl ?_
      refine q_icge rfl rfl (fun _ => ?_) (fun c => absurd (by
        have e : i = m0 := by omega
        rw [e, Int32.le_iff_toInt_le]; omega) c)
      exact q_ret rfl rfl ⟨rfl, rfl, t1, g, t2, fun j hj => t3 j (by omega)⟩
    | succ q ih =>
      intro i hi T g t1 t2 t3
      refine q_iload_n rfl rfl rfl ?_
      refine q_iload_n rfl rfl rfl ?_
      refine q_icge rfl rfl (fun c => absurd c (nI_ge (a := i) (b := m0) (by omega) hm)) (fun _ => ?_)
      refine q_aload_n rfl rfl rfl ?_
      refine q_iload_n rfl rfl rfl ?_
      refine q_iload_n rfl rfl rfl ?_
      refine q_iast rfl rfl hk t2 (q_inN (by omega) hm) ?_
      refine q_inc2 rfl rfl rfl rfl ?_
      refine q_goto rfl ?_
      rw [show nI i + 1 = nI (i + 1) from nI_add i 1]
      refine ih (i + 1) (by omega) _ _ (fun j hj => (u_ne hj).trans (t1 j hj)) u_eq (fun j hj => ?_)
      rw [nI_clamp (by omega)]
      unfold upd
      split
      · rfl
      · exact t3 j (by omega)
  exact key m0 0 (by omega) S f (fun _ _ => rfl) hs (fun j hj => absurd hj (by omega))
theorem gs_pf {k ci mk b : Nat} {l : List (Nat × Int × Int)} {fs : List Value} {w : Value} (hG : GS θ S n) (e : jga k = (1, ci, mk, l)) (hs : S k = .inr (ci, fs)) (hb : mk.testBit b = false) (hq : ∀ q, l[b]? = some q → ck_fo q w) : GS θ (va_up S k (.inr (ci, fs.set b w))) n := by
  obtain ⟨fs0, h0, hf⟩ := gs_obj hG e
  rw [hs] at h0
  cases h0
  refine gs_st hG (by rw [e]; rfl) (by rw [e]; rfl) ?_ ?_
  · rw [e]
    refine ⟨_, rfl, fun b' q hb' => ?_⟩
    by_cases c : b' = b
    · subst c
      obtain ⟨w0, h1, -⟩ := hf b' q hb'
      exact ⟨w, List.getElem?_set_self (List.getElem?_eq_some_iff.mp h1).1, hq q hb'⟩
    · rw [List.getElem?_set_ne (fun h => c h.symm)]
      exact hf b' q hb'
  · rw [e]
    intro p fs1 hp e1
    rw [hs] at e1
    cases e1
    refine ⟨_, rfl, List.getElem?_set_ne (fun h => ?_)⟩
    rw [← h] at hp
    have hp' : mk.testBit b = true := hp
    rw [hb] at hp'
    cases hp'
def zfK (f : Nat → Int32) (k : Nat) : Nat → Nat := fun j => if 12 ≤ j ∧ j < 12 + k then (f (j - 12)).toInt.toNat else 0
theorem zis_up {t t2 : Int64} {f : Nat → Nat} {i v : Nat} (h : e_is t f) (h2 : e_is t2 (e_up (e_D t) i v)) : e_is t2 (e_up f i v) := fun j hj => by
  rw [h2 j hj]
  unfold e_up
  split
  · rfl
  · exact h j hj
set_option maxHeartbeats 4000000 in
theorem c_fst {ms ps : List Value} {f : Nat → Int32} (hn : 82 ≤ n) (kM : S 7 = .inr (4, ms)) (g0 : ms[0]? = some (.ref 1)) (k0 : S 1 = .inr (6, ps)) (f1 : ps[1]? = some (.ref 2)) (k1 : S 2 = .inl (0, 4, .inl f)) (hv : ∀ p, p < 4 → 0 ≤ (f p).toInt ∧ (f p).toInt ≤ 9) : PM (j_SL L) (j_SV xs) j_EX mm_X6_first [.ref 7] S n (fun r S' n' => S = S' ∧ n = n' ∧ ∃ t : Int64, r = some (.long t) ∧ e_is t (firV f)) := by
  change PQ (j_SL L) (j_SV xs) j_EX mm_X6_first 0 [.ref 7, pm_un, pm_un, pm_un] [] S n 0 0 _
  have key : ∀ q p : Nat, p + q = 4 → ∀ t : Int64, e_is t (zfK f p) → PQ (j_SL L) (j_SV xs) j_EX mm_X6_first 4 [.ref 7, .long t, pm_un, .int (nI p)] [] S n 0 0 (fun r S' n' => S = S' ∧ n = n' ∧ ∃ t : Int64, r = some (.long t) ∧ e_is t (firV f)) := by
    intro q
    induction q with
    | zero =>
      intro p hp t ht
      have e : p = 4 := by omega
      subst e
      refine q_iload_n rfl rfl rfl ?_
      refine q_iconst rfl rfl ?_
      refine q_icge rfl rfl (fun _ => ?_) (fun h => absurd (by decide) h)
      refine q_lload_n rfl rfl rfl ?_
      exact q_lret rfl rfl trivial ⟨rfl, rfl, t, rfl, ht⟩
    | succ q ih =>
      intro p hp t ht
      have hp4 : p < 4 := by omega
      have h9 := hv p hp4
      refine q_iload_n rfl rfl rfl ?_
      refine q_iconst rfl rfl ?_
      refine q_icge rfl rfl (fun h => absurd h (nI_ge (a := p) (b := 4) hp4 (by decide))) (fun _ => ?_)
      refine q_lload_n rfl rfl rfl ?_
      refine q_iload_n rfl rfl rfl ?_
      refine q_aload_n rfl rfl rfl ?_
      refine q_getf rfl rfl (by omega) kM g0 ?_
      refine q_getf rfl rfl (by omega) k0 f1 ?_
      refine q_iload_n rfl rfl rfl ?_
      refine q_iald rfl rfl (by omega) k1 (q_inN hp4 (by decide)) (q_tn (z := nI (f p).toInt.toNat) (by rw [nI_clamp (by omega)]; exact nI_ofI (k := (f p).toInt.toNat) (by omega) (by omega)) ?_)
      refine q_cS rfl rfl (Or.inl rfl) rfl rfl trivial rfl rfl rfl rfl rfl (b_withPlace hp4 (by omega)) ?_
      rintro r _ _ ⟨rfl, rfl, t1, rfl, q1⟩
      show PQ (j_SL L) (j_SV xs) j_EX mm_X6_first 23 _ [.long t1] S n 0 0 _
      refine q_lst1n rfl rfl rfl rfl ?_
      refine q_inc3 rfl rfl rfl rfl ?_
      refine q_goto rfl ?_
      rw [show nI p + 1 = nI (p + 1) from nI_add p 1]
      refine ih (p + 1) (by omega) t1 (fun j hj => ?_)
      rw [zis_up ht q1 j hj]
      unfold e_up zfK
      by_cases e : j = 12 + p
      · rw [if_pos e, if_pos (by omega), e, Nat.add_sub_cancel_left]
      · rw [if_neg e]
        by_cases e2 : 12 ≤ j ∧ j < 12 + p
        · rw [if_pos e2, if_pos (by omega)]
        · rw [if_neg e2, if_neg (by omega)]
  refine q_lconst rfl rfl ?_
  refine q_lst1n rfl rfl rfl rfl ?_
  refine q_iconst rfl rfl ?_
  refine q_ist3n rfl rfl rfl rfl ?_
  refine key 4 0 rfl 0 (fun j hj => ?_)
  have z : ∀ j : Fin 21, e_D 0 j.val = 0 := by decide +kernel
  rw [z ⟨j, hj⟩]
  unfold zfK
  rw [if_neg (by omega)]
theorem c_clr (hG : GS θ S n) : PM (j_SL L) (j_SV xs) j_EX mm_X3_clear [.ref 42] S n (fun r S' n' => (∀ k, k ≠ 42 → S' k = S k) ∧ ∃ lr : List Value, S' 42 = .inr (1, lr) ∧ lr[0]? = some (.long 0) ∧ lr[1]? = some (.long 0)) := by
  have hn := gs_n hG
  obtain ⟨lr, k42, hf⟩ := gs_obj hG (k := 42) rfl
  obtain ⟨v0, s0, -⟩ := hf 0 _ rfl
  obtain ⟨v1, s1, -⟩ := hf 1 _ rfl
  have l0 := (List.getElem?_eq_some_iff.mp s0).1
  have l1 := (List.getElem?_eq_some_iff.mp s1).1
  change PQ (j_SL L) (j_SV xs) j_EX mm_X3_clear 0 [.ref 42] [] S n 0 0 _
  refine q_aload_n rfl rfl rfl ?_
  refine q_lconst rfl rfl ?_
  refine q_putf rfl rfl (by omega) k42 l0 rfl trivial ?_
  refine q_aload_n rfl rfl rfl ?_
  refine q_lconst rfl rfl ?_
  refine q_putf rfl rfl (by omega) zu_eq (by rw [List.length_set]; exact l1) rfl trivial ?_
  exact q_ret rfl rfl ⟨fun k hk => (zu_ne hk).trans (zu_ne hk), _, zu_eq, (List.getElem?_set_ne (by decide)).trans (List.getElem?_set_self l0), List.getElem?_set_self (by rw [List.length_set]; exact l1)⟩
theorem c_fgz (hG : GS θ S n) : PM (j_SL L) (j_SV xs) j_EX mm_X11_forget [.ref 0] S n (fun r S' n' => zr 44 S') := by
  have hn := gs_n hG
  obtain ⟨ts, k0, hf⟩ := gs_obj hG (k := 0) rfl
  obtain ⟨sz, k44, -⟩ := gs_arr hG (k := 44) rfl
  have t8 : ts[8]? = some (.ref 44) := fo_ref (hf 8 _ rfl) rfl
  obtain ⟨v10, t10, -⟩ := fo_int (hf 10 _ rfl) rfl
  change PQ (j_SL L) (j_SV xs) j_EX mm_X11_forget 0 [.ref 0] [] S n 0 0 _
  refine q_aload_n rfl rfl rfl ?_
  refine q_getf rfl rfl (by omega) k0 t8 ?_
  refine q_iconst rfl rfl ?_
  refine q_cS rfl rfl (Or.inl rfl) rfl rfl trivial rfl rfl rfl rfl rfl (c_fl0 (by omega) k44 (by decide)) ?_
  rintro r T1 _ ⟨rfl, rfl, e1, g, x44, hz⟩
  show PQ (j_SL L) (j_SV xs) j_EX mm_X11_forget 8 [.ref 0] [] T1 n 0 0 _
  have eT : T1 = va_up S 44 (.inl (0, 5, .inl g)) := funext (fun j => by
    by_cases e : j = 44
    · rw [e, u_eq, x44]
    · rw [u_ne e, e1 j e])
  have hG1 : GS θ T1 n := by
    rw [eT]
    exact gs_st (k := 44) hG rfl rfl (cell_full (k := 44) rfl _) (pk_arr k44)
  have y0 := (e1 0 (by decide)).trans k0
  refine q_aload_n rfl rfl rfl ?_
  refine q_iconst rfl rfl ?_
  refine q_putf rfl rfl (by omega) y0 (List.getElem?_eq_some_iff.mp t10).1 rfl rfl ?_
  have hG2 := gs_pf (b := 10) (w := .int 0) hG1 (k := 0) rfl y0 rfl (fun q hq => by cases hq; exact ⟨0, rfl, by decide, by decide⟩)
  have e2 : ∀ j, j ≠ 0 → va_up T1 0 (.inr (9, ts.set 10 (.int 0))) j = T1 j := fun j hj => u_ne hj
  have x0 : va_up T1 0 (.inr (9, ts.set 10 (.int 0))) 0 = .inr (9, ts.set 10 (.int 0)) := u_eq
  generalize va_up T1 0 (.inr (9, ts.set 10 (.int 0))) = T2 at hG2 e2 x0 ⊢
  obtain ⟨ts2, k02, hf2⟩ := gs_obj hG2 (k := 0) rfl
  obtain ⟨fx, k32, hfx⟩ := gs_obj hG2 (k := 32) rfl
  obtain ⟨v1, x1, -⟩ := fo_int (hfx 1 _ rfl) rfl
  refine q_aload_n rfl rfl rfl ?_
  refine q_getf rfl rfl (by omega) k02 (show ts2[5]? = some (.ref 32) from fo_ref (hf2 5 _ rfl) rfl) ?_
  refine q_iconst rfl rfl ?_
  refine q_putf rfl rfl (by show 32 < n; omega) k32 (List.getElem?_eq_some_iff.mp x1).1 rfl rfl ?_
  have hG3 := gs_pf (b := 1) (w := .int 1) hG2 (k := 32) rfl k32 rfl (fun q hq => by cases hq; exact ⟨1, rfl, by decide, by decide⟩)
  have e3 : ∀ j, j ≠ 32 → va_up T2 32 (.inr (0, fx.set 1 (.int 1))) j = T2 j := fun j hj => u_ne hj
  have y32 : va_up T2 32 (.inr (0, fx.set 1 (.int 1))) 32 = .inr (0, fx.set 1 (.int 1)) := u_eq
  generalize va_up T2 32 (.inr (0, fx.set 1 (.int 1))) = T3 at hG3 e3 y32 ⊢
  have z44 : T3 44 = .inl (0, 5, .inl g) := (e3 44 (by decide)).trans ((e2 44 (by decide)).trans x44)
  obtain ⟨ts3, k03, hf3⟩ := gs_obj hG3 (k := 0) rfl
  obtain ⟨lr, k42, -⟩ := gs_obj hG3 (k := 42) rfl
  refine q_aload_n rfl rfl rfl ?_
  refine q_getf rfl rfl (by omega) k03 (show ts3[6]? = some (.ref 42) from fo_ref (hf3 6 _ rfl) rfl) ?_
  refine q_cV rfl rfl (Or.inl rfl) rfl rfl rfl rfl (by show 42 < n; omega) k42 trivial rfl rfl rfl rfl rfl (pm_and (pm_weak (q_kc w5 [] hG3 ⟨rfl, trivial⟩ ck_en_n (fun d hd => by cases hd)) (fun r S9 n9 h => kc_void rfl h)) (c_clr hG3)) ?_
  rintro r T4 n9 ⟨⟨en, rfl, hG4, hF4⟩, S9, eh, -, lrn, h42, lr0, lr1⟩
  obtain rfl := en.symm
  have w42 : T4 42 = .inr (1, lrn) := (hp_cell (by omega) eh).trans h42
  have z44' : T4 44 = .inl (0, 5, .inl g) := (hF4 44 (by omega) rfl).trans z44
  show PQ (j_SL L) (j_SV xs) j_EX mm_X11_forget 28 [.ref 0] [] T4 n 0 0 _
  obtain ⟨ts4, k04, hf4⟩ := gs_obj hG4 (k := 0) rfl
  obtain ⟨mc, k7, hfm⟩ := gs_obj hG4 (k := 7) rfl
  refine q_aload_n rfl rfl rfl ?_
  refine q_aload_n rfl rfl rfl ?_
  refine q_getf rfl rfl (by omega) k04 (show ts4[1]? = some (.ref 7) from fo_ref (hf4 1 _ rfl) rfl) ?_
  obtain ⟨ps, k1, hfp⟩ := gs_obj hG4 (k := 1) rfl
  obtain ⟨fv, k2, -⟩ := gs_arr hG4 (k := 2) rfl
  have m0 : mc[0]? = some (.ref 1) := fo_ref (hfm 0 _ rfl) rfl
  have p1 : ps[1]? = some (.ref 2) := fo_ref (hfp 1 _ rfl) rfl
  refine q_cV (K' := fun r S' n' => n' = n ∧ GS θ S' n ∧ (∀ k, k < 82 → S' k = T4 k) ∧ ∃ t : Int64, r = some (.long t) ∧ ((∀ p, p < 4 → 0 ≤ (fv p).toInt ∧ (fv p).toInt ≤ 9) → e_is t (firV fv))) rfl rfl (Or.inl rfl) rfl rfl rfl rfl (by show 7 < n; omega) k7 trivial rfl rfl rfl rfl rfl ?_ ?_
  · by_cases hv : ∀ p, p < 4 → 0 ≤ (fv p).toInt ∧ (fv p).toInt ≤ 9
    · refine pm_weak (c_fst (by omega) k7 m0 k1 p1 k2 hv) (fun r S' n' h => ?_)
      obtain ⟨rfl, rfl, t, rfl, ht⟩ := h
      exact ⟨rfl, hG4, fun _ _ => rfl, t, rfl, fun _ => ht⟩
    · refine pm_weak (q_kc w7 [] hG4 ⟨rfl, trivial⟩ ck_en_n (fun d hd => by cases hd)) (fun r S' n' h => ?_)
      obtain ⟨en, hG5, hF5, Q, hQ, -, hr, -⟩ := h
      have e := List.mem_singleton.mp hQ
      subst e
      obtain ⟨x, rfl⟩ := hr
      exact ⟨en, hG5, fun k hk => hF5 k (by omega) rfl, x, rfl, fun h9 => absurd h9 hv⟩
  rintro r T5 n9 ⟨en, hG5, hF5, x, rfl, hx⟩
  obtain rfl := en.symm
  show PQ (j_SL L) (j_SV xs) j_EX mm_X11_forget 36 [.ref 0] [.long x, .ref 0] T5 n 0 0 _
  obtain ⟨ts5, k05, hf5⟩ := gs_obj hG5 (k := 0) rfl
  obtain ⟨w11, s11, -⟩ := hf5 11 _ rfl
  have z32 : T4 32 = .inr (0, fx.set 1 (.int 1)) := (hF4 32 (by omega) rfl).trans y32
  have h10 : ts5[10]? = some (.int 0) := by
    have h9 : T5 0 = .inr (9, ts.set 10 (.int 0)) := (hF5 0 (by decide)).trans ((hF4 0 (by omega) rfl).trans ((e3 0 (by decide)).trans x0))
    rw [k05] at h9
    cases h9
    exact List.getElem?_set_self (List.getElem?_eq_some_iff.mp t10).1
  refine q_putf rfl rfl (by omega) k05 (List.getElem?_eq_some_iff.mp s11).1 rfl trivial ?_
  refine q_ret rfl rfl ⟨⟨g, (u_ne (by decide)).trans ((hF5 44 (by decide)).trans z44'), hz⟩, fun h => absurd h (by decide), fun _ => ?_⟩
  exact ⟨_, lrn, fv, x, u_eq, List.getElem?_set_self (List.getElem?_eq_some_iff.mp s11).1, (u_ne (by decide)).trans ((hF5 2 (by decide)).trans k2), (u_ne (by decide)).trans ((hF5 42 (by decide)).trans w42), lr0, lr1, hx, (List.getElem?_set_ne (by decide)).trans h10, _, (u_ne (by decide)).trans ((hF5 32 (by decide)).trans z32), List.getElem?_set_self (List.getElem?_eq_some_iff.mp x1).1⟩
end ZF
