/-! the class's Loops: a turn of Tarjan's search -/
section NB
variable {L : Nat} {xs : Nat → Int32} {S S' : Nat → pm_E} {n : Nat} {X : XT} {k q h d i w v : Nat} {cm lw tr pt sk : Nat → Nat} {on bk : Nat → Bool} {f : Nat → Int32} {g : Nat → Nat} {A A' : Nat → Prop} {gb : Nat → Bool} {b : Bool}
def b2 (b : Bool) : Int32 := match b with
  | true => 1
  | false => 0
theorem b2_nar : vp_nar .boolean (b2 b) = b2 b := by cases b <;> decide
theorem b2_or {a b : Bool} : b2 a ||| b2 b = b2 (a || b) := by cases a <;> cases b <;> decide
def agN (f : Nat → Int32) (g : Nat → Nat) (A : Nat → Prop) : Prop := ∀ j, j < 2000 → A j → f j = nI (g j)
def agB (f : Nat → Int32) (g : Nat → Bool) (A : Nat → Prop) : Prop := ∀ j, j < 2000 → A j → f j = b2 (g j)
theorem ag_up {x : Int32} (h : agN f g A) (e : x = nI v) (hA : ∀ j, j ≠ w → A' j → A j) : agN (upd f w x) (un g w v) A' := fun j hj a => by
  by_cases c : j = w
  · rw [c, u32_at, un_eq, e]
  · rw [u32_ot c, un_ne c]
    exact h j hj (hA j c a)
theorem agb_up {x : Int32} (h : agB f gb A) (e : x = b2 b) (hA : ∀ j, j ≠ w → A' j → A j) : agB (upd f w x) (un gb w b) A' := fun j hj a => by
  by_cases c : j = w
  · rw [c, u32_at, un_eq, e]
  · rw [u32_ot c, un_ne c]
    exact h j hj (hA j c a)
theorem ag_w (h : agN f g A) (hA : ∀ j, A' j → A j) : agN f g A' := fun j hj a => h j hj (hA j a)
theorem a_cm {v : Nat} : ∀ j, j ≠ w → un cm w v j ≠ 0 → cm j ≠ 0 := fun j e a => by
  rw [un_ne e] at a
  exact a
def LO (S : Nat → pm_E) (cm lw tr pt sk : Nat → Nat) (on bk : Nat → Bool) (q h d : Nat) : Prop := ∃ (os : List Value) (cf lf tf pf sf nf bf : Nat → Int32), S 24 = .inr (3, os) ∧ os[0]? = some (.ref 25) ∧ os[1]? = some (.ref 26) ∧ os[2]? = some (.ref 27) ∧ os[3]? = some (.ref 28) ∧ os[4]? = some (.ref 29) ∧ os[5]? = some (.ref 30) ∧ os[6]? = some (.ref 31) ∧ os[7]? = some (.int (nI d)) ∧ os[8]? = some (.int (nI h)) ∧ os[9]? = some (.int (nI q)) ∧
  S 25 = .inl (0, 2000, .inl cf) ∧ S 26 = .inl (0, 2000, .inl lf) ∧ S 27 = .inl (0, 2000, .inl tf) ∧ S 28 = .inl (0, 2000, .inl pf) ∧ S 29 = .inl (0, 2000, .inl sf) ∧ S 30 = .inl (2, 2000, .inl nf) ∧ S 31 = .inl (2, 2000, .inl bf) ∧
  agN cf cm (fun _ => True) ∧ agN lf lw (fun j => cm j ≠ 0) ∧ agN tf tr (fun j => cm j ≠ 0) ∧ agN pf pt (fun j => j < d) ∧ agN sf sk (fun j => j < h) ∧ agB nf on (fun j => cm j ≠ 0) ∧ agB bf bk (fun j => cm j ≠ 0)
def frL (S S' : Nat → pm_E) : Prop := ∀ j, j < 24 ∨ 32 ≤ j → S' j = S j
theorem frL_t {S1 S2 S3 : Nat → pm_E} (h : frL S1 S2) (h' : frL S2 S3) : frL S1 S3 := fun j hj => (h' j hj).trans (h j hj)
/-- what a method of Loops leaves -/
def LK (S : Nat → pm_E) (n : Nat) (Q : (Nat → pm_E) → Prop) : q_K := fun r S' n' => r = none ∧ n = n' ∧ frL S S' ∧ Q S'
set_option maxHeartbeats 4000000 in
theorem c_arr (hn : 82 ≤ n) (H : LO S cm lw tr pt sk on bk q h d) (hw : w < 2000) (hd : d < 2000) (hh : h < 2000) : PM (j_SL L) (j_SV xs) j_EX mm_X5_arrive [.ref 24, .int (nI w)] S n (LK S n (fun T => LO T (un cm w (q + 1)) (un lw w (q + 1)) (un tr w 0) (un pt d w) (un sk h w) (un on w true) (un bk w false) (q + 1) (h + 1) (d + 1))) := by
  obtain ⟨os, cf, lf, tf, pf, sf, nf, bf, k24, o0, o1, o2, o3, o4, o5, o6, o7, o8, o9, k25, k26, k27, k28, k29, k30, k31, hc, hl, ht, hp, hs, hn2, hb⟩ := H
  have fr : ∀ j, j < 24 ∨ 32 ≤ j → S j = S j := fun _ _ => rfl
  change PQ (j_SL L) (j_SV xs) j_EX mm_X5_arrive 0 [.ref 24, .int (nI w)] [] S n 0 0 _
  refine q_aload_n rfl rfl rfl ?_
  refine q_getf rfl rfl (by omega) k24 o7 ?_
  refine q_sipush rfl rfl ?_
  refine q_icge rfl rfl (fun c => absurd c (nI_ge (a := d) (b := 2000) (by omega) (by decide))) (fun _ => ?_)
  refine q_aload_n rfl rfl rfl ?_
  refine q_getf rfl rfl (by omega) k24 o8 ?_
  refine q_sipush rfl rfl ?_
  refine q_iclt rfl rfl (fun _ => ?_) (fun c => absurd (show nI h < nI 2000 from (m_lt (by omega) (by omega)).mpr hh) c)
  refine q_aload_n rfl rfl rfl ?_
  refine q_dupr rfl rfl ?_
  refine q_getf rfl rfl (by omega) k24 o9 ?_
  refine q_iconst rfl rfl ?_
  refine q_iadd rfl rfl (q_tn (z := nI (q + 1)) (nI_add q 1) ?_)
  refine q_putf rfl rfl (by omega) k24 (List.getElem?_eq_some_iff.mp o9).1 rfl trivial ?_
  have e1 : ∀ j, j ≠ 24 → va_up S 24 (.inr (3, (os).set 9 (.int (nI (q + 1))))) j = S j := fun j hj => u_ne hj
  have x1 : va_up S 24 (.inr (3, (os).set 9 (.int (nI (q + 1))))) 24 = .inr (3, (os).set 9 (.int (nI (q + 1)))) := u_eq
  generalize va_up S 24 (.inr (3, (os).set 9 (.int (nI (q + 1))))) = S1 at e1 x1 ⊢
  have k25 := (e1 25 (by decide)).trans k25
  have k26 := (e1 26 (by decide)).trans k26
  have k27 := (e1 27 (by decide)).trans k27
  have k28 := (e1 28 (by decide)).trans k28
  have k29 := (e1 29 (by decide)).trans k29
  have k30 := (e1 30 (by decide)).trans k30
  have k31 := (e1 31 (by decide)).trans k31
  have fr : ∀ j, j < 24 ∨ 32 ≤ j → S1 j = S j := fun j hj => (e1 j (by omega)).trans (fr j hj)
  refine q_aload_n rfl rfl rfl ?_
  refine q_getf rfl rfl (by omega) x1 ((os_ne (by decide)).trans o0) ?_
  refine q_iload_n rfl rfl rfl ?_
  refine q_aload_n rfl rfl rfl ?_
  refine q_getf rfl rfl (by omega) x1 (os_at o9) ?_
  refine q_iast rfl rfl (by omega) k25 (q_inN (by omega) (by decide)) ?_
  rw [nI_clamp (by omega)]
  have e2 : ∀ j, j ≠ 25 → va_up S1 25 (.inl (0, 2000, .inl (upd cf w (nI (q + 1))))) j = S1 j := fun j hj => u_ne hj
  have x2 : va_up S1 25 (.inl (0, 2000, .inl (upd cf w (nI (q + 1))))) 25 = .inl (0, 2000, .inl (upd cf w (nI (q + 1)))) := u_eq
  generalize va_up S1 25 (.inl (0, 2000, .inl (upd cf w (nI (q + 1))))) = S2 at e2 x2 ⊢
  have x1 := (e2 24 (by decide)).trans x1
  have k26 := (e2 26 (by decide)).trans k26
  have k27 := (e2 27 (by decide)).trans k27
  have k28 := (e2 28 (by decide)).trans k28
  have k29 := (e2 29 (by decide)).trans k29
  have k30 := (e2 30 (by decide)).trans k30
  have k31 := (e2 31 (by decide)).trans k31
  have fr : ∀ j, j < 24 ∨ 32 ≤ j → S2 j = S j := fun j hj => (e2 j (by omega)).trans (fr j hj)
  refine q_aload_n rfl rfl rfl ?_
  refine q_getf rfl rfl (by omega) x1 ((os_ne (by decide)).trans o1) ?_
  refine q_iload_n rfl rfl rfl ?_
  refine q_aload_n rfl rfl rfl ?_
  refine q_getf rfl rfl (by omega) x1 (os_at o9) ?_
  refine q_iast rfl rfl (by omega) k26 (q_inN (by omega) (by decide)) ?_
  rw [nI_clamp (by omega)]
  have e3 : ∀ j, j ≠ 26 → va_up S2 26 (.inl (0, 2000, .inl (upd lf w (nI (q + 1))))) j = S2 j := fun j hj => u_ne hj
  have x3 : va_up S2 26 (.inl (0, 2000, .inl (upd lf w (nI (q + 1))))) 26 = .inl (0, 2000, .inl (upd lf w (nI (q + 1)))) := u_eq
  generalize va_up S2 26 (.inl (0, 2000, .inl (upd lf w (nI (q + 1))))) = S3 at e3 x3 ⊢
  have x1 := (e3 24 (by decide)).trans x1
  have x2 := (e3 25 (by decide)).trans x2
  have k27 := (e3 27 (by decide)).trans k27
  have k28 := (e3 28 (by decide)).trans k28
  have k29 := (e3 29 (by decide)).trans k29
  have k30 := (e3 30 (by decide)).trans k30
  have k31 := (e3 31 (by decide)).trans k31
  have fr : ∀ j, j < 24 ∨ 32 ≤ j → S3 j = S j := fun j hj => (e3 j (by omega)).trans (fr j hj)
  refine q_aload_n rfl rfl rfl ?_
  refine q_getf rfl rfl (by omega) x1 ((os_ne (by decide)).trans o2) ?_
  refine q_iload_n rfl rfl rfl ?_
  refine q_iconst rfl rfl ?_
  refine q_iast rfl rfl (by omega) k27 (q_inN (by omega) (by decide)) ?_
  rw [nI_clamp (by omega)]
  have e4 : ∀ j, j ≠ 27 → va_up S3 27 (.inl (0, 2000, .inl (upd tf w 0))) j = S3 j := fun j hj => u_ne hj
  have x4 : va_up S3 27 (.inl (0, 2000, .inl (upd tf w 0))) 27 = .inl (0, 2000, .inl (upd tf w 0)) := u_eq
  generalize va_up S3 27 (.inl (0, 2000, .inl (upd tf w 0))) = S4 at e4 x4 ⊢
  have x1 := (e4 24 (by decide)).trans x1
  have x2 := (e4 25 (by decide)).trans x2
  have x3 := (e4 26 (by decide)).trans x3
  have k28 := (e4 28 (by decide)).trans k28
  have k29 := (e4 29 (by decide)).trans k29
  have k30 := (e4 30 (by decide)).trans k30
  have k31 := (e4 31 (by decide)).trans k31
  have fr : ∀ j, j < 24 ∨ 32 ≤ j → S4 j = S j := fun j hj => (e4 j (by omega)).trans (fr j hj)
  refine q_aload_n rfl rfl rfl ?_
  refine q_getf rfl rfl (by omega) x1 ((os_ne (by decide)).trans o3) ?_
  refine q_aload_n rfl rfl rfl ?_
  refine q_dupr rfl rfl ?_
  refine q_getf rfl rfl (by omega) x1 ((os_ne (by decide)).trans o7) ?_
  refine q_dupx1 rfl rfl ?_
  refine q_iconst rfl rfl ?_
  refine q_iadd rfl rfl (q_tn (z := nI (d + 1)) (nI_add d 1) ?_)
  refine q_putf rfl rfl (by omega) x1 (List.getElem?_eq_some_iff.mp ((os_ne (by decide)).trans o7)).1 rfl trivial ?_
  have e5 : ∀ j, j ≠ 24 → va_up S4 24 (.inr (3, ((os).set 9 (.int (nI (q + 1)))).set 7 (.int (nI (d + 1))))) j = S4 j := fun j hj => u_ne hj
  have x5 : va_up S4 24 (.inr (3, ((os).set 9 (.int (nI (q + 1)))).set 7 (.int (nI (d + 1))))) 24 = .inr (3, ((os).set 9 (.int (nI (q + 1)))).set 7 (.int (nI (d + 1)))) := u_eq
  generalize va_up S4 24 (.inr (3, ((os).set 9 (.int (nI (q + 1)))).set 7 (.int (nI (d + 1))))) = S5 at e5 x5 ⊢
  have x2 := (e5 25 (by decide)).trans x2
  have x3 := (e5 26 (by decide)).trans x3
  have x4 := (e5 27 (by decide)).trans x4
  have k28 := (e5 28 (by decide)).trans k28
  have k29 := (e5 29 (by decide)).trans k29
  have k30 := (e5 30 (by decide)).trans k30
  have k31 := (e5 31 (by decide)).trans k31
  have fr : ∀ j, j < 24 ∨ 32 ≤ j → S5 j = S j := fun j hj => (e5 j (by omega)).trans (fr j hj)
  refine q_iload_n rfl rfl rfl ?_
  refine q_iast rfl rfl (by omega) k28 (q_inN (by omega) (by decide)) ?_
  rw [nI_clamp (by omega)]
  have e6 : ∀ j, j ≠ 28 → va_up S5 28 (.inl (0, 2000, .inl (upd pf d (nI w)))) j = S5 j := fun j hj => u_ne hj
  have x6 : va_up S5 28 (.inl (0, 2000, .inl (upd pf d (nI w)))) 28 = .inl (0, 2000, .inl (upd pf d (nI w))) := u_eq
  generalize va_up S5 28 (.inl (0, 2000, .inl (upd pf d (nI w)))) = S6 at e6 x6 ⊢
  have x5 := (e6 24 (by decide)).trans x5
  have x2 := (e6 25 (by decide)).trans x2
  have x3 := (e6 26 (by decide)).trans x3
  have x4 := (e6 27 (by decide)).trans x4
  have k29 := (e6 29 (by decide)).trans k29
  have k30 := (e6 30 (by decide)).trans k30
  have k31 := (e6 31 (by decide)).trans k31
  have fr : ∀ j, j < 24 ∨ 32 ≤ j → S6 j = S j := fun j hj => (e6 j (by omega)).trans (fr j hj)
  refine q_aload_n rfl rfl rfl ?_
  refine q_getf rfl rfl (by omega) x5 ((os_ne (by decide)).trans ((os_ne (by decide)).trans o4)) ?_
  refine q_aload_n rfl rfl rfl ?_
  refine q_dupr rfl rfl ?_
  refine q_getf rfl rfl (by omega) x5 ((os_ne (by decide)).trans ((os_ne (by decide)).trans o8)) ?_
  refine q_dupx1 rfl rfl ?_
  refine q_iconst rfl rfl ?_
  refine q_iadd rfl rfl (q_tn (z := nI (h + 1)) (nI_add h 1) ?_)
  refine q_putf rfl rfl (by omega) x5 (List.getElem?_eq_some_iff.mp ((os_ne (by decide)).trans ((os_ne (by decide)).trans o8))).1 rfl trivial ?_
  have e7 : ∀ j, j ≠ 24 → va_up S6 24 (.inr (3, (((os).set 9 (.int (nI (q + 1)))).set 7 (.int (nI (d + 1)))).set 8 (.int (nI (h + 1))))) j = S6 j := fun j hj => u_ne hj
  have x7 : va_up S6 24 (.inr (3, (((os).set 9 (.int (nI (q + 1)))).set 7 (.int (nI (d + 1)))).set 8 (.int (nI (h + 1))))) 24 = .inr (3, (((os).set 9 (.int (nI (q + 1)))).set 7 (.int (nI (d + 1)))).set 8 (.int (nI (h + 1)))) := u_eq
  generalize va_up S6 24 (.inr (3, (((os).set 9 (.int (nI (q + 1)))).set 7 (.int (nI (d + 1)))).set 8 (.int (nI (h + 1))))) = S7 at e7 x7 ⊢
  have x2 := (e7 25 (by decide)).trans x2
  have x3 := (e7 26 (by decide)).trans x3
  have x4 := (e7 27 (by decide)).trans x4
  have x6 := (e7 28 (by decide)).trans x6
  have k29 := (e7 29 (by decide)).trans k29
  have k30 := (e7 30 (by decide)).trans k30
  have k31 := (e7 31 (by decide)).trans k31
  have fr : ∀ j, j < 24 ∨ 32 ≤ j → S7 j = S j := fun j hj => (e7 j (by omega)).trans (fr j hj)
  refine q_iload_n rfl rfl rfl ?_
  refine q_iast rfl rfl (by omega) k29 (q_inN (by omega) (by decide)) ?_
  rw [nI_clamp (by omega)]
  have e8 : ∀ j, j ≠ 29 → va_up S7 29 (.inl (0, 2000, .inl (upd sf h (nI w)))) j = S7 j := fun j hj => u_ne hj
  have x8 : va_up S7 29 (.inl (0, 2000, .inl (upd sf h (nI w)))) 29 = .inl (0, 2000, .inl (upd sf h (nI w))) := u_eq
  generalize va_up S7 29 (.inl (0, 2000, .inl (upd sf h (nI w)))) = S8 at e8 x8 ⊢
  have x7 := (e8 24 (by decide)).trans x7
  have x2 := (e8 25 (by decide)).trans x2
  have x3 := (e8 26 (by decide)).trans x3
  have x4 := (e8 27 (by decide)).trans x4
  have x6 := (e8 28 (by decide)).trans x6
  have k30 := (e8 30 (by decide)).trans k30
  have k31 := (e8 31 (by decide)).trans k31
  have fr : ∀ j, j < 24 ∨ 32 ≤ j → S8 j = S j := fun j hj => (e8 j (by omega)).trans (fr j hj)
  refine q_aload_n rfl rfl rfl ?_
  refine q_getf rfl rfl (by omega) x7 ((os_ne (by decide)).trans ((os_ne (by decide)).trans ((os_ne (by decide)).trans o5))) ?_
  refine q_iload_n rfl rfl rfl ?_
  refine q_iconst rfl rfl ?_
  refine q_zast rfl rfl (by omega) k30 (q_inN (by omega) (by decide)) ?_
  rw [nI_clamp (by omega)]
  have e9 : ∀ j, j ≠ 30 → va_up S8 30 (.inl (2, 2000, .inl (upd nf w (vp_nar .boolean 1)))) j = S8 j := fun j hj => u_ne hj
  have x9 : va_up S8 30 (.inl (2, 2000, .inl (upd nf w (vp_nar .boolean 1)))) 30 = .inl (2, 2000, .inl (upd nf w (vp_nar .boolean 1))) := u_eq
  generalize va_up S8 30 (.inl (2, 2000, .inl (upd nf w (vp_nar .boolean 1)))) = S9 at e9 x9 ⊢
  have x7 := (e9 24 (by decide)).trans x7
  have x2 := (e9 25 (by decide)).trans x2
  have x3 := (e9 26 (by decide)).trans x3
  have x4 := (e9 27 (by decide)).trans x4
  have x6 := (e9 28 (by decide)).trans x6
  have x8 := (e9 29 (by decide)).trans x8
  have k31 := (e9 31 (by decide)).trans k31
  have fr : ∀ j, j < 24 ∨ 32 ≤ j → S9 j = S j := fun j hj => (e9 j (by omega)).trans (fr j hj)
  refine q_aload_n rfl rfl rfl ?_
  refine q_getf rfl rfl (by omega) x7 ((os_ne (by decide)).trans ((os_ne (by decide)).trans ((os_ne (by decide)).trans o6))) ?_
  refine q_iload_n rfl rfl rfl ?_
  refine q_iconst rfl rfl ?_
  refine q_zast rfl rfl (by omega) k31 (q_inN (by omega) (by decide)) ?_
  rw [nI_clamp (by omega)]
  have e10 : ∀ j, j ≠ 31 → va_up S9 31 (.inl (2, 2000, .inl (upd bf w (vp_nar .boolean 0)))) j = S9 j := fun j hj => u_ne hj
  have x10 : va_up S9 31 (.inl (2, 2000, .inl (upd bf w (vp_nar .boolean 0)))) 31 = .inl (2, 2000, .inl (upd bf w (vp_nar .boolean 0))) := u_eq
  generalize va_up S9 31 (.inl (2, 2000, .inl (upd bf w (vp_nar .boolean 0)))) = S10 at e10 x10 ⊢
  have x7 := (e10 24 (by decide)).trans x7
  have x2 := (e10 25 (by decide)).trans x2
  have x3 := (e10 26 (by decide)).trans x3
  have x4 := (e10 27 (by decide)).trans x4
  have x6 := (e10 28 (by decide)).trans x6
  have x8 := (e10 29 (by decide)).trans x8
  have x9 := (e10 30 (by decide)).trans x9
  have fr : ∀ j, j < 24 ∨ 32 ≤ j → S10 j = S j := fun j hj => (e10 j (by omega)).trans (fr j hj)
  exact q_ret rfl rfl ⟨rfl, rfl, fr, ⟨_, _, _, _, _, _, _, _, x7, ((os_ne (by decide)).trans ((os_ne (by decide)).trans ((os_ne (by decide)).trans o0))), ((os_ne (by decide)).trans ((os_ne (by decide)).trans ((os_ne (by decide)).trans o1))), ((os_ne (by decide)).trans ((os_ne (by decide)).trans ((os_ne (by decide)).trans o2))), ((os_ne (by decide)).trans ((os_ne (by decide)).trans ((os_ne (by decide)).trans o3))), ((os_ne (by decide)).trans ((os_ne (by decide)).trans ((os_ne (by decide)).trans o4))), ((os_ne (by decide)).trans ((os_ne (by decide)).trans ((os_ne (by decide)).trans o5))), ((os_ne (by decide)).trans ((os_ne (by decide)).trans ((os_ne (by decide)).trans o6))), ((os_ne (by decide)).trans (os_at ((os_ne (by decide)).trans o7))), (os_at ((os_ne (by decide)).trans ((os_ne (by decide)).trans o8))), ((os_ne (by decide)).trans ((os_ne (by decide)).trans (os_at o9))), x2, x3, x4, x6, x8, x9, x10, ag_up hc rfl (fun _ _ _ => trivial), ag_up hl rfl a_cm, ag_up ht rfl a_cm, ag_up hp rfl (fun j e a => by omega), ag_up hs rfl (fun j e a => by omega), agb_up hn2 (by decide) a_cm, agb_up hb (by decide) a_cm⟩⟩
set_option maxHeartbeats 4000000 in
theorem c_fol0 (hn : 82 ≤ n) (H : LO S cm lw tr pt sk on bk q h d) (hi : i < 2000)  : PM (j_SL L) (j_SV xs) j_EX mm_X5_follow [.ref 24, .int (nI i), .int (-1)] S n (LK S n (fun T => LO T cm lw tr pt sk on bk q h d)) := by
  have H9 := H
  obtain ⟨os, cf, lf, tf, pf, sf, nf, bf, k24, o0, o1, o2, o3, o4, o5, o6, o7, o8, o9, k25, k26, k27, k28, k29, k30, k31, hc, hl, ht, hp, hs, hn2, hb⟩ := H
  have fr : ∀ j, j < 24 ∨ 32 ≤ j → S j = S j := fun _ _ => rfl
  change PQ (j_SL L) (j_SV xs) j_EX mm_X5_follow 0 [.ref 24, .int (nI i), .int (-1)] [] S n 0 0 _
  refine q_iload_n rfl rfl rfl ?_
  refine q_sipush rfl rfl ?_
  refine q_cS rfl rfl (Or.inr rfl) rfl rfl trivial rfl rfl rfl rfl rfl (c_wi) ?_
  rintro r _ _ ⟨rfl, rfl, hr⟩
  rcases hr with ⟨c, rfl⟩ | ⟨c, rfl⟩
  rotate_left
  · exact absurd c (fun c => absurd c.1 (by decide))
  show PQ (j_SL L) (j_SV xs) j_EX mm_X5_follow 7 [.ref 24, .int (nI i), .int (-1)] [.int 0] S n 0 0 _
  refine q_fne rfl rfl (fun c => absurd rfl c) (fun _ => ?_)
  exact q_ret rfl rfl ⟨rfl, rfl, fr, H9⟩
set_option maxHeartbeats 4000000 in
theorem c_folS (hn : 82 ≤ n) (H : LO S cm lw tr pt sk on bk q h d) (hi : i < 2000)  : PM (j_SL L) (j_SV xs) j_EX mm_X5_follow [.ref 24, .int (nI i), .int (nI i)] S n (LK S n (fun T => LO T cm lw tr pt sk on (un bk i true) q h d)) := by
  obtain ⟨os, cf, lf, tf, pf, sf, nf, bf, k24, o0, o1, o2, o3, o4, o5, o6, o7, o8, o9, k25, k26, k27, k28, k29, k30, k31, hc, hl, ht, hp, hs, hn2, hb⟩ := H
  have fr : ∀ j, j < 24 ∨ 32 ≤ j → S j = S j := fun _ _ => rfl
  change PQ (j_SL L) (j_SV xs) j_EX mm_X5_follow 0 [.ref 24, .int (nI i), .int (nI i)] [] S n 0 0 _
  refine q_iload_n rfl rfl rfl ?_
  refine q_sipush rfl rfl ?_
  refine q_cS rfl rfl (Or.inr rfl) rfl rfl trivial rfl rfl rfl rfl rfl (c_wi) ?_
  rintro r _ _ ⟨rfl, rfl, hr⟩
  rcases hr with ⟨c, rfl⟩ | ⟨c, rfl⟩
  · exact (c_out c ⟨nI_p0 (by omega), (m_lt (b := 2000) (by omega) (by decide)).mpr (by omega)⟩).elim
  show PQ (j_SL L) (j_SV xs) j_EX mm_X5_follow 7 [.ref 24, .int (nI i), .int (nI i)] [.int 1] S n 0 0 _
  refine q_fne rfl rfl (fun _ => ?_) (fun c => absurd (by decide) c)
  refine q_iload_n rfl rfl rfl ?_
  refine q_iload_n rfl rfl rfl ?_
  refine q_cne rfl rfl (fun c => absurd rfl c) (fun _ => ?_)
  refine q_aload_n rfl rfl rfl ?_
  refine q_getf rfl rfl (by omega) k24 o6 ?_
  refine q_iload_n rfl rfl rfl ?_
  refine q_iconst rfl rfl ?_
  refine q_zast rfl rfl (by omega) k31 (q_inN (by omega) (by decide)) ?_
  rw [nI_clamp (by omega)]
  have e11 : ∀ j, j ≠ 31 → va_up S 31 (.inl (2, 2000, .inl (upd bf i (vp_nar .boolean 1)))) j = S j := fun j hj => u_ne hj
  have x11 : va_up S 31 (.inl (2, 2000, .inl (upd bf i (vp_nar .boolean 1)))) 31 = .inl (2, 2000, .inl (upd bf i (vp_nar .boolean 1))) := u_eq
  generalize va_up S 31 (.inl (2, 2000, .inl (upd bf i (vp_nar .boolean 1)))) = S11 at e11 x11 ⊢
  have k24 := (e11 24 (by decide)).trans k24
  have k25 := (e11 25 (by decide)).trans k25
  have k26 := (e11 26 (by decide)).trans k26
  have k27 := (e11 27 (by decide)).trans k27
  have k28 := (e11 28 (by decide)).trans k28
  have k29 := (e11 29 (by decide)).trans k29
  have k30 := (e11 30 (by decide)).trans k30
  have fr : ∀ j, j < 24 ∨ 32 ≤ j → S11 j = S j := fun j hj => (e11 j (by omega)).trans (fr j hj)
  refine q_goto rfl ?_
  exact q_ret rfl rfl ⟨rfl, rfl, fr, ⟨_, _, _, _, _, _, _, _, k24, o0, o1, o2, o3, o4, o5, o6, o7, o8, o9, k25, k26, k27, k28, k29, k30, x11, hc, hl, ht, hp, hs, hn2, agb_up hb (by decide) (fun j _ a => a)⟩⟩
set_option maxHeartbeats 4000000 in
theorem c_folN (hn : 82 ≤ n) (H : LO S cm lw tr pt sk on bk q h d) (hi : i < 2000) (hw : w < 2000) (hne : w ≠ i) (h0 : cm w = 0) (hd : d < 2000) (hh : h < 2000) : PM (j_SL L) (j_SV xs) j_EX mm_X5_follow [.ref 24, .int (nI i), .int (nI w)] S n (LK S n (fun T => LO T (un cm w (q + 1)) (un lw w (q + 1)) (un tr w 0) (un pt d w) (un sk h w) (un on w true) (un bk w false) (q + 1) (h + 1) (d + 1))) := by
  have H9 := H
  obtain ⟨os, cf, lf, tf, pf, sf, nf, bf, k24, o0, o1, o2, o3, o4, o5, o6, o7, o8, o9, k25, k26, k27, k28, k29, k30, k31, hc, hl, ht, hp, hs, hn2, hb⟩ := H
  have fr : ∀ j, j < 24 ∨ 32 ≤ j → S j = S j := fun _ _ => rfl
  change PQ (j_SL L) (j_SV xs) j_EX mm_X5_follow 0 [.ref 24, .int (nI i), .int (nI w)] [] S n 0 0 _
  refine q_iload_n rfl rfl rfl ?_
  refine q_sipush rfl rfl ?_
  refine q_cS rfl rfl (Or.inr rfl) rfl rfl trivial rfl rfl rfl rfl rfl (c_wi) ?_
  rintro r _ _ ⟨rfl, rfl, hr⟩
  rcases hr with ⟨c, rfl⟩ | ⟨c, rfl⟩
  · exact (c_out c ⟨nI_p0 (by omega), (m_lt (b := 2000) (by omega) (by decide)).mpr (by omega)⟩).elim
  show PQ (j_SL L) (j_SV xs) j_EX mm_X5_follow 7 [.ref 24, .int (nI i), .int (nI w)] [.int 1] S n 0 0 _
  refine q_fne rfl rfl (fun _ => ?_) (fun c => absurd (by decide) c)
  refine q_iload_n rfl rfl rfl ?_
  refine q_iload_n rfl rfl rfl ?_
  refine q_cne rfl rfl (fun _ => ?_) (fun c => absurd (fun e => absurd ((m_eq (by omega) (by omega)).mp e) hne) c)
  refine q_aload_n rfl rfl rfl ?_
  refine q_getf rfl rfl (by omega) k24 o0 ?_
  refine q_iload_n rfl rfl rfl ?_
  refine q_iald rfl rfl (by omega) k25 (q_inN (by omega) (by decide)) (q_tn (z := nI (cm w)) (by rw [nI_clamp (by omega)]; exact hc w hw trivial) ?_)
  refine q_fne rfl rfl (fun c => absurd (by rw [h0]; rfl) c) (fun _ => ?_)
  refine q_aload_n rfl rfl rfl ?_
  refine q_iload_n rfl rfl rfl ?_
  refine q_cV rfl rfl (Or.inl rfl) rfl rfl rfl rfl (by omega) k24 trivial rfl rfl rfl rfl rfl (c_arr hn H9 hw hd hh) ?_
  rintro r T _ ⟨rfl, rfl, eT, hT⟩
  show PQ (j_SL L) (j_SV xs) j_EX mm_X5_follow 40 [.ref 24, .int (nI i), .int (nI w)] [] T n 0 0 _
  refine q_goto rfl ?_
  exact q_ret rfl rfl ⟨rfl, rfl, eT, hT⟩
set_option maxHeartbeats 4000000 in
theorem c_folO (hn : 82 ≤ n) (H : LO S cm lw tr pt sk on bk q h d) (hi : i < 2000) (hw : w < 2000) (hne : w ≠ i) (hb0 : ∀ j, j < 2000 → cm j ≤ 2000) (h0 : cm w ≠ 0) (ho : on w = false) : PM (j_SL L) (j_SV xs) j_EX mm_X5_follow [.ref 24, .int (nI i), .int (nI w)] S n (LK S n (fun T => LO T cm lw tr pt sk on bk q h d)) := by
  have H9 := H
  obtain ⟨os, cf, lf, tf, pf, sf, nf, bf, k24, o0, o1, o2, o3, o4, o5, o6, o7, o8, o9, k25, k26, k27, k28, k29, k30, k31, hc, hl, ht, hp, hs, hn2, hb⟩ := H
  have hb1 := hb0 w hw
  have fr : ∀ j, j < 24 ∨ 32 ≤ j → S j = S j := fun _ _ => rfl
  change PQ (j_SL L) (j_SV xs) j_EX mm_X5_follow 0 [.ref 24, .int (nI i), .int (nI w)] [] S n 0 0 _
  refine q_iload_n rfl rfl rfl ?_
  refine q_sipush rfl rfl ?_
  refine q_cS rfl rfl (Or.inr rfl) rfl rfl trivial rfl rfl rfl rfl rfl (c_wi) ?_
  rintro r _ _ ⟨rfl, rfl, hr⟩
  rcases hr with ⟨c, rfl⟩ | ⟨c, rfl⟩
  · exact (c_out c ⟨nI_p0 (by omega), (m_lt (b := 2000) (by omega) (by decide)).mpr (by omega)⟩).elim
  show PQ (j_SL L) (j_SV xs) j_EX mm_X5_follow 7 [.ref 24, .int (nI i), .int (nI w)] [.int 1] S n 0 0 _
  refine q_fne rfl rfl (fun _ => ?_) (fun c => absurd (by decide) c)
  refine q_iload_n rfl rfl rfl ?_
  refine q_iload_n rfl rfl rfl ?_
  refine q_cne rfl rfl (fun _ => ?_) (fun c => absurd (fun e => absurd ((m_eq (by omega) (by omega)).mp e) hne) c)
  refine q_aload_n rfl rfl rfl ?_
  refine q_getf rfl rfl (by omega) k24 o0 ?_
  refine q_iload_n rfl rfl rfl ?_
  refine q_iald rfl rfl (by omega) k25 (q_inN (by omega) (by decide)) (q_tn (z := nI (cm w)) (by rw [nI_clamp (by omega)]; exact hc w hw trivial) ?_)
  refine q_fne rfl rfl (fun _ => ?_) (fun c => absurd (fun e => absurd ((m_eq (b := 0) (by omega) (by decide)).mp e) h0) c)
  refine q_aload_n rfl rfl rfl ?_
  refine q_getf rfl rfl (by omega) k24 o5 ?_
  refine q_iload_n rfl rfl rfl ?_
  refine q_zald rfl rfl (by omega) k30 (q_inN (by omega) (by decide)) (q_tn (z := b2 (on w)) (by rw [nI_clamp (by omega)]; exact hn2 w hw h0) ?_)
  rw [ho]
  refine q_ifeq rfl rfl (fun _ => ?_) (fun c => absurd rfl c)
  exact q_ret rfl rfl ⟨rfl, rfl, fr, H9⟩
theorem mn_i {a b : Nat} (ha : a < 2 ^ 31) (hb : b < 2 ^ 31) : (if nI b < nI a then nI b else nI a) = nI (min a b) := by
  by_cases c : b < a
  · rw [if_pos ((m_lt hb ha).mpr c), Nat.min_eq_right (by omega)]
  · rw [if_neg (fun e => c ((m_lt hb ha).mp e)), Nat.min_eq_left (by omega)]
set_option maxHeartbeats 4000000 in
theorem c_folL (hn : 82 ≤ n) (H : LO S cm lw tr pt sk on bk q h d) (hi : i < 2000) (hw : w < 2000) (hne : w ≠ i) (hb0 : ∀ j, j < 2000 → cm j ≤ 2000) (hlw : lw i ≤ 2000) (hi0 : cm i ≠ 0) (h0 : cm w ≠ 0) (ho : on w = true) : PM (j_SL L) (j_SV xs) j_EX mm_X5_follow [.ref 24, .int (nI i), .int (nI w)] S n (LK S n (fun T => LO T cm (un lw i (min (lw i) (cm w))) tr pt sk on bk q h d)) := by
  obtain ⟨os, cf, lf, tf, pf, sf, nf, bf, k24, o0, o1, o2, o3, o4, o5, o6, o7, o8, o9, k25, k26, k27, k28, k29, k30, k31, hc, hl, ht, hp, hs, hn2, hb⟩ := H
  have hb1 := hb0 w hw
  have fr : ∀ j, j < 24 ∨ 32 ≤ j → S j = S j := fun _ _ => rfl
  change PQ (j_SL L) (j_SV xs) j_EX mm_X5_follow 0 [.ref 24, .int (nI i), .int (nI w)] [] S n 0 0 _
  refine q_iload_n rfl rfl rfl ?_
  refine q_sipush rfl rfl ?_
  refine q_cS rfl rfl (Or.inr rfl) rfl rfl trivial rfl rfl rfl rfl rfl (c_wi) ?_
  rintro r _ _ ⟨rfl, rfl, hr⟩
  rcases hr with ⟨c, rfl⟩ | ⟨c, rfl⟩
  · exact (c_out c ⟨nI_p0 (by omega), (m_lt (b := 2000) (by omega) (by decide)).mpr (by omega)⟩).elim
  show PQ (j_SL L) (j_SV xs) j_EX mm_X5_follow 7 [.ref 24, .int (nI i), .int (nI w)] [.int 1] S n 0 0 _
  refine q_fne rfl rfl (fun _ => ?_) (fun c => absurd (by decide) c)
  refine q_iload_n rfl rfl rfl ?_
  refine q_iload_n rfl rfl rfl ?_
  refine q_cne rfl rfl (fun _ => ?_) (fun c => absurd (fun e => absurd ((m_eq (by omega) (by omega)).mp e) hne) c)
  refine q_aload_n rfl rfl rfl ?_
  refine q_getf rfl rfl (by omega) k24 o0 ?_
  refine q_iload_n rfl rfl rfl ?_
  refine q_iald rfl rfl (by omega) k25 (q_inN (by omega) (by decide)) (q_tn (z := nI (cm w)) (by rw [nI_clamp (by omega)]; exact hc w hw trivial) ?_)
  refine q_fne rfl rfl (fun _ => ?_) (fun c => absurd (fun e => absurd ((m_eq (b := 0) (by omega) (by decide)).mp e) h0) c)
  refine q_aload_n rfl rfl rfl ?_
  refine q_getf rfl rfl (by omega) k24 o5 ?_
  refine q_iload_n rfl rfl rfl ?_
  refine q_zald rfl rfl (by omega) k30 (q_inN (by omega) (by decide)) (q_tn (z := b2 (on w)) (by rw [nI_clamp (by omega)]; exact hn2 w hw h0) ?_)
  rw [ho]
  refine q_ifeq rfl rfl (fun c => absurd c (by decide)) (fun _ => ?_)
  refine q_aload_n rfl rfl rfl ?_
  refine q_getf rfl rfl (by omega) k24 o1 ?_
  refine q_iload_n rfl rfl rfl ?_
  refine q_aload_n rfl rfl rfl ?_
  refine q_getf rfl rfl (by omega) k24 o1 ?_
  refine q_iload_n rfl rfl rfl ?_
  refine q_iald rfl rfl (by omega) k26 (q_inN (by omega) (by decide)) (q_tn (z := nI (lw i)) (by rw [nI_clamp (by omega)]; exact hl i hi hi0) ?_)
  refine q_aload_n rfl rfl rfl ?_
  refine q_getf rfl rfl (by omega) k24 o0 ?_
  refine q_iload_n rfl rfl rfl ?_
  refine q_iald rfl rfl (by omega) k25 (q_inN (by omega) (by decide)) (q_tn (z := nI (cm w)) (by rw [nI_clamp (by omega)]; exact hc w hw trivial) ?_)
  refine q_mn rfl (idx := 71) (by decide +kernel) rfl rfl (z := nI (min (lw i) (cm w))) (mn_i (by omega) (by omega)) ?_
  refine q_iast rfl rfl (by omega) k26 (q_inN (by omega) (by decide)) ?_
  rw [nI_clamp (by omega)]
  have e12 : ∀ j, j ≠ 26 → va_up S 26 (.inl (0, 2000, .inl (upd lf i (nI (min (lw i) (cm w)))))) j = S j := fun j hj => u_ne hj
  have x12 : va_up S 26 (.inl (0, 2000, .inl (upd lf i (nI (min (lw i) (cm w)))))) 26 = .inl (0, 2000, .inl (upd lf i (nI (min (lw i) (cm w))))) := u_eq
  generalize va_up S 26 (.inl (0, 2000, .inl (upd lf i (nI (min (lw i) (cm w)))))) = S12 at e12 x12 ⊢
  have k24 := (e12 24 (by decide)).trans k24
  have k25 := (e12 25 (by decide)).trans k25
  have k27 := (e12 27 (by decide)).trans k27
  have k28 := (e12 28 (by decide)).trans k28
  have k29 := (e12 29 (by decide)).trans k29
  have k30 := (e12 30 (by decide)).trans k30
  have k31 := (e12 31 (by decide)).trans k31
  have fr : ∀ j, j < 24 ∨ 32 ≤ j → S12 j = S j := fun j hj => (e12 j (by omega)).trans (fr j hj)
  exact q_ret rfl rfl ⟨rfl, rfl, fr, ⟨_, _, _, _, _, _, _, _, k24, o0, o1, o2, o3, o4, o5, o6, o7, o8, o9, k25, x12, k27, k28, k29, k30, k31, hc, ag_up hl rfl (fun j _ a => a), ht, hp, hs, hn2, hb⟩⟩
def LP9 (sk : Nat → Nat) (cm lw tr pt : Nat → Nat) (i : Nat) (sv : Bool) (q h d : Nat) (on bk : Nat → Bool) (T : Nat → pm_E) : Prop := LO T cm lw tr pt sk (tPop i sv sk h on bk).2.1 (tPop i sv sk h on bk).2.2 q (tPop i sv sk h on bk).1 d
set_option maxHeartbeats 4000000 in
theorem c_clo {sv : Bool} (hn : 82 ≤ n) (hi : i < 2000) : ∀ (h : Nat) (S : Nat → pm_E) (on bk : Nat → Bool) (l3 : Value), h ≤ 2000 → (∀ j, j < h → sk j < 2000 ∧ cm (sk j) ≠ 0) → LO S cm lw tr pt sk on bk q h d → PQ (j_SL L) (j_SV xs) j_EX mm_X5_closeComponent 28 [.ref 24, .int (nI i), .int (b2 sv), l3] [] S n 0 0 (LK S n (LP9 sk cm lw tr pt i sv q h d on bk)) := by
  intro h
  induction h with
  | zero =>
    intro S on bk l3 _ _ H
    have H9 := H
    obtain ⟨os, cf, lf, tf, pf, sf, nf, bf, k24, o0, o1, o2, o3, o4, o5, o6, o7, o8, o9, k25, k26, k27, k28, k29, k30, k31, hc, hl, ht, hp, hs, hn2, hb⟩ := H
    refine q_aload_n rfl rfl rfl ?_
    refine q_getf rfl rfl (by omega) k24 o8 ?_
    refine q_ifle rfl rfl (fun _ => ?_) (fun c => absurd (by decide) c)
    exact q_ret rfl rfl ⟨rfl, rfl, fun _ _ => rfl, H9⟩
  | succ h ih =>
    intro S on bk l3 hh hk H
    obtain ⟨os, cf, lf, tf, pf, sf, nf, bf, k24, o0, o1, o2, o3, o4, o5, o6, o7, o8, o9, k25, k26, k27, k28, k29, k30, k31, hc, hl, ht, hp, hs, hn2, hb⟩ := H
    have fr : ∀ j, j < 24 ∨ 32 ≤ j → S j = S j := fun _ _ => rfl
    obtain ⟨hs1, hs2⟩ := hk h (by omega)
    refine q_aload_n rfl rfl rfl ?_
    refine q_getf rfl rfl (by omega) k24 o8 ?_
    refine q_ifle rfl rfl (fun c => absurd ((m_le (b := 0) (by omega) (by decide)).mp c) (by omega)) (fun _ => ?_)
    refine q_aload_n rfl rfl rfl ?_
    refine q_getf rfl rfl (by omega) k24 o4 ?_
    refine q_aload_n rfl rfl rfl ?_
    refine q_dupr rfl rfl ?_
    refine q_getf rfl rfl (by omega) k24 o8 ?_
    refine q_iconst rfl rfl ?_
    refine q_isub rfl rfl (q_tn (z := nI h) (nI_pred h) ?_)
    refine q_dupx1 rfl rfl ?_
    refine q_putf rfl rfl (by omega) k24 (List.getElem?_eq_some_iff.mp o8).1 rfl trivial ?_
    have e13 : ∀ j, j ≠ 24 → va_up S 24 (.inr (3, (os).set 8 (.int (nI h)))) j = S j := fun j hj => u_ne hj
    have x13 : va_up S 24 (.inr (3, (os).set 8 (.int (nI h)))) 24 = .inr (3, (os).set 8 (.int (nI h))) := u_eq
    generalize va_up S 24 (.inr (3, (os).set 8 (.int (nI h)))) = S13 at e13 x13 ⊢
    have k25 := (e13 25 (by decide)).trans k25
    have k26 := (e13 26 (by decide)).trans k26
    have k27 := (e13 27 (by decide)).trans k27
    have k28 := (e13 28 (by decide)).trans k28
    have k29 := (e13 29 (by decide)).trans k29
    have k30 := (e13 30 (by decide)).trans k30
    have k31 := (e13 31 (by decide)).trans k31
    have fr : ∀ j, j < 24 ∨ 32 ≤ j → S13 j = S j := fun j hj => (e13 j (by omega)).trans (fr j hj)
    refine q_iald rfl rfl (by omega) k29 (q_inN (by omega) (by decide)) (q_tn (z := nI (sk h)) (by rw [nI_clamp (by omega)]; exact hs h (by omega) (by omega)) ?_)
    refine q_ist3n rfl rfl rfl rfl ?_
    refine q_aload_n rfl rfl rfl ?_
    refine q_getf rfl rfl (by omega) x13 ((os_ne (by decide)).trans o5) ?_
    refine q_iload_n rfl rfl rfl ?_
    refine q_iconst rfl rfl ?_
    refine q_zast rfl rfl (by omega) k30 (q_inN (by omega) (by decide)) ?_
    rw [nI_clamp (by omega)]
    have e14 : ∀ j, j ≠ 30 → va_up S13 30 (.inl (2, 2000, .inl (upd nf ((sk h)) (vp_nar .boolean 0)))) j = S13 j := fun j hj => u_ne hj
    have x14 : va_up S13 30 (.inl (2, 2000, .inl (upd nf ((sk h)) (vp_nar .boolean 0)))) 30 = .inl (2, 2000, .inl (upd nf ((sk h)) (vp_nar .boolean 0))) := u_eq
    generalize va_up S13 30 (.inl (2, 2000, .inl (upd nf ((sk h)) (vp_nar .boolean 0)))) = S14 at e14 x14 ⊢
    have x13 := (e14 24 (by decide)).trans x13
    have k25 := (e14 25 (by decide)).trans k25
    have k26 := (e14 26 (by decide)).trans k26
    have k27 := (e14 27 (by decide)).trans k27
    have k28 := (e14 28 (by decide)).trans k28
    have k29 := (e14 29 (by decide)).trans k29
    have k31 := (e14 31 (by decide)).trans k31
    have fr : ∀ j, j < 24 ∨ 32 ≤ j → S14 j = S j := fun j hj => (e14 j (by omega)).trans (fr j hj)
    refine q_aload_n rfl rfl rfl ?_
    refine q_getf rfl rfl (by omega) x13 ((os_ne (by decide)).trans o6) ?_
    refine q_iload_n rfl rfl rfl ?_
    refine q_dup2 rfl rfl ?_
    refine q_zald rfl rfl (by omega) k31 (q_inN (by omega) (by decide)) (q_tn (z := b2 (bk (sk h))) (by rw [nI_clamp (by omega)]; exact hb (sk h) hs1 hs2) ?_)
    refine q_iload_n rfl rfl rfl ?_
    refine q_ior rfl rfl (q_tn (z := b2 (bk (sk h) || sv)) b2_or ?_)
    refine q_zast rfl rfl (by omega) k31 (q_inN (by omega) (by decide)) ?_
    rw [nI_clamp (by omega)]
    have e15 : ∀ j, j ≠ 31 → va_up S14 31 (.inl (2, 2000, .inl (upd bf ((sk h)) (vp_nar .boolean (b2 (bk (sk h) || sv)))))) j = S14 j := fun j hj => u_ne hj
    have x15 : va_up S14 31 (.inl (2, 2000, .inl (upd bf ((sk h)) (vp_nar .boolean (b2 (bk (sk h) || sv)))))) 31 = .inl (2, 2000, .inl (upd bf ((sk h)) (vp_nar .boolean (b2 (bk (sk h) || sv))))) := u_eq
    generalize va_up S14 31 (.inl (2, 2000, .inl (upd bf ((sk h)) (vp_nar .boolean (b2 (bk (sk h) || sv)))))) = S15 at e15 x15 ⊢
    have x13 := (e15 24 (by decide)).trans x13
    have k25 := (e15 25 (by decide)).trans k25
    have k26 := (e15 26 (by decide)).trans k26
    have k27 := (e15 27 (by decide)).trans k27
    have k28 := (e15 28 (by decide)).trans k28
    have k29 := (e15 29 (by decide)).trans k29
    have x14 := (e15 30 (by decide)).trans x14
    have fr : ∀ j, j < 24 ∨ 32 ≤ j → S15 j = S j := fun j hj => (e15 j (by omega)).trans (fr j hj)
    refine q_iload_n rfl rfl rfl ?_
    refine q_iload_n rfl rfl rfl ?_
    have H1 : LO S15 cm lw tr pt sk (un on (sk h) false) (un bk (sk h) (bk (sk h) || sv)) q h d := ⟨_, _, _, _, _, _, _, _, x13, ((os_ne (by decide)).trans o0), ((os_ne (by decide)).trans o1), ((os_ne (by decide)).trans o2), ((os_ne (by decide)).trans o3), ((os_ne (by decide)).trans o4), ((os_ne (by decide)).trans o5), ((os_ne (by decide)).trans o6), ((os_ne (by decide)).trans o7), (os_at o8), ((os_ne (by decide)).trans o9), k25, k26, k27, k28, k29, x14, x15, hc, hl, ht, hp, ag_w hs (fun j a => by omega), agb_up hn2 (by decide) (fun j _ a => a), agb_up hb b2_nar (fun j _ a => a)⟩
    refine q_cne rfl rfl (fun c => ?_) (fun c => ?_)
    · have e : sk h ≠ i := fun e => c (by rw [e])
      refine q_goto rfl ?_
      refine q_weak (ih _ _ _ _ (by omega) (fun j hj => hk j (by omega)) H1) ?_
      rintro r T m ⟨e1, e2, e3, e4⟩
      refine ⟨e1, e2, fun j hj => (e3 j hj).trans (fr j hj), ?_⟩
      unfold LP9 tPop
      rw [if_neg e]
      exact e4
    · have e : sk h = i := (m_eq (by omega) (by omega)).mp (Classical.not_not.mp c)
      refine q_ret rfl rfl ⟨rfl, rfl, fr, ?_⟩
      unfold LP9 tPop
      rw [if_pos e]
      exact H1
theorem c_close (hn : 82 ≤ n) (hi : i < 2000) (hh : h ≤ 2000) (h0 : 0 < h) (hk : ∀ j, j < h → sk j < 2000 ∧ cm (sk j) ≠ 0) (H : LO S cm lw tr pt sk on bk q h d) : PM (j_SL L) (j_SV xs) j_EX mm_X5_closeComponent [.ref 24, .int (nI i)] S n (LK S n (LP9 sk cm lw tr pt i (decide (sk (h - 1) ≠ i)) q h d on bk)) := by
  have H9 := H
  obtain ⟨os, cf, lf, tf, pf, sf, nf, bf, k24, o0, o1, o2, o3, o4, o5, o6, o7, o8, o9, k25, k26, k27, k28, k29, k30, k31, hc, hl, ht, hp, hs, hn2, hb⟩ := H
  obtain ⟨m, rfl⟩ : ∃ m, h = m + 1 := ⟨h - 1, by omega⟩
  rw [Nat.add_sub_cancel]
  obtain ⟨hs1, hs2⟩ := hk m (by omega)
  change PQ (j_SL L) (j_SV xs) j_EX mm_X5_closeComponent 0 [.ref 24, .int (nI i), pm_un, pm_un] [] S n 0 0 _
  refine q_aload_n rfl rfl rfl ?_
  refine q_getf rfl rfl (by omega) k24 o8 ?_
  refine q_ifle rfl rfl (fun c => absurd ((m_le (b := 0) (by omega) (by decide)).mp c) (by omega)) (fun _ => ?_)
  refine q_aload_n rfl rfl rfl ?_
  refine q_getf rfl rfl (by omega) k24 o4 ?_
  refine q_aload_n rfl rfl rfl ?_
  refine q_getf rfl rfl (by omega) k24 o8 ?_
  refine q_iconst rfl rfl ?_
  refine q_isub rfl rfl (q_tn (z := nI m) (nI_pred m) ?_)
  refine q_iald rfl rfl (by omega) k29 (q_inN (by omega) (by decide)) (q_tn (z := nI (sk m)) (by rw [nI_clamp (by omega)]; exact hs m (by omega) (by omega)) ?_)
  refine q_iload_n rfl rfl rfl ?_
  by_cases e : sk m = i
  · refine q_iceq rfl rfl (fun _ => ?_) (fun c => absurd (by rw [e]) c)
    refine q_iconst rfl rfl ?_
    refine q_ist2n rfl rfl rfl rfl ?_
    rw [decide_eq_false (fun c => c e)]
    exact c_clo (sv := false) hn hi (m + 1) S on bk _ hh hk H9
  · refine q_iceq rfl rfl (fun c => absurd ((m_eq (by omega) (by omega)).mp c) e) (fun _ => ?_)
    refine q_iconst rfl rfl ?_
    refine q_goto rfl ?_
    refine q_ist2n rfl rfl rfl rfl ?_
    rw [decide_eq_true e]
    exact c_clo (sv := true) hn hi (m + 1) S on bk _ hh hk H9
set_option maxHeartbeats 4000000 in
theorem c_lea (hn : 82 ≤ n) (H : LO S cm lw tr pt sk on bk q h (d + 1)) (hT : TI X k cm lw tr pt sk bk q h (d + 1)) (hX : xN X ≤ 2000) : PM (j_SL L) (j_SV xs) j_EX mm_X5_leaveBehind [.ref 24, .int (nI (pt d))] S n (LK S n (fun T => if lw (pt d) = cm (pt d) then LO T cm (tLow lw pt d (pt d)) tr pt sk (tPop (pt d) (decide (sk (h - 1) ≠ pt d)) sk h on bk).2.1 (tPop (pt d) (decide (sk (h - 1) ≠ pt d)) sk h on bk).2.2 q (tPop (pt d) (decide (sk (h - 1) ≠ pt d)) sk h on bk).1 d else LO T cm (tLow lw pt d (pt d)) tr pt sk on bk q h d)) := by
  obtain ⟨⟨a1, a2, a3⟩, tb, tc, ⟨pos, te⟩, tf9, tg, -⟩ := hT
  have hq := cwN_le cm
  have sd := tb d (by omega)
  obtain ⟨n1, n2, n3, n4, n5, n6, n7⟩ := tf9 _ sd
  have hh0 := (te d (by omega)).1
  have hk : ∀ j, j < h → sk j < 2000 ∧ cm (sk j) ≠ 0 := fun j hj => ⟨by have := (tf9 _ (tc j hj)).1; omega, tc j hj⟩
  obtain ⟨os, cf, lf, tf, pf, sf, nf, bf, k24, o0, o1, o2, o3, o4, o5, o6, o7, o8, o9, k25, k26, k27, k28, k29, k30, k31, hc, hl, ht, hp, hs, hn2, hb⟩ := H
  have fr : ∀ j, j < 24 ∨ 32 ≤ j → S j = S j := fun _ _ => rfl
  change PQ (j_SL L) (j_SV xs) j_EX mm_X5_leaveBehind 0 [.ref 24, .int (nI (pt d)), pm_un] [] S n 0 0 _
  refine q_aload_n rfl rfl rfl ?_
  refine q_dupr rfl rfl ?_
  refine q_getf rfl rfl (by omega) k24 o7 ?_
  refine q_iconst rfl rfl ?_
  refine q_isub rfl rfl (q_tn (z := nI d) (nI_pred d) ?_)
  refine q_putf rfl rfl (by omega) k24 (List.getElem?_eq_some_iff.mp o7).1 rfl trivial ?_
  have e16 : ∀ j, j ≠ 24 → va_up S 24 (.inr (3, (os).set 7 (.int (nI d)))) j = S j := fun j hj => u_ne hj
  have x16 : va_up S 24 (.inr (3, (os).set 7 (.int (nI d)))) 24 = .inr (3, (os).set 7 (.int (nI d))) := u_eq
  generalize va_up S 24 (.inr (3, (os).set 7 (.int (nI d)))) = S16 at e16 x16 ⊢
  have k25 := (e16 25 (by decide)).trans k25
  have k26 := (e16 26 (by decide)).trans k26
  have k27 := (e16 27 (by decide)).trans k27
  have k28 := (e16 28 (by decide)).trans k28
  have k29 := (e16 29 (by decide)).trans k29
  have k30 := (e16 30 (by decide)).trans k30
  have k31 := (e16 31 (by decide)).trans k31
  have fr : ∀ j, j < 24 ∨ 32 ≤ j → S16 j = S j := fun j hj => (e16 j (by omega)).trans (fr j hj)
  refine q_aload_n rfl rfl rfl ?_
  refine q_getf rfl rfl (by omega) x16 ((os_ne (by decide)).trans o1) ?_
  refine q_iload_n rfl rfl rfl ?_
  refine q_iald rfl rfl (by omega) k26 (q_inN (by omega) (by decide)) (q_tn (z := nI (lw (pt d))) (by rw [nI_clamp (by omega)]; exact hl _ (by omega) sd) ?_)
  refine q_aload_n rfl rfl rfl ?_
  refine q_getf rfl rfl (by omega) x16 ((os_ne (by decide)).trans o0) ?_
  refine q_iload_n rfl rfl rfl ?_
  refine q_iald rfl rfl (by omega) k25 (q_inN (by omega) (by decide)) (q_tn (z := nI (cm (pt d))) (by rw [nI_clamp (by omega)]; exact hc _ (by omega) trivial) ?_)
  have H1 : LO S16 cm lw tr pt sk on bk q h d := ⟨_, _, _, _, _, _, _, _, x16, ((os_ne (by decide)).trans o0), ((os_ne (by decide)).trans o1), ((os_ne (by decide)).trans o2), ((os_ne (by decide)).trans o3), ((os_ne (by decide)).trans o4), ((os_ne (by decide)).trans o5), ((os_ne (by decide)).trans o6), (os_at o7), ((os_ne (by decide)).trans o8), ((os_ne (by decide)).trans o9), k25, k26, k27, k28, k29, k30, k31, hc, hl, ht, ag_w hp (fun j a => by omega), hs, hn2, hb⟩
  have tail : ∀ (T : Nat → pm_E) (on' bk' : Nat → Bool) (h' : Nat), frL S T → LO T cm lw tr pt sk on' bk' q h' d → PQ (j_SL L) (j_SV xs) j_EX mm_X5_leaveBehind 30 [.ref 24, .int (nI (pt d)), pm_un] [] T n 0 0 (LK S n (fun T => LO T cm (tLow lw pt d (pt d)) tr pt sk on' bk' q h' d)) := by
    intro T on' bk' h' fr H
    clear k24 k25 k26 k27 k28 k29 k30 k31 hc hl ht hp hs hn2 hb
    obtain ⟨os, cf, lf, tf, pf, sf, nf, bf, k24, o0, o1, o2, o3, o4, o5, o6, o7, o8, o9, k25, k26, k27, k28, k29, k30, k31, hc, hl, ht, hp, hs, hn2, hb⟩ := H
    refine q_aload_n rfl rfl rfl ?_
    refine q_getf rfl rfl (by omega) k24 o7 ?_
    cases d with
    | zero =>
      refine q_ifle rfl rfl (fun _ => ?_) (fun c => absurd (by decide) c)
      exact q_ret rfl rfl ⟨rfl, rfl, fr, _, _, _, _, _, _, _, _, k24, o0, o1, o2, o3, o4, o5, o6, o7, o8, o9, k25, k26, k27, k28, k29, k30, k31, hc, hl, ht, hp, hs, hn2, hb⟩
    | succ e =>
      have se := tb e (by omega)
      obtain ⟨m1, m2, m3, m4, m5, m6, m7⟩ := tf9 _ se
      refine q_ifle rfl rfl (fun c => absurd ((m_le (b := 0) (by omega) (by decide)).mp c) (by omega)) (fun _ => ?_)
      refine q_aload_n rfl rfl rfl ?_
      refine q_getf rfl rfl (by omega) k24 o3 ?_
      refine q_aload_n rfl rfl rfl ?_
      refine q_getf rfl rfl (by omega) k24 o7 ?_
      refine q_iconst rfl rfl ?_
      refine q_isub rfl rfl (q_tn (z := nI e) (nI_pred e) ?_)
      refine q_iald rfl rfl (by omega) k28 (q_inN (by omega) (by decide)) (q_tn (z := nI (pt e)) (by rw [nI_clamp (by omega)]; exact hp e (by omega) (by omega)) ?_)
      refine q_ist2n rfl rfl rfl rfl ?_
      refine q_aload_n rfl rfl rfl ?_
      refine q_getf rfl rfl (by omega) k24 o1 ?_
      refine q_iload_n rfl rfl rfl ?_
      refine q_aload_n rfl rfl rfl ?_
      refine q_getf rfl rfl (by omega) k24 o1 ?_
      refine q_iload_n rfl rfl rfl ?_
      refine q_iald rfl rfl (by omega) k26 (q_inN (by omega) (by decide)) (q_tn (z := nI (lw (pt e))) (by rw [nI_clamp (by omega)]; exact hl _ (by omega) se) ?_)
      refine q_aload_n rfl rfl rfl ?_
      refine q_getf rfl rfl (by omega) k24 o1 ?_
      refine q_iload_n rfl rfl rfl ?_
      refine q_iald rfl rfl (by omega) k26 (q_inN (by omega) (by decide)) (q_tn (z := nI (lw (pt (e + 1)))) (by rw [nI_clamp (by omega)]; exact hl _ (by omega) sd) ?_)
      refine q_mn rfl (idx := 71) (by decide +kernel) rfl rfl (z := nI (min (lw (pt e)) (lw (pt (e + 1))))) (mn_i (by omega) (by omega)) ?_
      refine q_iast rfl rfl (by omega) k26 (q_inN (by omega) (by decide)) ?_
      rw [nI_clamp (by omega)]
      have e17 : ∀ j, j ≠ 26 → va_up T 26 (.inl (0, 2000, .inl (upd lf ((pt e)) (nI (min (lw (pt e)) (lw (pt (e + 1)))))))) j = T j := fun j hj => u_ne hj
      have x17 : va_up T 26 (.inl (0, 2000, .inl (upd lf ((pt e)) (nI (min (lw (pt e)) (lw (pt (e + 1)))))))) 26 = .inl (0, 2000, .inl (upd lf ((pt e)) (nI (min (lw (pt e)) (lw (pt (e + 1))))))) := u_eq
      generalize va_up T 26 (.inl (0, 2000, .inl (upd lf ((pt e)) (nI (min (lw (pt e)) (lw (pt (e + 1)))))))) = S17 at e17 x17 ⊢
      have k24 := (e17 24 (by decide)).trans k24
      have k25 := (e17 25 (by decide)).trans k25
      have k27 := (e17 27 (by decide)).trans k27
      have k28 := (e17 28 (by decide)).trans k28
      have k29 := (e17 29 (by decide)).trans k29
      have k30 := (e17 30 (by decide)).trans k30
      have k31 := (e17 31 (by decide)).trans k31
      have fr : ∀ j, j < 24 ∨ 32 ≤ j → S17 j = S j := fun j hj => (e17 j (by omega)).trans (fr j hj)
      exact q_ret rfl rfl ⟨rfl, rfl, fr, ⟨_, _, _, _, _, _, _, _, k24, o0, o1, o2, o3, o4, o5, o6, o7, o8, o9, k25, x17, k27, k28, k29, k30, k31, hc, ag_up hl rfl (fun j _ a => a), ht, hp, hs, hn2, hb⟩⟩
  by_cases e : lw (pt d) = cm (pt d)
  · rw [e]
    refine q_cne rfl rfl (fun c => absurd rfl c) (fun _ => ?_)
    rw [← e]
    refine q_aload_n rfl rfl rfl ?_
    refine q_iload_n rfl rfl rfl ?_
    refine q_cV rfl rfl (Or.inl rfl) rfl rfl rfl rfl (by omega) x16 trivial rfl rfl rfl rfl rfl (c_close hn (by omega) (by omega) (by omega) hk H1) ?_
    rintro r T _ ⟨rfl, rfl, eT, hT⟩
    show PQ (j_SL L) (j_SV xs) j_EX mm_X5_leaveBehind 30 [.ref 24, .int (nI (pt d)), pm_un] [] T n 0 0 _
    refine q_weak (tail T _ _ _ (frL_t fr eT) hT) ?_
    rintro r V m ⟨e1, e2, e3, e4⟩
    exact ⟨e1, e2, e3, by dsimp only; rw [if_pos rfl]; exact e4⟩
  · refine q_cne rfl rfl (fun _ => ?_) (fun c => absurd (fun c9 => e ((m_eq (by omega) (by omega)).mp c9)) c)
    refine q_weak (tail _ _ _ _ fr H1) ?_
    rintro r V m ⟨e1, e2, e3, e4⟩
    exact ⟨e1, e2, e3, by dsimp only; rw [if_neg e]; exact e4⟩
end NB
