/-! the reference: what a step leaves -/
section RS
variable {L : Nat} {xs : Nat → Int32} {S : Nat → pm_E} {n b pic : Nat} {P : PG} {x : Nat} {D : Nat → Nat} {nw nx : Nat → Int32} {g : Int32}
/-- the row next: its first 19 as D says, its last g -/
def rX (P : PG) (D : Nat → Nat) (nx : Nat → Int32) (g : Int32) : Prop := (∀ i, i < 19 → nx i = ra P D i) ∧ nx 19 = g
theorem ra_cg {D' : Nat → Nat} {i : Nat} (h : D' i = D i) (h2 : i < 4 * pH P → i % 4 = 0 → rp P D' (i / 4) = rp P D (i / 4)) : ra P D' i = ra P D i := by
  unfold ra
  split
  · rename_i q
    rw [h2 q.1 q.2]
  · rw [h]
theorem rp_cg {D' : Nat → Nat} {y : Nat} (h : D' (4 * y) = D (4 * y)) : rp P D' y = rp P D y := by
  unfold rp
  rw [h]
theorem u32_at {f : Nat → Int32} {i : Nat} {v : Int32} : upd f i v i = v := if_pos rfl
theorem u32_ot {f : Nat → Int32} {i j : Nat} {v : Int32} (h : j ≠ i) : upd f i v j = f j := if_neg h
theorem rX_up {i v : Nat} (h : rX P D nx g) (hi : i < 19) (hp : ¬ (i < 4 * pH P ∧ i % 4 = 0)) : rX P (e_up D i v) (upd nx i (nI v)) g := by
  refine ⟨fun j hj => ?_, by rw [u32_ot (by omega)]; exact h.2⟩
  by_cases e : j = i
  · subst e
    rw [u32_at]
    unfold ra
    rw [if_neg hp, e_up_at]
  · rw [u32_ot e, h.1 j hj]
    refine (ra_cg (e_up_ot e) (fun q1 q2 => rp_cg (e_up_ot (fun e9 => hp ⟨?_, ?_⟩)))).symm
    · omega
    · omega
theorem rX_at {v w : Nat} (h : rX P D nx g) (hH : pH P ≤ 3) (hx : x < pH P) (h3 : D (4 * x + 3) = 0) (hw : rp P (atD D x v) x = w) : rX P (atD D x v) (upd (upd nx (4 * x) (nI w)) (4 * x + 2) 0) g := by
  refine ⟨fun j hj => ?_, by rw [u32_ot (by omega), u32_ot (by omega)]; exact h.2⟩
  by_cases e0 : j = 4 * x
  · rw [e0, u32_ot (by omega), u32_at, ra_0 hx, hw]
  · by_cases e2 : j = 4 * x + 2
    · rw [e2, u32_at, ra_k (by omega), at_2]
      rfl
    · rw [u32_ot e2, u32_ot e0, h.1 j hj]
      by_cases e3 : j = 4 * x + 3
      · rw [e3, ra_k (by omega), ra_k (by omega), at_3, h3]
      · refine (ra_cg (at_ot (by omega)) (fun q1 q2 => rp_cg (at_ot (by omega)))).symm
theorem rX_cg {D' : Nat → Nat} (h : rX P D nx g) (e : ∀ i, i < 20 → D' i = D i) : rX P D' nx g := by
  refine ⟨fun j hj => ?_, h.2⟩
  rw [h.1 j hj]
  exact (ra_cg (e j (by omega)) (fun q1 q2 => rp_cg (e _ (by omega)))).symm
def wrK (nx : Nat → Int32) (S : Nat → pm_E) (n : Nat) : q_K := fun r S' n' => r = none ∧ n = n' ∧ (∀ k, k ≠ 53 → S' k = S k) ∧ S' 53 = .inl (0, 20, .inl nx)
def gtF (P : PG) (nx : Nat → Int32) (x to : Nat) : Nat → Int32 := upd (upd nx (4 * x) (nI (if pL P x ≤ to then 10 else to))) (4 * x + 2) 0
theorem rX_gt {to : Nat} (h : rX P D nx g) (hW : WFP P) (hx : x < pH P) (h3 : D (4 * x + 3) = 0) : rX P (atD D x (min to (pL P x))) (gtF P nx x to) g := by
  have hl8 := hW.2.2.1 x hx
  refine rX_at h hW.2.1 hx h3 ?_
  unfold rp
  rw [at_0]
  by_cases c : pL P x ≤ to
  · rw [if_pos c, Nat.min_eq_right c, if_neg (by omega), if_neg (by omega)]
  · rw [if_neg c, Nat.min_eq_left (by omega), if_pos (by omega)]
theorem rX_ps (h : rX P D nx g) (hW : WFP P) (hx : x < pH P) (h3 : D (4 * x + 3) = 0) (ho : D (4 * x) < pL P x) : rX P (passD D x) (gtF P nx x (D (4 * x) + 1)) g := by
  have := rX_gt (to := D (4 * x) + 1) h hW hx h3
  rw [Nat.min_eq_left (by omega)] at this
  exact this
theorem l_goto {to : Nat} (hW : WFP P) (hn : 82 ≤ n) (hb : b ≤ 3) (hR : JR b P S) (t53 : S 53 = .inl (0, 20, .inl nx)) (hx : x < pH P) (hto : to < 100) : PM (j_SL L) (j_SV xs) j_EX mm_X12_goTo [.ref 46, .int (nI x), .int (nI to)] S n (wrK (gtF P nx x to) S n) := by
  have hH := hW.2.1
  have hR0 := hR
  obtain ⟨fs, mn, fk, fa, fn, vl, k46, f1, f2, f3, f4, f5, f6, f7, f8, f9, f10, k47, k48, k49, k50, k51, hmn, hpr, hvl⟩ := hR
  have hl8 := hW.2.2.1 x hx
  change PQ (j_SL L) (j_SV xs) j_EX mm_X12_goTo 0 [.ref 46, .int (nI x), .int (nI to)] [] S n 0 0 _
  have tail : ∀ v : Nat, v = (if pL P x ≤ to then 10 else to) → PQ (j_SL L) (j_SV xs) j_EX mm_X12_goTo 28 [.ref 46, .int (nI x), .int (nI to)] [.int (nI v), .int (nI (4 * x)), .ref 53] S n 0 0 (wrK (gtF P nx x to) S n) := by
    rintro v rfl
    refine q_iast rfl rfl (by omega) t53 (q_inN (by omega) (by decide)) ?_
    rw [nI_clamp (by omega)]
    refine q_aload_n rfl rfl rfl ?_
    refine q_getf rfl rfl (by omega) ((u_ne (by decide)).trans k46) f9 ?_
    refine q_iconst rfl rfl ?_
    refine q_iload_n rfl rfl rfl ?_
    refine q_imul rfl rfl (q_tn (z := nI (4 * x)) (by rw [show (4 : Int32) = nI 4 from rfl, pk_mul]) ?_)
    refine q_iconst rfl rfl ?_
    refine q_iadd rfl rfl (q_tn (z := nI (4 * x + 2)) (nI_add _ 2) ?_)
    refine q_iconst rfl rfl ?_
    refine q_iast rfl rfl (by omega) u_eq (q_inN (by omega) (by decide)) ?_
    rw [nI_clamp (by omega)]
    exact q_ret rfl rfl ⟨rfl, rfl, fun k hk => (u_ne hk).trans (u_ne hk), u_eq⟩
  refine q_aload_n rfl rfl rfl ?_
  refine q_getf rfl rfl (by omega) k46 f9 ?_
  refine q_iconst rfl rfl ?_
  refine q_iload_n rfl rfl rfl ?_
  refine q_imul rfl rfl (q_tn (z := nI (4 * x)) (by rw [show (4 : Int32) = nI 4 from rfl, pk_mul]) ?_)
  refine q_iload_n rfl rfl rfl ?_
  refine q_aload_n rfl rfl rfl ?_
  refine q_getf rfl rfl (by omega) k46 f2 ?_
  refine q_aload_n rfl rfl rfl ?_
  refine q_getf rfl rfl (by omega) k46 f7 ?_
  refine q_iload_n rfl rfl rfl ?_
  refine q_iadd rfl rfl (q_tn (z := nI (b + x)) (nI_add _ _) ?_)
  refine q_iald rfl rfl (by omega) k47 (q_inN (by omega) (by decide)) (q_tn (z := nI (pL P x)) (by rw [nI_clamp (by omega)]; exact hmn x hx) ?_)
  refine q_iclt rfl rfl (fun h => ?_) (fun h => ?_)
  · refine q_iload_n rfl rfl rfl ?_
    exact tail to (by rw [if_neg (by have := (m_lt (by omega) (by omega)).mp h; omega)])
  · refine q_bipush rfl rfl ?_
    refine q_goto rfl ?_
    exact tail 10 (by rw [if_pos (by rw [m_lt (by omega) (by omega)] at h; omega)])
theorem l_fail (hW : WFP P) (hn : 82 ≤ n) (hb : b ≤ 3) (hR : JR b P S) (t53 : S 53 = .inl (0, 20, .inl nx)) (hx : x < pH P) : PM (j_SL L) (j_SV xs) j_EX mm_X12_fail [.ref 46, .int (nI x)] S n (wrK (upd (upd nx (4 * x) (nI 11)) (4 * x + 2) 0) S n) := by
  have hH := hW.2.1
  have hR0 := hR
  obtain ⟨fs, mn, fk, fa, fn, vl, k46, f1, f2, f3, f4, f5, f6, f7, f8, f9, f10, k47, k48, k49, k50, k51, hmn, hpr, hvl⟩ := hR
  change PQ (j_SL L) (j_SV xs) j_EX mm_X12_fail 0 [.ref 46, .int (nI x)] [] S n 0 0 _
  refine q_aload_n rfl rfl rfl ?_
  refine q_getf rfl rfl (by omega) k46 f9 ?_
  refine q_iconst rfl rfl ?_
  refine q_iload_n rfl rfl rfl ?_
  refine q_imul rfl rfl (q_tn (z := nI (4 * x)) (by rw [show (4 : Int32) = nI 4 from rfl, pk_mul]) ?_)
  refine q_bipush rfl rfl ?_
  refine q_iast rfl rfl (by omega) t53 (q_inN (by omega) (by decide)) ?_
  rw [nI_clamp (by omega)]
  refine q_aload_n rfl rfl rfl ?_
  refine q_getf rfl rfl (by omega) ((u_ne (by decide)).trans k46) f9 ?_
  refine q_iconst rfl rfl ?_
  refine q_iload_n rfl rfl rfl ?_
  refine q_imul rfl rfl (q_tn (z := nI (4 * x)) (by rw [show (4 : Int32) = nI 4 from rfl, pk_mul]) ?_)
  refine q_iconst rfl rfl ?_
  refine q_iadd rfl rfl (q_tn (z := nI (4 * x + 2)) (nI_add _ 2) ?_)
  refine q_iconst rfl rfl ?_
  refine q_iast rfl rfl (by omega) u_eq (q_inN (by omega) (by decide)) ?_
  rw [nI_clamp (by omega)]
  exact q_ret rfl rfl ⟨rfl, rfl, fun k hk => (u_ne hk).trans (u_ne hk), u_eq⟩
end RS
