/-! the class's Orders: a state looked at -/
section LK
variable {L : Nat} {xs : Nat → Int32} {S : Nat → pm_E} {n oc c m pic i k : Nat} {sl : Int32} {en : Int64} {so : Nat → Int32} {P : PG} {X : XT} {s : Int64}
noncomputable def xSt (P : PG) (pic : Nat) (X : XT) (i : Nat) : Nat → XT
  | 0 => X
  | x + 1 => xStep P pic (xSt P pic X i x) i x
theorem xSt_3 : xSt P pic X i 3 = xRow P pic X i := rfl
def spv (X : XT) : Nat := match xP X with
  | true => 1
  | false => 0
def OX (oc : Nat) (X : XT) (k : Nat) (sl : Int32) (en : Int64) (so : Nat → Int32) (S : Nat → pm_E) : Prop := ∃ (fo : Nat → Int64) (og mv fw tb ce : Nat → Int32), OCo oc (xN X) (spv X) sl en fo og mv so fw tb ce S ∧ HTb (xN X) fo tb ce ∧ (∀ j, j < xN X → e_D (fo j) = xS X j) ∧ (∀ j, j < xN X → og j = xF X j ∧ mv j = xB X j) ∧ (xP X = false → ∀ q, q < k → fw q = xL X q)
def xPN (X : XT) : Prop := xP X = true → xN X = 2000
theorem pn_st {x : Nat} (hW : WFP P) (hX : WX P pic X) (h : xPN X) : xPN (xStep P pic X i x) := by
  cases hp : xP X
  rotate_left
  · rw [xS_t hp]
    exact h
  by_cases hm : x < pH P ∧ mayP P pic (xS X i) x
  rotate_left
  · rw [xS_n hp hm]
    exact fun h => by cases h
  rw [xS_y hp hm]
  by_cases hj : ∃ j, j < xN X ∧ xS X j = nxD P pic (xS X i) x
  · obtain ⟨j, h1, h2⟩ := hj
    rw [xP_o hX.2.2.2 h1 h2]
    exact fun h => by cases h
  · have hn : ∀ j, j < xN X → xS X j ≠ nxD P pic (xS X i) x := fun j h1 h2 => hj ⟨j, h1, h2⟩
    by_cases hN : xN X < 2000
    · rw [xP_n hn hN]
      exact fun h => by cases h
    · have h2000 : xN X = 2000 := by have := hX.2.1; omega
      rw [xP_f hn h2000]
      exact fun _ => h2000
theorem xt_all {x : Nat} (hW : WFP P) (hX : WX P pic X) (hp : xPN X) (hi : i < xN X) : WX P pic (xSt P pic X i x) ∧ xPN (xSt P pic X i x) ∧ xN X ≤ xN (xSt P pic X i x) ∧ ∀ j, j < xN X → xS (xSt P pic X i x) j = xS X j := by
  induction x with
  | zero => exact ⟨hX, hp, Nat.le_refl _, fun _ _ => rfl⟩
  | succ x ih =>
    obtain ⟨a, b, c, d⟩ := ih
    obtain ⟨a', c', d'⟩ := wx_st (x := x) hW a (show i < xN (xSt P pic X i x) by omega)
    exact ⟨a', pn_st hW a b, Nat.le_trans c c', fun j hj => (d' j (by omega)).trans (d j hj)⟩
theorem nrm_mk {A : Nat → Nat} {x : Nat} : nrm (mkD pic (nrm A) x) = nrm (mkD pic A x) := by
  funext j
  unfold nrm mkD
  by_cases h : j < 21
  · rw [if_pos h, if_pos h]
    split
    · unfold e_up
      split
      · rfl
      · exact if_pos h
    · exact if_pos h
  · rw [if_neg h, if_neg h]
theorem JPc_fr {S' : Nat → pm_E} (hd1 : c + 6 ≤ oc ∨ oc + 8 ≤ c) (h : JPc c P S) (e : frO oc S S') : JPc c P S' := by
  obtain ⟨fs, fa, ln, l4, l5, l6, k0, h⟩ := h
  have e' : ∀ j, j < 6 → S' (c + j) = S (c + j) := fun j hj => e _ (by omega)
  obtain ⟨f0, f1, f2, f3, f4, f5, k1, k2, k3, k4, k5, h⟩ := h
  exact ⟨fs, fa, ln, l4, l5, l6, (e' 0 (by decide)).trans k0, f0, f1, f2, f3, f4, f5, (e' 1 (by decide)).trans k1, (e' 2 (by decide)).trans k2, (e' 3 (by decide)).trans k3, (e' 4 (by decide)).trans k4, (e' 5 (by decide)).trans k5, h⟩
theorem JMc_fr {S' : Nat → pm_E} (hd2 : m < oc ∨ oc + 8 ≤ m) (h : JMc m c pic S) (e : frO oc S S') : JMc m c pic S' := by
  obtain ⟨gs, k0, h⟩ := h
  exact ⟨gs, (e m hd2).trans k0, h⟩
/-- a follower laid -/
theorem ox_fl {X' : XT} {T U : Nat → pm_E} {q : Nat} {v : Int32} {fo : Nat → Int64} {og mv fw tb ce : Nat → Int32} (hO : OCo oc (xN X') (spv X') sl en fo og mv so fw tb ce T) (eU : U = va_up T (oc + 5) (.inl (0, 6000, .inl (upd fw q v)))) (hT : HTb (xN X') fo tb ce) (h1 : ∀ j, j < xN X' → e_D (fo j) = xS X' j) (h2 : ∀ j, j < xN X' → og j = xF X' j ∧ mv j = xB X' j) (h3 : xP X' = false → ∀ j, j < q + 1 → upd fw q v j = xL X' j) : OX oc X' (q + 1) sl en so U := by
  obtain ⟨os, k0, o0, o1, o2, o3, o4, o5, o6, o7, o8, o9, o10, k1, k2, k3, k4, k5, k6, k7⟩ := hO
  subst eU
  exact ⟨fo, og, mv, _, tb, ce, ⟨os, (u_ne (by omega)).trans k0, o0, o1, o2, o3, o4, o5, o6, o7, o8, o9, o10, (u_ne (by omega)).trans k1, (u_ne (by omega)).trans k2, (u_ne (by omega)).trans k3, (u_ne (by omega)).trans k4, u_eq, (u_ne (by omega)).trans k6, (u_ne (by omega)).trans k7⟩, hT, h1, h2, h3⟩
set_option maxHeartbeats 4000000 in
theorem o_hands (hW : WFP P) (hc : c + 6 ≤ n) (hm : m < n) (hn : oc + 8 ≤ n) (hd1 : c + 6 ≤ oc ∨ oc + 8 ≤ c) (hd2 : m < oc ∨ oc + 8 ≤ m) (hj : JPc c P S) (hJ : JMc m c pic S) (hp5 : pic < 5) {b : Nat → Bool} {K : q_K} (hX : WX P pic X) (hpn : xPN X) (hi : i < xN X) (hs : e_D s = xS X i) (hO : OX oc X (3 * i) sl en so S) (hb : ∀ x, x < pH P → (b x = true ↔ mayP P pic (xS X i) x)) (hb0 : ∀ x, pH P ≤ x → b x = false) (hK : ∀ (T : Nat → pm_E) (w7 w8 w9 : Value), frO oc S T → OX oc (xRow P pic X i) (3 * i + 3) sl en so T → PQ (j_SL L) (j_SV xs) j_EX mm_X7_lookAt 89 [.ref oc, .ref m, .int (nI i), .long s, pm_un, .int (nI (bm b)), .int (nI 3), w7, w8, w9] [] T n 0 0 K) : PQ (j_SL L) (j_SV xs) j_EX mm_X7_lookAt 25 [.ref oc, .ref m, .int (nI i), .long s, pm_un, .int (nI (bm b)), .int (nI 0), pm_un, pm_un, pm_un] [] S n 0 0 K := by
  have hH := hW.2.1
  have hi2 := hX.2.1
  have key : ∀ q x : Nat, x + q = 3 → ∀ (T : Nat → pm_E) (w7 w8 w9 : Value), pm_c2 w7 = false → frO oc S T → OX oc (xSt P pic X i x) (3 * i + x) sl en so T → PQ (j_SL L) (j_SV xs) j_EX mm_X7_lookAt 25 [.ref oc, .ref m, .int (nI i), .long s, pm_un, .int (nI (bm b)), .int (nI x), w7, w8, w9] [] T n 0 0 K := by
    intro q
    induction q with
    | zero =>
      intro x hx T w7 w8 w9 _ eT hT
      have e : x = 3 := by omega
      subst e
      refine q_iload rfl rfl rfl ?_
      refine q_iconst rfl rfl ?_
      refine q_icge rfl rfl (fun _ => hK T _ _ _ eT hT) (fun h => absurd (by decide) h)
    | succ q ih =>
      intro x hxq T w7 w8 w9 hw7 eT hT
      have hx3 : x < 3 := by omega
      obtain ⟨hX1, hpn1, hle, hsm⟩ := xt_all (x := x) hW hX hpn hi
      have hi1 : i < xN (xSt P pic X i x) := by omega
      have hxi := hsm i hi
      have hjT := JPc_fr hd1 hj eT
      have hJT := JMc_fr hd2 hJ eT
      have hN1 := hX1.2.1
      refine q_iload rfl rfl rfl ?_
      refine q_iconst rfl rfl ?_
      refine q_icge rfl rfl (fun h => absurd h (nI_ge (a := x) (b := 3) hx3 (by decide))) (fun _ => ?_)
      refine q_iconst rfl rfl ?_
      refine q_ist7 rfl rfl rfl rfl ?_
      have lay : ∀ (T1 : Nat → pm_E) (v : Int32) (w8 w9 : Value) (fo : Nat → Int64) (og mv fw tb ce : Nat → Int32), frO oc S T1 → OCo oc (xN (xSt P pic X i (x + 1))) (spv (xSt P pic X i (x + 1))) sl en fo og mv so fw tb ce T1 → HTb (xN (xSt P pic X i (x + 1))) fo tb ce → (∀ j, j < xN (xSt P pic X i (x + 1)) → e_D (fo j) = xS (xSt P pic X i (x + 1)) j) → (∀ j, j < xN (xSt P pic X i (x + 1)) → og j = xF (xSt P pic X i (x + 1)) j ∧ mv j = xB (xSt P pic X i (x + 1)) j) → (xP (xSt P pic X i (x + 1)) = false → ∀ j, j < 3 * i + x + 1 → upd fw (3 * i + x) v j = xL (xSt P pic X i (x + 1)) j) → PQ (j_SL L) (j_SV xs) j_EX mm_X7_lookAt 70 [.ref oc, .ref m, .int (nI i), .long s, pm_un, .int (nI (bm b)), .int (nI x), .int v, w8, w9] [] T1 n 0 0 K := by
        intro T1 v w8 w9 fo og mv fw tb ce e1 hO1 hT1 g1 g2 g3
        have hO1' := hO1
        obtain ⟨os, k0, o0, o1, o2, o3, o4, o5, o6, o7, o8, o9, o10, k1, k2, k3, k4, k5, k6, k7⟩ := hO1'
        refine q_aload_n rfl rfl rfl ?_
        refine q_getf rfl rfl (by omega) k0 o8 ?_
        refine q_iload_n rfl rfl rfl ?_
        refine q_iconst rfl rfl ?_
        refine q_imul rfl rfl (q_tn (z := nI (i * 3)) (by rw [show (3 : Int32) = nI 3 from rfl, pk_mul]) ?_)
        refine q_iload rfl rfl rfl ?_
        refine q_iadd rfl rfl (q_tn (z := nI (3 * i + x)) (by rw [Nat.mul_comm 3 i]; exact nI_add _ _) ?_)
        refine q_iload rfl rfl rfl ?_
        refine q_iast rfl rfl (by omega) k5 (q_inN (by omega) (by decide)) ?_
        rw [nI_clamp (by omega)]
        refine q_inc6 rfl rfl rfl rfl ?_
        refine q_goto rfl ?_
        rw [show nI x + 1 = nI (x + 1) from nI_add x 1]
        refine ih (x + 1) (by omega) _ _ _ _ rfl (fun k hk => (u_ne (by omega)).trans (e1 k hk)) ?_
        exact ox_fl hO1 rfl hT1 g1 g2 g3
      obtain ⟨fo, og, mv, fw, tb, ce, hO1, hT1, g1, g2, g3⟩ := hT
      have ex1 : xSt P pic X i (x + 1) = xStep P pic (xSt P pic X i x) i x := rfl
      refine q_iload rfl rfl rfl ?_
      refine q_iload rfl rfl rfl ?_
      refine q_iushr rfl rfl ?_
      refine q_iconst rfl rfl ?_
      refine q_iand rfl rfl (q_tn (z := if b x then 1 else 0) (bm_bit hx3) ?_)
      cases eb : b x
      · refine q_ifeq rfl rfl (fun _ => ?_) (fun h => absurd rfl h)
        have hno : ¬ (x < pH P ∧ mayP P pic (xS (xSt P pic X i x) i) x) := fun h => by
          rw [hxi] at h
          have := (hb x h.1).mpr h.2
          rw [eb] at this
          cases this
        cases hp : xP (xSt P pic X i x)
        · rw [xS_n hp hno] at ex1
          refine lay T (-1) _ _ fo og mv fw tb ce eT ?_ ?_ ?_ ?_ ?_
          · rw [ex1]
            have := hO1
            unfold spv at this
            rw [hp] at this
            exact this
          · rw [ex1]
            exact hT1
          · rw [ex1]
            exact g1
          · rw [ex1]
            exact g2
          · rw [ex1]
            intro _ j hj
            show upd fw (3 * i + x) (-1) j = upd (xL (xSt P pic X i x)) (3 * i + x) (-1) j
            unfold upd
            split
            · rfl
            · exact g3 hp j (by omega)
        · rw [xS_t hp] at ex1
          refine lay T (-1) _ _ fo og mv fw tb ce eT ?_ ?_ ?_ ?_ ?_
          · rw [ex1]
            exact hO1
          · rw [ex1]
            exact hT1
          · rw [ex1]
            exact g1
          · rw [ex1]
            exact g2
          · rw [ex1, hp]
            exact fun h => by cases h
      · refine q_ifeq rfl rfl (fun h => absurd h (by decide)) (fun _ => ?_)
        have hxH : x < pH P := Classical.byContradiction (fun h => by
          rw [hb0 x (by omega)] at eb
          cases eb)
        have hmy := (hb x hxH).mp eb
        have hwf : WFD P pic (e_D s) := by rw [hs]; exact hX.2.2.1 i hi
        have hmy' : mayP P pic (e_D s) x := by rw [hs]; exact hmy
        have hO1' := hO1
        obtain ⟨os, k0, o0, -⟩ := hO1'
        obtain ⟨gs, kM, q0, q1⟩ := hJT
        refine q_aload_n rfl rfl rfl ?_
        refine q_aload_n rfl rfl rfl ?_
        refine q_lload_n rfl rfl rfl ?_
        refine q_iload rfl rfl rfl ?_
        refine q_cV rfl rfl (Or.inl rfl) rfl rfl rfl rfl hm kM trivial rfl rfl rfl rfl rfl (m_after hW hc hm hjT ⟨gs, kM, q0, q1⟩ hp5 hxH hmy'.1.1 hwf) ?_
        rintro r _ _ ⟨rfl, rfl, t1, rfl, h1⟩
        show PQ (j_SL L) (j_SV xs) j_EX mm_X7_lookAt 52 [.ref oc, .ref m, .int (nI i), .long s, pm_un, .int (nI (bm b)), .int (nI x), .int (-1), w8, w9] [.long t1, .ref m] T n 0 0 _
        refine q_iload rfl rfl rfl ?_
        refine q_cV rfl rfl (Or.inl rfl) rfl rfl rfl rfl hm kM trivial rfl rfl rfl rfl rfl (m_marked hW hc hm hjT ⟨gs, kM, q0, q1⟩ hp5 hxH) ?_
        rintro r _ _ ⟨rfl, rfl, t2, rfl, h2⟩
        show PQ (j_SL L) (j_SV xs) j_EX mm_X7_lookAt 57 [.ref oc, .ref m, .int (nI i), .long s, pm_un, .int (nI (bm b)), .int (nI x), .int (-1), w8, w9] [.long t2] T n 0 0 _
        have et2 : e_D t2 = nxD P pic (xS (xSt P pic X i x) i) x := by
          rw [is_nrm h2, is_nrm h1, nrm_mk, hxi, hs]
          rfl
        have hyes : x < pH P ∧ mayP P pic (xS (xSt P pic X i x) i) x := ⟨hxH, by rw [hxi]; exact hmy⟩
        refine q_lst8 rfl rfl rfl rfl ?_
        refine q_aload_n rfl rfl rfl ?_
        refine q_lload rfl rfl rfl ?_
        refine q_iload_n rfl rfl rfl ?_
        refine q_iload rfl rfl rfl ?_
        refine q_cV rfl rfl (Or.inl rfl) rfl rfl rfl rfl (by omega) k0 trivial rfl rfl rfl rfl rfl (o_num hn hO1 hN1 hT1) ?_
        rintro r T2 n9 ⟨rfl, eT2, hr⟩
        have nw : (∀ j, j < xN (xSt P pic X i x) → fo j ≠ t2) → ∀ j, j < xN (xSt P pic X i x) → xS (xSt P pic X i x) j ≠ nxD P pic (xS (xSt P pic X i x) i) x := fun h j hj e => h j hj (e_D_ext (fun z hz => by rw [g1 j hj, e, et2]))
        rcases hr with ⟨j, hj, e1, rfl, rfl⟩ | ⟨hne, ⟨h2000, rfl, hO2⟩ | ⟨hlt, rfl, tb', ce', hT2, hO2⟩⟩
        · show PQ (j_SL L) (j_SV xs) j_EX mm_X7_lookAt 68 [.ref oc, .ref m, .int (nI i), .long s, pm_un, .int (nI (bm b)), .int (nI x), .int (-1), .long t2, pm_un] [.int (nI j)] T n 0 0 _
          refine q_ist7 rfl rfl rfl rfl ?_
          have exj : xS (xSt P pic X i x) j = nxD P pic (xS (xSt P pic X i x) i) x := by rw [← g1 j hj, e1, et2]
          cases hp : xP (xSt P pic X i x)
          · rw [xS_y hp hyes, xP_o hX1.2.2.2 hj exj] at ex1
            refine lay T (nI j) _ _ fo og mv fw tb ce eT ?_ ?_ ?_ ?_ ?_
            · rw [ex1]
              have := hO1
              unfold spv at this
              rw [hp] at this
              exact this
            · rw [ex1]
              exact hT1
            · rw [ex1]
              exact g1
            · rw [ex1]
              exact g2
            · rw [ex1]
              intro _ z hz
              show upd fw (3 * i + x) (nI j) z = upd (xL (xSt P pic X i x)) (3 * i + x) (nI j) z
              unfold upd
              split
              · rfl
              · exact g3 hp z (by omega)
          · rw [xS_t hp] at ex1
            refine lay T (nI j) _ _ fo og mv fw tb ce eT ?_ ?_ ?_ ?_ ?_
            · rw [ex1]
              exact hO1
            · rw [ex1]
              exact hT1
            · rw [ex1]
              exact g1
            · rw [ex1]
              exact g2
            · rw [ex1, hp]
              exact fun h => by cases h
        · show PQ (j_SL L) (j_SV xs) j_EX mm_X7_lookAt 68 [.ref oc, .ref m, .int (nI i), .long s, pm_un, .int (nI (bm b)), .int (nI x), .int (-1), .long t2, pm_un] [.int (-1)] T2 n 0 0 _
          refine q_ist7 rfl rfl rfl rfl ?_
          have ex2 : xSt P pic X i (x + 1) = (xN (xSt P pic X i x), xS (xSt P pic X i x), xF (xSt P pic X i x), xB (xSt P pic X i x), xL (xSt P pic X i x), true) := by
            cases hp : xP (xSt P pic X i x)
            · rw [ex1, xS_y hp hyes, xP_f (nw hne) h2000]
            · rw [ex1, xS_t hp]
              exact Prod.ext rfl (Prod.ext rfl (Prod.ext rfl (Prod.ext rfl (Prod.ext rfl hp))))
          refine lay T2 (-1) _ _ fo og mv fw tb ce (frO_tr eT eT2) ?_ ?_ ?_ ?_ ?_
          · rw [ex2]
            exact hO2
          · rw [ex2]
            exact hT1
          · rw [ex2]
            exact g1
          · rw [ex2]
            exact g2
          · rw [ex2]
            exact fun h => by cases h
        · show PQ (j_SL L) (j_SV xs) j_EX mm_X7_lookAt 68 [.ref oc, .ref m, .int (nI i), .long s, pm_un, .int (nI (bm b)), .int (nI x), .int (-1), .long t2, pm_un] [.int (nI (xN (xSt P pic X i x)))] T2 n 0 0 _
          refine q_ist7 rfl rfl rfl rfl ?_
          have hp : xP (xSt P pic X i x) = false := by
            cases h : xP (xSt P pic X i x)
            · rfl
            · have := hpn1 h
              omega
          rw [xS_y hp hyes, xP_n (nw hne) hlt] at ex1
          refine lay T2 (nI (xN (xSt P pic X i x))) _ _ (vp_updL fo (xN (xSt P pic X i x)) t2) (upd og (xN (xSt P pic X i x)) (nI i)) (upd mv (xN (xSt P pic X i x)) (nI x)) fw tb' ce' (frO_tr eT eT2) ?_ ?_ ?_ ?_ ?_
          · rw [ex1]
            have := hO2
            unfold spv at this
            rw [hp] at this
            exact this
          · rw [ex1]
            exact hT2
          · rw [ex1]
            intro j hj
            have hj' : j < xN (xSt P pic X i x) + 1 := hj
            show e_D (vp_updL fo (xN (xSt P pic X i x)) t2 j) = upS (xS (xSt P pic X i x)) (xN (xSt P pic X i x)) (nxD P pic (xS (xSt P pic X i x) i) x) j
            unfold upS
            by_cases e : j = xN (xSt P pic X i x)
            · rw [if_pos e, e, vpL_at]
              exact et2
            · rw [if_neg e, vpL_ot e]
              exact g1 j (by omega)
          · rw [ex1]
            intro j hj
            have hj' : j < xN (xSt P pic X i x) + 1 := hj
            show upd og _ (nI i) j = upd (xF (xSt P pic X i x)) _ (nI i) j ∧ upd mv _ (nI x) j = upd (xB (xSt P pic X i x)) _ (nI x) j
            unfold upd
            by_cases e : j = xN (xSt P pic X i x)
            · rw [if_pos e, if_pos e, if_pos e, if_pos e]
              exact ⟨rfl, rfl⟩
            · rw [if_neg e, if_neg e, if_neg e, if_neg e]
              exact g2 j (by omega)
          · rw [ex1]
            intro _ z hz
            show upd fw (3 * i + x) (nI (xN (xSt P pic X i x))) z = upd (xL (xSt P pic X i x)) (3 * i + x) (nI (xN (xSt P pic X i x))) z
            unfold upd
            split
            · rfl
            · exact g3 hp z (by omega)
  exact key 3 0 rfl S _ _ _ rfl (fun _ _ => rfl) hO
end LK
