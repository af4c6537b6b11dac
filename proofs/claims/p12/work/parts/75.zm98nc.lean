/-! the class's Loops: the whole search -/
section NC
variable {L : Nat} {xs : Nat → Int32} {S S' : Nat → pm_E} {n : Nat} {X : XT} {k q h d i w v N t : Nat} {cm lw tr pt sk : Nat → Nat} {on bk : Nat → Bool} {u8 : List Value} {fw : Nat → Int32} {θ : Th} {P : PG}
theorem c_flw (hn : 82 ≤ n) (k8 : S 8 = .inr (5, u8)) (u0 : u8[0]? = some (.int (nI N))) (u88 : u8[8]? = some (.ref 13)) (k13 : S 13 = .inl (0, 6000, .inl fw)) (hN : N ≤ 2000) (hi : i < N) (ht : t < 3) : PM (j_SL L) (j_SV xs) j_EX mm_X7_follower [.ref 8, .int (nI i), .int (nI t)] S n (fun r S' n' => S = S' ∧ n = n' ∧ r = some (.int (fw (3 * i + t)))) := by
  change PQ (j_SL L) (j_SV xs) j_EX mm_X7_follower 0 [.ref 8, .int (nI i), .int (nI t)] [] S n 0 0 _
  refine q_iload_n rfl rfl rfl ?_
  refine q_aload_n rfl rfl rfl ?_
  refine q_getf rfl rfl (by omega) k8 u0 ?_
  refine q_cS rfl rfl (Or.inr rfl) rfl rfl trivial rfl rfl rfl rfl rfl (c_wi) ?_
  rintro r _ _ ⟨rfl, rfl, hr⟩
  rcases hr with ⟨c, rfl⟩ | ⟨c, rfl⟩
  · exact (c_out c ⟨nI_p0 (by omega), (m_lt (b := N) (by omega) (by omega)).mpr hi⟩).elim
  show PQ (j_SL L) (j_SV xs) j_EX mm_X7_follower 8 [.ref 8, .int (nI i), .int (nI t)] [.int 1] S n 0 0 _
  refine q_ifeq rfl rfl (fun c => absurd c (by decide)) (fun _ => ?_)
  refine q_iload_n rfl rfl rfl ?_
  refine q_iconst rfl rfl ?_
  refine q_cS rfl rfl (Or.inr rfl) rfl rfl trivial rfl rfl rfl rfl rfl (c_wi) ?_
  rintro r _ _ ⟨rfl, rfl, hr⟩
  rcases hr with ⟨c, rfl⟩ | ⟨c, rfl⟩
  · exact (c_out c ⟨nI_p0 (by omega), (m_lt (b := 3) (by omega) (by omega)).mpr ht⟩).elim
  show PQ (j_SL L) (j_SV xs) j_EX mm_X7_follower 16 [.ref 8, .int (nI i), .int (nI t)] [.int 1] S n 0 0 _
  refine q_ifeq rfl rfl (fun c => absurd c (by decide)) (fun _ => ?_)
  refine q_aload_n rfl rfl rfl ?_
  refine q_getf rfl rfl (by omega) k8 u88 ?_
  refine q_iload_n rfl rfl rfl ?_
  refine q_iconst rfl rfl ?_
  refine q_imul rfl rfl (q_tn (z := nI (3 * i)) (by rw [show (3 : Int32) = nI 3 from rfl, pk_mul, Nat.mul_comm]) ?_)
  refine q_iload_n rfl rfl rfl ?_
  refine q_iadd rfl rfl (q_tn (z := nI (3 * i + t)) (nI_add _ _) ?_)
  refine q_iald rfl rfl (by omega) k13 (q_inN (by omega) (by decide)) (q_tn (z := (fw) ((3 * i + t))) (by rw [nI_clamp (by omega)]) ?_)
  refine q_goto rfl ?_
  exact q_iret rfl rfl trivial ⟨rfl, rfl, rfl⟩
/-- what find wants of the orders, and what it leaves -/
def FO (X : XT) (S : Nat → pm_E) : Prop := ∃ (u8 : List Value) (fw : Nat → Int32), S 8 = .inr (5, u8) ∧ u8[0]? = some (.int (nI (xN X))) ∧ u8[8]? = some (.ref 13) ∧ S 13 = .inl (0, 6000, .inl fw) ∧ ∀ q, q < 3 * xN X → fw q = xL X q
theorem fo_fr (h : FO X S) (e : frL S S') : FO X S' := by
  obtain ⟨u8, fw, a, b, c, d, f⟩ := h
  exact ⟨u8, fw, (e 8 (by omega)).trans a, b, c, (e 13 (by omega)).trans d, f⟩
/-- Loops as it is made, whatever it holds -/
def L0 (S : Nat → pm_E) : Prop := ∃ (os : List Value) (cf lf tf pf sf nf bf : Nat → Int32) (x y z : Value), S 24 = .inr (3, os) ∧ os[0]? = some (.ref 25) ∧ os[1]? = some (.ref 26) ∧ os[2]? = some (.ref 27) ∧ os[3]? = some (.ref 28) ∧ os[4]? = some (.ref 29) ∧ os[5]? = some (.ref 30) ∧ os[6]? = some (.ref 31) ∧ os[7]? = some x ∧ os[8]? = some y ∧ os[9]? = some z ∧
  S 25 = .inl (0, 2000, .inl cf) ∧ S 26 = .inl (0, 2000, .inl lf) ∧ S 27 = .inl (0, 2000, .inl tf) ∧ S 28 = .inl (0, 2000, .inl pf) ∧ S 29 = .inl (0, 2000, .inl sf) ∧ S 30 = .inl (2, 2000, .inl nf) ∧ S 31 = .inl (2, 2000, .inl bf)
theorem gs_L0 (hG : GS θ S n) : L0 S := by
  obtain ⟨os, k24, hf⟩ := gs_obj hG (k := 24) rfl
  obtain ⟨a25, k25, -⟩ := gs_arr hG (k := 25) rfl
  obtain ⟨a26, k26, -⟩ := gs_arr hG (k := 26) rfl
  obtain ⟨a27, k27, -⟩ := gs_arr hG (k := 27) rfl
  obtain ⟨a28, k28, -⟩ := gs_arr hG (k := 28) rfl
  obtain ⟨a29, k29, -⟩ := gs_arr hG (k := 29) rfl
  obtain ⟨a30, k30, -⟩ := gs_arr hG (k := 30) rfl
  obtain ⟨a31, k31, -⟩ := gs_arr hG (k := 31) rfl
  obtain ⟨x, s7, -⟩ := fo_int (hf 7 _ rfl) rfl
  obtain ⟨y, s8, -⟩ := fo_int (hf 8 _ rfl) rfl
  obtain ⟨z, s9, -⟩ := fo_int (hf 9 _ rfl) rfl
  exact ⟨_, _, _, _, _, _, _, _, _, _, _, k24, fo_ref (hf 0 _ rfl) rfl, fo_ref (hf 1 _ rfl) rfl, fo_ref (hf 2 _ rfl) rfl, fo_ref (hf 3 _ rfl) rfl, fo_ref (hf 4 _ rfl) rfl, fo_ref (hf 5 _ rfl) rfl, fo_ref (hf 6 _ rfl) rfl, s7, s8, s9, k25, k26, k27, k28, k29, k30, k31⟩
/-- what comes back, in the class's array -/
def BK (X : XT) (S : Nat → pm_E) : Prop := ∃ (os : List Value) (bf : Nat → Int32), S 24 = .inr (3, os) ∧ os[6]? = some (.ref 31) ∧ S 31 = .inl (2, 2000, .inl bf) ∧ ∀ j, j < xN X → bf j = b2 (bkE X j)
def BL (X : XT) (S : Nat → pm_E) : Prop := BK X S ∧ L0 S
theorem lo_l0 (H : LO S cm lw tr pt sk on bk q h d) : L0 S := by
  obtain ⟨os, cf, lf, tf, pf, sf, nf, bf, k24, o0, o1, o2, o3, o4, o5, o6, o7, o8, o9, k25, k26, k27, k28, k29, k30, k31, -⟩ := H
  exact ⟨os, cf, lf, tf, pf, sf, nf, bf, _, _, _, k24, o0, o1, o2, o3, o4, o5, o6, o7, o8, o9, k25, k26, k27, k28, k29, k30, k31⟩
set_option maxHeartbeats 8000000 in
theorem c_find2 (hn : 82 ≤ n) (hX : 1 ≤ xN X ∧ xN X ≤ 2000) (hE : XE9 X (3 * xN X)) (hR : XR9 X (3 * xN X)) (hF : FO X S) (hL : L0 S) : PM (j_SL L) (j_SV xs) j_EX mm_X5_find [.ref 24, .ref 8] S n (LK S n (BL X)) := by
  obtain ⟨os, cf, lf, tf, pf, sf, nf, bf, x7, x8, x9, k24, o0, o1, o2, o3, o4, o5, o6, o7, o8, o9, k25, k26, k27, k28, k29, k30, k31⟩ := hL
  have fr : ∀ j, j < 24 ∨ 32 ≤ j → S j = S j := fun _ _ => rfl
  change PQ (j_SL L) (j_SV xs) j_EX mm_X5_find 0 [.ref 24, .ref 8, pm_un, pm_un, pm_un] [] S n 0 0 _
  have loop : ∀ (m k q h d : Nat) (cm lw tr pt sk : Nat → Nat) (on bk : Nat → Bool) (T : Nat → pm_E) (l4 : Value), k + m = 10000 → TK X k cm lw tr pt sk on bk q h d → LO T cm lw tr pt sk on bk q h d → frL S T → FO X T → PQ (j_SL L) (j_SV xs) j_EX mm_X5_find 34 [.ref 24, .ref 8, .int 10000, .int (nI k), l4] [] T n 0 0 (LK S n (BL X)) := by
    clear k24 k25 k26 k27 k28 k29 k30 k31 fr
    intro m
    induction m with
    | zero =>
      intro k q h d cm lw tr pt sk on bk T l4 hk hT H hr hF
      have hd : d = 0 := by
        have := hT.2.1.2.2.2.2.2.1
        omega
      subst hd
      have ek : k = 10000 := by omega
      subst ek
      refine q_iload_n rfl rfl rfl ?_
      refine q_iload_n rfl rfl rfl ?_
      refine q_icge rfl rfl (fun _ => ?_) (fun c => absurd (by decide) c)
      have e1 := tk_end hT
      have e2 := tk_all hE hX.2 hT
      have H9 := H
      obtain ⟨os, cf, lf, tf, pf, sf, nf, bf, k24, o0, o1, o2, o3, o4, o5, o6, o7, o8, o9, k25, k26, k27, k28, k29, k30, k31, hc, hl, ht, hp, hs, hn2, hb⟩ := H
      refine q_ret rfl rfl ⟨rfl, rfl, hr, ⟨_, _, k24, o6, k31, fun j hj => ?_⟩, lo_l0 H9⟩
      rw [e1]
      exact hb j (by omega) (e2 j hj)
    | succ m ih =>
      intro k q h d cm lw tr pt sk on bk T l4 hk hT H hr hF
      have H9 := H
      obtain ⟨os, cf, lf, tf, pf, sf, nf, bf, k24, o0, o1, o2, o3, o4, o5, o6, o7, o8, o9, k25, k26, k27, k28, k29, k30, k31, hc, hl, ht, hp, hs, hn2, hb⟩ := H
      obtain ⟨u8, fw, z8, u0, u88, z13, hfw⟩ := hF
      have hF : FO X T := ⟨u8, fw, z8, u0, u88, z13, hfw⟩
      refine q_iload_n rfl rfl rfl ?_
      refine q_iload_n rfl rfl rfl ?_
      refine q_icge rfl rfl (fun c => absurd c (nI_ge (a := k) (b := 10000) (by omega) (by decide))) (fun _ => ?_)
      refine q_aload_n rfl rfl rfl ?_
      refine q_getf rfl rfl (by omega) k24 o7 ?_
      have nxt : ∀ (q' h' d' : Nat) (cm' lw' tr' pt' sk' : Nat → Nat) (on' bk' : Nat → Bool) (V : Nat → pm_E) (l4 : Value), TK X (k + 1) cm' lw' tr' pt' sk' on' bk' q' h' d' → LO V cm' lw' tr' pt' sk' on' bk' q' h' d' → frL S V → PQ (j_SL L) (j_SV xs) j_EX mm_X5_find 103 [.ref 24, .ref 8, .int 10000, .int (nI k), l4] [] V n 0 0 (LK S n (BL X)) := by
        intro q' h' d' cm' lw' tr' pt' sk' on' bk' V l4 a1 a2 a3
        refine q_icc3 rfl rfl rfl rfl (z := nI (k + 1)) (nI_add k 1) ?_
        refine q_goto rfl ?_
        exact ih (k + 1) q' h' d' cm' lw' tr' pt' sk' on' bk' V l4 (by omega) a1 a2 a3 (fo_fr ⟨u8, fw, z8, u0, u88, z13, hfw⟩ (fun j hj => (a3 j hj).trans (hr j hj).symm))
      cases d with
      | zero =>
        refine q_ifle rfl rfl (fun _ => ?_) (fun c => absurd (by decide) c)
        have e1 := tk_end hT
        have e2 := tk_all hE hX.2 hT
        refine q_ret rfl rfl ⟨rfl, rfl, hr, ⟨_, _, k24, o6, k31, fun j hj => ?_⟩, lo_l0 H9⟩
        rw [e1]
        exact hb j (by omega) (e2 j hj)
      | succ d =>
        have hI := hT.2.1
        have sd := hI.2.1 d (by omega)
        obtain ⟨n1, n2, n3, n4, n5, n6, n7⟩ := hI.2.2.2.2.1 _ sd
        have hq := cwN_le cm
        have hq2 := hI.1
        have cmb : ∀ j, j < 2000 → cm j ≤ 2000 := fun j _ => by
          by_cases e : cm j = 0
          · omega
          · have := (hI.2.2.2.2.1 j e).2.2.2.2.1
            omega
        refine q_ifle rfl rfl (fun c => absurd ((m_le (b := 0) (by omega) (by decide)).mp c) (by omega)) (fun _ => ?_)
        refine q_aload_n rfl rfl rfl ?_
        refine q_getf rfl rfl (by omega) k24 o3 ?_
        refine q_aload_n rfl rfl rfl ?_
        refine q_getf rfl rfl (by omega) k24 o7 ?_
        refine q_iconst rfl rfl ?_
        refine q_isub rfl rfl (q_tn (z := nI d) (nI_pred d) ?_)
        refine q_iald rfl rfl (by omega) k28 (q_inN (by omega) (by decide)) (q_tn (z := nI (pt d)) (by rw [nI_clamp (by omega)]; exact hp d (by omega) (by omega)) ?_)
        refine q_ist4 rfl rfl rfl rfl ?_
        refine q_aload_n rfl rfl rfl ?_
        refine q_getf rfl rfl (by omega) k24 o2 ?_
        refine q_iload rfl rfl rfl ?_
        refine q_iald rfl rfl (by omega) k27 (q_inN (by omega) (by decide)) (q_tn (z := nI (tr (pt d))) (by rw [nI_clamp (by omega)]; exact ht _ (by omega) sd) ?_)
        refine q_iconst rfl rfl ?_
        refine q_icge rfl rfl (fun c => ?_) (fun c => ?_)
        · have ht3 : ¬ tr (pt d) < 3 := fun c9 => absurd c (nI_ge (a := tr (pt d)) (b := 3) c9 (by decide))
          refine q_aload_n rfl rfl rfl ?_
          refine q_iload rfl rfl rfl ?_
          refine q_cV rfl rfl (Or.inl rfl) rfl rfl rfl rfl (by omega) k24 trivial rfl rfl rfl rfl rfl (c_lea (k := k) (X := X) hn H9 hI hX.2) ?_
          rintro r V _ ⟨rfl, rfl, eV, hV⟩
          show PQ (j_SL L) (j_SV xs) j_EX mm_X5_find 103 [.ref 24, .ref 8, .int 10000, .int (nI k), .int (nI (pt d))] [] V n 0 0 _
          by_cases e : lw (pt d) = cm (pt d)
          · rw [if_pos e] at hV
            exact nxt _ _ _ _ _ _ _ _ _ _ V _ (tk_close hT ht3 e rfl) hV (frL_t hr eV)
          · rw [if_neg e] at hV
            exact nxt _ _ _ _ _ _ _ _ _ _ V _ (tk_leave hT ht3 e) hV (frL_t hr eV)
        · have ht3 : tr (pt d) < 3 := by
            rcases Nat.lt_or_ge (tr (pt d)) 3 with c9 | c9
            · exact c9
            · exact absurd ((m_le (a := 3) (by decide) (by omega)).mpr c9) c
          have fr : ∀ j, j < 24 ∨ 32 ≤ j → T j = T j := fun _ _ => rfl
          refine q_aload_n rfl rfl rfl ?_
          refine q_iload rfl rfl rfl ?_
          refine q_aload_n rfl rfl rfl ?_
          refine q_iload rfl rfl rfl ?_
          refine q_aload_n rfl rfl rfl ?_
          refine q_getf rfl rfl (by omega) k24 o2 ?_
          refine q_iload rfl rfl rfl ?_
          refine q_dup2 rfl rfl ?_
          refine q_iald rfl rfl (by omega) k27 (q_inN (by omega) (by decide)) (q_tn (z := nI (tr (pt d))) (by rw [nI_clamp (by omega)]; exact ht _ (by omega) sd) ?_)
          refine q_dupx2 rfl rfl ?_
          refine q_iconst rfl rfl ?_
          refine q_iadd rfl rfl (q_tn (z := nI (tr (pt d) + 1)) (nI_add _ 1) ?_)
          refine q_iast rfl rfl (by omega) k27 (q_inN (by omega) (by decide)) ?_
          rw [nI_clamp (by omega)]
          have e18 : ∀ j, j ≠ 27 → va_up T 27 (.inl (0, 2000, .inl (upd tf ((pt d)) (nI (tr (pt d) + 1))))) j = T j := fun j hj => u_ne hj
          have x18 : va_up T 27 (.inl (0, 2000, .inl (upd tf ((pt d)) (nI (tr (pt d) + 1))))) 27 = .inl (0, 2000, .inl (upd tf ((pt d)) (nI (tr (pt d) + 1)))) := u_eq
          generalize va_up T 27 (.inl (0, 2000, .inl (upd tf ((pt d)) (nI (tr (pt d) + 1))))) = S18 at e18 x18 ⊢
          have k24 := (e18 24 (by decide)).trans k24
          have k25 := (e18 25 (by decide)).trans k25
          have k26 := (e18 26 (by decide)).trans k26
          have k28 := (e18 28 (by decide)).trans k28
          have k29 := (e18 29 (by decide)).trans k29
          have k30 := (e18 30 (by decide)).trans k30
          have k31 := (e18 31 (by decide)).trans k31
          have z8 := (e18 8 (by decide)).trans z8
          have z13 := (e18 13 (by decide)).trans z13
          have fr : ∀ j, j < 24 ∨ 32 ≤ j → S18 j = T j := fun j hj => (e18 j (by omega)).trans (fr j hj)
          have H1 : LO S18 cm lw (un tr (pt d) (tr (pt d) + 1)) pt sk on bk q h (d + 1) := ⟨_, _, _, _, _, _, _, _, k24, o0, o1, o2, o3, o4, o5, o6, o7, o8, o9, k25, k26, x18, k28, k29, k30, k31, hc, hl, ag_up ht rfl (fun j _ a => a), hp, hs, hn2, hb⟩
          refine q_cV rfl rfl (Or.inl rfl) rfl rfl rfl rfl (by omega) z8 trivial rfl rfl rfl rfl rfl (c_flw hn (N := xN X) z8 u0 u88 z13 hX.2 n1 ht3) ?_
          rintro r _ _ ⟨rfl, rfl, rfl⟩
          show PQ (j_SL L) (j_SV xs) j_EX mm_X5_find 91 [.ref 24, .ref 8, .int 10000, .int (nI k), .int (nI (pt d))] [.int (fw (3 * pt d + tr (pt d))), .int (nI (pt d)), .ref 24] S18 n 0 0 _
          rw [hfw _ (by omega)]
          have hrT : frL S S18 := frL_t hr fr
          have hne0 : 0 < 1 := by decide
          rcases tk_fl hR hT ht3 with hx | ⟨w, hw, hx⟩
          · rw [hx]
            refine q_cV rfl rfl (Or.inl rfl) rfl rfl rfl rfl (by omega) k24 trivial rfl rfl rfl rfl rfl (c_fol0 (i := pt d) hn H1 (by omega)) ?_
            rintro r V _ ⟨rfl, rfl, eV, hV⟩
            show PQ (j_SL L) (j_SV xs) j_EX mm_X5_find 94 [.ref 24, .ref 8, .int 10000, .int (nI k), .int (nI (pt d))] [] V n 0 0 _
            refine q_goto rfl ?_
            exact nxt _ _ _ _ _ _ _ _ _ _ V _ (tk_none hX.2 hT ht3 hx) hV (frL_t hrT eV)
          · by_cases e : w = pt d
            · rw [e] at hx
              rw [hx]
              refine q_cV rfl rfl (Or.inl rfl) rfl rfl rfl rfl (by omega) k24 trivial rfl rfl rfl rfl rfl (c_folS (i := pt d) hn H1 (by omega)) ?_
              rintro r V _ ⟨rfl, rfl, eV, hV⟩
              show PQ (j_SL L) (j_SV xs) j_EX mm_X5_find 94 [.ref 24, .ref 8, .int 10000, .int (nI k), .int (nI (pt d))] [] V n 0 0 _
              refine q_goto rfl ?_
              exact nxt _ _ _ _ _ _ _ _ _ _ V _ (tk_self hX.2 hT ht3 hx) hV (frL_t hrT eV)
            · rw [hx]
              by_cases e0 : cm w = 0
              · refine q_cV rfl rfl (Or.inl rfl) rfl rfl rfl rfl (by omega) k24 trivial rfl rfl rfl rfl rfl (c_folN (i := pt d) (w := w) hn H1 (by omega) (by omega) e e0 (by have := cwN_lt (cm := cm) (w := w) (by omega) e0; omega) (by have := cwN_lt (cm := cm) (w := w) (by omega) e0; omega)) ?_
                rintro r V _ ⟨rfl, rfl, eV, hV⟩
                show PQ (j_SL L) (j_SV xs) j_EX mm_X5_find 94 [.ref 24, .ref 8, .int 10000, .int (nI k), .int (nI (pt d))] [] V n 0 0 _
                refine q_goto rfl ?_
                exact nxt _ _ _ _ _ _ _ _ _ _ V _ (tk_new hX.2 hT ht3 hw hx e0) hV (frL_t hrT eV)
              · cases eo : on w
                · refine q_cV rfl rfl (Or.inl rfl) rfl rfl rfl rfl (by omega) k24 trivial rfl rfl rfl rfl rfl (c_folO (i := pt d) (w := w) hn H1 (by omega) (by omega) e cmb e0 eo) ?_
                  rintro r V _ ⟨rfl, rfl, eV, hV⟩
                  show PQ (j_SL L) (j_SV xs) j_EX mm_X5_find 94 [.ref 24, .ref 8, .int 10000, .int (nI k), .int (nI (pt d))] [] V n 0 0 _
                  refine q_goto rfl ?_
                  exact nxt _ _ _ _ _ _ _ _ _ _ V _ (tk_old hX.2 hT ht3 hw hx e e0 eo) hV (frL_t hrT eV)
                · refine q_cV rfl rfl (Or.inl rfl) rfl rfl rfl rfl (by omega) k24 trivial rfl rfl rfl rfl rfl (c_folL (i := pt d) (w := w) hn H1 (by omega) (by omega) e cmb (by omega) sd e0 eo) ?_
                  rintro r V _ ⟨rfl, rfl, eV, hV⟩
                  show PQ (j_SL L) (j_SV xs) j_EX mm_X5_find 94 [.ref 24, .ref 8, .int 10000, .int (nI k), .int (nI (pt d))] [] V n 0 0 _
                  refine q_goto rfl ?_
                  exact nxt _ _ _ _ _ _ _ _ _ _ V _ (tk_low hX.2 hT ht3 hw hx e e0 eo) hV (frL_t hrT eV)
  refine q_aload_n rfl rfl rfl ?_
  refine q_getf rfl rfl (by omega) k24 o0 ?_
  refine q_iconst rfl rfl ?_
  refine q_cS rfl rfl (Or.inl rfl) rfl rfl trivial rfl rfl rfl rfl rfl (l_fl9 (k := 25) (by omega) k25 (by decide)) ?_
  rintro r _ n9 ⟨rfl, eV, rfl⟩
  subst eV
  show PQ (j_SL L) (j_SV xs) j_EX mm_X5_find 8 [.ref 24, .ref 8, pm_un, pm_un, pm_un] [] (va_up S 25 (.inl (0, 2000, .inl (nfk cf 0 0 2000)))) n 0 0 _
  have e19 : ∀ j, j ≠ 25 → va_up S 25 (.inl (0, 2000, .inl (nfk cf 0 0 2000))) j = S j := fun j hj => u_ne hj
  have x19 : va_up S 25 (.inl (0, 2000, .inl (nfk cf 0 0 2000))) 25 = .inl (0, 2000, .inl (nfk cf 0 0 2000)) := u_eq
  generalize va_up S 25 (.inl (0, 2000, .inl (nfk cf 0 0 2000))) = S19 at e19 x19 ⊢
  have k24 := (e19 24 (by decide)).trans k24
  have k26 := (e19 26 (by decide)).trans k26
  have k27 := (e19 27 (by decide)).trans k27
  have k28 := (e19 28 (by decide)).trans k28
  have k29 := (e19 29 (by decide)).trans k29
  have k30 := (e19 30 (by decide)).trans k30
  have k31 := (e19 31 (by decide)).trans k31
  have fr : ∀ j, j < 24 ∨ 32 ≤ j → S19 j = S j := fun j hj => (e19 j (by omega)).trans (fr j hj)
  refine q_aload_n rfl rfl rfl ?_
  refine q_iconst rfl rfl ?_
  refine q_putf rfl rfl (by omega) k24 (List.getElem?_eq_some_iff.mp o7).1 rfl trivial ?_
  have e20 : ∀ j, j ≠ 24 → va_up S19 24 (.inr (3, (os).set 7 (.int 0))) j = S19 j := fun j hj => u_ne hj
  have x20 : va_up S19 24 (.inr (3, (os).set 7 (.int 0))) 24 = .inr (3, (os).set 7 (.int 0)) := u_eq
  generalize va_up S19 24 (.inr (3, (os).set 7 (.int 0))) = S20 at e20 x20 ⊢
  have x19 := (e20 25 (by decide)).trans x19
  have k26 := (e20 26 (by decide)).trans k26
  have k27 := (e20 27 (by decide)).trans k27
  have k28 := (e20 28 (by decide)).trans k28
  have k29 := (e20 29 (by decide)).trans k29
  have k30 := (e20 30 (by decide)).trans k30
  have k31 := (e20 31 (by decide)).trans k31
  have fr : ∀ j, j < 24 ∨ 32 ≤ j → S20 j = S j := fun j hj => (e20 j (by omega)).trans (fr j hj)
  refine q_aload_n rfl rfl rfl ?_
  refine q_iconst rfl rfl ?_
  refine q_putf rfl rfl (by omega) x20 (List.getElem?_eq_some_iff.mp ((os_ne (by decide)).trans o8)).1 rfl trivial ?_
  have e21 : ∀ j, j ≠ 24 → va_up S20 24 (.inr (3, ((os).set 7 (.int 0)).set 8 (.int 0))) j = S20 j := fun j hj => u_ne hj
  have x21 : va_up S20 24 (.inr (3, ((os).set 7 (.int 0)).set 8 (.int 0))) 24 = .inr (3, ((os).set 7 (.int 0)).set 8 (.int 0)) := u_eq
  generalize va_up S20 24 (.inr (3, ((os).set 7 (.int 0)).set 8 (.int 0))) = S21 at e21 x21 ⊢
  have x19 := (e21 25 (by decide)).trans x19
  have k26 := (e21 26 (by decide)).trans k26
  have k27 := (e21 27 (by decide)).trans k27
  have k28 := (e21 28 (by decide)).trans k28
  have k29 := (e21 29 (by decide)).trans k29
  have k30 := (e21 30 (by decide)).trans k30
  have k31 := (e21 31 (by decide)).trans k31
  have fr : ∀ j, j < 24 ∨ 32 ≤ j → S21 j = S j := fun j hj => (e21 j (by omega)).trans (fr j hj)
  refine q_aload_n rfl rfl rfl ?_
  refine q_iconst rfl rfl ?_
  refine q_putf rfl rfl (by omega) x21 (List.getElem?_eq_some_iff.mp ((os_ne (by decide)).trans ((os_ne (by decide)).trans o9))).1 rfl trivial ?_
  have e22 : ∀ j, j ≠ 24 → va_up S21 24 (.inr (3, (((os).set 7 (.int 0)).set 8 (.int 0)).set 9 (.int 0))) j = S21 j := fun j hj => u_ne hj
  have x22 : va_up S21 24 (.inr (3, (((os).set 7 (.int 0)).set 8 (.int 0)).set 9 (.int 0))) 24 = .inr (3, (((os).set 7 (.int 0)).set 8 (.int 0)).set 9 (.int 0)) := u_eq
  generalize va_up S21 24 (.inr (3, (((os).set 7 (.int 0)).set 8 (.int 0)).set 9 (.int 0))) = S22 at e22 x22 ⊢
  have x19 := (e22 25 (by decide)).trans x19
  have k26 := (e22 26 (by decide)).trans k26
  have k27 := (e22 27 (by decide)).trans k27
  have k28 := (e22 28 (by decide)).trans k28
  have k29 := (e22 29 (by decide)).trans k29
  have k30 := (e22 30 (by decide)).trans k30
  have k31 := (e22 31 (by decide)).trans k31
  have fr : ∀ j, j < 24 ∨ 32 ≤ j → S22 j = S j := fun j hj => (e22 j (by omega)).trans (fr j hj)
  refine q_aload_n rfl rfl rfl ?_
  refine q_iconst rfl rfl ?_
  have H0 : LO S22 (fun _ => 0) (fun _ => 0) (fun _ => 0) (fun _ => 0) (fun _ => 0) (fun _ => false) (fun _ => false) 0 0 0 := ⟨_, _, _, _, _, _, _, _, x22, ((os_ne (by decide)).trans ((os_ne (by decide)).trans ((os_ne (by decide)).trans o0))), ((os_ne (by decide)).trans ((os_ne (by decide)).trans ((os_ne (by decide)).trans o1))), ((os_ne (by decide)).trans ((os_ne (by decide)).trans ((os_ne (by decide)).trans o2))), ((os_ne (by decide)).trans ((os_ne (by decide)).trans ((os_ne (by decide)).trans o3))), ((os_ne (by decide)).trans ((os_ne (by decide)).trans ((os_ne (by decide)).trans o4))), ((os_ne (by decide)).trans ((os_ne (by decide)).trans ((os_ne (by decide)).trans o5))), ((os_ne (by decide)).trans ((os_ne (by decide)).trans ((os_ne (by decide)).trans o6))), ((os_ne (by decide)).trans ((os_ne (by decide)).trans (os_at o7))), ((os_ne (by decide)).trans (os_at ((os_ne (by decide)).trans o8))), (os_at ((os_ne (by decide)).trans ((os_ne (by decide)).trans o9))), x19, k26, k27, k28, k29, k30, k31, fun j hj _ => (if_pos (by omega)).trans rfl, fun j _ a => absurd rfl a, fun j _ a => absurd rfl a, fun j _ a => absurd a (by omega), fun j _ a => absurd a (by omega), fun j _ a => absurd rfl a, fun j _ a => absurd rfl a⟩
  refine q_cV rfl rfl (Or.inl rfl) rfl rfl rfl rfl (by omega) x22 trivial rfl rfl rfl rfl rfl (c_arr (w := 0) hn H0 (by omega) (by omega) (by omega)) ?_
  rintro r V _ ⟨rfl, rfl, eV, hV⟩
  show PQ (j_SL L) (j_SV xs) j_EX mm_X5_find 28 [.ref 24, .ref 8, pm_un, pm_un, pm_un] [] V n 0 0 _
  refine q_sipush rfl rfl ?_
  refine q_ist2n rfl rfl rfl rfl ?_
  refine q_iconst rfl rfl ?_
  refine q_ist3n rfl rfl rfl rfl ?_
  exact loop 10000 0 1 1 1 _ _ _ _ _ _ _ V _ (by omega) (tk_0 hX) hV (frL_t fr eV) (fo_fr hF (frL_t fr eV))
theorem c_back (hn : 82 ≤ n) (hB : BK X S) (hX : xN X ≤ 2000) (hi : i < xN X) : PM (j_SL L) (j_SV xs) j_EX mm_X5_comesBack [.ref 24, .int (nI i)] S n (fun r S' n' => S = S' ∧ n = n' ∧ r = some (.int (b2 (bkE X i)))) := by
  obtain ⟨os, bf, k24, o6, k31, hb⟩ := hB
  change PQ (j_SL L) (j_SV xs) j_EX mm_X5_comesBack 0 [.ref 24, .int (nI i)] [] S n 0 0 _
  refine q_iload_n rfl rfl rfl ?_
  refine q_sipush rfl rfl ?_
  refine q_cS rfl rfl (Or.inr rfl) rfl rfl trivial rfl rfl rfl rfl rfl (c_wi) ?_
  rintro r _ _ ⟨rfl, rfl, hr⟩
  rcases hr with ⟨c, rfl⟩ | ⟨c, rfl⟩
  · exact (c_out c ⟨nI_p0 (by omega), (m_lt (b := 2000) (by omega) (by omega)).mpr (by omega)⟩).elim
  show PQ (j_SL L) (j_SV xs) j_EX mm_X5_comesBack 7 [.ref 24, .int (nI i)] [.int 1] S n 0 0 _
  refine q_ifeq rfl rfl (fun c => absurd c (by decide)) (fun _ => ?_)
  refine q_aload_n rfl rfl rfl ?_
  refine q_getf rfl rfl (by omega) k24 o6 ?_
  refine q_iload_n rfl rfl rfl ?_
  refine q_zald rfl rfl (by omega) k31 (q_inN (by omega) (by decide)) (q_tn (z := b2 (bkE X i)) (by rw [nI_clamp (by omega)]; exact hb i hi) ?_)
  cases bkE X i
  · refine q_ifeq rfl rfl (fun _ => ?_) (fun c => absurd rfl c)
    refine q_iconst rfl rfl ?_
    exact q_iret rfl rfl rfl ⟨rfl, rfl, rfl⟩
  · refine q_ifeq rfl rfl (fun c => absurd c (by decide)) (fun _ => ?_)
    refine q_iconst rfl rfl ?_
    refine q_goto rfl ?_
    exact q_iret rfl rfl rfl ⟨rfl, rfl, rfl⟩
end NC
