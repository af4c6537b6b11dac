/-! start, go, lead: class and reference -/
section KD
variable {θ : Th} {P : PG} {S S' : Nat → pm_E} {n : Nat} {fs : List Value} {x t : Int64} {a : Int32} {L : Nat} {xs : Nat → Int32}
theorem run_eq (hW : WFP P) (hx : WFD P 0 (e_D x)) (ht : WFD P 0 (e_D t)) : (∀ i, i < 20 → ra P (e_D x) i = ra P (e_D t) i) ↔ x = t := ⟨fun h => e_D_ext (ra_inj hW hx ht h), fun h => by rw [h]; exact fun _ _ => rfl⟩
/-- the class: the new run and the answer -/
def CP (Q : Int32 → Int64 → Prop) : q_K := fun r S' n' => ∃ (fs' : List Value) (t : Int64) (z : Int32), S' 0 = .inr (9, fs') ∧ fs'[11]? = some (.long t) ∧ r = some (.int z) ∧ Q z t
def mvQ (x t : Int64) (z : Int32) : Prop := (x = t ∧ z = 0) ∨ (x ≠ t ∧ z = 1)
theorem c_mrt (hn : 82 ≤ n) (k0 : S 0 = .inr (9, fs)) (f11 : fs[11]? = some (.long x)) : PM (j_SL L) (j_SV xs) j_EX mm_X11_movedRunTo [.ref 0, .long t] S n (CP (fun z t' => t' = t ∧ mvQ x t z)) := by
  change PQ (j_SL L) (j_SV xs) j_EX mm_X11_movedRunTo 0 [.ref 0, .long t, pm_un] [] S n 0 0 _
  refine q_aload_n rfl rfl rfl ?_
  refine q_getf rfl rfl (by omega) k0 f11 ?_
  refine q_lload_n rfl rfl rfl ?_
  refine q_lcmp rfl rfl ?_
  refine q_ifne rfl rfl (fun h => ?_) (fun h => ?_)
  · have e : x = t := lcmp_0.mp h
    refine q_iconst rfl rfl ?_
    exact q_iret rfl rfl trivial ⟨fs, x, _, k0, f11, rfl, e, Or.inl ⟨e, rfl⟩⟩
  · have e : x ≠ t := fun h9 => h (lcmp_0.mpr h9)
    refine q_aload_n rfl rfl rfl ?_
    refine q_lload_n rfl rfl rfl ?_
    refine q_putf rfl rfl (by omega) k0 (List.getElem?_eq_some_iff.mp f11).1 rfl trivial ?_
    refine q_iconst rfl rfl ?_
    exact q_iret rfl rfl trivial ⟨_, t, _, u_eq, List.getElem?_set_self (List.getElem?_eq_some_iff.mp f11).1, rfl, rfl, Or.inr ⟨e, rfl⟩⟩
def sQ (P : PG) (x : Int64) (z : Int32) (t : Int64) : Prop := e_D t = nrm (firD P) ∧ mvQ x t z
theorem c_start (hG : GS θ S n) (hZ : JZ P S) (k0 : S 0 = .inr (9, fs)) (f11 : fs[11]? = some (.long x)) : PM (j_SL L) (j_SV xs) j_EX mm_X11_start [.ref 0] S n (CP (sQ P x)) := by
  have hn := gs_n hG
  obtain ⟨gs0, k00, hf⟩ := gs_obj hG (k := 0) rfl
  have ef := (Prod.mk.inj (Sum.inr.inj (k0.symm.trans k00))).2
  subst ef
  have f0 : fs[0]? = some (.ref 1) := fo_ref (hf 0 _ rfl) rfl
  have f1 : fs[1]? = some (.ref 7) := fo_ref (hf 1 _ rfl) rfl
  have hjp := hZ.2.1.1
  have hjm := hZ.2.1.2.1
  have hjm' := hjm
  obtain ⟨ms, k7, -⟩ := hjm'
  change PQ (j_SL L) (j_SV xs) j_EX mm_X11_start 0 [.ref 0] [] S n 0 0 _
  refine q_aload_n rfl rfl rfl ?_
  refine q_aload_n rfl rfl rfl ?_
  refine q_getf rfl rfl (by omega) k0 f1 ?_
  refine q_cV rfl rfl (Or.inl rfl) rfl rfl rfl rfl (by omega) k7 trivial rfl rfl rfl rfl rfl (m_first hZ.1 (by omega) (by omega) hjp hjm (by decide)) ?_
  rintro r _ _ ⟨rfl, rfl, t, rfl, ht⟩
  show PQ (j_SL L) (j_SV xs) j_EX mm_X11_start 8 [.ref 0] [.long t, .ref 0] S n 0 0 _
  refine q_cV rfl rfl (Or.inl rfl) rfl rfl rfl rfl (by omega) k0 trivial rfl rfl rfl rfl rfl (c_mrt (t := t) hn k0 f11) ?_
  rintro r T n9 ⟨fs', t', z, k0', f11', rfl, rfl, hz⟩
  show PQ (j_SL L) (j_SV xs) j_EX mm_X11_start 11 [.ref 0] [.int z] T n9 0 0 _
  exact q_iret rfl rfl trivial ⟨fs', _, z, k0', f11', rfl, is_nrm ht, hz⟩
def gQ (P : PG) (x : Int64) (a : Int32) (z : Int32) (t : Int64) : Prop := (¬ (0 ≤ a ∧ a < nI (pH P)) ∧ t = x ∧ z = -1) ∨ ∃ X, X < pH P ∧ a = nI X ∧ ((¬ ableP P 0 (e_D x) X ∧ t = x ∧ z = 0) ∨ (ableP P 0 (e_D x) X ∧ e_is t (aftD P 0 (e_D x) X) ∧ z = 1))
theorem c_rcs {X : Nat} (hG : GS θ S n) (hZ : JZ P S) (k0 : S 0 = .inr (9, fs)) (f11 : fs[11]? = some (.long x)) (hX : X < pH P) : PM (j_SL L) (j_SV xs) j_EX mm_X11_runCanStep [.ref 0, .int (nI X)] S n (yn (ableP P 0 (e_D x) X) S n) := by
  have hn := gs_n hG
  obtain ⟨gs0, k00, hf⟩ := gs_obj hG (k := 0) rfl
  have ef := (Prod.mk.inj (Sum.inr.inj (k0.symm.trans k00))).2
  subst ef
  have f0 : fs[0]? = some (.ref 1) := fo_ref (hf 0 _ rfl) rfl
  have f1 : fs[1]? = some (.ref 7) := fo_ref (hf 1 _ rfl) rfl
  have hjp := hZ.2.1.1
  have hjm := hZ.2.1.2.1
  have hjm' := hjm
  obtain ⟨ms, k7, -⟩ := hjm'
  have h3 := hZ.1.2.1
  change PQ (j_SL L) (j_SV xs) j_EX mm_X11_runCanStep 0 [.ref 0, .int (nI X)] [] S n 0 0 _
  refine q_aload_n rfl rfl rfl ?_
  refine q_getf rfl rfl (by omega) k0 f1 ?_
  refine q_aload_n rfl rfl rfl ?_
  refine q_getf rfl rfl (by omega) k0 f11 ?_
  refine q_cV rfl rfl (Or.inl rfl) rfl rfl rfl rfl (by omega) k7 trivial rfl rfl rfl rfl rfl (m_ables hZ.1 (by omega) (by omega) hjp hjm (by decide)) ?_
  rintro r _ _ ⟨rfl, rfl, b, rfl, hb, hb0⟩
  show PQ (j_SL L) (j_SV xs) j_EX mm_X11_runCanStep 11 [.ref 0, .int (nI X)] [.int (nI (bm b))] S n 0 0 _
  refine q_iload_n rfl rfl rfl ?_
  refine q_iushr rfl rfl ?_
  refine q_iconst rfl rfl ?_
  refine q_iand rfl rfl (q_tn (z := if b X then 1 else 0) (bm_bit (by omega)) ?_)
  cases hbX : b X
  · refine q_ifeq rfl rfl (fun _ => ?_) (fun h => absurd rfl h)
    refine q_iconst rfl rfl ?_
    exact q_iret rfl rfl rfl ⟨rfl, rfl, Or.inr ⟨fun h => (by rw [(hb X hX).mpr h] at hbX; cases hbX), rfl⟩⟩
  · refine q_ifeq rfl rfl (fun h => absurd h (by decide)) (fun _ => ?_)
    refine q_iconst rfl rfl ?_
    refine q_goto rfl ?_
    exact q_iret rfl rfl rfl ⟨rfl, rfl, Or.inl ⟨(hb X hX).mp hbX, rfl⟩⟩
theorem c_go (hG : GS θ S n) (hZ : JZ P S) (k0 : S 0 = .inr (9, fs)) (f11 : fs[11]? = some (.long x)) (hD : WFD P 0 (e_D x)) : PM (j_SL L) (j_SV xs) j_EX mm_X11_go [.ref 0, .int a] S n (CP (gQ P x a)) := by
  have hn := gs_n hG
  obtain ⟨gs0, k00, hf⟩ := gs_obj hG (k := 0) rfl
  have ef := (Prod.mk.inj (Sum.inr.inj (k0.symm.trans k00))).2
  subst ef
  have f0 : fs[0]? = some (.ref 1) := fo_ref (hf 0 _ rfl) rfl
  have f1 : fs[1]? = some (.ref 7) := fo_ref (hf 1 _ rfl) rfl
  have hjp := hZ.2.1.1
  have hjm := hZ.2.1.2.1
  have hjm' := hjm
  obtain ⟨ms, k7, -⟩ := hjm'
  obtain ⟨fs1, k1, f10, -⟩ := p_obj hjp
  change PQ (j_SL L) (j_SV xs) j_EX mm_X11_go 0 [.ref 0, .int a] [] S n 0 0 _
  refine q_aload_n rfl rfl rfl ?_
  refine q_getf rfl rfl (by omega) k0 f0 ?_
  refine q_iload_n rfl rfl rfl ?_
  refine q_cV rfl rfl (Or.inl rfl) rfl rfl rfl rfl (by omega) k1 trivial rfl rfl rfl rfl rfl (c_hh hn k1 f10) ?_
  rintro r _ _ ⟨rfl, rfl, hr⟩
  rcases hr with ⟨q, rfl⟩ | ⟨q, rfl⟩
  · show PQ (j_SL L) (j_SV xs) j_EX mm_X11_go 8 [.ref 0, .int a] [.int 0] S n 0 0 _
    refine q_ifne rfl rfl (fun _ => ?_) (fun c => absurd rfl c)
    refine q_iconst rfl rfl ?_
    exact q_iret rfl rfl trivial ⟨fs, x, _, k0, f11, rfl, Or.inl ⟨q, rfl, rfl⟩⟩
  show PQ (j_SL L) (j_SV xs) j_EX mm_X11_go 8 [.ref 0, .int a] [.int 1] S n 0 0 _
  refine q_ifne rfl rfl (fun c => absurd c (by decide)) (fun _ => ?_)
  obtain ⟨X, hX, rfl⟩ := hnP hZ.1 q
  refine q_aload_n rfl rfl rfl ?_
  refine q_iload_n rfl rfl rfl ?_
  refine q_cV rfl rfl (Or.inl rfl) rfl rfl rfl rfl (by omega) k0 trivial rfl rfl rfl rfl rfl (c_rcs hG hZ k0 f11 hX) ?_
  rintro r _ _ ⟨rfl, rfl, hr⟩
  rcases hr with ⟨ha, rfl⟩ | ⟨ha, rfl⟩
  rotate_left
  · show PQ (j_SL L) (j_SV xs) j_EX mm_X11_go 18 [.ref 0, .int (nI X)] [.int 0] S n 0 0 _
    refine q_ifne rfl rfl (fun _ => ?_) (fun c => absurd rfl c)
    refine q_iconst rfl rfl ?_
    exact q_iret rfl rfl trivial ⟨fs, x, _, k0, f11, rfl, Or.inr ⟨X, hX, rfl, Or.inl ⟨ha, rfl, rfl⟩⟩⟩
  show PQ (j_SL L) (j_SV xs) j_EX mm_X11_go 18 [.ref 0, .int (nI X)] [.int 1] S n 0 0 _
  refine q_ifne rfl rfl (fun c => absurd c (by decide)) (fun _ => ?_)
  refine q_aload_n rfl rfl rfl ?_
  refine q_aload_n rfl rfl rfl ?_
  refine q_getf rfl rfl (by omega) k0 f1 ?_
  refine q_aload_n rfl rfl rfl ?_
  refine q_getf rfl rfl (by omega) k0 f11 ?_
  refine q_iload_n rfl rfl rfl ?_
  refine q_cV rfl rfl (Or.inl rfl) rfl rfl rfl rfl (by omega) k7 trivial rfl rfl rfl rfl rfl (m_after hZ.1 (by omega) (by omega) hjp hjm (by decide) hX ha.1 hD) ?_
  rintro r _ _ ⟨rfl, rfl, t, rfl, ht⟩
  show PQ (j_SL L) (j_SV xs) j_EX mm_X11_go 36 [.ref 0, .int (nI X)] [.long t, .ref 0] S n 0 0 _
  refine q_putf rfl rfl (by omega) k0 (List.getElem?_eq_some_iff.mp f11).1 rfl trivial ?_
  refine q_iconst rfl rfl ?_
  exact q_iret rfl rfl trivial ⟨_, t, _, u_eq, List.getElem?_set_self (List.getElem?_eq_some_iff.mp f11).1, rfl, Or.inr ⟨X, hX, rfl, Or.inr ⟨ha, ht, rfl⟩⟩⟩
def lQ (P : PG) (x : Int64) (a : Int32) (z : Int32) (t : Int64) : Prop := ∃ q, rfQ P a q ∧ ((q ≠ 0 ∧ t = x ∧ z = q) ∨ (q = 0 ∧ ∃ s, s < xN (xE P 0) ∧ a = nI s ∧ e_D t = xS (xE P 0) s ∧ mvQ x t z))
theorem c_ref0 (hG : GS θ S n) (hZ : JZ P S) : PM (j_SL L) (j_SV xs) j_EX mm_X11_refusalOf [.ref 0, .int a] S n (fun r S' n' => n = n' ∧ S' 0 = S 0 ∧ ∃ q : Int32, r = some (.int q) ∧ rfQ P a q ∧ (q = 0 → CSo P S')) := by
  have hn := gs_n hG
  refine pm_weak (pm_and (c_ref hG hZ) (q_kc w97 [a.toInt] hG ⟨rfl, ck_oku rfl rfl, trivial⟩ (ck_en_c (fullI a).1 (fullI a).2 ck_en_n) (fun d hd => by cases hd))) (fun r T m h => ?_)
  obtain ⟨⟨rfl, q, rfl, hq, hCS⟩, S2, e2, -, -, hF, -⟩ := h
  exact ⟨rfl, (hp_cell (by omega) e2).trans (hF 0 (by omega) rfl), q, rfl, hq, hCS⟩
theorem c_lead (hG : GS θ S n) (hZ : JZ P S) (k0 : S 0 = .inr (9, fs)) (f11 : fs[11]? = some (.long x)) : PM (j_SL L) (j_SV xs) j_EX mm_X11_lead [.ref 0, .int a] S n (CP (lQ P x a)) := by
  have hn := gs_n hG
  have hN := (xe_wx (k := 0) hZ.1).1.2.1
  change PQ (j_SL L) (j_SV xs) j_EX mm_X11_lead 0 [.ref 0, .int a, pm_un] [] S n 0 0 _
  refine q_aload_n rfl rfl rfl ?_
  refine q_iload_n rfl rfl rfl ?_
  refine q_cV rfl rfl (Or.inl rfl) rfl rfl rfl rfl (by omega) k0 trivial rfl rfl rfl rfl rfl (c_ref0 hG hZ) ?_
  rintro r T _ ⟨rfl, e0, q, rfl, hq, hCS⟩
  have y0 := e0.trans k0
  show PQ (j_SL L) (j_SV xs) j_EX mm_X11_lead 5 [.ref 0, .int a, pm_un] [.int q] T n 0 0 _
  refine q_ist2n rfl rfl rfl rfl ?_
  refine q_iload_n rfl rfl rfl ?_
  refine q_ifeq rfl rfl (fun e => ?_) (fun e => ?_)
  rotate_left
  · refine q_iload_n rfl rfl rfl ?_
    refine q_goto rfl ?_
    exact q_iret rfl rfl trivial ⟨fs, x, _, y0, f11, rfl, q, hq, Or.inl ⟨e, rfl, rfl⟩⟩
  obtain ⟨hp1, s, hs, rfl⟩ := rf_0 e hq
  obtain ⟨ts, os, fo, og, mv, so, fw, t0, u1, u2, t8, o0, o4, o5, o6, o7, o8, t9, t10, t11, t12, t13, hfo, hog, hso, hfw⟩ := hCS e
  refine q_aload_n rfl rfl rfl ?_
  refine q_aload_n rfl rfl rfl ?_
  refine q_getf rfl rfl (by omega) t0 u2 ?_
  refine q_iload_n rfl rfl rfl ?_
  refine q_cV rfl rfl (Or.inl rfl) rfl rfl rfl rfl (by omega) t8 trivial rfl rfl rfl rfl rfl (c_stAt hn t8 o0 o4 t9 hN hs) ?_
  rintro r _ _ ⟨rfl, rfl, rfl⟩
  show PQ (j_SL L) (j_SV xs) j_EX mm_X11_lead 23 [.ref 0, .int (nI s), .int q] [.long (fo s), .ref 0] T n 0 0 _
  refine q_cV rfl rfl (Or.inl rfl) rfl rfl rfl rfl (by omega) y0 trivial rfl rfl rfl rfl rfl (c_mrt (t := fo s) hn y0 f11) ?_
  rintro r V n9 ⟨fs', t', z, k0', f11', rfl, rfl, hz⟩
  show PQ (j_SL L) (j_SV xs) j_EX mm_X11_lead 26 [.ref 0, .int (nI s), .int q] [.int z] V n9 0 0 _
  exact q_iret rfl rfl trivial ⟨fs', _, z, k0', f11', rfl, q, hq, Or.inr ⟨e, s, hs, rfl, hfo s hs, hz⟩⟩
end KD
section KDR
variable {θ : Th} {P : PG} {S S' : Nat → pm_E} {n : Nat} {fs : List Value} {rn nw D : Nat → Int32} {a : Int32} {L : Nat} {xs : Nat → Int32}
def rwE (f g : Nat → Int32) : Prop := ∀ i, i < 20 → f i = g i
/-- the reference: the new run and the answer -/
def RP (Q : Int32 → (Nat → Int32) → Prop) : q_K := fun r S' n' => ∃ (rn' : Nat → Int32) (z : Int32), S' 54 = .inl (0, 20, .inl rn') ∧ r = some (.int z) ∧ Q z rn'
def mvR (rn f : Nat → Int32) (z : Int32) : Prop := (rwE rn f ∧ z = 0) ∨ (¬ rwE rn f ∧ z = 1)
theorem l_isRun (hn : 82 ≤ n) (k46 : S 46 = .inr (10, fs)) (f8 : fs[8]? = some (.ref 52)) (f10 : fs[10]? = some (.ref 54)) (k52 : S 52 = .inl (0, 20, .inl nw)) (k54 : S 54 = .inl (0, 20, .inl rn)) : PM (j_SL L) (j_SV xs) j_EX mm_X12_isRun [.ref 46] S n (yn (rwE rn nw) S n) := by
  change PQ (j_SL L) (j_SV xs) j_EX mm_X12_isRun 0 [.ref 46, pm_un, pm_un] [] S n 0 0 _
  have loop : ∀ q k : Nat, k + q = 20 → ∀ b : Int32, ((b = 1 ∧ ∀ i, i < k → rn i = nw i) ∨ (b = 0 ∧ ¬ rwE rn nw)) → PQ (j_SL L) (j_SV xs) j_EX mm_X12_isRun 4 [.ref 46, .int b, .int (nI k)] [] S n 0 0 (yn (rwE rn nw) S n) := by
    intro q
    induction q with
    | zero =>
      intro k hk b hb
      have e : k = 20 := by omega
      subst e
      refine q_iload_n rfl rfl rfl ?_
      refine q_bipush rfl rfl ?_
      refine q_icge rfl rfl (fun _ => ?_) (fun h => absurd (by decide) h)
      refine q_iload_n rfl rfl rfl ?_
      rcases hb with ⟨rfl, h⟩ | ⟨rfl, h⟩
      · exact q_iret rfl rfl rfl ⟨rfl, rfl, Or.inl ⟨h, rfl⟩⟩
      · exact q_iret rfl rfl rfl ⟨rfl, rfl, Or.inr ⟨h, rfl⟩⟩
    | succ q ih =>
      intro k hkq b hb
      refine q_iload_n rfl rfl rfl ?_
      refine q_bipush rfl rfl ?_
      refine q_icge rfl rfl (fun h => absurd h (nI_ge (a := k) (b := 20) (by omega) (by decide))) (fun _ => ?_)
      refine q_iload_n rfl rfl rfl ?_
      have go : ∀ b' b0 : Int32, ((b' = 1 ∧ ∀ i, i < k + 1 → rn i = nw i) ∨ (b' = 0 ∧ ¬ rwE rn nw)) → PQ (j_SL L) (j_SV xs) j_EX mm_X12_isRun 34 [.ref 46, .int b0, .int (nI k)] [.int b'] S n 0 0 (yn (rwE rn nw) S n) := by
        intro b' b0 h
        refine q_ist1n rfl rfl rfl rfl ?_
        refine q_inc2 rfl rfl rfl rfl ?_
        refine q_goto rfl ?_
        rw [show nI k + 1 = nI (k + 1) from nI_add k 1]
        exact ih (k + 1) (by omega) b' h
      rcases hb with ⟨rfl, h⟩ | ⟨rfl, h⟩
      · refine q_ifeq rfl rfl (fun c => absurd c (by decide)) (fun _ => ?_)
        refine q_aload_n rfl rfl rfl ?_
        refine q_getf rfl rfl (by omega) k46 f8 ?_
        refine q_iload_n rfl rfl rfl ?_
        refine q_iald rfl rfl (by omega) k52 (q_inN (by omega) (by decide)) (q_tn (z := nw k) (by rw [nI_clamp (by omega)]) ?_)
        refine q_aload_n rfl rfl rfl ?_
        refine q_getf rfl rfl (by omega) k46 f10 ?_
        refine q_iload_n rfl rfl rfl ?_
        refine q_iald rfl rfl (by omega) k54 (q_inN (by omega) (by decide)) (q_tn (z := rn k) (by rw [nI_clamp (by omega)]) ?_)
        refine q_icne rfl rfl (fun e => ?_) (fun e => ?_)
        · refine q_iconst rfl rfl ?_
          refine q_goto rfl ?_
          refine go 1 1 (Or.inl ⟨rfl, fun i hi => ?_⟩)
          rcases Nat.lt_or_eq_of_le (Nat.le_of_lt_succ hi) with c | c
          · exact h i c
          · rw [c]
            exact e.symm
        · refine q_iconst rfl rfl ?_
          exact go 0 1 (Or.inr ⟨rfl, fun h9 => e (h9 k (by omega)).symm⟩)
      · refine q_ifeq rfl rfl (fun _ => ?_) (fun c => absurd rfl c)
        refine q_iconst rfl rfl ?_
        exact go 0 0 (Or.inr ⟨rfl, h⟩)
  refine q_iconst rfl rfl ?_
  refine q_ist1n rfl rfl rfl rfl ?_
  refine q_iconst rfl rfl ?_
  refine q_ist2n rfl rfl rfl rfl ?_
  exact loop 20 0 rfl 1 (Or.inl ⟨rfl, fun i hi => absurd hi (by omega)⟩)
theorem l_settle (hn : 82 ≤ n) (k46 : S 46 = .inr (10, fs)) (f8 : fs[8]? = some (.ref 52)) (f10 : fs[10]? = some (.ref 54)) (k52 : S 52 = .inl (0, 20, .inl nw)) (k54 : S 54 = .inl (0, 20, .inl rn)) : PM (j_SL L) (j_SV xs) j_EX mm_X12_settle [.ref 46] S n (RP (fun z rn' => rwE rn' nw ∧ mvR rn nw z)) := by
  change PQ (j_SL L) (j_SV xs) j_EX mm_X12_settle 0 [.ref 46, pm_un] [] S n 0 0 _
  refine q_aload_n rfl rfl rfl ?_
  refine q_cV rfl rfl (Or.inl rfl) rfl rfl rfl rfl (by omega) k46 trivial rfl rfl rfl rfl rfl (l_isRun hn k46 f8 f10 k52 k54) ?_
  rintro r _ _ ⟨rfl, rfl, hr⟩
  rcases hr with ⟨h, rfl⟩ | ⟨h, rfl⟩
  · show PQ (j_SL L) (j_SV xs) j_EX mm_X12_settle 4 [.ref 46, pm_un] [.int 1] S n 0 0 _
    refine q_ifeq rfl rfl (fun c => absurd c (by decide)) (fun _ => ?_)
    refine q_iconst rfl rfl ?_
    exact q_iret rfl rfl trivial ⟨rn, _, k54, rfl, h, Or.inl ⟨h, rfl⟩⟩
  show PQ (j_SL L) (j_SV xs) j_EX mm_X12_settle 4 [.ref 46, pm_un] [.int 0] S n 0 0 _
  refine q_ifeq rfl rfl (fun _ => ?_) (fun c => absurd rfl c)
  have loop : ∀ q k : Nat, k + q = 20 → ∀ (T : Nat → pm_E) (r1 : Nat → Int32), (∀ j, j ≠ 54 → T j = S j) → T 54 = .inl (0, 20, .inl r1) → (∀ j, j < k → r1 j = nw j) → PQ (j_SL L) (j_SV xs) j_EX mm_X12_settle 11 [.ref 46, .int (nI k)] [] T n 0 0 (RP (fun z rn' => rwE rn' nw ∧ mvR rn nw z)) := by
    intro q
    induction q with
    | zero =>
      intro k hk T r1 eT t54 hs
      have e : k = 20 := by omega
      subst e
      refine q_iload_n rfl rfl rfl ?_
      refine q_bipush rfl rfl ?_
      refine q_icge rfl rfl (fun _ => ?_) (fun h => absurd (by decide) h)
      refine q_iconst rfl rfl ?_
      exact q_iret rfl rfl trivial ⟨r1, _, t54, rfl, hs, Or.inr ⟨h, rfl⟩⟩
    | succ q ih =>
      intro k hkq T r1 eT t54 hs
      have t46 := (eT 46 (by decide)).trans k46
      refine q_iload_n rfl rfl rfl ?_
      refine q_bipush rfl rfl ?_
      refine q_icge rfl rfl (fun h => absurd h (nI_ge (a := k) (b := 20) (by omega) (by decide))) (fun _ => ?_)
      refine q_aload_n rfl rfl rfl ?_
      refine q_getf rfl rfl (by omega) t46 f10 ?_
      refine q_iload_n rfl rfl rfl ?_
      refine q_aload_n rfl rfl rfl ?_
      refine q_getf rfl rfl (by omega) t46 f8 ?_
      refine q_iload_n rfl rfl rfl ?_
      refine q_iald rfl rfl (by omega) ((eT 52 (by decide)).trans k52) (q_inN (by omega) (by decide)) (q_tn (z := nw k) (by rw [nI_clamp (by omega)]) ?_)
      refine q_iast rfl rfl (by omega) t54 (q_inN (by omega) (by decide)) ?_
      refine q_inc1 rfl rfl rfl rfl ?_
      refine q_goto rfl ?_
      rw [nI_clamp (by omega), show nI k + 1 = nI (k + 1) from nI_add k 1]
      refine ih (k + 1) (by omega) _ _ (fun j hj => (u_ne hj).trans (eT j hj)) u_eq (fun j hj => ?_)
      by_cases e : j = k
      · rw [e, u32_at]
      · rw [u32_ot e]
        exact hs j (by omega)
  refine q_iconst rfl rfl ?_
  refine q_ist1n rfl rfl rfl rfl ?_
  exact loop 20 0 rfl S rn (fun _ _ => rfl) k54 (fun j hj => absurd hj (by omega))
/-- base is 0: the reference's program at 0 -/
theorem jrp_0 (h : JRp P fs S) (e : ∀ j, j ≠ 46 → S' j = S j) (x46 : S' 46 = .inr (10, fs.set 7 (.int 0))) : JR 0 P S' ∧ (∀ j, j ≠ 7 → (fs.set 7 (.int 0))[j]? = fs[j]?) := by
  obtain ⟨mn, fk, fa, fn, vl, w, z, k46, f1, f2, f3, f4, f5, f6, f7, f8, f9, f10, f11, f12, f13, f14, f15, f16, f17, f18, f19, f20, f21, k47, k48, k49, k50, k51, hmn, hpr, hvl⟩ := h
  have g : ∀ j, j ≠ 7 → (fs.set 7 (.int 0))[j]? = fs[j]? := fun j hj => os_ne (fun h => hj h.symm)
  exact ⟨⟨_, mn, fk, fa, fn, vl, x46, (g 1 (by decide)).trans f1, (g 2 (by decide)).trans f2, (g 3 (by decide)).trans f3, (g 4 (by decide)).trans f4, (g 5 (by decide)).trans f5, (g 6 (by decide)).trans f6, os_at f7, (g 8 (by decide)).trans f8, (g 9 (by decide)).trans f9, (g 10 (by decide)).trans f10, (e 47 (by decide)).trans k47, (e 48 (by decide)).trans k48, (e 49 (by decide)).trans k49, (e 50 (by decide)).trans k50, (e 51 (by decide)).trans k51, hmn, hpr, hvl⟩, g⟩
def sR (P : PG) (rn : Nat → Int32) (z : Int32) (rn' : Nat → Int32) : Prop := ∃ f : Nat → Int32, rwE f (ra P (nrm (firD P))) ∧ rwE rn' f ∧ mvR rn f z
theorem l_start (hG : GS θ S n) (hT : tie θ P) (hZ : JZ P S) (k54 : S 54 = .inl (0, 20, .inl rn)) : PM (j_SL L) (j_SV xs) j_EX mm_X12_start [.ref 46] S n (RP (sR P rn)) := by
  have hn := gs_n hG
  obtain ⟨fs, hp⟩ := gs_jrp hG hT hZ.1 hZ.2.2
  have hp' := hp
  obtain ⟨mn, fk, fa, fn, vl, w, z0, k46, f1, f2, f3, f4, f5, f6, f7, f8, f9, f10, -⟩ := hp'
  obtain ⟨nw, k52, -⟩ := gs_arr hG (k := 52) rfl
  change PQ (j_SL L) (j_SV xs) j_EX mm_X12_start 0 [.ref 46] [] S n 0 0 _
  refine q_aload_n rfl rfl rfl ?_
  refine q_iconst rfl rfl ?_
  refine q_putf rfl rfl (by omega) k46 (List.getElem?_eq_some_iff.mp f7).1 rfl trivial ?_
  have e1 : ∀ j, j ≠ 46 → va_up S 46 (.inr (10, fs.set 7 (.int 0))) j = S j := fun j hj => u_ne hj
  have x46 : va_up S 46 (.inr (10, fs.set 7 (.int 0))) 46 = .inr (10, fs.set 7 (.int 0)) := u_eq
  generalize va_up S 46 (.inr (10, fs.set 7 (.int 0))) = S1 at e1 x46 ⊢
  obtain ⟨hJR, g⟩ := jrp_0 hp e1 x46
  refine q_aload_n rfl rfl rfl ?_
  refine q_cV rfl rfl (Or.inl rfl) rfl rfl rfl rfl (by omega) x46 trivial rfl rfl rfl rfl rfl (r_first hZ.1 hn (by decide) hJR ((e1 52 (by decide)).trans k52)) ?_
  rintro r S2 _ ⟨rfl, rfl, e2, nw', y52, hrow⟩
  show PQ (j_SL L) (j_SV xs) j_EX mm_X12_start 9 [.ref 46] [] S2 n 0 0 _
  refine q_aload_n rfl rfl rfl ?_
  refine q_cV rfl rfl (Or.inl rfl) rfl rfl rfl rfl (by omega) ((e2 46 (by decide)).trans x46) trivial rfl rfl rfl rfl rfl (l_settle hn ((e2 46 (by decide)).trans x46) ((g 8 (by decide)).trans f8) ((g 10 (by decide)).trans f10) y52 ((e2 54 (by decide)).trans ((e1 54 (by decide)).trans k54))) ?_
  rintro r S3 n9 ⟨rn', z, h54, rfl, h1, h2⟩
  show PQ (j_SL L) (j_SV xs) j_EX mm_X12_start 13 [.ref 46] [.int z] S3 n9 0 0 _
  exact q_iret rfl rfl trivial ⟨rn', z, h54, rfl, nw', hrow, h1, h2⟩
theorem l_stand (hn : 82 ≤ n) (k46 : S 46 = .inr (10, fs)) (f7 : fs[7]? = some (.int a)) (f8 : fs[8]? = some (.ref 52)) (f10 : fs[10]? = some (.ref 54)) (k52 : S 52 = .inl (0, 20, .inl nw)) (k54 : S 54 = .inl (0, 20, .inl rn)) : PM (j_SL L) (j_SV xs) j_EX mm_X12_stand [.ref 46] S n (fun r S' n' => r = none ∧ n = n' ∧ (∀ j, j ≠ 46 → j ≠ 52 → S' j = S j) ∧ S' 46 = .inr (10, fs.set 7 (.int 0)) ∧ ∃ nw' : Nat → Int32, S' 52 = .inl (0, 20, .inl nw') ∧ rwE nw' rn) := by
  change PQ (j_SL L) (j_SV xs) j_EX mm_X12_stand 0 [.ref 46, pm_un] [] S n 0 0 _
  refine q_aload_n rfl rfl rfl ?_
  refine q_iconst rfl rfl ?_
  refine q_putf rfl rfl (by omega) k46 (List.getElem?_eq_some_iff.mp f7).1 rfl trivial ?_
  have g : ∀ j, j ≠ 7 → (fs.set 7 (.int 0))[j]? = fs[j]? := fun j hj => os_ne (fun h => hj h.symm)
  have loop : ∀ q k : Nat, k + q = 20 → ∀ (T : Nat → pm_E) (n1 : Nat → Int32), (∀ j, j ≠ 46 → j ≠ 52 → T j = S j) → T 46 = .inr (10, fs.set 7 (.int 0)) → T 52 = .inl (0, 20, .inl n1) → (∀ j, j < k → n1 j = rn j) → PQ (j_SL L) (j_SV xs) j_EX mm_X12_stand 7 [.ref 46, .int (nI k)] [] T n 0 0 (fun r S' n' => r = none ∧ n = n' ∧ (∀ j, j ≠ 46 → j ≠ 52 → S' j = S j) ∧ S' 46 = .inr (10, fs.set 7 (.int 0)) ∧ ∃ nw' : Nat → Int32, S' 52 = .inl (0, 20, .inl nw') ∧ rwE nw' rn) := by
    intro q
    induction q with
    | zero =>
      intro k hk T n1 eT t46 t52 hs
      have e : k = 20 := by omega
      subst e
      refine q_iload_n rfl rfl rfl ?_
      refine q_bipush rfl rfl ?_
      refine q_icge rfl rfl (fun _ => ?_) (fun h => absurd (by decide) h)
      exact q_ret rfl rfl ⟨rfl, rfl, eT, t46, n1, t52, hs⟩
    | succ q ih =>
      intro k hkq T n1 eT t46 t52 hs
      refine q_iload_n rfl rfl rfl ?_
      refine q_bipush rfl rfl ?_
      refine q_icge rfl rfl (fun h => absurd h (nI_ge (a := k) (b := 20) (by omega) (by decide))) (fun _ => ?_)
      refine q_aload_n rfl rfl rfl ?_
      refine q_getf rfl rfl (by omega) t46 ((g 8 (by decide)).trans f8) ?_
      refine q_iload_n rfl rfl rfl ?_
      refine q_aload_n rfl rfl rfl ?_
      refine q_getf rfl rfl (by omega) t46 ((g 10 (by decide)).trans f10) ?_
      refine q_iload_n rfl rfl rfl ?_
      refine q_iald rfl rfl (by omega) ((eT 54 (by decide) (by decide)).trans k54) (q_inN (by omega) (by decide)) (q_tn (z := rn k) (by rw [nI_clamp (by omega)]) ?_)
      refine q_iast rfl rfl (by omega) t52 (q_inN (by omega) (by decide)) ?_
      refine q_inc1 rfl rfl rfl rfl ?_
      refine q_goto rfl ?_
      rw [nI_clamp (by omega), show nI k + 1 = nI (k + 1) from nI_add k 1]
      refine ih (k + 1) (by omega) _ _ (fun j h1 h2 => (u_ne h2).trans (eT j h1 h2)) ((u_ne (by decide)).trans t46) u_eq (fun j hj => ?_)
      by_cases e : j = k
      · rw [e, u32_at]
      · rw [u32_ot e]
        exact hs j (by omega)
  refine q_iconst rfl rfl ?_
  refine q_ist1n rfl rfl rfl rfl ?_
  exact loop 20 0 rfl _ nw (fun j h1 _ => u_ne h1) u_eq ((u_ne (by decide)).trans k52) (fun j hj => absurd hj (by omega))
def gR (P : PG) (D : Nat → Nat) (rn : Nat → Int32) (a : Int32) (z : Int32) (rn' : Nat → Int32) : Prop := (¬ (0 ≤ a ∧ a < nI (pH P)) ∧ rwE rn' rn ∧ z = -1) ∨ ∃ X, X < pH P ∧ a = nI X ∧ ((¬ ableP P 0 D X ∧ rwE rn' rn ∧ z = 0) ∨ (ableP P 0 D X ∧ rwE rn' (ra P (aftD P 0 D X)) ∧ z = 1))
set_option maxHeartbeats 4000000 in
theorem l_go {D : Nat → Nat} (hG : GS θ S n) (hT : tie θ P) (hZ : JZ P S) (k54 : S 54 = .inl (0, 20, .inl rn)) (hD : WFD P 0 D) (hrn : rwE rn (ra P D)) : PM (j_SL L) (j_SV xs) j_EX mm_X12_go [.ref 46, .int a] S n (RP (gR P D rn a)) := by
  have hn := gs_n hG
  obtain ⟨fs, hp⟩ := gs_jrp hG hT hZ.1 hZ.2.2
  have hp' := hp
  obtain ⟨mn, fk, fa, fn, vl, w, z0, k46, f1, f2, f3, f4, f5, f6, f7, f8, f9, f10, -⟩ := hp'
  obtain ⟨nw, k52, -⟩ := gs_arr hG (k := 52) rfl
  obtain ⟨nx0, k53, -⟩ := gs_arr hG (k := 53) rfl
  have h3 := hZ.1.2.1
  have h1 := hZ.1.1
  change PQ (j_SL L) (j_SV xs) j_EX mm_X12_go 0 [.ref 46, .int a, pm_un] [] S n 0 0 _
  refine q_aload_n rfl rfl rfl ?_
  refine q_iload_n rfl rfl rfl ?_
  refine q_cV rfl rfl (Or.inl rfl) rfl rfl rfl rfl (by omega) k46 trivial rfl rfl rfl rfl rfl (l_isHand hn k46 f1) ?_
  rintro r S1 n1 ⟨ea, eb, hr⟩
  obtain rfl := ea.symm
  obtain rfl := eb.symm
  have hpred : (nI (pH P) - 1).toInt = (pH P : Int) - 1 := m_sub (by omega)
  have hiff : inP a 0 (nI (pH P) - 1) ↔ (0 ≤ a ∧ a < nI (pH P)) := inw (by rw [hpred, nI_toInt (by omega)]; omega)
  rcases hr with ⟨q, rfl⟩ | ⟨q, rfl⟩
  · show PQ (j_SL L) (j_SV xs) j_EX mm_X12_go 5 [.ref 46, .int a, pm_un] [.int 0] S n 0 0 _
    refine q_ifne rfl rfl (fun _ => ?_) (fun c => absurd rfl c)
    refine q_iconst rfl rfl ?_
    exact q_iret rfl rfl trivial ⟨rn, _, k54, rfl, Or.inl ⟨fun h => q (hiff.mpr h), fun _ _ => rfl, rfl⟩⟩
  show PQ (j_SL L) (j_SV xs) j_EX mm_X12_go 5 [.ref 46, .int a, pm_un] [.int 1] S n 0 0 _
  refine q_ifne rfl rfl (fun c => absurd c (by decide)) (fun _ => ?_)
  obtain ⟨X, hX, rfl⟩ := hnP hZ.1 (hiff.mp q)
  refine q_aload_n rfl rfl rfl ?_
  refine q_cV rfl rfl (Or.inl rfl) rfl rfl rfl rfl (by omega) k46 trivial rfl rfl rfl rfl rfl (l_stand hn k46 f7 f8 f10 k52 k54) ?_
  rintro r S1 _ ⟨rfl, rfl, e1, x46, nw', y52, hnw⟩
  show PQ (j_SL L) (j_SV xs) j_EX mm_X12_go 14 [.ref 46, .int (nI X), pm_un] [] S1 n 0 0 _
  have hJ1 : JR 0 P S1 ∧ (∀ j, j ≠ 7 → (fs.set 7 (.int 0))[j]? = fs[j]?) := by
    obtain ⟨mn, fk, fa, fn, vl, w, z0, k46, f1, f2, f3, f4, f5, f6, f7, f8, f9, f10, f11, f12, f13, f14, f15, f16, f17, f18, f19, f20, f21, k47, k48, k49, k50, k51, hmn, hpr, hvl⟩ := hp
    have g : ∀ j, j ≠ 7 → (fs.set 7 (.int 0))[j]? = fs[j]? := fun j hj => os_ne (fun h => hj h.symm)
    exact ⟨⟨_, mn, fk, fa, fn, vl, x46, (g 1 (by decide)).trans f1, (g 2 (by decide)).trans f2, (g 3 (by decide)).trans f3, (g 4 (by decide)).trans f4, (g 5 (by decide)).trans f5, (g 6 (by decide)).trans f6, os_at f7, (g 8 (by decide)).trans f8, (g 9 (by decide)).trans f9, (g 10 (by decide)).trans f10, (e1 47 (by decide) (by decide)).trans k47, (e1 48 (by decide) (by decide)).trans k48, (e1 49 (by decide) (by decide)).trans k49, (e1 50 (by decide) (by decide)).trans k50, (e1 51 (by decide) (by decide)).trans k51, hmn, hpr, hvl⟩, g⟩
  obtain ⟨hJR, g⟩ := hJ1
  have hnD : ∀ i, i < 20 → nw' i = ra P D i := fun i hi => (hnw i hi).trans (hrn i hi)
  have y54 := (e1 54 (by decide) (by decide)).trans k54
  have y53 := (e1 53 (by decide) (by decide)).trans k53
  refine q_aload_n rfl rfl rfl ?_
  refine q_iload_n rfl rfl rfl ?_
  refine q_iconst rfl rfl ?_
  refine q_cV rfl rfl (Or.inl rfl) rfl rfl rfl rfl (by omega) x46 trivial rfl rfl rfl rfl rfl (l_can (pic := 0) hZ.1 hn (by decide) hJR y52 hnD hD (by decide) hX) ?_
  rintro r _ _ ⟨rfl, rfl, hr⟩
  rcases hr with ⟨ha, rfl⟩ | ⟨ha, rfl⟩
  rotate_left
  · show PQ (j_SL L) (j_SV xs) j_EX mm_X12_go 20 [.ref 46, .int (nI X), pm_un] [.int 0] S1 n 0 0 _
    refine q_ifne rfl rfl (fun _ => ?_) (fun c => absurd rfl c)
    refine q_iconst rfl rfl ?_
    exact q_iret rfl rfl trivial ⟨rn, _, y54, rfl, Or.inr ⟨X, hX, rfl, Or.inl ⟨ha, fun _ _ => rfl, rfl⟩⟩⟩
  show PQ (j_SL L) (j_SV xs) j_EX mm_X12_go 20 [.ref 46, .int (nI X), pm_un] [.int 1] S1 n 0 0 _
  refine q_ifne rfl rfl (fun c => absurd c (by decide)) (fun _ => ?_)
  refine q_aload_n rfl rfl rfl ?_
  refine q_iload_n rfl rfl rfl ?_
  refine q_iconst rfl rfl ?_
  refine q_cV rfl rfl (Or.inl rfl) rfl rfl rfl rfl (by omega) x46 trivial rfl rfl rfl rfl rfl (l_step (pic := 0) hZ.1 hn (by decide) hJR y52 hnD y53 hD (by decide) hX ha) ?_
  rintro r S2 _ ⟨rfl, rfl, e2, nx', z53, hnx⟩
  show PQ (j_SL L) (j_SV xs) j_EX mm_X12_go 31 [.ref 46, .int (nI X), pm_un] [] S2 n 0 0 _
  have z46 := (e2 46 (by decide)).trans x46
  have emk : mkD 0 (aftD P 0 D X) X = aftD P 0 D X := if_neg (by omega)
  rw [emk] at hnx
  have loop : ∀ q k : Nat, k + q = 20 → ∀ (T : Nat → pm_E) (r1 : Nat → Int32), (∀ j, j ≠ 54 → T j = S2 j) → T 54 = .inl (0, 20, .inl r1) → (∀ j, j < k → r1 j = nx' j) → PQ (j_SL L) (j_SV xs) j_EX mm_X12_go 33 [.ref 46, .int (nI X), .int (nI k)] [] T n 0 0 (RP (gR P D rn (nI X))) := by
    intro q
    induction q with
    | zero =>
      intro k hk T r1 eT t54 hs
      have e : k = 20 := by omega
      subst e
      refine q_iload_n rfl rfl rfl ?_
      refine q_bipush rfl rfl ?_
      refine q_icge rfl rfl (fun _ => ?_) (fun h => absurd (by decide) h)
      refine q_iconst rfl rfl ?_
      exact q_iret rfl rfl trivial ⟨r1, _, t54, rfl, Or.inr ⟨X, hX, rfl, Or.inr ⟨ha, fun i hi => (hs i hi).trans (hnx i hi), rfl⟩⟩⟩
    | succ q ih =>
      intro k hkq T r1 eT t54 hs
      have t46 := (eT 46 (by decide)).trans z46
      refine q_iload_n rfl rfl rfl ?_
      refine q_bipush rfl rfl ?_
      refine q_icge rfl rfl (fun h => absurd h (nI_ge (a := k) (b := 20) (by omega) (by decide))) (fun _ => ?_)
      refine q_aload_n rfl rfl rfl ?_
      refine q_getf rfl rfl (by omega) t46 ((g 10 (by decide)).trans f10) ?_
      refine q_iload_n rfl rfl rfl ?_
      refine q_aload_n rfl rfl rfl ?_
      refine q_getf rfl rfl (by omega) t46 ((g 9 (by decide)).trans f9) ?_
      refine q_iload_n rfl rfl rfl ?_
      refine q_iald rfl rfl (by omega) ((eT 53 (by decide)).trans z53) (q_inN (by omega) (by decide)) (q_tn (z := nx' k) (by rw [nI_clamp (by omega)]) ?_)
      refine q_iast rfl rfl (by omega) t54 (q_inN (by omega) (by decide)) ?_
      refine q_inc2 rfl rfl rfl rfl ?_
      refine q_goto rfl ?_
      rw [nI_clamp (by omega), show nI k + 1 = nI (k + 1) from nI_add k 1]
      refine ih (k + 1) (by omega) _ _ (fun j hj => (u_ne hj).trans (eT j hj)) u_eq (fun j hj => ?_)
      by_cases e : j = k
      · rw [e, u32_at]
      · rw [u32_ot e]
        exact hs j (by omega)
  refine q_iconst rfl rfl ?_
  refine q_ist2n rfl rfl rfl rfl ?_
  exact loop 20 0 rfl S2 rn (fun _ _ => rfl) ((e2 54 (by decide)).trans y54) (fun j hj => absurd hj (by omega))
def lR (P : PG) (rn : Nat → Int32) (a : Int32) (z : Int32) (rn' : Nat → Int32) : Prop := ∃ q, rfQ P a q ∧ ((q ≠ 0 ∧ rwE rn' rn ∧ z = q) ∨ (q = 0 ∧ ∃ s f, s < xN (xE P 0) ∧ a = nI s ∧ rwE f (ra P (xS (xE P 0) s)) ∧ rwE rn' f ∧ mvR rn f z))
theorem l_lacks0 {x : Int32} (hG : GS θ S n) (hT : tie θ P) (hZ : JZ P S) (k54 : S 54 = .inl (0, 20, .inl rn)) : PM (j_SL L) (j_SV xs) j_EX mm_X12_lacks [.ref 46, .int x] S n (fun r S' n' => n = n' ∧ S' 54 = S 54 ∧ GS θ S' n ∧ JZ P S' ∧ ∃ q : Int32, r = some (.int q) ∧ rfQ P x q ∧ (q = 0 → RSo P S')) := by
  have hn := gs_n hG
  refine pm_weak (pm_and (l_lacks hG hT hZ) (q_kc w207 [x.toInt] hG ⟨rfl, ck_oku rfl rfl, trivial⟩ (ck_en_c (fullI x).1 (fullI x).2 ck_en_n) (fun d hd => by cases hd))) (fun r T m h => ?_)
  obtain ⟨⟨rfl, g1, z1, q, rfl, hq, hRS⟩, S2, e2, -, -, hF, -⟩ := h
  exact ⟨rfl, (hp_cell (by omega) e2).trans (hF 54 (by omega) rfl), g1, z1, q, rfl, hq, hRS⟩
set_option maxHeartbeats 4000000 in
theorem l_lead (hG : GS θ S n) (hT : tie θ P) (hZ : JZ P S) (k54 : S 54 = .inl (0, 20, .inl rn)) : PM (j_SL L) (j_SV xs) j_EX mm_X12_lead [.ref 46, .int a] S n (RP (lR P rn a)) := by
  have hn := gs_n hG
  obtain ⟨fs, k46, -⟩ := gs_obj hG (k := 46) rfl
  change PQ (j_SL L) (j_SV xs) j_EX mm_X12_lead 0 [.ref 46, .int a] [] S n 0 0 _
  refine q_aload_n rfl rfl rfl ?_
  refine q_iload_n rfl rfl rfl ?_
  refine q_cV rfl rfl (Or.inl rfl) rfl rfl rfl rfl (by omega) k46 trivial rfl rfl rfl rfl rfl (l_lacks0 hG hT hZ k54) ?_
  rintro r T _ ⟨rfl, e54, gT, zT, q, rfl, hq, hRS⟩
  obtain ⟨fs1, k1, -⟩ := gs_obj gT (k := 46) rfl
  have y54 := e54.trans k54
  show PQ (j_SL L) (j_SV xs) j_EX mm_X12_lead 5 [.ref 46, .int a] [.int q] T n 0 0 _
  refine q_ifeq rfl rfl (fun e => ?_) (fun e => ?_)
  rotate_left
  · refine q_aload_n rfl rfl rfl ?_
    refine q_iload_n rfl rfl rfl ?_
    refine q_cV rfl rfl (Or.inl rfl) rfl rfl rfl rfl (by omega) k1 trivial rfl rfl rfl rfl rfl (l_lacks0 gT hT zT y54) ?_
    rintro r V _ ⟨rfl, e54', gV, zV, q', rfl, hq', -⟩
    show PQ (j_SL L) (j_SV xs) j_EX mm_X12_lead 13 [.ref 46, .int a] [.int q'] V n 0 0 _
    exact q_iret rfl rfl trivial ⟨rn, _, e54'.trans y54, rfl, q', hq', Or.inl ⟨by rw [rf_fn hZ.1 hq' hq]; exact e, fun _ _ => rfl, rfl⟩⟩
  obtain ⟨hp1, s, hs, rfl⟩ := rf_0 e hq
  refine q_aload_n rfl rfl rfl ?_
  refine q_iconst rfl rfl ?_
  refine q_iload_n rfl rfl rfl ?_
  refine q_cV rfl rfl (Or.inl rfl) rfl rfl rfl rfl (by omega) k1 trivial rfl rfl rfl rfl rfl (l_std hZ.1 hn (hRS e) hs) ?_
  rintro r V _ ⟨rfl, rfl, eV, hV, nw, v52, hnw⟩
  show PQ (j_SL L) (j_SV xs) j_EX mm_X12_lead 20 [.ref 46, .int (nI s)] [] V n 0 0 _
  obtain ⟨st, cf, cb, ch, sp, ct, nt, nx, nw0, ⟨gs, u46, g8, -⟩, t52, hJ, h1, h2, h3⟩ := hV
  obtain ⟨gs2, mn, fk, fa, fn, vl, w46, -, -, -, -, -, -, -, -, -, g10, -⟩ := hJ
  have eg := (Prod.mk.inj (Sum.inr.inj (u46.symm.trans w46))).2
  subst eg
  refine q_aload_n rfl rfl rfl ?_
  refine q_cV rfl rfl (Or.inl rfl) rfl rfl rfl rfl (by omega) u46 trivial rfl rfl rfl rfl rfl (l_settle hn u46 g8 g10 v52 ((eV 54 (by decide)).trans y54)) ?_
  rintro r W n9 ⟨rn', z, h54, rfl, hA, hB⟩
  show PQ (j_SL L) (j_SV xs) j_EX mm_X12_lead 24 [.ref 46, .int (nI s)] [.int z] W n9 0 0 _
  exact q_iret rfl rfl trivial ⟨rn', z, h54, rfl, q, hq, Or.inr ⟨e, s, nw, hs, rfl, hnw, hA, hB⟩⟩
end KDR
