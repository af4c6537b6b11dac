/-! what stands between the calls of the class: the pictures gone through -/
section GG
variable {L : Nat} {xs : Nat → Int32} {S S' S'' : Nat → pm_E} {n k oc N sp : Nat} {P : PG} {sl : Int32} {en : Int64} {fo : Nat → Int64} {og mv so fw tb ce : Nat → Int32} {X : XT}
def OJ (oc : Nat) (S : Nat → pm_E) : Prop := ∃ (os : List Value) (N : Nat) (fo : Nat → Int64) (tb ce : Nat → Int32), S oc = .inr (5, os) ∧ os[0]? = some (.int (nI N)) ∧ N ≤ 2000 ∧ S (oc + 1) = .inl (1, 2000, .inr (.inl fo)) ∧ S (oc + 6) = .inl (0, 4096, .inl tb) ∧ S (oc + 7) = .inl (0, 2000, .inl ce) ∧ HTb N fo tb ce
def enOK (P : PG) (k : Nat) (e : Int64) : Prop := ∀ q, q < 64 → (e_bt e q = true ↔ ∃ j, j < xN (xE P k) ∧ srt P k (xS (xE P k) j) = 1 ∧ enP (xS (xE P k) j) 4 q)
noncomputable def szR (P : PG) (k : Nat) : Int32 := match xP (xE P k) with
  | true => -5
  | false => nI (xN (xE P k))
def SZ (P : PG) (sz : Nat → Int32) (en : Nat → Int64) : Prop := ∀ k, k < 5 → sz k = 0 ∨ (sz k = szR P k ∧ (xP (xE P k) = false → enOK P k (en k)))
/-- the true picture gone through -/
def TJ (P : PG) (S : Nat → pm_E) : Prop := ∃ (sl : Int32) (en : Int64) (so : Nat → Int32), OX 8 (xE P 0) (3 * xN (xE P 0)) sl en so S ∧ RW P 0 (xE P 0) (xN (xE P 0)) sl en so
def CJ (P : PG) (S : Nat → pm_E) : Prop := JPc 1 P S ∧ JMc 7 1 0 S ∧ OJ 8 S ∧ OJ 16 S ∧ ∃ (sz : Nat → Int32) (en : Nat → Int64), S 44 = .inl (0, 5, .inl sz) ∧ S 45 = .inl (1, 5, .inr (.inl en)) ∧ SZ P sz en ∧ (sz 0 ≠ 0 → xP (xE P 0) = false → TJ P S)
theorem xe_wx (hW : WFP P) : WX P k (xE P k) ∧ xPN (xE P k) := by
  rw [xE_d]
  exact wx_all hW 2000
theorem szR_t (h : xP (xE P k) = true) : szR P k = -5 := by
  unfold szR
  rw [h]
theorem szR_f (h : xP (xE P k) = false) : szR P k = nI (xN (xE P k)) := by
  unfold szR
  rw [h]
theorem szR_n (hW : WFP P) : szR P k ≠ 0 := by
  have h := (xe_wx (k := k) hW).1
  cases hp : xP (xE P k)
  · rw [szR_f hp]
    intro e
    have := (m_eq (b := 0) (by have := h.2.1; omega) (by decide)).mp e
    have := h.1
    omega
  · rw [szR_t hp]
    decide
theorem OCo_same (h : OCo oc N sp sl en fo og mv so fw tb ce S) (e : ∀ k, oc ≤ k → k < oc + 8 → S' k = S k) : OCo oc N sp sl en fo og mv so fw tb ce S' := by
  obtain ⟨os, k0, o0, o1, o2, o3, o4, o5, o6, o7, o8, o9, o10, k1, k2, k3, k4, k5, k6, k7⟩ := h
  exact ⟨os, (e _ (by omega) (by omega)).trans k0, o0, o1, o2, o3, o4, o5, o6, o7, o8, o9, o10, (e _ (by omega) (by omega)).trans k1, (e _ (by omega) (by omega)).trans k2, (e _ (by omega) (by omega)).trans k3, (e _ (by omega) (by omega)).trans k4, (e _ (by omega) (by omega)).trans k5, (e _ (by omega) (by omega)).trans k6, (e _ (by omega) (by omega)).trans k7⟩
theorem OX_same (h : OX oc X k sl en so S) (e : ∀ k, oc ≤ k → k < oc + 8 → S' k = S k) : OX oc X k sl en so S' := by
  obtain ⟨fo, og, mv, fw, tb, ce, h1, h2⟩ := h
  exact ⟨fo, og, mv, fw, tb, ce, OCo_same h1 e, h2⟩
theorem TJ_same (h : TJ P S) (e : ∀ k, 8 ≤ k → k < 16 → S' k = S k) : TJ P S' := by
  obtain ⟨sl, en, so, h1, h2⟩ := h
  exact ⟨sl, en, so, OX_same h1 (fun k h3 h4 => e k h3 (by omega)), h2⟩
theorem OJ_of (h : OCo oc N sp sl en fo og mv so fw tb ce S) (hN : N ≤ 2000) (hT : HTb N fo tb ce) : OJ oc S := by
  obtain ⟨os, k0, o0, o1, o2, o3, o4, o5, o6, o7, o8, o9, o10, k1, k2, k3, k4, k5, k6, k7⟩ := h
  exact ⟨os, N, fo, tb, ce, k0, o0, hN, k1, k6, k7, hT⟩
theorem OJ_same (h : OJ oc S) (e : ∀ k, oc ≤ k → k < oc + 8 → S' k = S k) : OJ oc S' := by
  obtain ⟨os, N, fo, tb, ce, k0, o0, hN, k1, k6, k7, hT⟩ := h
  exact ⟨os, N, fo, tb, ce, (e _ (by omega) (by omega)).trans k0, o0, hN, (e _ (by omega) (by omega)).trans k1, (e _ (by omega) (by omega)).trans k6, (e _ (by omega) (by omega)).trans k7, hT⟩
/-- the object's own fields -/
def TSo (S : Nat → pm_E) : Prop := ∃ ts : List Value, S 0 = .inr (9, ts) ∧ ts[1]? = some (.ref 7) ∧ ts[2]? = some (.ref 8) ∧ ts[3]? = some (.ref 16) ∧ ts[8]? = some (.ref 44) ∧ ts[9]? = some (.ref 45)
def frZ (S S' : Nat → pm_E) : Prop := ∀ j, j ≠ 7 → j < 8 ∨ 24 ≤ j → j ≠ 44 → j ≠ 45 → S' j = S j
def szK (P : PG) (k : Nat) (S : Nat → pm_E) (n : Nat) : q_K := fun r S' n' => n = n' ∧ r = some (.int (szR P k)) ∧ CJ P S' ∧ frZ S S' ∧ ∃ sz' : Nat → Int32, S' 44 = .inl (0, 5, .inl sz') ∧ sz' k ≠ 0
def OAll (oc : Nat) (S : Nat → pm_E) : Prop := ∃ (N sp : Nat) (sl : Int32) (en : Int64) (fo : Nat → Int64) (og mv so fw tb ce : Nat → Int32), OCo oc N sp sl en fo og mv so fw tb ce S ∧ N ≤ 2000 ∧ HTb N fo tb ce
set_option maxHeartbeats 8000000 in
theorem c_size (hW : WFP P) (hn : 82 ≤ n) (hk : k < 5) (h0 : TSo S) (hA8 : OAll 8 S) (hA16 : OAll 16 S) (hC : CJ P S) : PM (j_SL L) (j_SV xs) j_EX mm_X11_sizeOf [.ref 0, .int (nI k)] S n (szK P k S n) := by
  obtain ⟨ts, k0, t1, t2, t3, t8, t9⟩ := h0
  have hC0 := hC
  obtain ⟨hj, ⟨gs, k7, g0, g1⟩, hO8, hO16, sz, ed, k44, k45, hS, hTJ⟩ := hC
  change PQ (j_SL L) (j_SV xs) j_EX mm_X11_sizeOf 0 [.ref 0, .int (nI k), pm_un] [] S n 0 0 _
  refine q_aload_n rfl rfl rfl ?_
  refine q_getf rfl rfl (by omega) k0 t8 ?_
  refine q_iload_n rfl rfl rfl ?_
  refine q_iald rfl rfl (by omega) k44 (q_inN (by omega) (by decide)) (q_tn (z := sz k) (by rw [nI_clamp (by omega)]) ?_)
  refine q_ifne rfl rfl (fun hz => ?_) (fun hz => ?_)
  rotate_left
  · have hv := (hS k hk).resolve_left hz
    refine q_aload_n rfl rfl rfl ?_
    refine q_getf rfl rfl (by omega) k0 t8 ?_
    refine q_iload_n rfl rfl rfl ?_
    refine q_iald rfl rfl (by omega) k44 (q_inN (by omega) (by decide)) (q_tn (z := szR P k) (by rw [nI_clamp (by omega)]; exact hv.1) ?_)
    exact q_iret rfl rfl trivial ⟨rfl, rfl, hC0, fun _ _ _ _ _ => rfl, sz, k44, hz⟩
  have tail : ∀ oc : Nat, (oc = 8 ∧ k = 0) ∨ (oc = 16 ∧ k ≠ 0) → OAll oc S → PQ (j_SL L) (j_SV xs) j_EX mm_X11_sizeOf 25 [.ref 0, .int (nI k), .ref oc] [] S n 0 0 (szK P k S n) := by
    intro oc hoc hA
    have hoc8 : oc = 8 ∨ oc = 16 := hoc.elim (fun h => Or.inl h.1) (fun h => Or.inr h.1)
    obtain ⟨N, sp, sl, en, fo, og, mv, so, fw, tb, ce, hO, hN, hT⟩ := hA
    refine q_aload_n rfl rfl rfl ?_
    refine q_getf rfl rfl (by omega) k0 t1 ?_
    refine q_iload_n rfl rfl rfl ?_
    refine q_putf rfl rfl (by omega) k7 (os_len g1) rfl trivial ?_
    have e1 : ∀ j, j ≠ 7 → va_up S 7 (.inr (4, gs.set 1 (.int (nI k)))) j = S j := fun j hj => u_ne hj
    have hJ1 : JMc 7 1 k (va_up S 7 (.inr (4, gs.set 1 (.int (nI k))))) := ⟨_, u_eq, (os_ne (by decide)).trans g0, os_at g1⟩
    generalize va_up S 7 (.inr (4, gs.set 1 (.int (nI k)))) = S1 at e1 hJ1 ⊢
    have hj1 : JPc 1 P S1 := by
      obtain ⟨fs, fa, ln, l4, l5, l6, c0, f0, f1, f2, f3, f4, f5, c1, c2, c3, c4, c5, h1, h2, h3⟩ := hj
      exact ⟨fs, fa, ln, l4, l5, l6, (e1 1 (by decide)).trans c0, f0, f1, f2, f3, f4, f5, (e1 2 (by decide)).trans c1, (e1 3 (by decide)).trans c2, (e1 4 (by decide)).trans c3, (e1 5 (by decide)).trans c4, (e1 6 (by decide)).trans c5, h1, h2, h3⟩
    have hO1 : OCo oc N sp sl en fo og mv so fw tb ce S1 := OCo_same hO (fun j h1 h2 => e1 j (by omega))
    have hO1' := hO1
    obtain ⟨os, u0, -⟩ := hO1'
    have w0 := (e1 0 (by decide)).trans k0
    refine q_aload_n rfl rfl rfl ?_
    refine q_aload_n rfl rfl rfl ?_
    refine q_getf rfl rfl (by omega) w0 t1 ?_
    refine q_iconst rfl rfl ?_
    refine q_cV rfl rfl (Or.inl rfl) rfl rfl rfl rfl (by omega) u0 trivial rfl rfl rfl rfl rfl (o_expl (c := 1) (m := 7) (uo := 0) hW (by omega) (by omega) (by omega) (by omega) (by omega) hj1 hJ1 hk hO1 hN hT (Or.inl rfl)) ?_
    rintro r T n9 ⟨rfl, rfl, eT, kk, sl', en', so', hX, hkN, hRW, hend⟩
    show PQ (j_SL L) (j_SV xs) j_EX mm_X11_sizeOf 42 [.ref 0, .int (nI k), .ref oc] [] T n 0 0 _
    have hb2 := (wx_all (pic := k) hW kk).1.2.1
    have hend' : xN (xAll P k kk) ≤ kk ∨ xP (xAll P k kk) = true := by
      rcases hend with h | h | ⟨h, -⟩
      · exact Or.inr h
      · exact Or.inl h
      · exact absurd h (by decide)
    have eE := xe_of (P := P) (pic := k) (k := kk) (by omega) hend'
    rw [← eE] at hX hkN hRW hend'
    have hfull : xP (xE P k) = false → kk = xN (xE P k) := fun h => by
      rcases hend' with h1 | h1
      · omega
      · rw [h] at h1
        cases h1
    have eT0 : ∀ j, j < oc ∨ oc + 8 ≤ j → T j = S1 j := eT
    obtain ⟨gs1, q7, p0, p1⟩ := hJ1
    have z0 := (eT0 0 (by omega)).trans w0
    have z7 := (eT0 7 (by omega)).trans q7
    refine q_aload_n rfl rfl rfl ?_
    refine q_getf rfl rfl (by omega) z0 t1 ?_
    refine q_iconst rfl rfl ?_
    refine q_putf rfl rfl (by omega) z7 (os_len p1) rfl trivial ?_
    have e2 : ∀ j, j ≠ 7 → va_up T 7 (.inr (4, gs1.set 1 (.int 0))) j = T j := fun j hj => u_ne hj
    have hJ2 : JMc 7 1 0 (va_up T 7 (.inr (4, gs1.set 1 (.int 0)))) := ⟨_, u_eq, (os_ne (by decide)).trans p0, os_at p1⟩
    generalize va_up T 7 (.inr (4, gs1.set 1 (.int 0))) = T2 at e2 hJ2 ⊢
    have hX2 : OX oc (xE P k) (3 * kk) sl' en' so' T2 := OX_same hX (fun j h1 h2 => e2 j (by omega))
    have fr2 : ∀ j, j ≠ 7 → j < oc ∨ oc + 8 ≤ j → T2 j = S j := fun j h1 h2 => (e2 j h1).trans ((eT0 j h2).trans (e1 j h1))
    have y0 := (fr2 0 (by decide) (by omega)).trans k0
    have y44 := (fr2 44 (by decide) (by omega)).trans k44
    have y45 := (fr2 45 (by decide) (by omega)).trans k45
    obtain ⟨os2, v0, p0, p1, p2, p3, -⟩ := ox_os hX2
    have fin : PQ (j_SL L) (j_SV xs) j_EX mm_X11_sizeOf 71 [.ref 0, .int (nI k), .ref oc] [.int (szR P k), .int (nI k), .ref 44] T2 n 0 0 (szK P k S n) := by
      refine q_iast rfl rfl (by omega) y44 (q_inN (by omega) (by decide)) ?_
      rw [nI_clamp (by omega)]
      have e3 : ∀ j, j ≠ 44 → va_up T2 44 (.inl (0, 5, .inl (upd sz k (szR P k)))) j = T2 j := fun j hj => u_ne hj
      have x44 : va_up T2 44 (.inl (0, 5, .inl (upd sz k (szR P k)))) 44 = .inl (0, 5, .inl (upd sz k (szR P k))) := u_eq
      generalize va_up T2 44 (.inl (0, 5, .inl (upd sz k (szR P k)))) = T3 at e3 x44 ⊢
      refine q_aload_n rfl rfl rfl ?_
      refine q_getf rfl rfl (by omega) ((e3 0 (by decide)).trans y0) t9 ?_
      refine q_iload_n rfl rfl rfl ?_
      refine q_aload_n rfl rfl rfl ?_
      refine q_getf rfl rfl (by omega) ((e3 oc (by omega)).trans v0) p3 ?_
      refine q_last rfl rfl (by omega) ((e3 45 (by decide)).trans y45) (q_inN (by omega) (by decide)) ?_
      rw [nI_clamp (by omega)]
      have e4 : ∀ j, j ≠ 45 → va_up T3 45 (.inl (1, 5, .inr (.inl (vp_updL ed k en')))) j = T3 j := fun j hj => u_ne hj
      have x45 : va_up T3 45 (.inl (1, 5, .inr (.inl (vp_updL ed k en')))) 45 = .inl (1, 5, .inr (.inl (vp_updL ed k en'))) := u_eq
      generalize va_up T3 45 (.inl (1, 5, .inr (.inl (vp_updL ed k en')))) = T4 at e4 x45 ⊢
      have fr4 : ∀ j, j ≠ 44 → j ≠ 45 → T4 j = T2 j := fun j h1 h2 => (e4 j h2).trans (e3 j h1)
      have y44' := (e4 44 (by decide)).trans x44
      refine q_aload_n rfl rfl rfl ?_
      refine q_getf rfl rfl (by omega) ((fr4 0 (by decide) (by decide)).trans y0) t8 ?_
      refine q_iload_n rfl rfl rfl ?_
      refine q_iald rfl rfl (by omega) y44' (q_inN (by omega) (by decide)) (q_tn (z := szR P k) (by rw [nI_clamp (by omega), u32_at]) ?_)
      have frS : ∀ j, j ≠ 7 → j < oc ∨ oc + 8 ≤ j → j ≠ 44 → j ≠ 45 → T4 j = S j := fun j h1 h2 h3 h4 => (fr4 j h3 h4).trans (fr2 j h1 h2)
      have hX4 : OX oc (xE P k) (3 * kk) sl' en' so' T4 := OX_same hX2 (fun j h1 h2 => fr4 j (by omega) (by omega))
      have hOJ4 : OJ oc T4 := by
        obtain ⟨fo, og, mv, fw, tb, ce, h1, h2, -⟩ := hX4
        exact OJ_of h1 (xe_wx hW).1.2.1 h2
      refine q_iret rfl rfl trivial ⟨rfl, rfl, ⟨?_, ?_, ?_, ?_, upd sz k (szR P k), vp_updL ed k en', y44', x45, fun k' hk' => ?_, fun hz0 hp0 => ?_⟩, fun j h1 h2 h3 h4 => frS j h1 (by omega) h3 h4, upd sz k (szR P k), y44', by rw [u32_at]; exact szR_n hW⟩
      · obtain ⟨fs, fa, ln, l4, l5, l6, c0, f0, f1, f2, f3, f4, f5, c1, c2, c3, c4, c5, h1, h2, h3⟩ := hj
        exact ⟨fs, fa, ln, l4, l5, l6, (frS 1 (by decide) (by omega) (by decide) (by decide)).trans c0, f0, f1, f2, f3, f4, f5, (frS 2 (by decide) (by omega) (by decide) (by decide)).trans c1, (frS 3 (by decide) (by omega) (by decide) (by decide)).trans c2, (frS 4 (by decide) (by omega) (by decide) (by decide)).trans c3, (frS 5 (by decide) (by omega) (by decide) (by decide)).trans c4, (frS 6 (by decide) (by omega) (by decide) (by decide)).trans c5, h1, h2, h3⟩
      · obtain ⟨gs2, a7, a0, a1⟩ := hJ2
        exact ⟨gs2, (fr4 7 (by decide) (by decide)).trans a7, a0, a1⟩
      · rcases hoc8 with e | e
        · rw [← e]
          exact hOJ4
        · exact OJ_same hO8 (fun j h1 h2 => frS j (by omega) (by omega) (by omega) (by omega))
      · rcases hoc8 with e | e
        · exact OJ_same hO16 (fun j h1 h2 => frS j (by omega) (by omega) (by omega) (by omega))
        · rw [← e]
          exact hOJ4
      · by_cases e : k' = k
        · rw [e, u32_at]
          refine Or.inr ⟨rfl, fun hp => ?_⟩
          rw [vpL_at]
          have h9 := hRW.2.2
          rw [hfull hp] at h9
          exact h9
        · rw [u32_ot e, vpL_ot e]
          exact hS k' hk'
      · by_cases e : k = 0
        · have e8 : oc = 8 := by omega
          rw [e] at hX4 hRW hfull
          rw [e8] at hX4
          refine ⟨sl', en', so', ?_, ?_⟩
          · rw [← hfull hp0]
            exact hX4
          · have h9 := hRW
            rw [hfull hp0] at h9
            exact h9
        · rw [u32_ot (fun h => e h.symm)] at hz0
          exact TJ_same (hTJ hz0 hp0) (fun j h1 h2 => frS j (by omega) (by omega) (by omega) (by omega))
    refine q_aload_n rfl rfl rfl ?_
    refine q_getf rfl rfl (by omega) y0 t8 ?_
    refine q_iload_n rfl rfl rfl ?_
    refine q_aload_n rfl rfl rfl ?_
    refine q_getf rfl rfl (by omega) v0 p1 ?_
    cases hp1 : xP (xE P k)
    · have e : nI (spv (xE P k)) = 0 := by unfold spv; rw [hp1]; rfl
      rw [e]
      refine q_ifeq rfl rfl (fun _ => ?_) (fun h => absurd rfl h)
      refine q_aload_n rfl rfl rfl ?_
      refine q_getf rfl rfl (by omega) v0 p0 ?_
      rw [szR_f hp1] at fin
      exact fin
    · have e : nI (spv (xE P k)) = 1 := by unfold spv; rw [hp1]; rfl
      rw [e]
      refine q_ifeq rfl rfl (fun h => absurd h (by decide)) (fun _ => ?_)
      refine q_bipush rfl rfl ?_
      refine q_goto rfl ?_
      rw [szR_t hp1] at fin
      exact fin
  refine q_iload_n rfl rfl rfl ?_
  refine q_ifne rfl rfl (fun h => ?_) (fun h => ?_)
  · have e : k = 0 := (m_eq (b := 0) (by omega) (by decide)).mp h
    refine q_aload_n rfl rfl rfl ?_
    refine q_getf rfl rfl (by omega) k0 t2 ?_
    refine q_goto rfl ?_
    refine q_ast2n rfl rfl rfl rfl ?_
    exact tail 8 (Or.inl ⟨rfl, e⟩) hA8
  · have e : k ≠ 0 := fun e => h (by rw [e]; rfl)
    refine q_aload_n rfl rfl rfl ?_
    refine q_getf rfl rfl (by omega) k0 t3 ?_
    refine q_ast2n rfl rfl rfl rfl ?_
    exact tail 16 (Or.inr ⟨rfl, e⟩) hA16
end GG
