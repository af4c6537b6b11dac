variable {θ : Th}
section FBM
variable {SL : Nat → Nat} {SV : Nat → Nat → Int32} {EX : pm_M → pm_C → (pm_C → Prop) → Prop} {n : Nat} {K : q_K} {fs : List Value} {S0 : Nat → pm_E}
theorem l_fbm (hn : 82 ≤ n) (f15 : fs[15]? = some (.ref 59)) (f22 : fs[22]? = some (.ref 65)) (f23 : fs[23]? = some (.ref 66)) (f24 : fs[24]? = some (.ref 67)) (f25 : fs[25]? = some (.ref 68)) (f26 : fs[26]? = some (.ref 69)) (f27 : fs[27]? = some (.ref 70)) (f28 : fs[28]? = some (.ref 71))
    (hK : ∀ S, GS θ S n → fr1 cB S0 S n → K none S n) :
    ∀ (m q held d : Nat) (S : Nat → pm_E) (b1 b5 b6 b7 b8 : Value), pm_c2 b1 = false → pm_c2 b5 = false → pm_c2 b6 = false → pm_c2 b7 = false → GS θ S n → S 46 = .inr (10, fs) → fr1 cB S0 S n → FB S q held d m → PQ SL SV EX mm_X12_findBacks 94 [.ref 46, b1, .int (nI q), .int (nI held), .int (nI d), b5, b6, b7, b8] [] S n 0 0 K := by
  intro m
  induction m with
  | zero =>
    intro q held d S b1 b5 b6 b7 b8 _ _ _ _ _ _ _ hFB
    obtain ⟨_, _, _, _, _, _, _, _, _, _, _, _, _, h7⟩ := hFB
    omega
  | succ m ih =>
    intro q held d S b1 b5 b6 b7 b8 hb1 hb5 hb6 hb7 hG h46 hFr hFB
    obtain ⟨sn, pt, sk, tr, k66, k68, k69, k70, hf⟩ := hFB
    obtain ⟨h1, h2, h4, h5, h6, h7⟩ := id hf
    have hq2 := cw_le sn
    refine q_iload rfl rfl rfl ?_
    refine q_ifle rfl rfl (fun c0 => ?_) (fun c0 => ?_)
    · exact q_ret rfl rfl (hK S hG hFr)
    · cases d with
      | zero => exact absurd (by decide) c0
      | succ d =>
        obtain ⟨i, hi, ei, si⟩ := h5 d (by omega)
        obtain ⟨tr', e70, b70⟩ := gs_a1 hG (k := 70) rfl
        rw [k70] at e70
        cases e70
        have t0 : (0 : Int) ≤ (tr i).toInt := (b70 i hi).1
        have t3 : (tr i).toInt ≤ 3 := (b70 i hi).2
        refine q_aload_n rfl rfl rfl ?_
        refine q_getf rfl rfl (by omega) h46 f25 ?_
        refine q_iload rfl rfl rfl ?_
        refine q_iconst rfl rfl ?_
        refine q_isub rfl rfl (q_tn (z := nI d) (nI_pred d) ?_)
        refine q_iald rfl rfl (by omega) k68 (q_inN (by omega) (by decide)) (q_tn (z := nI i) (by rw [nI_clamp (by omega)]; exact ei) ?_)
        refine q_ist5 rfl rfl rfl rfl ?_
        refine q_aload_n rfl rfl rfl ?_
        refine q_getf rfl rfl (by omega) h46 f27 ?_
        refine q_iload rfl rfl rfl ?_
        refine q_iald rfl rfl (by omega) k70 (q_inN (by omega) (by decide)) (q_tn (z := tr i) (by rw [nI_clamp (by omega)]) ?_)
        refine q_iconst rfl rfl ?_
        refine q_icge rfl rfl (fun c1 => ?_) (fun c1 => ?_)
        · -- behind its last step
          refine q_inc4 rfl rfl rfl rfl ?_
          rw [show nI (d + 1) + (-1) = nI d from pk_m1 d]
          have hf1 := FB_pop hf
          have cl : ∀ S9 : Nat → pm_E, GS θ S9 n → S9 46 = .inr (10, fs) → fr1 cB S0 S9 n → S9 66 = .inl (0, 2000, .inl sn) → S9 68 = .inl (0, 2000, .inl pt) → S9 69 = .inl (0, 2000, .inl sk) → S9 70 = .inl (0, 2000, .inl tr) → PQ SL SV EX mm_X12_findBacks 342 [.ref 46, b1, .int (nI q), .int (nI held), .int (nI d), .int (nI i), b6, b7, b8] [] S9 n 0 0 K := by
            intro S9 g1 g2 g3 g66 g68 g69 g70
            obtain ⟨lw, k67, -⟩ := gs_arr g1 (k := 67) rfl
            refine q_aload_n rfl rfl rfl ?_
            refine q_getf rfl rfl (by omega) g2 f24 ?_
            refine q_iload rfl rfl rfl ?_
            refine q_iald rfl rfl (by omega) k67 (q_inN (by omega) (by decide)) ?_
            refine q_aload_n rfl rfl rfl ?_
            refine q_getf rfl rfl (by omega) g2 f23 ?_
            refine q_iload rfl rfl rfl ?_
            refine q_iald rfl rfl (by omega) g66 (q_inN (by omega) (by decide)) ?_
            refine q_iceq rfl rfl (fun _ => ?_) (fun _ => ?_)
            · obtain ⟨pos, hpos⟩ := h6
              obtain ⟨p1, p2, p3⟩ := hpos d (by omega)
              refine q_aload_n rfl rfl rfl ?_
              refine q_getf rfl rfl (by omega) g2 f26 ?_
              refine q_iload_n rfl rfl rfl ?_
              refine q_iconst rfl rfl ?_
              obtain ⟨h0, eh0⟩ : ∃ h0, held = h0 + 1 := ⟨held - 1, by omega⟩
              subst eh0
              refine q_isub rfl rfl (q_tn (z := nI h0) (nI_pred h0) ?_)
              refine q_iald rfl rfl (by omega) g69 (q_inN (by omega) (by decide)) ?_
              refine q_iload rfl rfl rfl ?_
              have fin : ∀ al : Int32, (al = 0 ∨ al = 1) → PQ SL SV EX mm_X12_findBacks 380 [.ref 46, b1, .int (nI q), .int (nI (h0 + 1)), .int (nI d), .int (nI i), b6, b7, b8] [.int al] S9 n 0 0 K := by
                intro al hal
                refine q_ist6 rfl rfl rfl rfl ?_
                refine q_iconst rfl rfl ?_
                refine q_ist7 rfl rfl rfl rfl ?_
                exact l_fbi hn f22 f26 f28 hal hi hb1 (fun held' S' c7 c8 q1 q2 q3 q4 q5 => ih q held' d S' b1 _ _ c7 c8 hb1 rfl rfl q5 q1 q2 q3 q4) (by omega) (pos d) (by rw [p2, ei]) pos (fun j hj => ⟨p3 j hj, (hpos j (by omega)).2⟩) ⟨hf1.1, hf1.2.2.1, hf1.2.2.2.1, hf1.2.2.2.2.2⟩ (h0 + 1) S9 b8 (by omega) p1 g1 g2 g3 g66 g68 g69 g70
              refine q_icne rfl rfl (fun _ => ?_) (fun _ => ?_)
              · refine q_iconst rfl rfl ?_
                refine q_goto rfl ?_
                exact fin 1 (Or.inr rfl)
              · refine q_iconst rfl rfl ?_
                exact fin 0 (Or.inl rfl)
            · refine q_goto rfl ?_
              exact ih q held d S9 b1 _ b6 b7 b8 hb1 rfl hb6 hb7 g1 g2 g3 ⟨sn, pt, sk, tr, g66, g68, g69, g70, hf1⟩
          refine q_iload rfl rfl rfl ?_
          refine q_ifle rfl rfl (fun _ => cl S hG h46 hFr k66 k68 k69 k70) (fun c2 => ?_)
          cases d with
          | zero => exact absurd (by decide) c2
          | succ d =>
            obtain ⟨i2, hi2, ei2, -⟩ := h5 d (by omega)
            obtain ⟨lw, k67, -⟩ := gs_arr hG (k := 67) rfl
            refine q_aload_n rfl rfl rfl ?_
            refine q_getf rfl rfl (by omega) h46 f24 ?_
            refine q_iload rfl rfl rfl ?_
            refine q_iald rfl rfl (by omega) k67 (q_inN (by omega) (by decide)) ?_
            refine q_aload_n rfl rfl rfl ?_
            refine q_getf rfl rfl (by omega) h46 f24 ?_
            refine q_aload_n rfl rfl rfl ?_
            refine q_getf rfl rfl (by omega) h46 f25 ?_
            refine q_iload rfl rfl rfl ?_
            refine q_iconst rfl rfl ?_
            refine q_isub rfl rfl (q_tn (z := nI d) (nI_pred d) ?_)
            refine q_iald rfl rfl (by omega) k68 (q_inN (by omega) (by decide)) (q_tn (z := nI i2) (by rw [nI_clamp (by omega)]; exact ei2) ?_)
            refine q_iald rfl rfl (by omega) k67 (q_inN (by omega) (by decide)) ?_
            refine q_icge rfl rfl (fun _ => cl S hG h46 hFr k66 k68 k69 k70) (fun _ => ?_)
            refine q_aload_n rfl rfl rfl ?_
            refine q_getf rfl rfl (by omega) h46 f24 ?_
            refine q_aload_n rfl rfl rfl ?_
            refine q_getf rfl rfl (by omega) h46 f25 ?_
            refine q_iload rfl rfl rfl ?_
            refine q_iconst rfl rfl ?_
            refine q_isub rfl rfl (q_tn (z := nI d) (nI_pred d) ?_)
            refine q_iald rfl rfl (by omega) k68 (q_inN (by omega) (by decide)) (q_tn (z := nI i2) (by rw [nI_clamp (by omega)]; exact ei2) ?_)
            refine q_aload_n rfl rfl rfl ?_
            refine q_getf rfl rfl (by omega) h46 f24 ?_
            refine q_iload rfl rfl rfl ?_
            refine q_iald rfl rfl (by omega) k67 (q_inN (by omega) (by decide)) ?_
            refine q_iast rfl rfl (by omega) k67 (q_inN (by omega) (by decide)) ?_
            exact cl _ (gs_one (k := 67) hG rfl rfl k67 (fullI _)) h46 (fr1_up hFr rfl) k66 k68 k69 k70
        · -- a step of it
          have t2 : (tr i).toInt < 3 := by
            rw [Int32.le_iff_toInt_le] at c1
            have e3 : (3 : Int32).toInt = 3 := rfl
            omega
          obtain ⟨t, ht, et⟩ := nat_of (x := tr i) (b := 2) t0 (by omega)
          obtain ⟨sp, k59, b59⟩ := gs_a1 hG (k := 59) rfl
          refine q_aload_n rfl rfl rfl ?_
          refine q_getf rfl rfl (by omega) h46 f15 ?_
          refine q_iconst rfl rfl ?_
          refine q_iload rfl rfl rfl ?_
          refine q_imul rfl rfl ?_
          refine q_aload_n rfl rfl rfl ?_
          refine q_getf rfl rfl (by omega) h46 f27 ?_
          refine q_iload rfl rfl rfl ?_
          refine q_iald rfl rfl (by omega) k70 (q_inN (by omega) (by decide)) (q_tn (z := nI t) (by rw [nI_clamp (by omega)]; exact et) ?_)
          refine q_iadd rfl rfl (q_tn (z := nI (3 * i + t)) (by rw [show (3 : Int32) = nI 3 from rfl, pk_mul, nI_add]) ?_)
          refine q_iald rfl rfl (by omega) k59 (q_inN (by omega) (by decide)) (q_tn (z := sp (3 * i + t)) (by rw [nI_clamp (by omega)]) ?_)
          have s1 := b59 (3 * i + t) (by omega)
          generalize sp (3 * i + t) = to at s1 ⊢
          refine q_ist6 rfl rfl rfl rfl ?_
          refine q_aload_n rfl rfl rfl ?_
          refine q_getf rfl rfl (by omega) h46 f27 ?_
          refine q_iload rfl rfl rfl ?_
          refine q_dup2 rfl rfl ?_
          refine q_iald rfl rfl (by omega) k70 (q_inN (by omega) (by decide)) (q_tn (z := tr i) (by rw [nI_clamp (by omega)]) ?_)
          refine q_iconst rfl rfl ?_
          refine q_iadd rfl rfl ?_
          refine q_iast rfl rfl (by omega) k70 (q_inN (by omega) (by decide)) ?_
          rw [nI_clamp (by omega)]
          have tI : (tr i + 1).toInt = (tr i).toInt + 1 := by
            have e3 : (tr i + 1).toInt = ((tr i).toInt + (1 : Int32).toInt).bmod 4294967296 := Int32.toInt_add _ _
            rw [e3, show (1 : Int32).toInt = 1 from rfl, ck_bm (by unfold ck_lo; omega) (by unfold ck_hi; omega)]
          have hG1 := gs_one (k := 70) (i := i) (v := tr i + 1) hG rfl rfl k70 (by show (0 : Int) ≤ _ ∧ _ ≤ (3 : Int); omega)
          have hF1 := fr1_up (k := 70) (x := .inl (0, 2000, .inl (upd tr i (tr i + 1)))) hFr rfl
          have hf1 := FB_try hf hi si t0 t2
          have h461 : va_up S 70 (.inl (0, 2000, .inl (upd tr i (tr i + 1)))) 46 = .inr (10, fs) := h46
          have a66 : va_up S 70 (.inl (0, 2000, .inl (upd tr i (tr i + 1)))) 66 = _ := k66
          have a68 : va_up S 70 (.inl (0, 2000, .inl (upd tr i (tr i + 1)))) 68 = _ := k68
          have a69 : va_up S 70 (.inl (0, 2000, .inl (upd tr i (tr i + 1)))) 69 = _ := k69
          have a70 : va_up S 70 (.inl (0, 2000, .inl (upd tr i (tr i + 1)))) 70 = .inl (0, 2000, .inl (upd tr i (tr i + 1))) := rfl
          generalize va_up S 70 (.inl (0, 2000, .inl (upd tr i (tr i + 1)))) = S1 at hG1 hF1 h461 a66 a68 a69 a70 ⊢
          generalize upd tr i (tr i + 1) = tr1 at hf1 a70
          refine q_iload rfl rfl rfl ?_
          refine q_ifge rfl rfl (fun c3 => ?_) (fun _ => ?_)
          · have s2 : (0 : Int) ≤ to.toInt := by
              rw [Int32.le_iff_toInt_le] at c3
              exact c3
            have s3 : to.toInt ≤ 1999 := s1.2
            obtain ⟨w, hw, ew⟩ := nat_of (x := to) (b := 1999) s2 s3
            subst ew
            have seen : ∀ S9 : Nat → pm_E, GS θ S9 n → S9 46 = .inr (10, fs) → fr1 cB S0 S9 n → S9 66 = .inl (0, 2000, .inl sn) → S9 68 = .inl (0, 2000, .inl pt) → S9 69 = .inl (0, 2000, .inl sk) → S9 70 = .inl (0, 2000, .inl tr1) → PQ SL SV EX mm_X12_findBacks 174 [.ref 46, b1, .int (nI q), .int (nI held), .int (nI (d + 1)), .int (nI i), .int (nI w), b7, b8] [] S9 n 0 0 K := by
              intro S9 g1 g2 g3 g66 g68 g69 g70
              obtain ⟨lw, k67, -⟩ := gs_arr g1 (k := 67) rfl
              obtain ⟨on, k71, b71⟩ := gs_a1 g1 (k := 71) rfl
              refine q_aload_n rfl rfl rfl ?_
              refine q_getf rfl rfl (by omega) g2 f23 ?_
              refine q_iload rfl rfl rfl ?_
              refine q_iald rfl rfl (by omega) g66 (q_inN (by omega) (by decide)) (q_tn (z := sn w) (by rw [nI_clamp (by omega)]) ?_)
              refine q_ifge rfl rfl (fun c4 => ?_) (fun c4 => ?_)
              · have go : ∀ S8 : Nat → pm_E, GS θ S8 n → S8 46 = .inr (10, fs) → fr1 cB S0 S8 n → S8 66 = .inl (0, 2000, .inl sn) → S8 68 = .inl (0, 2000, .inl pt) → S8 69 = .inl (0, 2000, .inl sk) → S8 70 = .inl (0, 2000, .inl tr1) → PQ SL SV EX mm_X12_findBacks 94 [.ref 46, b1, .int (nI q), .int (nI held), .int (nI (d + 1)), .int (nI i), .int (nI w), b7, b8] [] S8 n 0 0 K := fun S8 q1 q2 q3 q66 q68 q69 q70 => ih q held (d + 1) S8 b1 _ _ b7 b8 hb1 rfl rfl hb7 q1 q2 q3 ⟨sn, pt, sk, tr1, q66, q68, q69, q70, hf1⟩
                refine q_aload_n rfl rfl rfl ?_
                refine q_getf rfl rfl (by omega) g2 f28 ?_
                refine q_iload rfl rfl rfl ?_
                refine q_zald rfl rfl (by omega) k71 (q_inN (by omega) (by decide)) ?_
                refine q_ifeq rfl rfl (fun _ => go S9 g1 g2 g3 g66 g68 g69 g70) (fun _ => ?_)
                refine q_aload_n rfl rfl rfl ?_
                refine q_getf rfl rfl (by omega) g2 f23 ?_
                refine q_iload rfl rfl rfl ?_
                refine q_iald rfl rfl (by omega) g66 (q_inN (by omega) (by decide)) ?_
                refine q_aload_n rfl rfl rfl ?_
                refine q_getf rfl rfl (by omega) g2 f24 ?_
                refine q_iload rfl rfl rfl ?_
                refine q_iald rfl rfl (by omega) k67 (q_inN (by omega) (by decide)) ?_
                refine q_icge rfl rfl (fun _ => go S9 g1 g2 g3 g66 g68 g69 g70) (fun _ => ?_)
                refine q_aload_n rfl rfl rfl ?_
                refine q_getf rfl rfl (by omega) g2 f24 ?_
                refine q_iload rfl rfl rfl ?_
                refine q_aload_n rfl rfl rfl ?_
                refine q_getf rfl rfl (by omega) g2 f23 ?_
                refine q_iload rfl rfl rfl ?_
                refine q_iald rfl rfl (by omega) g66 (q_inN (by omega) (by decide)) ?_
                refine q_iast rfl rfl (by omega) k67 (q_inN (by omega) (by decide)) ?_
                refine q_goto rfl ?_
                exact go _ (gs_one (k := 67) g1 rfl rfl k67 (fullI _)) g2 (fr1_up g3 rfl) g66 g68 g69 g70
              · have n0 : (sn w).toInt < 0 := by
                  rw [Int32.le_iff_toInt_le] at c4
                  have e0 : (0 : Int32).toInt = 0 := rfl
                  omega
                have q3 := FB_cnt (sn := sn) (i := w) (by omega) n0
                have hf2 := FB_push hf1 (i := w) (by omega) n0 (by omega)
                obtain ⟨h1', h2', h4', h5', h6', h7'⟩ := id hf1
                refine q_aload_n rfl rfl rfl ?_
                refine q_getf rfl rfl (by omega) g2 f23 ?_
                refine q_iload rfl rfl rfl ?_
                refine q_iload_n rfl rfl rfl ?_
                refine q_iast rfl rfl (by omega) g66 (q_inN (by omega) (by decide)) ?_
                rw [nI_clamp (by omega)]
                refine q_aload_n rfl rfl rfl ?_
                refine q_getf rfl rfl (by omega) (show va_up S9 66 _ 46 = _ from g2) f24 ?_
                refine q_iload rfl rfl rfl ?_
                refine q_iload_n rfl rfl rfl ?_
                refine q_iast rfl rfl (by omega) (show va_up S9 66 _ 67 = _ from k67) (q_inN (by omega) (by decide)) ?_
                rw [nI_clamp (by omega)]
                refine q_inc2 rfl rfl rfl hb1 ?_
                rw [nI_1]
                refine q_aload_n rfl rfl rfl ?_
                refine q_getf rfl rfl (by omega) (show va_up (va_up S9 66 _) 67 _ 46 = _ from g2) f27 ?_
                refine q_iload rfl rfl rfl ?_
                refine q_iconst rfl rfl ?_
                refine q_iast rfl rfl (by omega) (show va_up (va_up S9 66 _) 67 _ 70 = _ from g70) (q_inN (by omega) (by decide)) ?_
                rw [nI_clamp (by omega)]
                refine q_aload_n rfl rfl rfl ?_
                refine q_getf rfl rfl (by omega) (show va_up (va_up (va_up S9 66 _) 67 _) 70 _ 46 = _ from g2) f26 ?_
                refine q_iload_n rfl rfl rfl ?_
                refine q_iload rfl rfl rfl ?_
                refine q_iast rfl rfl (by omega) (show va_up (va_up (va_up S9 66 _) 67 _) 70 _ 69 = _ from g69) (q_inN (by omega) (by decide)) ?_
                rw [nI_clamp (by omega)]
                refine q_inc3 rfl rfl rfl rfl ?_
                rw [nI_1]
                refine q_aload_n rfl rfl rfl ?_
                refine q_getf rfl rfl (by omega) (show va_up (va_up (va_up (va_up S9 66 _) 67 _) 70 _) 69 _ 46 = _ from g2) f28 ?_
                refine q_iload rfl rfl rfl ?_
                refine q_iconst rfl rfl ?_
                refine q_zast rfl rfl (by omega) (show va_up (va_up (va_up (va_up S9 66 _) 67 _) 70 _) 69 _ 71 = _ from k71) (q_inN (by omega) (by decide)) ?_
                rw [nI_clamp (by omega)]
                refine q_aload_n rfl rfl rfl ?_
                refine q_getf rfl rfl (by omega) (show va_up (va_up (va_up (va_up (va_up S9 66 _) 67 _) 70 _) 69 _) 71 _ 46 = _ from g2) f25 ?_
                refine q_iload rfl rfl rfl ?_
                refine q_iload rfl rfl rfl ?_
                refine q_iast rfl rfl (by omega) (show va_up (va_up (va_up (va_up (va_up S9 66 _) 67 _) 70 _) 69 _) 71 _ 68 = _ from g68) (q_inN (by omega) (by decide)) ?_
                rw [nI_clamp (by omega)]
                refine q_inc4 rfl rfl rfl rfl ?_
                rw [nI_1]
                refine q_goto rfl ?_
                have wI : (0 : Int) ≤ (nI w).toInt ∧ (nI w).toInt ≤ 1999 := by
                  rw [toInt_nI (by omega)]
                  omega
                have r1 := gs_one (k := 66) (i := w) (v := nI q) g1 rfl rfl g66 (fullI _)
                have r2 := gs_one (k := 67) (i := w) (v := nI q) r1 rfl rfl (show va_up S9 66 _ 67 = _ from k67) (fullI _)
                have r3 := gs_one (k := 70) (i := w) (v := 0) r2 rfl rfl (show va_up (va_up S9 66 _) 67 _ 70 = _ from g70) (by decide)
                have r4 := gs_one (k := 69) (i := held) (v := nI w) r3 rfl rfl (show va_up (va_up (va_up S9 66 _) 67 _) 70 _ 69 = _ from g69) wI
                have r5 := gs_one (k := 71) (i := w) (v := vp_nar .boolean 1) r4 rfl rfl (show va_up (va_up (va_up (va_up S9 66 _) 67 _) 70 _) 69 _ 71 = _ from k71) (nar_b (Or.inr rfl))
                have r6 := gs_one (k := 68) (i := d + 1) (v := nI w) r5 rfl rfl (show va_up (va_up (va_up (va_up (va_up S9 66 _) 67 _) 70 _) 69 _) 71 _ 68 = _ from g68) wI
                refine ih (q + 1) (held + 1) (d + 1 + 1) _ b1 _ _ b7 b8 hb1 rfl rfl hb7 r6 g2 ?_ ⟨_, _, _, _, rfl, rfl, rfl, rfl, hf2⟩
                exact fr1_up (fr1_up (fr1_up (fr1_up (fr1_up (fr1_up g3 rfl) rfl) rfl) rfl) rfl) rfl
            refine q_iload rfl rfl rfl ?_
            refine q_iload rfl rfl rfl ?_
            refine q_icne rfl rfl (fun _ => ?_) (fun _ => ?_)
            · obtain ⟨bk, k65, b65⟩ := gs_a1 hG1 (k := 65) rfl
              refine q_aload_n rfl rfl rfl ?_
              refine q_getf rfl rfl (by omega) h461 f22 ?_
              refine q_iload rfl rfl rfl ?_
              refine q_iconst rfl rfl ?_
              refine q_zast rfl rfl (by omega) k65 (q_inN (by omega) (by decide)) ?_
              exact seen _ (gs_one (k := 65) hG1 rfl rfl k65 (nar_b (Or.inr rfl))) h461 (fr1_up hF1 rfl) a66 a68 a69 a70
            · exact seen S1 hG1 h461 hF1 a66 a68 a69 a70
          · refine q_goto rfl ?_
            exact ih q held (d + 1) S1 b1 _ _ b7 b8 hb1 rfl rfl hb7 hG1 h461 hF1 ⟨sn, pt, sk, tr1, a66, a68, a69, a70, hf1⟩
theorem l_fb (hG : GS θ S0 n) (hf0 : ∃ fs, S0 46 = .inr (10, fs)) (hK : ∀ S, GS θ S n → fr1 cB S0 S n → K none S n) : PM SL SV EX mm_X12_findBacks [.ref 46] S0 n K := by
  have hn := gs_n hG
  obtain ⟨fs, h46, hf⟩ := gs_obj hG (k := 46) rfl
  have f15 := fo_ref (hf 15 _ rfl) rfl
  have f16 := fo_ref (hf 16 _ rfl) rfl
  have f22 := fo_ref (hf 22 _ rfl) rfl
  have f23 := fo_ref (hf 23 _ rfl) rfl
  have f24 := fo_ref (hf 24 _ rfl) rfl
  have f25 := fo_ref (hf 25 _ rfl) rfl
  have f26 := fo_ref (hf 26 _ rfl) rfl
  have f27 := fo_ref (hf 27 _ rfl) rfl
  have f28 := fo_ref (hf 28 _ rfl) rfl
  change PQ SL SV EX mm_X12_findBacks 0 [.ref 46, pm_un, pm_un, pm_un, pm_un, pm_un, pm_un, pm_un, pm_un] [] S0 n 0 0 K
  obtain ⟨cn, k60, b60⟩ := gs_a1 hG (k := 60) rfl
  obtain ⟨c, hc, ec⟩ := nat_of (x := cn 0) (b := 2000) (b60 0 (by omega)).1 (b60 0 (by omega)).2
  refine q_aload_n rfl rfl rfl ?_
  refine q_getf rfl rfl (by omega) h46 f16 ?_
  refine q_iconst rfl rfl ?_
  refine q_iald rfl rfl (by show 60 < n; omega) k60 (by decide) (q_tn (z := nI c) ec ?_)
  refine q_ist1n rfl rfl rfl rfl ?_
  refine q_iconst rfl rfl ?_
  refine q_ist2n rfl rfl rfl rfl ?_
  have fin : ∀ (S : Nat → pm_E) (y : Int32), GS θ S n → S 46 = .inr (10, fs) → fr1 cB S0 S n → PQ SL SV EX mm_X12_findBacks 41 [.ref 46, .int (nI c), .int y, pm_un, pm_un, pm_un, pm_un, pm_un, pm_un] [] S n 0 0 K := by
    intro S y g1 g2 g3
    obtain ⟨sn, k66, -⟩ := gs_a1 g1 (k := 66) rfl
    obtain ⟨lw, k67, -⟩ := gs_a1 g1 (k := 67) rfl
    obtain ⟨pt, k68, -⟩ := gs_a1 g1 (k := 68) rfl
    obtain ⟨sk, k69, -⟩ := gs_a1 g1 (k := 69) rfl
    obtain ⟨tr, k70, b70⟩ := gs_a1 g1 (k := 70) rfl
    obtain ⟨on, k71, -⟩ := gs_a1 g1 (k := 71) rfl
    refine q_iconst rfl rfl ?_
    refine q_ist2n rfl rfl rfl rfl ?_
    refine q_iconst rfl rfl ?_
    refine q_ist3n rfl rfl rfl rfl ?_
    refine q_iconst rfl rfl ?_
    refine q_ist4 rfl rfl rfl rfl ?_
    refine q_aload_n rfl rfl rfl ?_
    refine q_getf rfl rfl (by omega) g2 f25 ?_
    refine q_iconst rfl rfl ?_
    refine q_iconst rfl rfl ?_
    refine q_iast rfl rfl (by show 68 < n; omega) k68 (by decide) ?_
    refine q_aload_n rfl rfl rfl ?_
    refine q_getf rfl rfl (by omega) (show va_up S 68 _ 46 = _ from g2) f23 ?_
    refine q_iconst rfl rfl ?_
    refine q_iconst rfl rfl ?_
    refine q_iast rfl rfl (by show 66 < n; omega) (show va_up S 68 _ 66 = _ from k66) (by decide) ?_
    refine q_aload_n rfl rfl rfl ?_
    refine q_getf rfl rfl (by omega) (show va_up (va_up S 68 _) 66 _ 46 = _ from g2) f24 ?_
    refine q_iconst rfl rfl ?_
    refine q_iconst rfl rfl ?_
    refine q_iast rfl rfl (by show 67 < n; omega) (show va_up (va_up S 68 _) 66 _ 67 = _ from k67) (by decide) ?_
    refine q_aload_n rfl rfl rfl ?_
    refine q_getf rfl rfl (by omega) (show va_up (va_up (va_up S 68 _) 66 _) 67 _ 46 = _ from g2) f27 ?_
    refine q_iconst rfl rfl ?_
    refine q_iconst rfl rfl ?_
    refine q_iast rfl rfl (by show 70 < n; omega) (show va_up (va_up (va_up S 68 _) 66 _) 67 _ 70 = _ from k70) (by decide) ?_
    refine q_aload_n rfl rfl rfl ?_
    refine q_getf rfl rfl (by omega) (show va_up (va_up (va_up (va_up S 68 _) 66 _) 67 _) 70 _ 46 = _ from g2) f26 ?_
    refine q_iconst rfl rfl ?_
    refine q_iconst rfl rfl ?_
    refine q_iast rfl rfl (by show 69 < n; omega) (show va_up (va_up (va_up (va_up S 68 _) 66 _) 67 _) 70 _ 69 = _ from k69) (by decide) ?_
    refine q_iconst rfl rfl ?_
    refine q_ist3n rfl rfl rfl rfl ?_
    refine q_aload_n rfl rfl rfl ?_
    refine q_getf rfl rfl (by omega) (show va_up (va_up (va_up (va_up (va_up S 68 _) 66 _) 67 _) 70 _) 69 _ 46 = _ from g2) f28 ?_
    refine q_iconst rfl rfl ?_
    refine q_iconst rfl rfl ?_
    refine q_zast rfl rfl (by show 71 < n; omega) (show va_up (va_up (va_up (va_up (va_up S 68 _) 66 _) 67 _) 70 _) 69 _ 71 = _ from k71) (by decide) ?_
    refine q_iconst rfl rfl ?_
    refine q_ist2n rfl rfl rfl rfl ?_
    have r1 := gs_one (k := 68) (i := 0) (v := 0) g1 rfl rfl k68 (by decide)
    have r2 := gs_one (k := 66) (i := 0) (v := 0) r1 rfl rfl (show va_up S 68 _ 66 = _ from k66) (fullI _)
    have r3 := gs_one (k := 67) (i := 0) (v := 0) r2 rfl rfl (show va_up (va_up S 68 _) 66 _ 67 = _ from k67) (fullI _)
    have r4 := gs_one (k := 70) (i := 0) (v := 0) r3 rfl rfl (show va_up (va_up (va_up S 68 _) 66 _) 67 _ 70 = _ from k70) (by decide)
    have r5 := gs_one (k := 69) (i := 0) (v := 0) r4 rfl rfl (show va_up (va_up (va_up (va_up S 68 _) 66 _) 67 _) 70 _ 69 = _ from k69) (by decide)
    have r6 := gs_one (k := 71) (i := 0) (v := vp_nar .boolean 1) r5 rfl rfl (show va_up (va_up (va_up (va_up (va_up S 68 _) 66 _) 67 _) 70 _) 69 _ 71 = _ from k71) (nar_b (Or.inr rfl))
    have hFB : FBf (upd sn 0 0) (upd pt 0 0) (upd sk 0 0) (upd tr 0 0) 1 1 1 10002 := by
      refine ⟨?_, by omega, by omega, fun j hj => ⟨0, by omega, ?_, ?_⟩, ⟨fun _ => 0, fun j hj => ⟨Nat.zero_lt_one, ?_, fun i hi => by omega⟩⟩, ?_⟩
      · have := sm_ge (w := cw (upd sn 0 0)) (i := 0) (N := 2000) (by omega)
        have e : cw (upd sn 0 0) 0 = 1 := rfl
        omega
      · have e : j = 0 := by omega
        subst e
        rfl
      · exact Int.le_refl _
      · have e : j = 0 := by omega
        subst e
        rfl
      · have := sm_le (w := gw (upd sn 0 0) (upd tr 0 0)) (B := 5) (N := 2000) (fun j hj => by
          unfold gw
          split
          · omega
          · unfold upd
            split
            · decide
            · have b := (b70 j hj).1
              have b' : (0 : Int) ≤ (tr j).toInt := b
              omega)
        omega
    exact l_fbm hn f15 f22 f23 f24 f25 f26 f27 f28 hK 10002 1 1 1 _ _ _ _ _ _ rfl rfl rfl rfl r6 g2 (fr1_up (fr1_up (fr1_up (fr1_up (fr1_up (fr1_up g3 rfl) rfl) rfl) rfl) rfl) rfl) ⟨_, _, _, _, rfl, rfl, rfl, rfl, hFB⟩
  have key : ∀ m k : Nat, k + m = c → ∀ (S : Nat → pm_E) (y : Int32), y = nI k → GS θ S n → S 46 = .inr (10, fs) → fr1 cB S0 S n → PQ SL SV EX mm_X12_findBacks 9 [.ref 46, .int (nI c), .int y, pm_un, pm_un, pm_un, pm_un, pm_un, pm_un] [] S n 0 0 K := by
    intro m
    induction m with
    | zero =>
      intro k hk S y hy g1 g2 g3
      have e : k = c := by omega
      subst e
      subst hy
      refine q_iload_n rfl rfl rfl ?_
      refine q_iload_n rfl rfl rfl ?_
      exact q_icge rfl rfl (fun _ => fin S _ g1 g2 g3) (fun c => absurd (Int32.le_refl _) c)
    | succ m ih =>
      intro k hk S y hy g1 g2 g3
      subst hy
      obtain ⟨bk, k65, -⟩ := gs_a1 g1 (k := 65) rfl
      obtain ⟨sn, k66, -⟩ := gs_a1 g1 (k := 66) rfl
      obtain ⟨on, k71, -⟩ := gs_a1 g1 (k := 71) rfl
      refine q_iload_n rfl rfl rfl ?_
      refine q_iload_n rfl rfl rfl ?_
      refine q_icge rfl rfl (fun c => absurd c (nI_ge (by omega) (by omega))) (fun _ => ?_)
      refine q_aload_n rfl rfl rfl ?_
      refine q_getf rfl rfl (by omega) g2 f22 ?_
      refine q_iload_n rfl rfl rfl ?_
      refine q_iconst rfl rfl ?_
      refine q_zast rfl rfl (by show 65 < n; omega) k65 (q_inN (by omega) (by decide)) ?_
      refine q_aload_n rfl rfl rfl ?_
      refine q_getf rfl rfl (by omega) (show va_up S 65 _ 46 = _ from g2) f23 ?_
      refine q_iload_n rfl rfl rfl ?_
      refine q_iconst rfl rfl ?_
      refine q_iast rfl rfl (by show 66 < n; omega) (show va_up S 65 _ 66 = _ from k66) (q_inN (by omega) (by decide)) ?_
      refine q_aload_n rfl rfl rfl ?_
      refine q_getf rfl rfl (by omega) (show va_up (va_up S 65 _) 66 _ 46 = _ from g2) f28 ?_
      refine q_iload_n rfl rfl rfl ?_
      refine q_iconst rfl rfl ?_
      refine q_zast rfl rfl (by show 71 < n; omega) (show va_up (va_up S 65 _) 66 _ 71 = _ from k71) (q_inN (by omega) (by decide)) ?_
      refine q_inc2 rfl rfl rfl rfl ?_
      refine q_goto rfl ?_
      have r1 := gs_one (k := 65) (i := (nI k).toNatClampNeg) (v := vp_nar .boolean 0) g1 rfl rfl k65 (nar_b (Or.inl rfl))
      have r2 := gs_one (k := 66) (i := (nI k).toNatClampNeg) (v := -1) r1 rfl rfl (show va_up S 65 _ 66 = _ from k66) (fullI _)
      have r3 := gs_one (k := 71) (i := (nI k).toNatClampNeg) (v := vp_nar .boolean 0) r2 rfl rfl (show va_up (va_up S 65 _) 66 _ 71 = _ from k71) (nar_b (Or.inl rfl))
      exact ih (k + 1) (by omega) _ _ (nI_1 k) r3 g2 (fr1_up (fr1_up (fr1_up g3 rfl) rfl) rfl)
  exact key c 0 (by omega) S0 0 rfl hG h46 fr1_rf
end FBM
section FBV
variable {L : Nat} {xs : Nat → Int32}
theorem w_findBacks0 : ck_Val jga (XI θ) j_ft j_df (j_SL L) (j_SV xs) j_MT j_EX kh_findBacks0 mm_X12_findBacks := kc_of (fun r0 as S n ha hE hm hG => by
  obtain ⟨w1, as1, rfl, rfl, ha1⟩ := ck_al_c ha
  cases ck_al_n ha1
  obtain ⟨fs, h46, hf⟩ := gs_obj hG (k := 46) rfl
  exact l_fb hG ⟨fs, h46⟩ (fun S' q1 q2 => ⟨rfl, q1, q2, _, List.mem_cons_self, hE, rfl, fun x hx => by cases hx⟩))
end FBV
