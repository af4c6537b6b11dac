variable {θ : Th}
/-! the contracts that write what stands between calls -/
section HD
variable {P : PG} {S S' : Nat → pm_E} {n k : Nat} {L : Nat} {xs : Nat → Int32}
theorem fo_long {fs : List Value} {b : Nat} {q : Nat × Int × Int} (h : ∃ w, fs[b]? = some w ∧ ck_fo q w) (e : q.1 = 3) : ∃ x : Int64, fs[b]? = some (.long x) := by
  obtain ⟨w, h1, h2⟩ := h
  unfold ck_fo at h2
  rw [e] at h2
  obtain ⟨x, rfl⟩ := h2
  exact ⟨x, h1⟩
theorem nI_rg {x : Int32} {m : Nat} (h0 : 0 ≤ x.toInt) (h1 : x.toInt ≤ (m : Int)) : ∃ k : Nat, k ≤ m ∧ x = nI k := by
  have h2 := (fullI x).2
  have h3 : x.toInt ≤ 2147483647 := h2
  exact ⟨x.toInt.toNat, by omega, nI_ofI (k := x.toInt.toNat) (by omega) (by omega)⟩
theorem gs_ts (hG : GS θ S n) : TSo S := by
  obtain ⟨ts, h0, hf⟩ := gs_obj hG (k := 0) rfl
  exact ⟨ts, h0, fo_ref (hf 1 _ rfl) rfl, fo_ref (hf 2 _ rfl) rfl, fo_ref (hf 3 _ rfl) rfl, fo_ref (hf 8 _ rfl) rfl, fo_ref (hf 9 _ rfl) rfl⟩
theorem gs_oall8 (hG : GS θ S n) (hJ : OJ 8 S) : OAll 8 S := by
  obtain ⟨os, N, fo, tb, ce, k0, o0, hN, k1, k6, k7, hT⟩ := hJ
  obtain ⟨fs, h0, hf⟩ := gs_obj hG (k := 8) rfl
  rw [k0] at h0
  cases h0
  obtain ⟨sp, s1, b1, b2⟩ := fo_int (hf 1 _ rfl) rfl
  obtain ⟨sl, s2, -⟩ := fo_int (hf 2 _ rfl) rfl
  obtain ⟨en, s3⟩ := fo_long (hf 3 _ rfl) rfl
  obtain ⟨q, -, rfl⟩ := nI_rg (m := 1) b1 b2
  obtain ⟨og, k2, -⟩ := gs_arr hG (k := 10) rfl
  obtain ⟨mv, k3, -⟩ := gs_arr hG (k := 11) rfl
  obtain ⟨so, k4, -⟩ := gs_arr hG (k := 12) rfl
  obtain ⟨fw, k5, -⟩ := gs_arr hG (k := 13) rfl
  exact ⟨N, q, sl, en, fo, og, mv, so, fw, tb, ce, ⟨_, k0, o0, s1, s2, s3, fo_ref (hf 4 _ rfl) rfl, fo_ref (hf 5 _ rfl) rfl, fo_ref (hf 6 _ rfl) rfl, fo_ref (hf 7 _ rfl) rfl, fo_ref (hf 8 _ rfl) rfl, fo_ref (hf 9 _ rfl) rfl, fo_ref (hf 10 _ rfl) rfl, k1, k2, k3, k4, k5, k6, k7⟩, hN, hT⟩
theorem gs_oall16 (hG : GS θ S n) (hJ : OJ 16 S) : OAll 16 S := by
  obtain ⟨os, N, fo, tb, ce, k0, o0, hN, k1, k6, k7, hT⟩ := hJ
  obtain ⟨fs, h0, hf⟩ := gs_obj hG (k := 16) rfl
  rw [k0] at h0
  cases h0
  obtain ⟨sp, s1, b1, b2⟩ := fo_int (hf 1 _ rfl) rfl
  obtain ⟨sl, s2, -⟩ := fo_int (hf 2 _ rfl) rfl
  obtain ⟨en, s3⟩ := fo_long (hf 3 _ rfl) rfl
  obtain ⟨q, -, rfl⟩ := nI_rg (m := 1) b1 b2
  obtain ⟨og, k2, -⟩ := gs_arr hG (k := 18) rfl
  obtain ⟨mv, k3, -⟩ := gs_arr hG (k := 19) rfl
  obtain ⟨so, k4, -⟩ := gs_arr hG (k := 20) rfl
  obtain ⟨fw, k5, -⟩ := gs_arr hG (k := 21) rfl
  exact ⟨N, q, sl, en, fo, og, mv, so, fw, tb, ce, ⟨_, k0, o0, s1, s2, s3, fo_ref (hf 4 _ rfl) rfl, fo_ref (hf 5 _ rfl) rfl, fo_ref (hf 6 _ rfl) rfl, fo_ref (hf 7 _ rfl) rfl, fo_ref (hf 8 _ rfl) rfl, fo_ref (hf 9 _ rfl) rfl, fo_ref (hf 10 _ rfl) rfl, k1, k2, k3, k4, k5, k6, k7⟩, hN, hT⟩
theorem gs_jrp (hG : GS θ S n) (hT : tie θ P) (hW : WFP P) (hJ : RJ P S) : ∃ fs, JRp P fs S := by
  have hn := gs_n hG
  have hH := hW.2.1
  obtain ⟨fs, h46, hf⟩ := gs_obj hG (k := 46) rfl
  obtain ⟨-, -, -, mn, fk, fa, fn, m47, m48, m49, m50, hm, hk, fs', m46, m1⟩ := hG.2
  have e46 := (hp_some m46).2
  rw [h46] at e46
  cases e46
  obtain ⟨⟨vl, k51, hv⟩, -⟩ := hJ
  obtain ⟨w, f7, -⟩ := fo_int (hf 7 _ rfl) rfl
  obtain ⟨z, f18, -⟩ := fo_int (hf 18 _ rfl) rfl
  obtain ⟨t1, t2, t3⟩ := hT
  refine ⟨_, mn, fk, fa, fn, vl, w, z, h46, by rw [m1, t1], fo_ref (hf 2 _ rfl) rfl, fo_ref (hf 3 _ rfl) rfl, fo_ref (hf 4 _ rfl) rfl, fo_ref (hf 5 _ rfl) rfl, fo_ref (hf 6 _ rfl) rfl, f7, fo_ref (hf 8 _ rfl) rfl, fo_ref (hf 9 _ rfl) rfl, fo_ref (hf 10 _ rfl) rfl, fo_ref (hf 11 _ rfl) rfl, fo_ref (hf 12 _ rfl) rfl, fo_ref (hf 13 _ rfl) rfl, fo_ref (hf 14 _ rfl) rfl, fo_ref (hf 15 _ rfl) rfl, fo_ref (hf 16 _ rfl) rfl, fo_ref (hf 17 _ rfl) rfl, f18, fo_ref (hf 19 _ rfl) rfl, fo_ref (hf 20 _ rfl) rfl, fo_ref (hf 21 _ rfl) rfl, (hp_some m47).2, (hp_some m48).2, (hp_some m49).2, (hp_some m50).2, k51, fun x hx => ?_, fun x i hx hi => ?_, hv⟩
  · rw [Nat.zero_add, hm x (by omega)]
    exact t2 x hx
  · have hl := hW.2.2.1 x hx
    have h9 := hk (8 * x + i) (by omega)
    rw [Nat.zero_add, h9.1, h9.2.1, h9.2.2]
    exact t3 x i hx hi
theorem gs_rws {R : Nat} (hG : GS θ S n) (hR : R ≤ 1) : RWs R S := by
  obtain ⟨a52, k52, -⟩ := gs_arr hG (k := 52) rfl
  obtain ⟨a53, k53, -⟩ := gs_arr hG (k := 53) rfl
  obtain ⟨a55, k55, -⟩ := gs_arr hG (k := 55) rfl
  obtain ⟨a56, k56, -⟩ := gs_arr hG (k := 56) rfl
  obtain ⟨a57, k57, -⟩ := gs_arr hG (k := 57) rfl
  obtain ⟨a58, k58, -⟩ := gs_arr hG (k := 58) rfl
  obtain ⟨a59, k59, -⟩ := gs_arr hG (k := 59) rfl
  obtain ⟨a61, k61, -⟩ := gs_arr hG (k := 61) rfl
  obtain ⟨ct, k60, b60⟩ := gs_a1 hG (k := 60) rfl
  obtain ⟨q1, q2⟩ := b60 R (by omega)
  obtain ⟨N, -, hN⟩ := nI_rg (m := 2000) q1 q2
  exact ⟨N, a55, a56, a57, a58, a59, ct, a61, a53, a52, k52, k53, k55, k56, k57, k58, k59, k60, k61, hN⟩
theorem cj_fr (h : CJ P S) (e : ∀ j, j < 46 → S' j = S j) : CJ P S' := by
  obtain ⟨h1, h2, h3, h4, sz, en, a44, a45, hS, hT⟩ := h
  refine ⟨?_, ?_, OJ_same h3 (fun k h1 h2 => e k (by omega)), OJ_same h4 (fun k h1 h2 => e k (by omega)), sz, en, (e 44 (by decide)).trans a44, (e 45 (by decide)).trans a45, hS, fun q1 q2 => TJ_same (hT q1 q2) (fun k h1 h2 => e k (by omega))⟩
  · obtain ⟨fs, fa, ln, l4, l5, l6, c0, f0, f1, f2, f3, f4, f5, c1, c2, c3, c4, c5, g⟩ := h1
    exact ⟨fs, fa, ln, l4, l5, l6, (e 1 (by decide)).trans c0, f0, f1, f2, f3, f4, f5, (e 2 (by decide)).trans c1, (e 3 (by decide)).trans c2, (e 4 (by decide)).trans c3, (e 5 (by decide)).trans c4, (e 6 (by decide)).trans c5, g⟩
  · obtain ⟨gs, c0, g⟩ := h2
    exact ⟨gs, (e 7 (by decide)).trans c0, g⟩
theorem rj_fr (h : RJ P S) (e : ∀ j, 51 ≤ j → S' j = S j) : RJ P S' := by
  obtain ⟨⟨vl, a51, hv⟩, kn, so, ed, b62, b63, b64, hK, hRT⟩ := h
  exact ⟨⟨vl, (e 51 (by decide)).trans a51, hv⟩, kn, so, ed, (e 62 (by decide)).trans b62, (e 63 (by decide)).trans b63, (e 64 (by decide)).trans b64, hK, fun q1 q2 => RT_same (hRT q1 q2) (fun k h1 h2 => e k (by omega))⟩
theorem wb81 : ck_Val jgb (XJ θ P) j_ft j_df (j_SL L) (j_SV xs) j_MT j_EX kc81 mm_X11_sizeOf := kj_of w81 (fun r0 as S n ha hE hm hG hT hJ => by
  obtain ⟨w1, as1, rfl, rfl, ha1⟩ := ck_al_c ha
  obtain ⟨w2, as2, rfl, ⟨x, rfl, ex⟩, ha2⟩ := ck_al_c ha1
  cases ck_al_n ha2
  have b := en_g hE (i := 0) rfl (ev_u ex)
  obtain ⟨k, hk, rfl⟩ := nI_rg (m := 4) b.1 b.2
  refine pm_weak (c_size (P := P) hJ.1 (gs_n hG) (by omega) (gs_ts hG) (gs_oall8 hG hJ.2.1.2.2.1) (gs_oall16 hG hJ.2.1.2.2.2.1) hJ.2.1) (fun r S' n' h => ?_)
  obtain ⟨-, -, h1, h2, -⟩ := h
  exact ⟨hJ.1, h1, rj_fr hJ.2.2 (fun j hj => h2 j (by omega) (by omega) (by omega) (by omega))⟩)
theorem wb201 : ck_Val jgb (XJ θ P) j_ft j_df (j_SL L) (j_SV xs) j_MT j_EX kc201 mm_X12_isSpent := kj_of w201 (fun r0 as S n ha hE hm hG hT hJ => by
  obtain ⟨w1, as1, rfl, rfl, ha1⟩ := ck_al_c ha
  obtain ⟨w2, as2, rfl, ⟨x, rfl, ex⟩, ha2⟩ := ck_al_c ha1
  cases ck_al_n ha2
  have b := en_g hE (i := 0) rfl (ev_u ex)
  obtain ⟨k, hk, rfl⟩ := nI_rg (m := 4) b.1 b.2
  obtain ⟨fs, hp⟩ := gs_jrp hG hT hJ.1 hJ.2.2
  refine pm_weak (l_spent (P := P) hJ.1 (gs_n hG) (by omega) hp (gs_rws hG (by split <;> omega)) hJ.2.2) (fun r S' n' h => ?_)
  obtain ⟨-, -, h1, h2, -⟩ := h
  exact ⟨hJ.1, cj_fr hJ.2.1 (fun j hj => h2 j (by omega) (by omega) (by omega) (by omega)), h1⟩)
theorem wb_explore2 : ck_Val jgb (XJ θ P) j_ft j_df (j_SL L) (j_SV xs) j_MT j_EX kh_explore2 mm_X12_explore := kj_of w_explore2 (fun r0 as S n ha hE hm hG hT hJ => by
  obtain ⟨w1, as1, rfl, rfl, ha1⟩ := ck_al_c ha
  obtain ⟨w2, as2, rfl, ⟨rm, rfl, er⟩, ha2⟩ := ck_al_c ha1
  obtain ⟨w3, as3, rfl, ⟨pc, rfl, ep⟩, ha3⟩ := ck_al_c ha2
  cases ck_al_n ha3
  have e0 : rm = nI 1 := nI_ofI (k := 1) (Option.some.inj er).symm (by decide)
  have e1 : pc = 0 := Int32.toInt_inj.mp (Option.some.inj ep).symm
  subst e0 e1
  have hn := gs_n hG
  refine w_expl2 (by omega) true hG (fun fs h46 => ?_) (fun b S' hb hG' hF => ?_)
  · have e46 : (hp S n)[46]? = some (.inr (10, fs)) := by rw [hp_get (by omega), h46]
    obtain ⟨x, h1, h2⟩ := mo_f (hm _ List.mem_cons_self) e46
    obtain ⟨y, h3, h4⟩ := mo_f (hm _ (List.mem_cons_of_mem _ List.mem_cons_self)) e46
    have b1 := en_g hE (i := 0) rfl h2
    have b2 := en_g hE (i := 1) rfl h4
    dsimp only at b1 b2
    exact ⟨rfl, ⟨x, h1, by omega⟩, y, h3, by omega⟩
  · have fr : ∀ j, j < 82 → cX.contains j = false → S' j = S j := fun j hj hc => hF.1 j (by omega) hc
    obtain ⟨hW, hC, ⟨vl, a51, hv⟩, kn, so, ed, b62, b63, b64, hK, hRT⟩ := hJ
    exact ⟨hW, cj_fr hC (fun j hj => fr j (by omega) (by
      have t : (List.range 46).all (fun j => !(cX.contains j)) = true := by decide +kernel
      have := List.all_eq_true.mp t j (List.mem_range.mpr hj)
      simpa using this)), ⟨vl, (fr 51 (by decide) rfl).trans a51, hv⟩, kn, so, ed, (fr 62 (by decide) rfl).trans b62, (fr 63 (by decide) rfl).trans b63, (fr 64 (by decide) rfl).trans b64, hK, fun q1 q2 => RT_lo hW (hRT q1 q2) hF.2⟩)
theorem jz_o16 (hJ : JZ P S) (e : frO 16 S S') (h : OJ 16 S') : JZ P S' := by
  obtain ⟨hW, ⟨h1, h2, h3, h4, sz, en, a44, a45, hS, hT⟩, hR⟩ := hJ
  have e' : ∀ j, j < 16 ∨ 24 ≤ j → S' j = S j := e
  refine ⟨hW, ⟨?_, ?_, OJ_same h3 (fun k h1 h2 => e' k (by omega)), h, sz, en, (e' 44 (by omega)).trans a44, (e' 45 (by omega)).trans a45, hS, fun q1 q2 => TJ_same (hT q1 q2) (fun k h1 h2 => e' k (by omega))⟩, rj_fr hR (fun j hj => e' j (by omega))⟩
  · obtain ⟨fs, fa, ln, l4, l5, l6, c0, f0, f1, f2, f3, f4, f5, c1, c2, c3, c4, c5, g⟩ := h1
    exact ⟨fs, fa, ln, l4, l5, l6, (e' 1 (by omega)).trans c0, f0, f1, f2, f3, f4, f5, (e' 2 (by omega)).trans c1, (e' 3 (by omega)).trans c2, (e' 4 (by omega)).trans c3, (e' 5 (by omega)).trans c4, (e' 6 (by omega)).trans c5, g⟩
  · obtain ⟨gs, c0, g⟩ := h2
    exact ⟨gs, (e' 7 (by omega)).trans c0, g⟩
theorem wb75 : ck_Val jgb (XJ θ P) j_ft j_df (j_SL L) (j_SV xs) j_MT j_EX kc75 mm_X7_clear := kj_of w75 (fun r0 as S n ha hE hm hG hT hJ => by
  obtain ⟨w1, as1, rfl, rfl, ha1⟩ := ck_al_c ha
  cases ck_al_n ha1
  obtain ⟨N, sp, sl, en, fo, og, mv, so, fw, tb, ce, hO, hN, hH⟩ := gs_oall16 hG hJ.2.1.2.2.2.1
  have hn := gs_n hG
  refine pm_weak (o_clear (oc := 16) (by omega) hO hN hH) (fun r S' n' h => ?_)
  obtain ⟨-, -, e, tb', hz, hO'⟩ := h
  exact jz_o16 hJ e (OJ_of hO' (by omega) (ht_0 hz)))
theorem wb77 : ck_Val jgb (XJ θ P) j_ft j_df (j_SL L) (j_SV xs) j_MT j_EX kc77 mm_X7_numberOf := kj_of w77 (fun r0 as S n ha hE hm hG hT hJ => by
  obtain ⟨w1, as1, rfl, rfl, ha1⟩ := ck_al_c ha
  obtain ⟨w2, as2, rfl, ⟨t, rfl⟩, ha2⟩ := ck_al_c ha1
  obtain ⟨w3, as3, rfl, ⟨v1, rfl, -⟩, ha3⟩ := ck_al_c ha2
  obtain ⟨w4, as4, rfl, ⟨v2, rfl, -⟩, ha4⟩ := ck_al_c ha3
  cases ck_al_n ha4
  obtain ⟨N, sp, sl, en, fo, og, mv, so, fw, tb, ce, hO, hN, hH⟩ := gs_oall16 hG hJ.2.1.2.2.2.1
  have hn := gs_n hG
  refine pm_weak (o_num (oc := 16) (t := t) (v1 := v1) (v2 := v2) (by omega) hO hN hH) (fun r S' n' h => ?_)
  obtain ⟨-, e, ⟨j, -, -, -, e9⟩ | ⟨-, ⟨-, -, hO'⟩ | ⟨hlt, -, tb', ce', hH', hO'⟩⟩⟩ := h
  · rw [← e9]
    exact hJ
  · exact jz_o16 hJ e (OJ_of hO' hN hH)
  · exact jz_o16 hJ e (OJ_of hO' (by omega) hH'))
end HD
