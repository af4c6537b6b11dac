variable {θ : Th}
/-! explore's contracts -/
section WEX
variable {SL : Nat → Nat} {SV : Nat → Nat → Int32} {EX : pm_M → pm_C → (pm_C → Prop) → Prop} {S : Nat → pm_E} {n : Nat}
theorem pm_weak {Y : pm_M} {as : List Value} {K K2 : q_K} (h : PM SL SV EX Y as S n K) (hK : ∀ r S' n', K r S' n' → K2 r S' n') : PM SL SV EX Y as S n K2 := q_weak h hK
theorem kc_void {C : ck_Ct} {r0 : List Int} {r : Option Value} {S' : Nat → pm_E} {n' : Nat} (hP : C.2.2.2.1.all (fun P => Nat.beq P.2.1.1 9) = true) (h : KC θ C r0 S n r S' n') : n' = n ∧ r = none ∧ GS θ S' n ∧ fr1 C.2.2.2.2 S S' n := by
  obtain ⟨h1, h2, h3, P, hp, h4, h5, -⟩ := h
  have e := Nat.eq_of_beq_eq_true (List.all_eq_true.mp hP P hp)
  unfold ck_rv at h5
  rw [e] at h5
  exact ⟨h1, h5, h2, h3⟩
theorem kc_int {C : ck_Ct} {r0 : List Int} {r : Option Value} {S' : Nat → pm_E} {n' : Nat} (hP : C.2.2.2.1.all (fun P => Nat.beq P.2.1.1 0) = true) (h : KC θ C r0 S n r S' n') : n' = n ∧ (∃ x : Int32, r = some (.int x)) ∧ GS θ S' n ∧ fr1 C.2.2.2.2 S S' n := by
  obtain ⟨h1, h2, h3, P, hp, h4, h5, -⟩ := h
  have e := Nat.eq_of_beq_eq_true (List.all_eq_true.mp hP P hp)
  unfold ck_rv at h5
  rw [e] at h5
  obtain ⟨x, hx, -⟩ := h5
  exact ⟨h1, ⟨x, hx⟩, h2, h3⟩
theorem kc_bool {C : ck_Ct} {r0 : List Int} {r : Option Value} {S' : Nat → pm_E} {n' : Nat} (hP : C.2.2.2.1.all (fun P => Nat.beq P.2.1.1 0 && (decide (0 ≤ P.2.1.2.1) && decide (P.2.1.2.2 ≤ 1))) = true) (h : KC θ C r0 S n r S' n') : n' = n ∧ (r = some (.int 0) ∨ r = some (.int 1)) ∧ GS θ S' n ∧ fr1 C.2.2.2.2 S S' n := by
  obtain ⟨h1, h2, h3, P, hp, h4, h5, -⟩ := h
  have e := List.all_eq_true.mp hP P hp
  rw [Bool.and_eq_true, Bool.and_eq_true] at e
  unfold ck_rv at h5
  rw [Nat.eq_of_beq_eq_true e.1] at h5
  obtain ⟨x, hx, h6, h7⟩ := h5
  have g1 := of_decide_eq_true e.2.1
  have g2 := of_decide_eq_true e.2.2
  have : x.toInt = 0 ∨ x.toInt = 1 := by omega
  refine ⟨h1, ?_, h2, h3⟩
  rcases this with e | e
  · exact Or.inl (by rw [hx, show x = 0 from Int32.toInt_inj.mp e])
  · exact Or.inr (by rw [hx, show x = 1 from Int32.toInt_inj.mp e])
theorem fo_ref {fs : List Value} {b : Nat} {q : Nat × Int × Int} (h : ∃ w, fs[b]? = some w ∧ ck_fo q w) (e : q.1 = 1) : fs[b]? = some (.ref q.2.1.toNat) := by
  obtain ⟨w, h1, h2⟩ := h
  unfold ck_fo at h2
  rw [e] at h2
  rw [h1, h2]
theorem fo_int {fs : List Value} {b : Nat} {q : Nat × Int × Int} (h : ∃ w, fs[b]? = some w ∧ ck_fo q w) (e : q.1 = 0) : ∃ x : Int32, fs[b]? = some (.int x) ∧ q.2.1 ≤ x.toInt ∧ x.toInt ≤ q.2.2 := by
  obtain ⟨w, h1, h2⟩ := h
  unfold ck_fo at h2
  rw [e] at h2
  obtain ⟨x, rfl, h3⟩ := h2
  exact ⟨x, h1, h3⟩
theorem nI_ofI {x : Int32} {k : Nat} (h : x.toInt = (k : Int)) (hk : k < 2 ^ 31) : x = nI k := Int32.toInt_inj.mp (by rw [h, nI_toInt hk])
theorem ev_u {r : List Int} {t i : Nat} {a : Int} (h : ck_ev r (t, i, 1, 0) = some a) : r[i]? = some a := by
  rcases ck_ev_d h with ⟨h0, -⟩ | ⟨y, -, hy, e⟩
  · exact absurd h0 (show ¬ (1 : Int) = 0 by decide)
  · dsimp only at hy e
    rw [hy, e]
    congr 1
    omega
theorem mo_f {r : List Int} {h : pm_H} {k b i : Nat} {ci : Nat} {fs : List Value} (hd : ck_mo r h (0, k, (0, b, 0, 0), (0, i, 1, 0))) (e : h[k]? = some (.inr (ci, fs))) : ∃ x : Int32, fs[b]? = some (.int x) ∧ r[i]? = some x.toInt := by
  obtain ⟨ci', fs', w, h1, h2, h3⟩ := hd
  dsimp only at h1 h2 h3
  rw [e] at h1
  cases h1
  obtain ⟨x, rfl, h4⟩ := ck_i rfl h3
  exact ⟨x, h2, ev_u h4⟩
theorem mo_mk {r : List Int} {S : Nat → pm_E} {n : Nat} {k b i ci : Nat} {fs : List Value} {x : Int32} (hk : k < n) (e : S k = .inr (ci, fs)) (hx : fs[b]? = some (.int x)) (hr : r[i]? = some x.toInt) : ck_mo r (hp S n) (0, k, (0, b, 0, 0), (0, i, 1, 0)) := ⟨ci, fs, .int x, by show (hp S n)[k]? = _; rw [hp_get hk, e], hx, ck_oku hr rfl⟩
theorem en_g {r : List Int} {E : ck_N} {i : Nat} {q : Int × Int} {y : Int} (h : ck_en r E) (h1 : E[i]? = some q) (h2 : r[i]? = some y) : q.1 ≤ y ∧ y ≤ q.2 := h.2 i q y h1 h2
end WEX
section WEY
variable {L : Nat} {xs : Nat → Int32}
theorem w_expl {S : Nat → pm_E} {n R : Nat} {pic : Int32} (hR : R ≤ 1) (b3 : Bool) (hG : GS θ S n) (hb : ∀ fs, S 46 = .inr (10, fs) → match b3 with
    | false => ∃ x : Int32, fs[7]? = some (.int x) ∧ x.toInt = 0
    | true => pic = 0 ∧ (∃ x : Int32, fs[7]? = some (.int x) ∧ x.toInt = 3) ∧ ∃ y : Int32, fs[1]? = some (.int y) ∧ y.toInt = 2) {K : q_K} (hK : ∀ (b : Int32) S', (b = 0 ∨ b = 1) → GS θ S' n → fr1 cX S S' n → K (some (.int b)) S' n) : PM (j_SL L) (j_SV xs) j_EX mm_X12_explore [.ref 46, .int (nI R), .int pic] S n K := by
  obtain ⟨fs, h46, hf⟩ := gs_obj hG (k := 46) rfl
  have hn := gs_n hG
  obtain ⟨hd, f1, d1, d2⟩ := fo_int (hf 1 _ rfl) rfl
  have d2' : hd.toInt ≤ 3 := d2
  have hb := hb fs h46
  refine l_expl hR f1 (fo_ref (hf 8 _ rfl) rfl) (fo_ref (hf 9 _ rfl) rfl) (fo_ref (hf 11 _ rfl) rfl) (fo_ref (hf 12 _ rfl) rfl) (fo_ref (hf 13 _ rfl) rfl) (fo_ref (hf 14 _ rfl) rfl) (fo_ref (hf 15 _ rfl) rfl) (fo_ref (hf 16 _ rfl) rfl) (fo_ref (hf 17 _ rfl) rfl) ?_ ?_ ?_ ?_ hG h46 hK
  · intro S' hG' _
    exact pm_weak (q_kc w164 [] hG' ⟨rfl, trivial⟩ ck_en_n (fun d hd => by cases hd)) (fun r S9 n9 h => kc_void rfl h)
  · intro S' hG' _ i hi
    have hi' : (nI i).toInt = (i : Int) := nI_toInt (by omega)
    rcases (show R = 0 ∨ R = 1 by omega) with rfl | rfl
    · exact pm_weak (q_kc w198 [(i : Int)] hG' ⟨rfl, ck_okc rfl, ck_oku rfl hi', trivial⟩ (ck_en_c (by show (0 : Int) ≤ _; omega) (by show _ ≤ (1999 : Int); omega) ck_en_n) (fun d hd => by cases hd)) (fun r S9 n9 h => kc_void rfl h)
    · exact pm_weak (q_kc w200 [(i : Int)] hG' ⟨rfl, ck_okc rfl, ck_oku rfl hi', trivial⟩ (ck_en_c (by show (0 : Int) ≤ _; omega) (by show _ ≤ (1999 : Int); omega) ck_en_n) (fun d hd => by cases hd)) (fun r S9 n9 h => kc_void rfl h)
  · intro S' hG' h46' x hx hxh
    have hx' : (nI x).toInt = (x : Int) := nI_toInt (by omega)
    have hxh' : (x : Int) < hd.toInt := by
      rw [Int32.le_iff_toInt_le, hx'] at hxh
      omega
    cases b3 with
    | false =>
      obtain ⟨bx, f7, e7⟩ := hb
      exact pm_weak (q_kc w293 [(x : Int), pic.toInt, bx.toInt] hG' ⟨rfl, ck_oku rfl hx', ck_oku rfl rfl, trivial⟩ (ck_en_c (by show (0 : Int) ≤ _; omega) (by show _ ≤ (2 : Int); omega) (ck_en_c (fullI pic).1 (fullI pic).2 (ck_en_c (by show (0 : Int) ≤ _; omega) (by show _ ≤ (0 : Int); omega) ck_en_n))) (fun d hd => by
        rw [List.mem_singleton.mp hd]
        exact mo_mk (by omega) h46' f7 rfl)) (fun r S9 n9 h => kc_bool rfl h)
    | true =>
      obtain ⟨rfl, ⟨bx, f7, e7⟩, y, f1', e1⟩ := hb
      rw [f1] at f1'
      cases f1'
      exact pm_weak (q_kc w297 [(x : Int), bx.toInt, hd.toInt] hG' ⟨rfl, ck_oku rfl hx', ck_okc rfl, trivial⟩ (ck_en_c (by show (0 : Int) ≤ _; omega) (by show _ ≤ (1 : Int); omega) (ck_en_c (by show (3 : Int) ≤ _; omega) (by show _ ≤ (3 : Int); omega) (ck_en_c (by show (2 : Int) ≤ _; omega) (by show _ ≤ (2 : Int); omega) ck_en_n))) (fun d hd => by
        rcases List.mem_cons.mp hd with e | e
        · rw [e]
          exact mo_mk (by omega) h46' f7 rfl
        · rw [List.mem_singleton.mp e]
          exact mo_mk (by omega) h46' f1 rfl)) (fun r S9 n9 h => kc_bool rfl h)
  · intro S' hG' h46' x hx hxh
    have hx' : (nI x).toInt = (x : Int) := nI_toInt (by omega)
    have hxh' : (x : Int) < hd.toInt := by
      rw [Int32.le_iff_toInt_le, hx'] at hxh
      omega
    cases b3 with
    | false =>
      obtain ⟨bx, f7, e7⟩ := hb
      exact pm_weak (q_kc w193 [(x : Int), pic.toInt, bx.toInt] hG' ⟨rfl, ck_oku rfl hx', ck_oku rfl rfl, trivial⟩ (ck_en_c (by show (0 : Int) ≤ _; omega) (by show _ ≤ (2 : Int); omega) (ck_en_c (fullI pic).1 (fullI pic).2 (ck_en_c (by show (0 : Int) ≤ _; omega) (by show _ ≤ (0 : Int); omega) ck_en_n))) (fun d hd => by
        rw [List.mem_singleton.mp hd]
        exact mo_mk (by omega) h46' f7 rfl)) (fun r S9 n9 h => kc_void rfl h)
    | true =>
      obtain ⟨rfl, ⟨bx, f7, e7⟩, y, f1', e1⟩ := hb
      rw [f1] at f1'
      cases f1'
      exact pm_weak (q_kc w301 [(x : Int), bx.toInt, hd.toInt] hG' ⟨rfl, ck_oku rfl hx', ck_okc rfl, trivial⟩ (ck_en_c (by show (0 : Int) ≤ _; omega) (by show _ ≤ (1 : Int); omega) (ck_en_c (by show (3 : Int) ≤ _; omega) (by show _ ≤ (3 : Int); omega) (ck_en_c (by show (2 : Int) ≤ _; omega) (by show _ ≤ (2 : Int); omega) ck_en_n))) (fun d hd => by
        rcases List.mem_cons.mp hd with e | e
        · rw [e]
          exact mo_mk (by omega) h46' f7 rfl
        · rw [List.mem_singleton.mp e]
          exact mo_mk (by omega) h46' f1 rfl)) (fun r S9 n9 h => kc_void rfl h)
theorem w_bool {C : ck_Ct} {r0 : List Int} {S S' : Nat → pm_E} {n : Nat} {b : Int32} {E : ck_N} (hP : C.2.2.2.1 = [(E, (0, 0, 0), []), (E, (0, 1, 1), [])]) (hE : ck_en r0 E) (hb : b = 0 ∨ b = 1) (hG : GS θ S' n) (hF : fr1 C.2.2.2.2 S S' n) : KC θ C r0 S n (some (.int b)) S' n := by
  refine ⟨rfl, hG, hF, ?_⟩
  rw [hP]
  rcases hb with rfl | rfl
  · exact ⟨_, List.mem_cons_self, hE, ⟨0, rfl, Int.le_refl _, Int.le_refl _⟩, fun x hx => by cases hx⟩
  · exact ⟨_, List.mem_cons_of_mem _ List.mem_cons_self, hE, ⟨1, rfl, Int.le_refl _, Int.le_refl _⟩, fun x hx => by cases hx⟩
theorem w_explore0 : ck_Val jga (XI θ) j_ft j_df (j_SL L) (j_SV xs) j_MT j_EX kh_explore0 mm_X12_explore := kc_of (fun r0 as S n ha hE hm hG => by
  obtain ⟨w1, as1, rfl, rfl, ha1⟩ := ck_al_c ha
  obtain ⟨w2, as2, rfl, ⟨rm, rfl, er⟩, ha2⟩ := ck_al_c ha1
  obtain ⟨w3, as3, rfl, ⟨pc, rfl, ep⟩, ha3⟩ := ck_al_c ha2
  cases ck_al_n ha3
  have e0 : rm = nI 0 := nI_ofI (k := 0) (Option.some.inj er).symm (by decide)
  subst e0
  refine w_expl (by omega) false hG (fun fs h46 => ?_) (fun b S' hb hG' hF => w_bool rfl hE hb hG' hF)
  have hn := gs_n hG
  obtain ⟨x, h1, h2⟩ := mo_f (hm _ List.mem_cons_self) (show (hp S n)[46]? = _ by rw [hp_get (by omega), h46])
  have := en_g hE (i := 1) rfl h2
  exact ⟨x, h1, by have a := this.1; have b := this.2; dsimp only at a b; omega⟩)
theorem w_explore1 : ck_Val jga (XI θ) j_ft j_df (j_SL L) (j_SV xs) j_MT j_EX kh_explore1 mm_X12_explore := kc_of (fun r0 as S n ha hE hm hG => by
  obtain ⟨w1, as1, rfl, rfl, ha1⟩ := ck_al_c ha
  obtain ⟨w2, as2, rfl, ⟨rm, rfl, er⟩, ha2⟩ := ck_al_c ha1
  obtain ⟨w3, as3, rfl, ⟨pc, rfl, ep⟩, ha3⟩ := ck_al_c ha2
  cases ck_al_n ha3
  have e0 : rm = nI 1 := nI_ofI (k := 1) (Option.some.inj er).symm (by decide)
  subst e0
  refine w_expl (by omega) false hG (fun fs h46 => ?_) (fun b S' hb hG' hF => w_bool rfl hE hb hG' hF)
  have hn := gs_n hG
  obtain ⟨x, h1, h2⟩ := mo_f (hm _ List.mem_cons_self) (show (hp S n)[46]? = _ by rw [hp_get (by omega), h46])
  have := en_g hE (i := 1) rfl h2
  exact ⟨x, h1, by have a := this.1; have b := this.2; dsimp only at a b; omega⟩)
theorem w_explore2 : ck_Val jga (XI θ) j_ft j_df (j_SL L) (j_SV xs) j_MT j_EX kh_explore2 mm_X12_explore := kc_of (fun r0 as S n ha hE hm hG => by
  obtain ⟨w1, as1, rfl, rfl, ha1⟩ := ck_al_c ha
  obtain ⟨w2, as2, rfl, ⟨rm, rfl, er⟩, ha2⟩ := ck_al_c ha1
  obtain ⟨w3, as3, rfl, ⟨pc, rfl, ep⟩, ha3⟩ := ck_al_c ha2
  cases ck_al_n ha3
  have e0 : rm = nI 1 := nI_ofI (k := 1) (Option.some.inj er).symm (by decide)
  have e1 : pc = 0 := Int32.toInt_inj.mp (Option.some.inj ep).symm
  subst e0 e1
  refine w_expl (by omega) true hG (fun fs h46 => ?_) (fun b S' hb hG' hF => w_bool rfl hE hb hG' hF)
  have hn := gs_n hG
  have e46 : (hp S n)[46]? = some (.inr (10, fs)) := by rw [hp_get (by omega), h46]
  obtain ⟨x, h1, h2⟩ := mo_f (hm _ List.mem_cons_self) e46
  obtain ⟨y, h3, h4⟩ := mo_f (hm _ (List.mem_cons_of_mem _ List.mem_cons_self)) e46
  have b1 := en_g hE (i := 0) rfl h2
  have b2 := en_g hE (i := 1) rfl h4
  dsimp only at b1 b2
  exact ⟨rfl, ⟨x, h1, by omega⟩, y, h3, by omega⟩)
end WEY
