/-! fix, fixed: the reference -/
section QG9
variable {P : PG} {S S' T W : Nat → pm_E} {n l c d x i k q t s : Nat} {p v : Nat} {L : Nat} {xs : Nat → Int32} {fs : List Value} {su : Int32} {ff ft : Nat → Int32}
def bK9 (A : Prop) (S : Nat → pm_E) (n : Nat) : q_K := fun r S' n' => S = S' ∧ n = n' ∧ ((¬ A ∧ r = some (.int 0)) ∨ (A ∧ r = some (.int 1)))
theorem l_in9 {a lo hi : Int32} : PM (j_SL L) (j_SV xs) j_EX mm_X12_in [.ref 46, .int a, .int lo, .int hi] S n (bK9 (inP a lo hi) S n) := pm_weak l_in (fun r S' n' h => ⟨h.1.symm, h.2.1.symm, h.2.2⟩)
theorem l_pl9 {a : Int32} (hn : 82 ≤ n) (h46 : S 46 = .inr (10, fs)) : PM (j_SL L) (j_SV xs) j_EX mm_X12_isPlace [.ref 46, .int a] S n (bK9 (inP a 0 3) S n) := pm_weak (l_isPlace hn h46) (fun r S' n' h => ⟨h.1.symm, h.2.1.symm, h.2.2⟩)
theorem in_i9 {a : Int32} {m : Nat} (hm : m + 1 < 2 ^ 31) : inP a 0 (nI m) ↔ 0 ≤ a ∧ a < nI (m + 1) := by
  unfold inP
  rw [Int32.le_iff_toInt_le, Int32.le_iff_toInt_le, Int32.lt_iff_toInt_lt, nI_toInt (by omega), nI_toInt hm]
  omega
/-- the reference's fields -/
def FF9 (fs : List Value) (hh : Nat) (su : Int32) : Prop := fs[1]? = some (.int (nI hh)) ∧ fs[2]? = some (.ref 47) ∧ fs[3]? = some (.ref 48) ∧ fs[4]? = some (.ref 49) ∧ fs[5]? = some (.ref 50) ∧ fs[6]? = some (.ref 51) ∧ fs[8]? = some (.ref 52) ∧ fs[9]? = some (.ref 53) ∧ fs[10]? = some (.ref 54) ∧ fs[11]? = some (.ref 55) ∧ fs[12]? = some (.ref 56) ∧ fs[13]? = some (.ref 57) ∧ fs[14]? = some (.ref 58) ∧ fs[15]? = some (.ref 59) ∧ fs[16]? = some (.ref 60) ∧ fs[17]? = some (.ref 61) ∧ fs[30]? = some (.ref 72) ∧ fs[31]? = some (.ref 73) ∧ fs[32]? = some (.int su)
theorem ff_k {fs' : List Value} {hh : Nat} (h : FF9 fs hh su) (e : ∀ p, p ≠ 7 → fs'[p]? = fs[p]?) : FF9 fs' hh su := by
  obtain ⟨h1, h2, h3, h4, h5, h6, h8, h9, h10, h11, h12, h13, h14, h15, h16, h17, h30, h31, h32⟩ := h
  exact ⟨(e 1 (by decide)).trans h1, (e 2 (by decide)).trans h2, (e 3 (by decide)).trans h3, (e 4 (by decide)).trans h4, (e 5 (by decide)).trans h5, (e 6 (by decide)).trans h6, (e 8 (by decide)).trans h8, (e 9 (by decide)).trans h9, (e 10 (by decide)).trans h10, (e 11 (by decide)).trans h11, (e 12 (by decide)).trans h12, (e 13 (by decide)).trans h13, (e 14 (by decide)).trans h14, (e 15 (by decide)).trans h15, (e 16 (by decide)).trans h16, (e 17 (by decide)).trans h17, (e 30 (by decide)).trans h30, (e 31 (by decide)).trans h31, (e 32 (by decide)).trans h32⟩
/-- the reference between two tries of fix: the program's own rows stand -/
def RI9 (P : PG) (su : Int32) (ff ft : Nat → Int32) (S : Nat → pm_E) : Prop := ∃ (fs : List Value) (mn fk fa fn vl : Nat → Int32), S 46 = .inr (10, fs) ∧ FF9 fs (pH P) su ∧ (∃ z : Int32, fs[7]? = some (.int z)) ∧ S 47 = .inl (0, 6, .inl mn) ∧ S 48 = .inl (0, 48, .inl fk) ∧ S 49 = .inl (0, 48, .inl fa) ∧ S 50 = .inl (0, 48, .inl fn) ∧ S 51 = .inl (0, 4, .inl vl) ∧ S 72 = .inl (0, 2, .inl ff) ∧ S 73 = .inl (0, 2, .inl ft) ∧ (∀ x, x < pH P → mn x = nI (pL P x)) ∧ (∀ x i, x < pH P → i < pL P x → fk (8 * x + i) = nI (pK P x i) ∧ fa (8 * x + i) = pO P x i ∧ fn (8 * x + i) = pN P x i) ∧ (∀ p, p < 4 → vl p = nI (pV P p)) ∧ RWs 1 S
theorem rws_fr (h : RWs 1 S) (e : ∀ j, j = 52 ∨ j = 53 ∨ (55 ≤ j ∧ j ≤ 61) → S' j = S j) : RWs 1 S' := by
  obtain ⟨N9, q1, q2, q3, q4, q5, q6, q7, q8, q9, d1, d2, d3, d4, d5, d6, d7, d8, d9, d10⟩ := h
  exact ⟨N9, q1, q2, q3, q4, q5, q6, q7, q8, q9, (e 52 (by omega)).trans d1, (e 53 (by omega)).trans d2, (e 55 (by omega)).trans d3, (e 56 (by omega)).trans d4, (e 57 (by omega)).trans d5, (e 58 (by omega)).trans d6, (e 59 (by omega)).trans d7, (e 60 (by omega)).trans d8, (e 61 (by omega)).trans d9, d10⟩
set_option maxHeartbeats 16000000 in
/-- both locks laid, then isGood -/
theorem r_try9 {K : q_K} {w4 : Value} (hY : HY9 P) (hl : l < 3) (hc : c < 11) (hd : d < 11) (hp : p < 4) (hv : v < 10) (hn : 82 ≤ n) (H : RI9 P su ff ft S) (hK : ∀ (T : Nat → pm_E) (z : Int32), RI9 P su ff ft T → ((good9 (PGf P l c d) p v ∧ z = 1) ∨ (¬ good9 (PGf P l c d) p v ∧ z = 0)) → PQ (j_SL L) (j_SV xs) j_EX mm_X12_fix 185 [.ref 46, .int (nI l), .int (nI p), .int (nI v), w4, .int (nI c), .int (nI d)] [.int z] T n 0 0 K) (b4 : pm_c2 w4 = false) : PQ (j_SL L) (j_SV xs) j_EX mm_X12_fix 143 [.ref 46, .int (nI l), .int (nI p), .int (nI v), w4, .int (nI c), .int (nI d)] [] S n 0 0 K := by
  obtain ⟨fs, mn, fk, fa, fn, vl, k46, hF, ⟨z7, f7⟩, k47, k48, k49, k50, k51, k72, k73, hmn, hpr, hvl, hR⟩ := H
  obtain ⟨f1, f2, f3, f4, f5, f6, f8, f9, f10, f11, f12, f13, f14, f15, f16, f17, f30, f31, f32⟩ := id hF
  have hW := hY.1
  have h2 := hY.2.2.1
  have l0 := hY.2.2.2 0 (by decide)
  have l1 := hY.2.2.2 1 (by decide)
  have hWf := pgf_wf (l := l) (c := c) (d := d) hW hY.2.1 h2 hY.2.2.2 hl
  refine q_aload_n rfl rfl rfl ?_
  refine q_iconst rfl rfl ?_
  show PQ (j_SL L) (j_SV xs) j_EX mm_X12_fix 145 [.ref 46, .int (nI l), .int (nI p), .int (nI v), w4, .int (nI c), .int (nI d)] [.int (nI 0), .ref 46] S n 0 0 _
  refine q_iload_n rfl rfl rfl ?_
  refine q_aload_n rfl rfl rfl ?_
  refine q_iload rfl rfl rfl ?_
  refine q_cV rfl rfl (Or.inl rfl) rfl rfl rfl rfl (by omega) k46 trivial rfl rfl rfl rfl rfl (r_cf9 hc) ?_
  rintro r _ _ ⟨rfl, rfl, rfl⟩
  show PQ (j_SL L) (j_SV xs) j_EX mm_X12_fix 152 [.ref 46, .int (nI l), .int (nI p), .int (nI v), w4, .int (nI c), .int (nI d)] [.int (fI9 c), .int (nI l), .int (nI 0), .ref 46] S n 0 0 _
  refine q_aload_n rfl rfl rfl ?_
  refine q_iload rfl rfl rfl ?_
  refine q_cV rfl rfl (Or.inl rfl) rfl rfl rfl rfl (by omega) k46 trivial rfl rfl rfl rfl rfl (r_ct9 hc) ?_
  rintro r _ _ ⟨rfl, rfl, rfl⟩
  show PQ (j_SL L) (j_SV xs) j_EX mm_X12_fix 158 [.ref 46, .int (nI l), .int (nI p), .int (nI v), w4, .int (nI c), .int (nI d)] [.int (tI9 c), .int (fI9 c), .int (nI l), .int (nI 0), .ref 46] S n 0 0 _
  refine q_cV rfl rfl (Or.inl rfl) rfl rfl rfl rfl (by omega) k46 trivial rfl rfl rfl rfl rfl (r_put9 (x := 0) hW hY.2.1 (by omega) (by decide) l0 hl hc hn k46 ⟨f2, f3, f4, f5⟩ k47 k48 k49 k50 (hmn 0 (by omega)) (fun i hi => hpr 0 i (by omega) hi)) ?_
  rintro r A _ ⟨rfl, rfl, eA, a47, gk, ga, gn, a48, a49, a50, alo, ahr⟩
  show PQ (j_SL L) (j_SV xs) j_EX mm_X12_fix 161 [.ref 46, .int (nI l), .int (nI p), .int (nI v), w4, .int (nI c), .int (nI d)] [] A n 0 0 _
  have a46 := (eA 46 (by decide)).trans k46
  refine q_aload_n rfl rfl rfl ?_
  refine q_iconst rfl rfl ?_
  show PQ (j_SL L) (j_SV xs) j_EX mm_X12_fix 163 [.ref 46, .int (nI l), .int (nI p), .int (nI v), w4, .int (nI c), .int (nI d)] [.int (nI 1), .ref 46] A n 0 0 _
  refine q_iload_n rfl rfl rfl ?_
  refine q_aload_n rfl rfl rfl ?_
  refine q_iload rfl rfl rfl ?_
  refine q_cV rfl rfl (Or.inl rfl) rfl rfl rfl rfl (by omega) a46 trivial rfl rfl rfl rfl rfl (r_cf9 hd) ?_
  rintro r _ _ ⟨rfl, rfl, rfl⟩
  show PQ (j_SL L) (j_SV xs) j_EX mm_X12_fix 170 [.ref 46, .int (nI l), .int (nI p), .int (nI v), w4, .int (nI c), .int (nI d)] [.int (fI9 d), .int (nI l), .int (nI 1), .ref 46] A n 0 0 _
  refine q_aload_n rfl rfl rfl ?_
  refine q_iload rfl rfl rfl ?_
  refine q_cV rfl rfl (Or.inl rfl) rfl rfl rfl rfl (by omega) a46 trivial rfl rfl rfl rfl rfl (r_ct9 hd) ?_
  rintro r _ _ ⟨rfl, rfl, rfl⟩
  show PQ (j_SL L) (j_SV xs) j_EX mm_X12_fix 176 [.ref 46, .int (nI l), .int (nI p), .int (nI v), w4, .int (nI c), .int (nI d)] [.int (tI9 d), .int (fI9 d), .int (nI l), .int (nI 1), .ref 46] A n 0 0 _
  refine q_cV rfl rfl (Or.inl rfl) rfl rfl rfl rfl (by omega) a46 trivial rfl rfl rfl rfl rfl (r_put9 (x := 1) hW hY.2.1 (by omega) (by decide) l1 hl hd hn a46 ⟨f2, f3, f4, f5⟩ a47 a48 a49 a50 ((u32_ot (by decide)).trans (hmn 1 (by omega))) (fun i hi => by have h9 := alo (8 * 1 + i) (by omega); exact ⟨h9.1.trans (hpr 1 i (by omega) hi).1, h9.2.1.trans (hpr 1 i (by omega) hi).2.1, h9.2.2.trans (hpr 1 i (by omega) hi).2.2⟩)) ?_
  rintro r B _ ⟨rfl, rfl, eB, b47, hk, ha, hh, b48, b49, b50, blo, bhr⟩
  show PQ (j_SL L) (j_SV xs) j_EX mm_X12_fix 179 [.ref 46, .int (nI l), .int (nI p), .int (nI v), w4, .int (nI c), .int (nI d)] [] B n 0 0 _
  have b46 := (eB 46 (by decide)).trans a46
  have eAB : ∀ j, j ≠ 47 ∧ j ≠ 48 ∧ j ≠ 49 ∧ j ≠ 50 → B j = S j := fun j hj => (eB j hj).trans (eA j hj)
  have lenA : (ds9 P l c 0 (pL P 0)).length ≤ 6 := ds_le l0
  have G : G9 (PGf P l c d) fs B := by
    refine ⟨_, hk, ha, hh, vl, z7, b46, ?_, f2, f3, f4, f5, f6, f7, f8, f9, f10, f11, f12, f13, f14, f15, f16, f17, b47, b48, b49, b50, (eAB 51 (by decide)).trans k51, fun x hx => ?_, fun x i hx hi => ?_, hvl, rws_fr hR (fun j hj => eAB j (by omega))⟩
    · rw [h2] at f1
      exact f1
    · have hx' : x < 2 := hx
      rcases (show x = 0 ∨ x = 1 by omega) with e | e
      · subst e
        rw [u32_ot (by decide), u32_at]
        rfl
      · subst e
        rw [u32_at]
        rfl
    · have hx' : x < 2 := hx
      have hi' : i < (dl9 P l c d x).length := hi
      have e9 := List.getElem?_eq_getElem hi'
      obtain ⟨y1, y2, y3⟩ := pgf_e e9
      rw [y1, y2, y3]
      rcases (show x = 0 ∨ x = 1 by omega) with e | e
      · subst e
        have hr := ahr i _ e9
        have hb := blo (8 * (3 + 0) + i) (by have : i < (ds9 P l c 0 (pL P 0)).length := hi'; omega)
        exact ⟨hb.1.trans hr.1, hb.2.1.trans hr.2.1, hb.2.2.trans hr.2.2⟩
      · subst e
        exact bhr i _ e9
  refine q_aload_n rfl rfl rfl ?_
  refine q_iload_n rfl rfl rfl ?_
  refine q_iload_n rfl rfl rfl ?_
  refine q_cV rfl rfl (Or.inl rfl) rfl rfl rfl rfl (by omega) b46 trivial rfl rfl rfl rfl rfl (r_good9 hWf hp hv hn G) ?_
  rintro r T _ ⟨rfl, eT, ⟨fs', t46, hFK⟩, hRT, hr⟩
  have eTS : ∀ j, j ≠ 46 → j ≠ 52 → j ≠ 53 → (j < 55 ∨ 61 < j) → j ≠ 47 ∧ j ≠ 48 ∧ j ≠ 49 ∧ j ≠ 50 → T j = S j := fun j h1 h2 h3 h4 h5 => (eT j h1 h2 h3 h4).trans (eAB j h5)
  have hI : RI9 P su ff ft T := by
    refine ⟨fs', _, hk, ha, hh, vl, t46, ff_k hF hFK.1, hFK.2, (eT 47 (by decide) (by decide) (by decide) (by decide)).trans b47, (eT 48 (by decide) (by decide) (by decide) (by decide)).trans b48, (eT 49 (by decide) (by decide) (by decide) (by decide)).trans b49, (eT 50 (by decide) (by decide) (by decide) (by decide)).trans b50, (eTS 51 (by decide) (by decide) (by decide) (by decide) (by decide)).trans k51, (eTS 72 (by decide) (by decide) (by decide) (by decide) (by decide)).trans k72, (eTS 73 (by decide) (by decide) (by decide) (by decide) (by decide)).trans k73, fun x hx => ?_, fun x i hx hi => ?_, hvl, hRT⟩
    · rw [u32_ot (by omega), u32_ot (by omega)]
      exact hmn x hx
    · have hx4 := hY.2.2.2 x (by omega)
      have hb := blo (8 * x + i) (by omega)
      have ha' := alo (8 * x + i) (by omega)
      have h0 := hpr x i hx hi
      exact ⟨hb.1.trans (ha'.1.trans h0.1), hb.2.1.trans (ha'.2.1.trans h0.2.1), hb.2.2.trans (ha'.2.2.trans h0.2.2)⟩
  rcases hr with ⟨hg, rfl⟩ | ⟨hg, rfl⟩
  · exact hK T 1 hI (Or.inl ⟨hg, rfl⟩)
  · exact hK T 0 hI (Or.inr ⟨hg, rfl⟩)
theorem pq_hp9 {M : pm_M} {pc : Nat} {ls st : List Value} {K R : q_K} (h : PQ (j_SL L) (j_SV xs) j_EX M pc ls st S n 0 0 K) (hK : ∀ r S' n', K r S' n' → R r S' n') : PQ (j_SL L) (j_SV xs) j_EX M pc ls st S n 0 0 R := q_weak h hK
/-- what the reference's fix leaves: answer, where the lock is put -/
def rfS (P : PG) (l p v : Nat) (su : Int32) (ff ft : Nat → Int32) : q_K := fun r S' _ => ∃ (r9 : Option (Nat × Nat)) (gs : List Value), fst9 (hit9 P l p v) r9 ∧ S' 46 = .inr (10, gs) ∧ ((r9 = none ∧ r = some (.int (-2)) ∧ gs[32]? = some (.int su) ∧ S' 72 = .inl (0, 2, .inl ff) ∧ S' 73 = .inl (0, 2, .inl ft)) ∨ ∃ (s q : Nat) (ff' ft' : Nat → Int32), r9 = some (s, q) ∧ r = some (.int (nI s)) ∧ gs[32]? = some (.int 1) ∧ S' 72 = .inl (0, 2, .inl ff') ∧ S' 73 = .inl (0, 2, .inl ft') ∧ ff' 0 = fI9 (q / 11) ∧ ff' 1 = fI9 (q % 11) ∧ ft' 0 = tI9 (q / 11) ∧ ft' 1 = tI9 (q % 11))
def rfK (P : PG) (su : Int32) (ff ft : Nat → Int32) (a1 a2 a3 : Int32) (S : Nat → pm_E) : q_K := fun r S' n' => (¬ ((0 ≤ a1 ∧ a1 < 3) ∧ (0 ≤ a2 ∧ a2 < 4) ∧ (0 ≤ a3 ∧ a3 < 10)) ∧ S = S' ∧ r = some (.int (-1))) ∨ (((0 ≤ a1 ∧ a1 < 3) ∧ (0 ≤ a2 ∧ a2 < 4) ∧ (0 ≤ a3 ∧ a3 < 10)) ∧ ¬ fit9 P ∧ S = S' ∧ r = some (.int (-3))) ∨ (fit9 P ∧ ∃ l p v : Nat, l < 3 ∧ p < 4 ∧ v < 10 ∧ a1 = nI l ∧ a2 = nI p ∧ a3 = nI v ∧ rfS P l p v su ff ft r S' n')
set_option maxHeartbeats 16000000 in
theorem r_fix9 {a1 a2 a3 : Int32} (hW : WFP P) (hJ8 : J8 P) (hn : 82 ≤ n) (H : RI9 P su ff ft S) : PM (j_SL L) (j_SV xs) j_EX mm_X12_fix [.ref 46, .int a1, .int a2, .int a3] S n (rfK P su ff ft a1 a2 a3 S) := by
  have H0 := H
  obtain ⟨fs, mn, fk, fa, fn, vl, k46, hF, -, k47, -, -, -, -, -, -, hmn, -⟩ := H
  obtain ⟨f1, f2, -⟩ := id hF
  have h3 := hW.2.1
  have hH := hW.1
  change PQ (j_SL L) (j_SV xs) j_EX mm_X12_fix 0 [.ref 46, .int a1, .int a2, .int a3, pm_un, pm_un, pm_un] [] S n 0 0 _
  have no : ¬ ((0 ≤ a1 ∧ a1 < 3) ∧ (0 ≤ a2 ∧ a2 < 4) ∧ (0 ≤ a3 ∧ a3 < 10)) → PQ (j_SL L) (j_SV xs) j_EX mm_X12_fix 29 [.ref 46, .int a1, .int a2, .int a3, pm_un, pm_un, pm_un] [] S n 0 0 (rfK P su ff ft a1 a2 a3 S) := fun h => q_iconst rfl rfl (q_iret rfl rfl trivial (Or.inl ⟨h, rfl, rfl⟩))
  refine q_aload_n rfl rfl rfl ?_
  refine q_iload_n rfl rfl rfl ?_
  refine q_iconst rfl rfl ?_
  refine q_iconst rfl rfl ?_
  refine q_cV rfl rfl (Or.inl rfl) rfl rfl rfl rfl (by omega) k46 trivial rfl rfl rfl rfl rfl (l_in9) ?_
  rintro r _ _ ⟨rfl, rfl, hr⟩
  rcases hr with ⟨hr, rfl⟩ | ⟨hr, rfl⟩
  · show PQ (j_SL L) (j_SV xs) j_EX mm_X12_fix 7 [.ref 46, .int a1, .int a2, .int a3, pm_un, pm_un, pm_un] [.int 0] S n 0 0 _
    refine q_ifeq rfl rfl (fun _ => ?_) (fun c => absurd rfl c)
    exact no (fun h => hr ((in_i9 (m := 2) (by decide)).mpr h.1))
  show PQ (j_SL L) (j_SV xs) j_EX mm_X12_fix 7 [.ref 46, .int a1, .int a2, .int a3, pm_un, pm_un, pm_un] [.int 1] S n 0 0 _
  refine q_ifeq rfl rfl (fun c => absurd c (by decide)) (fun _ => ?_)
  have h1 := (in_i9 (m := 2) (by decide)).mp hr
  refine q_aload_n rfl rfl rfl ?_
  refine q_iload_n rfl rfl rfl ?_
  refine q_cV rfl rfl (Or.inl rfl) rfl rfl rfl rfl (by omega) k46 trivial rfl rfl rfl rfl rfl (l_pl9 hn k46) ?_
  rintro r _ _ ⟨rfl, rfl, hr⟩
  rcases hr with ⟨hr, rfl⟩ | ⟨hr, rfl⟩
  · show PQ (j_SL L) (j_SV xs) j_EX mm_X12_fix 15 [.ref 46, .int a1, .int a2, .int a3, pm_un, pm_un, pm_un] [.int 0] S n 0 0 _
    refine q_ifeq rfl rfl (fun _ => ?_) (fun c => absurd rfl c)
    exact no (fun h => hr ((in_i9 (m := 3) (by decide)).mpr h.2.1))
  show PQ (j_SL L) (j_SV xs) j_EX mm_X12_fix 15 [.ref 46, .int a1, .int a2, .int a3, pm_un, pm_un, pm_un] [.int 1] S n 0 0 _
  refine q_ifeq rfl rfl (fun c => absurd c (by decide)) (fun _ => ?_)
  have h2 := (in_i9 (m := 3) (by decide)).mp hr
  refine q_aload_n rfl rfl rfl ?_
  refine q_iload_n rfl rfl rfl ?_
  refine q_iconst rfl rfl ?_
  refine q_bipush rfl rfl ?_
  refine q_cV rfl rfl (Or.inl rfl) rfl rfl rfl rfl (by omega) k46 trivial rfl rfl rfl rfl rfl (l_in9) ?_
  rintro r _ _ ⟨rfl, rfl, hr⟩
  rcases hr with ⟨hr, rfl⟩ | ⟨hr, rfl⟩
  · show PQ (j_SL L) (j_SV xs) j_EX mm_X12_fix 26 [.ref 46, .int a1, .int a2, .int a3, pm_un, pm_un, pm_un] [.int 0] S n 0 0 _
    refine q_fne rfl rfl (fun c9 => absurd rfl c9) (fun _ => ?_)
    exact no (fun h => hr ((in_i9 (m := 9) (by decide)).mpr h.2.2))
  show PQ (j_SL L) (j_SV xs) j_EX mm_X12_fix 26 [.ref 46, .int a1, .int a2, .int a3, pm_un, pm_un, pm_un] [.int 1] S n 0 0 _
  refine q_fne rfl rfl (fun _ => ?_) (fun c9 => absurd (by decide) c9)
  have h3 := (in_i9 (m := 9) (by decide)).mp hr
  have nf : ¬ fit9 P → PQ (j_SL L) (j_SV xs) j_EX mm_X12_fix 59 [.ref 46, .int a1, .int a2, .int a3, pm_un, pm_un, pm_un] [] S n 0 0 (rfK P su ff ft a1 a2 a3 S) := fun h => q_bipush rfl rfl (q_iret rfl rfl trivial (Or.inr (Or.inl ⟨⟨h1, h2, h3⟩, h, rfl, rfl⟩)))
  refine q_aload_n rfl rfl rfl ?_
  refine q_getf rfl rfl (by omega) k46 f1 ?_
  refine q_iconst rfl rfl ?_
  by_cases e1 : pH P = 2
  rotate_left
  · exact q_cne rfl rfl (fun _ => nf (fun h => e1 h.1)) (fun c9 => absurd (fun h => e1 ((m_eq (b := 2) (by omega) (by decide)).mp h)) c9)
  have l0 := hW.2.2.1 0 (by omega)
  have l1 := hW.2.2.1 1 (by omega)
  refine q_cne rfl rfl (fun c9 => absurd (by rw [e1]; rfl) c9) (fun _ => ?_)
  refine q_aload_n rfl rfl rfl ?_
  refine q_getf rfl rfl (by omega) k46 f2 ?_
  refine q_iconst rfl rfl ?_
  show PQ (j_SL L) (j_SV xs) j_EX mm_X12_fix 44 [.ref 46, .int a1, .int a2, .int a3, pm_un, pm_un, pm_un] [.int (nI 0), .ref 47] S n 0 0 _
  refine q_iald rfl rfl (by omega) k47 (q_inN (by omega) (by decide)) (q_tn (z := nI (pL P 0)) (by rw [nI_clamp (by omega)]; exact hmn 0 (by omega)) ?_)
  refine q_iconst rfl rfl ?_
  by_cases e2 : pL P 0 ≤ 4
  rotate_left
  · exact q_icgt rfl rfl (fun _ => nf (fun h => e2 h.2.1)) (fun c9 => absurd ((m_lt (a := 4) (by decide) (by omega)).mpr (by omega)) c9)
  refine q_icgt rfl rfl (fun c9 => absurd ((m_lt (a := 4) (by decide) (by omega)).mp c9) (by omega)) (fun _ => ?_)
  refine q_aload_n rfl rfl rfl ?_
  refine q_getf rfl rfl (by omega) k46 f2 ?_
  refine q_iconst rfl rfl ?_
  show PQ (j_SL L) (j_SV xs) j_EX mm_X12_fix 54 [.ref 46, .int a1, .int a2, .int a3, pm_un, pm_un, pm_un] [.int (nI 1), .ref 47] S n 0 0 _
  refine q_iald rfl rfl (by omega) k47 (q_inN (by omega) (by decide)) (q_tn (z := nI (pL P 1)) (by rw [nI_clamp (by omega)]; exact hmn 1 (by omega)) ?_)
  refine q_iconst rfl rfl ?_
  by_cases e3 : pL P 1 ≤ 4
  rotate_left
  · exact q_icle rfl rfl (fun c9 => absurd ((m_le (b := 4) (by omega) (by decide)).mp c9) e3) (fun _ => nf (fun h => e3 h.2.2))
  refine q_icle rfl rfl (fun _ => ?_) (fun c9 => absurd ((m_le (b := 4) (by omega) (by decide)).mpr e3) c9)
  have hfit : fit9 P := ⟨e1, e2, e3⟩
  have hY := fit_hy hW hJ8 hfit
  obtain ⟨l, hl, rfl⟩ := in2 (b := 3) (by decide) h1
  obtain ⟨p, hp, rfl⟩ := in2 (b := 4) (by decide) h2
  obtain ⟨v, hv, rfl⟩ := in2 (b := 10) (by decide) h3
  clear no nf
  refine pq_hp9 (K := rfS P l p v su ff ft) ?_ (fun r S' n' h => Or.inr (Or.inr ⟨hfit, l, p, v, hl, hp, hv, rfl, rfl, rfl, h⟩))
  have inner : ∀ s c, s ≤ 8 → c < 11 → (∀ (V : Nat → pm_E) (w6 : Value), pm_c2 w6 = false → RI9 P su ff ft V → (∀ s' q', s' ≤ 8 → q' < 121 → s' < s ∨ (s' = s ∧ q' < 11 * (c + 1)) → ¬ hit9 P l p v s' q') → PQ (j_SL L) (j_SV xs) j_EX mm_X12_fix 75 [.ref 46, .int (nI l), .int (nI p), .int (nI v), .int (nI s), .int (nI (c + 1)), w6] [] V n 0 0 (rfS P l p v su ff ft)) → ∀ m d : Nat, d + m = 11 → ∀ V : Nat → pm_E, RI9 P su ff ft V → (∀ s' q', s' ≤ 8 → q' < 121 → s' < s ∨ (s' = s ∧ q' < 11 * c + d) → ¬ hit9 P l p v s' q') → PQ (j_SL L) (j_SV xs) j_EX mm_X12_fix 85 [.ref 46, .int (nI l), .int (nI p), .int (nI v), .int (nI s), .int (nI c), .int (nI d)] [] V n 0 0 (rfS P l p v su ff ft) := by
    intro s c hs8 hc next m
    induction m with
    | zero =>
      intro d hd V hV noh
      have e : d = 11 := by omega
      subst e
      refine q_iload rfl rfl rfl ?_
      refine q_bipush rfl rfl ?_
      refine q_icge rfl rfl (fun _ => ?_) (fun c => absurd (Int32.le_refl _) c)
      refine q_icc5 rfl rfl rfl rfl (z := nI (c + 1)) (nI_add c 1) ?_
      refine q_goto rfl ?_
      exact next V _ rfl hV (fun s' q' x1 x2 x3 => noh s' q' x1 x2 (by omega))
    | succ m ih =>
      intro d hdm V hV noh
      have hd : d < 11 := by omega
      have hV0 := hV
      obtain ⟨gs, mn9, fk9, fa9, fn9, vl9, v46, hF9, -, v47, -, -, -, -, -, -, hmn9, -⟩ := hV0
      obtain ⟨g1, g2, -⟩ := id hF9
      have fc := f_9 hc
      have fd := f_9 hd
      have eq1 : (11 * c + d) / 11 = c := by omega
      have eq2 : (11 * c + d) % 11 = d := by omega
      refine q_iload rfl rfl rfl ?_
      refine q_bipush rfl rfl ?_
      refine q_icge rfl rfl (fun c => absurd c (nI_ge (a := d) (b := 11) (by omega) (by decide))) (fun _ => ?_)
      have skip : ¬ hit9 P l p v s (11 * c + d) → ∀ X9 : Nat → pm_E, RI9 P su ff ft X9 → PQ (j_SL L) (j_SV xs) j_EX mm_X12_fix 247 [.ref 46, .int (nI l), .int (nI p), .int (nI v), .int (nI s), .int (nI c), .int (nI d)] [] X9 n 0 0 (rfS P l p v su ff ft) := by
        intro nh X9 hX
        refine q_icc6 rfl rfl rfl rfl (z := nI (d + 1)) (nI_add d 1) ?_
        refine q_goto rfl ?_
        refine ih (d + 1) (by omega) X9 hX (fun s' q' x1 x2 x3 => ?_)
        by_cases e : s' = s ∧ q' = 11 * c + d
        · rw [e.1, e.2]
          exact nh
        · exact noh s' q' x1 x2 (by omega)
      refine q_aload_n rfl rfl rfl ?_
      refine q_iload rfl rfl rfl ?_
      refine q_cV rfl rfl (Or.inl rfl) rfl rfl rfl rfl (by omega) v46 trivial rfl rfl rfl rfl rfl (r_wi9 hc hn v46) ?_
      rintro r _ _ ⟨rfl, rfl, rfl⟩
      show PQ (j_SL L) (j_SV xs) j_EX mm_X12_fix 98 [.ref 46, .int (nI l), .int (nI p), .int (nI v), .int (nI s), .int (nI c), .int (nI d)] [.int (nI (wi9 c))] V n 0 0 _
      refine q_aload_n rfl rfl rfl ?_
      refine q_iload rfl rfl rfl ?_
      refine q_cV rfl rfl (Or.inl rfl) rfl rfl rfl rfl (by omega) v46 trivial rfl rfl rfl rfl rfl (r_wi9 hd hn v46) ?_
      rintro r _ _ ⟨rfl, rfl, rfl⟩
      show PQ (j_SL L) (j_SV xs) j_EX mm_X12_fix 104 [.ref 46, .int (nI l), .int (nI p), .int (nI v), .int (nI s), .int (nI c), .int (nI d)] [.int (nI (wi9 d)), .int (nI (wi9 c))] V n 0 0 _
      refine q_iadd rfl rfl (q_tn (z := nI (wi9 c + wi9 d)) (nI_add _ _) ?_)
      refine q_iload rfl rfl rfl ?_
      by_cases x1 : wi9 c + wi9 d = s
      rotate_left
      · exact q_cne rfl rfl (fun _ => skip (fun h => x1 (by have := h.1.1; rw [eq1, eq2] at this; exact this)) V hV) (fun c9 => absurd (fun h => x1 ((m_eq (by omega) (by omega)).mp h)) c9)
      refine q_cne rfl rfl (fun c9 => absurd (by rw [x1]) c9) (fun _ => ?_)
      refine q_aload_n rfl rfl rfl ?_
      refine q_iload rfl rfl rfl ?_
      refine q_cV rfl rfl (Or.inl rfl) rfl rfl rfl rfl (by omega) v46 trivial rfl rfl rfl rfl rfl (r_ct9 hc) ?_
      rintro r _ _ ⟨rfl, rfl, rfl⟩
      show PQ (j_SL L) (j_SV xs) j_EX mm_X12_fix 116 [.ref 46, .int (nI l), .int (nI p), .int (nI v), .int (nI s), .int (nI c), .int (nI d)] [.int (tI9 c)] V n 0 0 _
      refine q_aload_n rfl rfl rfl ?_
      refine q_getf rfl rfl (by omega) v46 g2 ?_
      refine q_iconst rfl rfl ?_
      show PQ (j_SL L) (j_SV xs) j_EX mm_X12_fix 121 [.ref 46, .int (nI l), .int (nI p), .int (nI v), .int (nI s), .int (nI c), .int (nI d)] [.int (nI 0), .ref 47, .int (tI9 c)] V n 0 0 _
      refine q_iald rfl rfl (by omega) v47 (q_inN (by omega) (by decide)) (q_tn (z := nI (pL P 0)) (by rw [nI_clamp (by omega)]; exact hmn9 0 (by omega)) ?_)
      by_cases x2 : c = 0 ∨ to9 c < pL P 0
      rotate_left
      · exact q_icge rfl rfl (fun _ => skip (fun h => x2 (by have := h.1.2.1; rw [eq1] at this; exact this)) V hV) (fun c9 => absurd ((tI_lt hc (by omega)).mp c9) x2)
      refine q_icge rfl rfl (fun c9 => absurd c9 ((tI_lt hc (by omega)).mpr x2)) (fun _ => ?_)
      refine q_aload_n rfl rfl rfl ?_
      refine q_iload rfl rfl rfl ?_
      refine q_cV rfl rfl (Or.inl rfl) rfl rfl rfl rfl (by omega) v46 trivial rfl rfl rfl rfl rfl (r_ct9 hd) ?_
      rintro r _ _ ⟨rfl, rfl, rfl⟩
      show PQ (j_SL L) (j_SV xs) j_EX mm_X12_fix 131 [.ref 46, .int (nI l), .int (nI p), .int (nI v), .int (nI s), .int (nI c), .int (nI d)] [.int (tI9 d)] V n 0 0 _
      refine q_aload_n rfl rfl rfl ?_
      refine q_getf rfl rfl (by omega) v46 g2 ?_
      refine q_iconst rfl rfl ?_
      show PQ (j_SL L) (j_SV xs) j_EX mm_X12_fix 136 [.ref 46, .int (nI l), .int (nI p), .int (nI v), .int (nI s), .int (nI c), .int (nI d)] [.int (nI 1), .ref 47, .int (tI9 d)] V n 0 0 _
      refine q_iald rfl rfl (by omega) v47 (q_inN (by omega) (by decide)) (q_tn (z := nI (pL P 1)) (by rw [nI_clamp (by omega)]; exact hmn9 1 (by omega)) ?_)
      by_cases x3 : d = 0 ∨ to9 d < pL P 1
      rotate_left
      · refine q_iclt rfl rfl (fun c9 => absurd ((tI_lt hd (by omega)).mp (fun h => by rw [Int32.le_iff_toInt_le] at h; rw [Int32.lt_iff_toInt_lt] at c9; omega)) x3) (fun _ => ?_)
        refine q_goto rfl ?_
        exact skip (fun h => x3 (by have := h.1.2.2; rw [eq2] at this; exact this)) V hV
      refine q_iclt rfl rfl (fun _ => ?_) (fun c9 => absurd ((tI_lt hd (by omega)).mpr x3) (fun h => h (by rw [Int32.le_iff_toInt_le]; rw [Int32.lt_iff_toInt_lt] at c9; omega)))
      refine r_try9 hY hl hc hd hp hv hn hV (fun X9 z hX hz => ?_) rfl
      rcases hz with ⟨hg, rfl⟩ | ⟨hg, rfl⟩
      rotate_left
      · refine q_fne rfl rfl (fun c9 => absurd rfl c9) (fun _ => ?_)
        refine q_goto rfl ?_
        exact skip (fun h => hg (by have := h.2; rw [eq1, eq2] at this; exact this)) X9 hX
      refine q_fne rfl rfl (fun _ => ?_) (fun c9 => absurd (by decide) c9)
      have hit : hit9 P l p v s (11 * c + d) := by
        refine ⟨?_, ?_⟩
        · rw [eq1, eq2]
          exact ⟨x1, x2, x3⟩
        · rw [eq1, eq2]
          exact hg
      obtain ⟨es, _, _, _, _, _, z46, hFz, -, -, -, -, -, -, z72, z73, -⟩ := hX
      obtain ⟨-, -, -, -, -, -, -, -, -, -, -, -, -, -, -, -, e30, e31, e32⟩ := hFz
      refine q_aload_n rfl rfl rfl ?_
      refine q_getf rfl rfl (by omega) z46 e30 ?_
      refine q_iconst rfl rfl ?_
      show PQ (j_SL L) (j_SV xs) j_EX mm_X12_fix 196 [.ref 46, .int (nI l), .int (nI p), .int (nI v), .int (nI s), .int (nI c), .int (nI d)] [.int (nI 0), .ref 72] X9 n 0 0 _
      refine q_aload_n rfl rfl rfl ?_
      refine q_iload rfl rfl rfl ?_
      refine q_cV rfl rfl (Or.inl rfl) rfl rfl rfl rfl (by omega) z46 trivial rfl rfl rfl rfl rfl (r_cf9 hc) ?_
      rintro r _ _ ⟨rfl, rfl, rfl⟩
      show PQ (j_SL L) (j_SV xs) j_EX mm_X12_fix 202 [.ref 46, .int (nI l), .int (nI p), .int (nI v), .int (nI s), .int (nI c), .int (nI d)] [.int (fI9 c), .int (nI 0), .ref 72] X9 n 0 0 _
      refine q_iast rfl rfl (by omega) z72 (q_inN (by omega) (by decide)) ?_
      rw [nI_clamp (by omega)]
      have e1 : ∀ j, j ≠ 72 → va_up X9 72 (.inl (0, 2, .inl (upd ff 0 (fI9 c)))) j = X9 j := fun j hj => u_ne hj
      have x1 : va_up X9 72 (.inl (0, 2, .inl (upd ff 0 (fI9 c)))) 72 = .inl (0, 2, .inl (upd ff 0 (fI9 c))) := u_eq
      generalize va_up X9 72 (.inl (0, 2, .inl (upd ff 0 (fI9 c)))) = S1 at e1 x1 ⊢
      have z46 := (e1 46 (by decide)).trans z46
      have z73 := (e1 73 (by decide)).trans z73
      refine q_aload_n rfl rfl rfl ?_
      refine q_getf rfl rfl (by omega) z46 e31 ?_
      refine q_iconst rfl rfl ?_
      show PQ (j_SL L) (j_SV xs) j_EX mm_X12_fix 208 [.ref 46, .int (nI l), .int (nI p), .int (nI v), .int (nI s), .int (nI c), .int (nI d)] [.int (nI 0), .ref 73] S1 n 0 0 _
      refine q_aload_n rfl rfl rfl ?_
      refine q_iload rfl rfl rfl ?_
      refine q_cV rfl rfl (Or.inl rfl) rfl rfl rfl rfl (by omega) z46 trivial rfl rfl rfl rfl rfl (r_ct9 hc) ?_
      rintro r _ _ ⟨rfl, rfl, rfl⟩
      show PQ (j_SL L) (j_SV xs) j_EX mm_X12_fix 214 [.ref 46, .int (nI l), .int (nI p), .int (nI v), .int (nI s), .int (nI c), .int (nI d)] [.int (tI9 c), .int (nI 0), .ref 73] S1 n 0 0 _
      refine q_iast rfl rfl (by omega) z73 (q_inN (by omega) (by decide)) ?_
      rw [nI_clamp (by omega)]
      have e2 : ∀ j, j ≠ 73 → va_up S1 73 (.inl (0, 2, .inl (upd ft 0 (tI9 c)))) j = S1 j := fun j hj => u_ne hj
      have x2 : va_up S1 73 (.inl (0, 2, .inl (upd ft 0 (tI9 c)))) 73 = .inl (0, 2, .inl (upd ft 0 (tI9 c))) := u_eq
      generalize va_up S1 73 (.inl (0, 2, .inl (upd ft 0 (tI9 c)))) = S2 at e2 x2 ⊢
      have z46 := (e2 46 (by decide)).trans z46
      have x1 := (e2 72 (by decide)).trans x1
      refine q_aload_n rfl rfl rfl ?_
      refine q_getf rfl rfl (by omega) z46 e30 ?_
      refine q_iconst rfl rfl ?_
      show PQ (j_SL L) (j_SV xs) j_EX mm_X12_fix 220 [.ref 46, .int (nI l), .int (nI p), .int (nI v), .int (nI s), .int (nI c), .int (nI d)] [.int (nI 1), .ref 72] S2 n 0 0 _
      refine q_aload_n rfl rfl rfl ?_
      refine q_iload rfl rfl rfl ?_
      refine q_cV rfl rfl (Or.inl rfl) rfl rfl rfl rfl (by omega) z46 trivial rfl rfl rfl rfl rfl (r_cf9 hd) ?_
      rintro r _ _ ⟨rfl, rfl, rfl⟩
      show PQ (j_SL L) (j_SV xs) j_EX mm_X12_fix 226 [.ref 46, .int (nI l), .int (nI p), .int (nI v), .int (nI s), .int (nI c), .int (nI d)] [.int (fI9 d), .int (nI 1), .ref 72] S2 n 0 0 _
      refine q_iast rfl rfl (by omega) x1 (q_inN (by omega) (by decide)) ?_
      rw [nI_clamp (by omega)]
      have e3 : ∀ j, j ≠ 72 → va_up S2 72 (.inl (0, 2, .inl (upd (upd ff 0 (fI9 c)) 1 (fI9 d)))) j = S2 j := fun j hj => u_ne hj
      have x3 : va_up S2 72 (.inl (0, 2, .inl (upd (upd ff 0 (fI9 c)) 1 (fI9 d)))) 72 = .inl (0, 2, .inl (upd (upd ff 0 (fI9 c)) 1 (fI9 d))) := u_eq
      generalize va_up S2 72 (.inl (0, 2, .inl (upd (upd ff 0 (fI9 c)) 1 (fI9 d)))) = S3 at e3 x3 ⊢
      have z46 := (e3 46 (by decide)).trans z46
      have x2 := (e3 73 (by decide)).trans x2
      refine q_aload_n rfl rfl rfl ?_
      refine q_getf rfl rfl (by omega) z46 e31 ?_
      refine q_iconst rfl rfl ?_
      show PQ (j_SL L) (j_SV xs) j_EX mm_X12_fix 232 [.ref 46, .int (nI l), .int (nI p), .int (nI v), .int (nI s), .int (nI c), .int (nI d)] [.int (nI 1), .ref 73] S3 n 0 0 _
      refine q_aload_n rfl rfl rfl ?_
      refine q_iload rfl rfl rfl ?_
      refine q_cV rfl rfl (Or.inl rfl) rfl rfl rfl rfl (by omega) z46 trivial rfl rfl rfl rfl rfl (r_ct9 hd) ?_
      rintro r _ _ ⟨rfl, rfl, rfl⟩
      show PQ (j_SL L) (j_SV xs) j_EX mm_X12_fix 238 [.ref 46, .int (nI l), .int (nI p), .int (nI v), .int (nI s), .int (nI c), .int (nI d)] [.int (tI9 d), .int (nI 1), .ref 73] S3 n 0 0 _
      refine q_iast rfl rfl (by omega) x2 (q_inN (by omega) (by decide)) ?_
      rw [nI_clamp (by omega)]
      have e4 : ∀ j, j ≠ 73 → va_up S3 73 (.inl (0, 2, .inl (upd (upd ft 0 (tI9 c)) 1 (tI9 d)))) j = S3 j := fun j hj => u_ne hj
      have x4 : va_up S3 73 (.inl (0, 2, .inl (upd (upd ft 0 (tI9 c)) 1 (tI9 d)))) 73 = .inl (0, 2, .inl (upd (upd ft 0 (tI9 c)) 1 (tI9 d))) := u_eq
      generalize va_up S3 73 (.inl (0, 2, .inl (upd (upd ft 0 (tI9 c)) 1 (tI9 d)))) = S4 at e4 x4 ⊢
      have z46 := (e4 46 (by decide)).trans z46
      have x3 := (e4 72 (by decide)).trans x3
      refine q_aload_n rfl rfl rfl ?_
      refine q_iconst rfl rfl ?_
      refine q_putf rfl rfl (by omega) z46 (List.getElem?_eq_some_iff.mp e32).1 rfl (show _ = true from rfl) ?_
      have e5 : ∀ j, j ≠ 46 → va_up S4 46 (.inr (10, (es).set 32 (.int 1))) j = S4 j := fun j hj => u_ne hj
      have x5 : va_up S4 46 (.inr (10, (es).set 32 (.int 1))) 46 = .inr (10, (es).set 32 (.int 1)) := u_eq
      generalize va_up S4 46 (.inr (10, (es).set 32 (.int 1))) = S5 at e5 x5 ⊢
      have x3 := (e5 72 (by decide)).trans x3
      have x4 := (e5 73 (by decide)).trans x4
      refine q_iload rfl rfl rfl ?_
      refine q_iret rfl rfl trivial ⟨some (s, 11 * c + d), _, ⟨hs8, by omega, hit, noh⟩, x5, Or.inr ⟨s, 11 * c + d, _, _, rfl, rfl, os_at e32, x3, x4, ?_, ?_, ?_, ?_⟩⟩
      · rw [eq1, u32_ot (by decide), u32_at]
      · rw [eq2, u32_at]
      · rw [eq1, u32_ot (by decide), u32_at]
      · rw [eq2, u32_at]
  have mid : ∀ s, s ≤ 8 → (∀ (V : Nat → pm_E) (w5 w6 : Value), pm_c2 w5 = false → pm_c2 w6 = false → RI9 P su ff ft V → (∀ s' q', s' ≤ 8 → q' < 121 → s' < s + 1 ∨ (s' = s + 1 ∧ q' < 0) → ¬ hit9 P l p v s' q') → PQ (j_SL L) (j_SV xs) j_EX mm_X12_fix 65 [.ref 46, .int (nI l), .int (nI p), .int (nI v), .int (nI (s + 1)), w5, w6] [] V n 0 0 (rfS P l p v su ff ft)) → ∀ m c : Nat, c + m = 11 → ∀ (V : Nat → pm_E) (w6 : Value), pm_c2 w6 = false → RI9 P su ff ft V → (∀ s' q', s' ≤ 8 → q' < 121 → s' < s ∨ (s' = s ∧ q' < 11 * c) → ¬ hit9 P l p v s' q') → PQ (j_SL L) (j_SV xs) j_EX mm_X12_fix 75 [.ref 46, .int (nI l), .int (nI p), .int (nI v), .int (nI s), .int (nI c), w6] [] V n 0 0 (rfS P l p v su ff ft) := by
    intro s hs8 next m
    induction m with
    | zero =>
      intro c hc V w6 b6 hV noh
      have e : c = 11 := by omega
      subst e
      refine q_iload rfl rfl rfl ?_
      refine q_bipush rfl rfl ?_
      refine q_icge rfl rfl (fun _ => ?_) (fun c => absurd (Int32.le_refl _) c)
      refine q_icc4 rfl rfl rfl rfl (z := nI (s + 1)) (nI_add s 1) ?_
      refine q_goto rfl ?_
      exact next V _ w6 rfl b6 hV (fun s' q' x1 x2 x3 => noh s' q' x1 x2 (by omega))
    | succ m ih =>
      intro c hcm V w6 b6 hV noh
      refine q_iload rfl rfl rfl ?_
      refine q_bipush rfl rfl ?_
      refine q_icge rfl rfl (fun c9 => absurd c9 (nI_ge (a := c) (b := 11) (by omega) (by decide))) (fun _ => ?_)
      refine q_iconst rfl rfl ?_
      refine q_ist6 rfl rfl rfl rfl ?_
      exact inner s c hs8 (by omega) (fun V9 w9 b9 h9 n9 => ih (c + 1) (by omega) V9 w9 b9 h9 n9) 11 0 rfl V hV (fun s' q' x1 x2 x3 => noh s' q' x1 x2 (by omega))
  have outer : ∀ m s : Nat, s + m = 9 → ∀ (V : Nat → pm_E) (w5 w6 : Value), pm_c2 w5 = false → pm_c2 w6 = false → RI9 P su ff ft V → (∀ s' q', s' ≤ 8 → q' < 121 → s' < s ∨ (s' = s ∧ q' < 0) → ¬ hit9 P l p v s' q') → PQ (j_SL L) (j_SV xs) j_EX mm_X12_fix 65 [.ref 46, .int (nI l), .int (nI p), .int (nI v), .int (nI s), w5, w6] [] V n 0 0 (rfS P l p v su ff ft) := by
    intro m
    induction m with
    | zero =>
      intro s hs V w5 w6 b5 b6 hV noh
      have e : s = 9 := by omega
      subst e
      refine q_iload rfl rfl rfl ?_
      refine q_bipush rfl rfl ?_
      refine q_icgt rfl rfl (fun _ => ?_) (fun c => absurd (by decide) c)
      refine q_bipush rfl rfl ?_
      obtain ⟨es, _, _, _, _, _, z46, hFz, -, -, -, -, -, -, z72, z73, -⟩ := hV
      obtain ⟨-, -, -, -, -, -, -, -, -, -, -, -, -, -, -, -, e30, e31, e32⟩ := hFz
      exact q_iret rfl rfl trivial ⟨none, es, fun s' q' x1 x2 => noh s' q' x1 x2 (by omega), z46, Or.inl ⟨rfl, rfl, e32, z72, z73⟩⟩
    | succ m ih =>
      intro s hsm V w5 w6 b5 b6 hV noh
      refine q_iload rfl rfl rfl ?_
      refine q_bipush rfl rfl ?_
      refine q_icgt rfl rfl (fun c => absurd ((m_lt (a := 8) (by decide) (by omega)).mp c) (by omega)) (fun _ => ?_)
      refine q_iconst rfl rfl ?_
      refine q_ist5 rfl rfl rfl rfl ?_
      exact mid s (by omega) (fun V9 w9 w8 b9 b8 h9 n9 => ih (s + 1) (by omega) V9 w9 w8 b9 b8 h9 n9) 11 0 rfl V w6 b6 hV (fun s' q' x1 x2 x3 => noh s' q' x1 x2 (by omega))
  refine q_iconst rfl rfl ?_
  refine q_ist4 rfl rfl rfl rfl ?_
  exact outer 9 0 rfl S _ _ rfl rfl H0 (fun s' q' _ _ x3 => by omega)
def rxR (su : Int32) (ff ft : Nat → Int32) (y z : Int32) : Int32 := if (0 ≤ y ∧ y < 2) ∧ (0 ≤ z ∧ z < 2) then (if su = 0 then -3 else if z = 0 then ff y.toNatClampNeg else ft y.toNatClampNeg) else -1
set_option maxHeartbeats 4000000 in
theorem r_fixed9' {y z : Int32} (hn : 82 ≤ n) (k46 : S 46 = .inr (10, fs)) (f30 : fs[30]? = some (.ref 72)) (f31 : fs[31]? = some (.ref 73)) (f32 : fs[32]? = some (.int su)) (k72 : S 72 = .inl (0, 2, .inl ff)) (k73 : S 73 = .inl (0, 2, .inl ft)) : PM (j_SL L) (j_SV xs) j_EX mm_X12_fixed [.ref 46, .int y, .int z] S n (fun r S' n' => S = S' ∧ n = n' ∧ r = some (.int (rxR su ff ft y z))) := by

  change PQ (j_SL L) (j_SV xs) j_EX mm_X12_fixed 0 [.ref 46, .int y, .int z] [] S n 0 0 _
  have no : ¬ ((0 ≤ y ∧ y < 2) ∧ (0 ≤ z ∧ z < 2)) → PQ (j_SL L) (j_SV xs) j_EX mm_X12_fixed 20 [.ref 46, .int y, .int z] [] S n 0 0 (fun r S' n' => S = S' ∧ n = n' ∧ r = some (.int (rxR su ff ft y z))) := fun h => q_iconst rfl rfl (q_iret rfl rfl trivial ⟨rfl, rfl, by unfold rxR; rw [if_neg h]⟩)
  refine q_aload_n rfl rfl rfl ?_
  refine q_iload_n rfl rfl rfl ?_
  refine q_iconst rfl rfl ?_
  refine q_iconst rfl rfl ?_
  refine q_cV rfl rfl (Or.inl rfl) rfl rfl rfl rfl (by omega) k46 trivial rfl rfl rfl rfl rfl (l_in9) ?_
  rintro r _ _ ⟨rfl, rfl, hr⟩
  rcases hr with ⟨hr, rfl⟩ | ⟨hr, rfl⟩
  · show PQ (j_SL L) (j_SV xs) j_EX mm_X12_fixed 7 [.ref 46, .int y, .int z] [.int 0] S n 0 0 _
    refine q_ifeq rfl rfl (fun _ => ?_) (fun c => absurd rfl c)
    exact no (fun h => hr ((in_i9 (m := 1) (by decide)).mpr h.1))
  show PQ (j_SL L) (j_SV xs) j_EX mm_X12_fixed 7 [.ref 46, .int y, .int z] [.int 1] S n 0 0 _
  refine q_ifeq rfl rfl (fun c => absurd c (by decide)) (fun _ => ?_)
  have hy := (in_i9 (m := 1) (by decide)).mp hr
  refine q_aload_n rfl rfl rfl ?_
  refine q_iload_n rfl rfl rfl ?_
  refine q_iconst rfl rfl ?_
  refine q_iconst rfl rfl ?_
  refine q_cV rfl rfl (Or.inl rfl) rfl rfl rfl rfl (by omega) k46 trivial rfl rfl rfl rfl rfl (l_in9) ?_
  rintro r _ _ ⟨rfl, rfl, hr⟩
  rcases hr with ⟨hr, rfl⟩ | ⟨hr, rfl⟩
  · show PQ (j_SL L) (j_SV xs) j_EX mm_X12_fixed 17 [.ref 46, .int y, .int z] [.int 0] S n 0 0 _
    refine q_fne rfl rfl (fun c9 => absurd rfl c9) (fun _ => ?_)
    exact no (fun h => hr ((in_i9 (m := 1) (by decide)).mpr h.2))
  show PQ (j_SL L) (j_SV xs) j_EX mm_X12_fixed 17 [.ref 46, .int y, .int z] [.int 1] S n 0 0 _
  refine q_fne rfl rfl (fun _ => ?_) (fun c9 => absurd (by decide) c9)
  have hz := (in_i9 (m := 1) (by decide)).mp hr
  refine q_aload_n rfl rfl rfl ?_
  refine q_getf rfl rfl (by omega) k46 f32 ?_
  by_cases s0 : su = 0
  · refine q_fne rfl rfl (fun c9 => absurd s0 c9) (fun _ => ?_)
    refine q_bipush rfl rfl ?_
    refine q_goto rfl ?_
    exact q_iret rfl rfl trivial ⟨rfl, rfl, by unfold rxR; rw [if_pos ⟨hy, hz⟩, if_pos s0]⟩
  refine q_fne rfl rfl (fun _ => ?_) (fun c9 => absurd s0 c9)
  obtain ⟨a, ha, rfl⟩ := in2 (b := 2) (by decide) hy
  refine q_iload_n rfl rfl rfl ?_
  by_cases z0 : z = 0
  · refine q_fne rfl rfl (fun c9 => absurd z0 c9) (fun _ => ?_)
    refine q_aload_n rfl rfl rfl ?_
    refine q_getf rfl rfl (by omega) k46 f30 ?_
    refine q_iload_n rfl rfl rfl ?_
    refine q_iald rfl rfl (by omega) k72 (q_inN (by omega) (by decide)) (q_tn (z := (ff) a) (by rw [nI_clamp (by omega)]) ?_)
    refine q_goto rfl ?_
    exact q_iret rfl rfl trivial ⟨rfl, rfl, by unfold rxR; rw [if_pos (show (0 ≤ nI a ∧ nI a < 2) ∧ (0 ≤ z ∧ z < 2) from ⟨hy, hz⟩), if_neg s0, if_pos z0, nI_clamp (by omega)]⟩
  refine q_fne rfl rfl (fun _ => ?_) (fun c9 => absurd z0 c9)
  refine q_aload_n rfl rfl rfl ?_
  refine q_getf rfl rfl (by omega) k46 f31 ?_
  refine q_iload_n rfl rfl rfl ?_
  refine q_iald rfl rfl (by omega) k73 (q_inN (by omega) (by decide)) (q_tn (z := (ft) a) (by rw [nI_clamp (by omega)]) ?_)
  exact q_iret rfl rfl trivial ⟨rfl, rfl, by unfold rxR; rw [if_pos (show (0 ≤ nI a ∧ nI a < 2) ∧ (0 ≤ z ∧ z < 2) from ⟨hy, hz⟩), if_neg s0, if_neg z0, nI_clamp (by omega)]⟩
end QG9
