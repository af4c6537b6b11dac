/-! fix: what stands between the law's calls -/
section QH9
variable {θ θ' : Th} {f f' : Nat → Int32} {S S' T : Nat → pm_E} {n : Nat} {P : PG} {L : Nat} {xs : Nat → Int32} {a1 a2 a3 : Int32} {l l' : List Nat}
/-- the fixer: while it isn't stale, its outcomes are right -/
def JFp (P : PG) (S : Nat → pm_E) : Prop := ∃ (gs ms : List Value) (st : Int32) (ot : Nat → Int64), S 32 = .inr (0, gs) ∧ gs[1]? = some (.int st) ∧ S 39 = .inr (4, ms) ∧ ms[1]? = some (.int (nI 0)) ∧ S 41 = .inl (1, 363, .inr (.inl ot)) ∧ (fit9 P → st = 0 → OK9 P ot)
theorem jfp_fr (h : JFp P S) (e32 : S' 32 = S 32) (e39 : S' 39 = S 39) (e41 : S' 41 = S 41) : JFp P S' := by
  obtain ⟨gs, ms, st, ot, k32, g1, k39, m1, k41, ho⟩ := h
  exact ⟨gs, ms, st, ot, e32.trans k32, g1, e39.trans k39, m1, e41.trans k41, ho⟩
/-- a new program: the fixer is stale -/
theorem jfp_new {P' : PG} {T1 T2 : Nat → pm_E} (h : JFp P S) (z1 : zx44 T1) (e32 : T2 32 = T1 32) (e39 : T2 39 = S 39) (e41 : T2 41 = S 41) : JFp P' T2 := by
  obtain ⟨gs, ms, st, ot, -, -, k39, m1, k41, -⟩ := h
  obtain ⟨-, -, -, -, -, -, -, -, -, -, -, -, gx, a32, g1⟩ := z1
  exact ⟨gx, ms, 1, ot, e32.trans a32, g1, e39.trans k39, m1, e41.trans k41, fun _ h9 => absurd h9 (by decide)⟩
def JAf (θ : Th) (S : Nat → pm_E) : Prop := JA θ S ∧ ∀ f : Nat → Int32, S 2 = .inl (0, 4, .inl f) → JFp (PGo θ f) S
def jal5 : List Nat := [32, 39, 41, 1, 7, 8, 16, 2, 3, 4, 5, 6, 9, 10, 11, 12, 13, 14, 15, 17, 22, 23, 44, 45, 51, 55, 56, 57, 59, 60, 62, 63, 64]
theorem jaf_fr (h : JAf θ S) (e : ∀ j, j ∈ jal5 → S' j = S j) : JAf θ S' := ⟨ja_fr h.1 (fun j hj => e j (List.mem_cons_of_mem _ (List.mem_cons_of_mem _ (List.mem_cons_of_mem _ hj)))), fun f k2 => jfp_fr (h.2 f ((e 2 (by decide)).symm.trans k2)) (e 32 (by decide)) (e 39 (by decide)) (e 41 (by decide))⟩
theorem fr_3 {k : Nat} (e1 : fr1 l S S' n) (q : [32, 39, 41].all (fun k => !(l.contains k)) = true) (hn : 82 ≤ n) (hk : k ∈ [32, 39, 41]) : S' k = S k := e1 k (by simp only [List.mem_cons, List.not_mem_nil, or_false] at hk; omega) (by simpa using List.all_eq_true.mp q k hk)
theorem jaf_back {T1 T2 : Nat → pm_E} (hn : 82 ≤ n) (hj : JAf θ S) (k2 : S 2 = .inl (0, 4, .inl f)) (g : GJ θ (PGo θ f) T2 n) (e1 : fr1 l S T1 n) (e2 : fr1 l' T1 T2 n) (q1 : [1, 2, 3, 4, 5, 6].all (fun k => !(l.contains k)) = true) (q2 : [1, 2, 3, 4, 5, 6].all (fun k => !(l'.contains k)) = true) (q3 : [32, 39, 41].all (fun k => !(l.contains k)) = true) (q4 : [32, 39, 41].all (fun k => !(l'.contains k)) = true) : JAf θ T2 := by
  refine ⟨ja_back hn hj.1 k2 g e1 e2 q1 q2, fun f9 k29 => ?_⟩
  have e : T2 2 = S 2 := (e2 2 (by omega) (by simpa using List.all_eq_true.mp q2 2 (by decide))).trans (e1 2 (by omega) (by simpa using List.all_eq_true.mp q1 2 (by decide)))
  rw [e, k2] at k29
  cases k29
  exact jfp_fr (hj.2 f k2) ((fr_3 e2 q4 hn (by decide)).trans (fr_3 e1 q3 hn (by decide))) ((fr_3 e2 q4 hn (by decide)).trans (fr_3 e1 q3 hn (by decide))) ((fr_3 e2 q4 hn (by decide)).trans (fr_3 e1 q3 hn (by decide)))
theorem cdf_nf {c l m : Nat} (h : cdf c l m S S') (e : S' c = S c) : False := by
  obtain ⟨f, g, a, b, X, hX, ne⟩ := h
  rw [e, a] at b
  cases b
  exact ne rfl
/-- behind code and uncode of both -/
theorem jaf_step {T1 T2 : Nat → pm_E} (hG : GS θ S n) (hG1 : GS θ T1 n) (hG2 : GS θ' T2 n) (hJ : JAf θ S) (h2 : J2 θ' T1) (hA : JA θ' T2) (e1 : fr1 l S T1 n) (e2 : fr1 l' T1 T2 n) (q1 : l.contains 2 = false ∧ l.contains 39 = false ∧ l.contains 41 = false) (q2 : l'.contains 32 = false ∧ l'.contains 39 = false ∧ l'.contains 41 = false ∧ l'.contains 51 = false) (z1 : ZQ 44 S T1) (z2 : ZQ 62 T1 T2) (hd : θ' = θ ∨ ∃ k, k < 3 ∧ θ'.1 k ≠ θ.1 k) : JAf θ' T2 := by
  have hn := gs_n hG
  obtain ⟨fS, kS2, -⟩ := (ja_gj hG hJ.1)
  have hJF := hJ.2 fS kS2
  refine ⟨hA, fun f k2 => ?_⟩
  have b2 : T1 2 = S 2 := e1 2 (by omega) q1.1
  have hj2 := hJ.1.1
  rcases z1 with e | ⟨z, hdf⟩
  · rcases z2 with e9 | ⟨z', hdf'⟩
    · have et : θ' = θ := by
        rcases hd with h | ⟨k, hk, ne⟩
        · exact h
        · rw [e9] at hG1
          exact absurd (hp_inj hG2 hG1 hk) ne
      subst et
      rw [← e9, ← e]
      refine hJ.2 f ?_
      rw [e, e9]
      exact k2
    · exfalso
      rcases hdf' with ⟨-, h | h⟩ | ⟨h, -⟩
      · obtain ⟨mn, mn', k47, k47', X, hX, ne⟩ := h
        obtain ⟨r1, -, -, -, gs1, w47, -, -, -, -, m5, -⟩ := xm_get hG1
        obtain ⟨r2, -, -, -, gs2, w47', -, -, -, -, m5', -⟩ := xm_get hG2
        rw [k47] at w47
        cases w47
        rw [k47'] at w47'
        cases w47'
        obtain ⟨-, ln, c, d⟩ := hj2
        obtain ⟨-, ln', c', d'⟩ := h2
        rw [← e, c] at c'
        cases c'
        exact ne (by rw [m5' X hX, m5 X hX, ← d' X hX, d X hX])
      · exact cdf_nf h (e2 51 (by omega) q2.2.2.2)
      · cases h
  · exact jfp_new hJF (z.2.2 rfl) (e2 32 (by omega) q2.1) ((e2 39 (by omega) q2.2.1).trans (e1 39 (by omega) q1.2.1)) ((e2 41 (by omega) q2.2.2.1).trans (e1 41 (by omega) q1.2.2))
/-- behind value of both -/
theorem jaf_vl {T1 T2 : Nat → pm_E} {g0 g' : Nat → Int32} (hG : GS θ S n) (hJ : JAf θ S) (hA : JA θ T2) (e1 : fr1 [0, 2, 32, 42, 44] S T1 n) (e2 : fr1 [46, 51, 52, 54, 62, 74] T1 T2 n) (z1 : ZQ 44 S T1) (z2 : ZQ 62 T1 T2) (q1 : S 2 = .inl (0, 4, .inl f)) (q2 : T1 2 = .inl (0, 4, .inl f')) (q3 : T1 51 = .inl (0, 4, .inl g0)) (q4 : T2 51 = .inl (0, 4, .inl g')) : JAf θ T2 := by
  have hn := gs_n hG
  refine ⟨hA, fun f9 k2 => ?_⟩
  rcases z1 with e | ⟨z, hdf⟩
  · have a2 : T2 2 = T1 2 := e2 2 (by omega) rfl
    have h9 := hJ.2 f9 (by rw [e, ← a2]; exact k2)
    exact jfp_fr h9 ((e2 32 (by omega) rfl).trans (by rw [e])) ((e2 39 (by omega) rfl).trans (by rw [e])) ((e2 41 (by omega) rfl).trans (by rw [e]))
  · exact jfp_new (hJ.2 f q1) (z.2.2 rfl) (e2 32 (by omega) rfl) ((e2 39 (by omega) rfl).trans (e1 39 (by omega) rfl)) ((e2 41 (by omega) rfl).trans (e1 41 (by omega) rfl))
/-- behind puzzle of both -/
theorem jaf_puz {T1 T2 : Nat → pm_E} {h z : Int32} (hG : GS θ S n) (hJ : JAf θ S) (hA : JA θ' T2) (e1 : fr1 [0, 1, 2, 3, 32, 42, 44] S T1 n) (e2 : fr1 [46, 47, 51, 52, 54, 62, 74] T1 T2 n) (u1 : ¬ inP h 1 3 → S = T1) (u2 : inP h 1 3 → zr 44 T1) (v1 : ¬ inP h 1 3 → T2 = T1) (hr : pzR θ h z θ') : JAf θ' T2 := by
  have hn := gs_n hG
  obtain ⟨fS, kS2, -⟩ := (ja_gj hG hJ.1)
  have hJF := hJ.2 fS kS2
  rcases hr with ⟨hi, -, rfl⟩ | ⟨hi, -, e9⟩
  · rw [v1 hi, ← u1 hi]
    exact hJ
  refine ⟨hA, fun f k2 => ?_⟩
  exact jfp_new hJF ((u2 hi).2.2 rfl) (e2 32 (by omega) rfl) ((e2 39 (by omega) rfl).trans (e1 39 (by omega) rfl)) ((e2 41 (by omega) rfl).trans (e1 41 (by omega) rfl))
theorem jaf_init (h : FW S) : JAf th0 S := ⟨ja_init h, fun f k2 => ⟨_, _, _, _, FW_32 S h, rfl, FW_39 S h, rfl, FW_41 S h, fun _ _ l q _ _ => Or.inl rfl⟩⟩
/-- what fix answers -/
def fxQ (P : PG) (a1 a2 a3 z : Int32) : Prop := (¬ ((0 ≤ a1 ∧ a1 < 3) ∧ (0 ≤ a2 ∧ a2 < 4) ∧ (0 ≤ a3 ∧ a3 < 10)) ∧ z = -1) ∨ (((0 ≤ a1 ∧ a1 < 3) ∧ (0 ≤ a2 ∧ a2 < 4) ∧ (0 ≤ a3 ∧ a3 < 10)) ∧ ¬ fit9 P ∧ z = -3) ∨ (fit9 P ∧ ∃ l p v : Nat, l < 3 ∧ p < 4 ∧ v < 10 ∧ a1 = nI l ∧ a2 = nI p ∧ a3 = nI v ∧ ∃ r9, fst9 (hit9 P l p v) r9 ∧ ((r9 = none ∧ z = -2) ∨ ∃ s q, r9 = some (s, q) ∧ z = nI s))
theorem in_all {l p v : Nat} (hl : l < 3) (hp : p < 4) (hv : v < 10) : (0 ≤ nI l ∧ nI l < 3) ∧ (0 ≤ nI p ∧ nI p < 4) ∧ (0 ≤ nI v ∧ nI v < 10) := ⟨⟨nI_p0 (by omega), (m_lt (b := 3) (by omega) (by decide)).mpr hl⟩, ⟨nI_p0 (by omega), (m_lt (b := 4) (by omega) (by decide)).mpr hp⟩, nI_p0 (by omega), (m_lt (b := 10) (by omega) (by decide)).mpr hv⟩
theorem fxq_fn {z z' : Int32} (h : fxQ P a1 a2 a3 z) (h' : fxQ P a1 a2 a3 z') : z = z' := by
  rcases h with ⟨i, rfl⟩ | ⟨i, nf, rfl⟩ | ⟨hf, l, p, v, hl, hp, hv, e1, e2, e3, r9, hr, hz⟩
  · rcases h' with ⟨-, rfl⟩ | ⟨i', -, -⟩ | ⟨-, l, p, v, hl, hp, hv, rfl, rfl, rfl, -⟩
    · rfl
    · exact absurd i' i
    · exact absurd (in_all hl hp hv) i
  · rcases h' with ⟨i', -⟩ | ⟨-, -, rfl⟩ | ⟨hf, -⟩
    · exact absurd i i'
    · rfl
    · exact absurd hf nf
  · rcases h' with ⟨i', -⟩ | ⟨-, nf, -⟩ | ⟨-, l', p', v', hl', hp', hv', e1', e2', e3', r9', hr', hz'⟩
    · rw [e1, e2, e3] at i'
      exact absurd (in_all hl hp hv) i'
    · exact absurd hf nf
    · have q1 : l = l' := nI_inj (by omega) (by omega) (e1.symm.trans e1')
      have q2 : p = p' := nI_inj (by omega) (by omega) (e2.symm.trans e2')
      have q3 : v = v' := nI_inj (by omega) (by omega) (e3.symm.trans e3')
      subst q1 q2 q3
      have er := fst_fn hr hr'
      subst er
      rcases hz with ⟨a, rfl⟩ | ⟨s, q, a, rfl⟩
      · rcases hz' with ⟨-, rfl⟩ | ⟨s', q', a', -⟩
        · rfl
        · rw [a] at a'
          cases a'
      · rcases hz' with ⟨a', -⟩ | ⟨s', q', a', rfl⟩
        · rw [a] at a'
          cases a'
        · rw [a] at a'
          cases a'
          rfl
theorem rf_and {Y : pm_M} {as : List Value} {K : q_K} (h1 : PM (j_SL L) (j_SV xs) j_EX Y as S n (RIJ θ P l S n)) (h2 : PM (j_SL L) (j_SV xs) j_EX Y as S n K) : PM (j_SL L) (j_SV xs) j_EX Y as S n (fun r S' n' => n = n' ∧ GJ θ P S' n ∧ fr1 l S S' n ∧ K r S' n') := pm_weak (pm_and h2 h1) (fun r T m h => by
  obtain ⟨hK, S2, e2, rfl, -, g, hf⟩ := h
  refine ⟨rfl, ?_, fun k hk hc => (hp_cell hk e2).trans (hf k hk hc), hK⟩
  unfold GJ at g ⊢
  rw [← e2]
  exact g)
theorem po_4 {k a v : Int32} (h : okS k a v) (h4 : k.toInt.toNat = 4) : ∃ m, m ≤ 8 ∧ v = nI m := by
  have e4 : k = 4 := by
    have i1 := in_i h.1
    have e0 : (0 : Int32).toInt = 0 := rfl
    exact Int32.toInt_inj.mp (by have : (4 : Int32).toInt = 4 := rfl; omega)
  have h5 := h.2.2.2 (by rw [e4]; exact Or.inr ⟨by decide, by decide⟩)
  rw [if_pos e4] at h5
  have := in_i h5
  have e0 : (0 : Int32).toInt = 0 := rfl
  have e8 : (8 : Int32).toInt = 8 := rfl
  exact nI_rg (x := v) (m := 8) (by omega) (by omega)
theorem po_J8 (hR : RQ θ) (hQ : WQ θ) : J8 (PGo θ f) := by
  intro x i hx hi h4
  have h3 : (pH (PGo θ f) : Nat) = θ.2.2.2.2.toInt.toNat := rfl
  have hx' : x < θ.2.2.2.2.toInt.toNat := hx
  have hi' : i < (θ.1 x).toInt.toNat := hi
  have r1 := hR.1
  have r2 := hR.2 x (by omega)
  exact po_4 (hQ x i (by omega) (by omega) (by omega)) h4
/-- what the fixer stands on -/
theorem gj_fx (hGJ : GJ θ P S n) (hJF : JFp P S) : ∃ (fs gs : List Value) (su st : Int32) (ch : Nat → Int32) (ot : Nat → Int64), S 0 = .inr (9, fs) ∧ fs[5]? = some (.ref 32) ∧ FX9 P gs ot S ∧ gs[0]? = some (.int su) ∧ gs[1]? = some (.int st) ∧ S 40 = .inl (0, 2, .inl ch) ∧ (fit9 P → st = 0 → OK9 P ot) := by
  obtain ⟨hG, hT, hW, hC, hR⟩ := gj_ab hGJ
  obtain ⟨gs, ms, st, ot, k32, g1, k39, m1, k41, ho⟩ := hJF
  obtain ⟨fs, k0, hf0⟩ := gs_obj hG (k := 0) rfl
  obtain ⟨gs', k32', hf⟩ := gs_obj hG (k := 32) rfl
  have eg := (Prod.mk.inj (Sum.inr.inj (k32'.symm.trans k32))).2
  subst eg
  obtain ⟨ms', k39', hm⟩ := gs_obj hG (k := 39) rfl
  have em := (Prod.mk.inj (Sum.inr.inj (k39'.symm.trans k39))).2
  subst em
  obtain ⟨su, g0, -⟩ := fo_int (hf 0 _ rfl) rfl
  obtain ⟨ch, k40, -⟩ := gs_arr hG (k := 40) rfl
  obtain ⟨ds, k33, hd⟩ := gs_obj hG (k := 33) rfl
  obtain ⟨w0, d0, -⟩ := hd 0 _ rfl
  obtain ⟨fa, k34, -⟩ := gs_arr hG (k := 34) rfl
  obtain ⟨ln, k35, -⟩ := gs_arr hG (k := 35) rfl
  obtain ⟨l4, k36, -⟩ := gs_arr hG (k := 36) rfl
  obtain ⟨l5, k37, -⟩ := gs_arr hG (k := 37) rfl
  obtain ⟨l6, k38, -⟩ := gs_arr hG (k := 38) rfl
  refine ⟨fs, gs', su, st, ch, ot, k0, fo_ref (hf0 5 _ rfl) rfl, ⟨hC.1, k32, ⟨fo_ref (hf 2 _ rfl) rfl, fo_ref (hf 3 _ rfl) rfl, fo_ref (hf 4 _ rfl) rfl, fo_ref (hf 5 _ rfl) rfl, fo_ref (hf 6 _ rfl) rfl, fo_ref (hf 7 _ rfl) rfl⟩, ⟨ds, w0, fa, ln, l4, l5, l6, k33, d0, fo_ref (hd 1 _ rfl) rfl, fo_ref (hd 2 _ rfl) rfl, fo_ref (hd 3 _ rfl) rfl, fo_ref (hd 4 _ rfl) rfl, fo_ref (hd 5 _ rfl) rfl, k34, k35, k36, k37, k38⟩, ⟨ms', k39, fo_ref (hm 0 _ rfl) rfl, m1⟩, gs_oall16 hG hC.2.2.2.1, k41⟩, g0, g1, k40, ho⟩
theorem fx_q {su : Int32} {ch : Nat → Int32} {r : Option Value} {n' : Nat} (h : fixK P su ch a1 a2 a3 S n r S' n') (hJF : JFp P S) : JFp P S' ∧ ∃ z : Int32, r = some (.int z) ∧ fxQ P a1 a2 a3 z := by
  rcases h with ⟨i, rfl, -, rfl⟩ | ⟨i, nf, rfl, -, rfl⟩ | ⟨hf, l, p, v, hl, hp, hv, e1, e2, e3, -, hY, gs', ot', hX, hO, g1, r9, hr, h⟩
  · exact ⟨hJF, _, rfl, Or.inl ⟨i, rfl⟩⟩
  · exact ⟨hJF, _, rfl, Or.inr (Or.inl ⟨i, nf, rfl⟩)⟩
  · obtain ⟨-, k32, -, -, ⟨ms, k39, -, m1⟩, -, k41⟩ := hX
    refine ⟨⟨gs', ms, 0, ot', k32, g1, k39, m1, k41, fun _ _ => hO⟩, ?_⟩
    rcases h with ⟨a, rfl, -⟩ | ⟨s, q, ch', a, rfl, -⟩
    · exact ⟨_, rfl, Or.inr (Or.inr ⟨hf, l, p, v, hl, hp, hv, e1, e2, e3, r9, hr, Or.inl ⟨a, rfl⟩⟩)⟩
    · exact ⟨_, rfl, Or.inr (Or.inr ⟨hf, l, p, v, hl, hp, hv, e1, e2, e3, r9, hr, Or.inr ⟨s, q, a, rfl⟩⟩)⟩
theorem c_fixJ (hGJ : GJ θ P S n) (hJ8 : J8 P) (hJF : JFp P S) : PM (j_SL L) (j_SV xs) j_EX mm_X11_fix [.ref 0, .int a1, .int a2, .int a3] S n (fun r S' n' => JFp P S' ∧ ∃ z : Int32, r = some (.int z) ∧ fxQ P a1 a2 a3 z) := by
  obtain ⟨hG, hT, hW, hC, hR⟩ := gj_ab hGJ
  obtain ⟨fs, gs, su, st, ch, ot, k0, f5, hX, g0, g1, k40, ho⟩ := gj_fx hGJ hJF
  exact pm_weak (c_fix9 hW hJ8 (gs_n hG) k0 f5 hX g0 g1 k40 ho) (fun r S' n' h => fx_q h hJF)
theorem l_fixJ (hGJ : GJ θ P S n) (hJ8 : J8 P) : PM (j_SL L) (j_SV xs) j_EX mm_X12_fix [.ref 46, .int a1, .int a2, .int a3] S n (fun r S' n' => ∃ z : Int32, r = some (.int z) ∧ fxQ P a1 a2 a3 z) := by
  obtain ⟨hG, hT, hW, hC, hR⟩ := gj_ab hGJ
  obtain ⟨fs, mn, fk, fa, fn, vl, w, z, k46, f1, f2, f3, f4, f5, f6, f7, f8, f9, f10, f11, f12, f13, f14, f15, f16, f17, f18, f19, f20, f21, k47, k48, k49, k50, k51, hmn, hpr, hvl⟩ := gs_jrp hG hT hW hR
  obtain ⟨fs', k46', hf⟩ := gs_obj hG (k := 46) rfl
  have ef := (Prod.mk.inj (Sum.inr.inj (k46'.symm.trans k46))).2
  subst ef
  obtain ⟨su, f32, -⟩ := fo_int (hf 32 _ rfl) rfl
  obtain ⟨ff, k72, -⟩ := gs_arr hG (k := 72) rfl
  obtain ⟨ft, k73, -⟩ := gs_arr hG (k := 73) rfl
  refine pm_weak (r_fix9 (su := su) (ff := ff) (ft := ft) hW hJ8 (gs_n hG) ⟨fs', mn, fk, fa, fn, vl, k46, ⟨f1, f2, f3, f4, f5, f6, f8, f9, f10, f11, f12, f13, f14, f15, f16, f17, fo_ref (hf 30 _ rfl) rfl, fo_ref (hf 31 _ rfl) rfl, f32⟩, ⟨w, f7⟩, k47, k48, k49, k50, k51, k72, k73, fun x hx => ?_, fun x i hx hi => ?_, hvl, gs_rws hG (by decide)⟩) (fun r S' n' h => ?_)
  · have h := hmn x hx
    rw [Nat.zero_add] at h
    exact h
  · have h := hpr x i hx hi
    rw [Nat.zero_add] at h
    exact h
  rcases h with ⟨i, -, rfl⟩ | ⟨i, nf, -, rfl⟩ | ⟨hf9, l, p, v, hl, hp, hv, e1, e2, e3, r9, gs, hr, -, h⟩
  · exact ⟨_, rfl, Or.inl ⟨i, rfl⟩⟩
  · exact ⟨_, rfl, Or.inr (Or.inl ⟨i, nf, rfl⟩)⟩
  · rcases h with ⟨a, rfl, -⟩ | ⟨s, q, ff', ft', a, rfl, -⟩
    · exact ⟨_, rfl, Or.inr (Or.inr ⟨hf9, l, p, v, hl, hp, hv, e1, e2, e3, r9, hr, Or.inl ⟨a, rfl⟩⟩)⟩
    · exact ⟨_, rfl, Or.inr (Or.inr ⟨hf9, l, p, v, hl, hp, hv, e1, e2, e3, r9, hr, Or.inr ⟨s, q, a, rfl⟩⟩)⟩
theorem jaf_gj (hG : GS θ S n) (hj : JAf θ S) : ∃ f : Nat → Int32, S 2 = .inl (0, 4, .inl f) ∧ GJ θ (PGo θ f) S n ∧ JFp (PGo θ f) S ∧ J8 (PGo θ f) := by
  obtain ⟨f, k2, g⟩ := ja_gj hG hj.1
  exact ⟨f, k2, g, hj.2 f k2, po_J8 (gs_rq hG) hj.1.2.2.1⟩
theorem jaf_fix {T1 T2 : Nat → pm_E} (hn : 82 ≤ n) (hj : JAf θ S) (k2 : S 2 = .inl (0, 4, .inl f)) (g : GJ θ (PGo θ f) T2 n) (hJF : JFp (PGo θ f) T1) (e1 : fr1 l S T1 n) (e2 : fr1 l' T1 T2 n) (q1 : [1, 2, 3, 4, 5, 6].all (fun k => !(l.contains k)) = true) (q2 : [1, 2, 3, 4, 5, 6].all (fun k => !(l'.contains k)) = true) (q4 : [32, 39, 41].all (fun k => !(l'.contains k)) = true) : JAf θ T2 := by
  refine ⟨ja_back hn hj.1 k2 g e1 e2 q1 q2, fun f9 k29 => ?_⟩
  have e : T2 2 = S 2 := (e2 2 (by omega) (by simpa using List.all_eq_true.mp q2 2 (by decide))).trans (e1 2 (by omega) (by simpa using List.all_eq_true.mp q1 2 (by decide)))
  rw [e, k2] at k29
  cases k29
  exact jfp_fr hJF (fr_3 e2 q4 hn (by decide)) (fr_3 e2 q4 hn (by decide)) (fr_3 e2 q4 hn (by decide))
end QH9
