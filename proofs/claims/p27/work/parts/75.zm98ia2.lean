/-! the program that a heap holds; what stands between the law's calls -/
section IA
variable {θ θ' : Th} {f f' : Nat → Int32} {S S' T : Nat → pm_E} {n : Nat} {P : PG}
def vf (f : Nat → Int32) (p : Nat) : Nat := if p < 4 then (f p).toInt.toNat else 0
def PGo (θ : Th) (f : Nat → Int32) : PG := (θ.2.2.2.2.toInt.toNat, fun x => (θ.1 x).toInt.toNat, fun x i => (θ.2.1 (8 * x + i)).toInt.toNat, fun x i => θ.2.2.1 (8 * x + i), fun x i => θ.2.2.2.1 (8 * x + i), vf f)
def WQ (θ : Th) : Prop := ∀ X i : Nat, X < 3 → i < 8 → (i : Int) < (θ.1 X).toInt → okS (θ.2.1 (8 * X + i)) (θ.2.2.1 (8 * X + i)) (θ.2.2.2.1 (8 * X + i))
def VQ (f : Nat → Int32) : Prop := ∀ p, p < 4 → 0 ≤ (f p).toInt ∧ (f p).toInt ≤ 9
def RQ (θ : Th) : Prop := (1 ≤ θ.2.2.2.2.toInt ∧ θ.2.2.2.2.toInt ≤ 3) ∧ ∀ x, x < 3 → 0 ≤ (θ.1 x).toInt ∧ (θ.1 x).toInt ≤ 8
theorem pv_po {p : Nat} : pV (PGo θ f) p = vf f p := rfl
theorem gs_rq (hG : GS θ S n) : RQ θ := by
  obtain ⟨mn, fk, fa, fn, fs, k47, k48, k49, k50, k46, m5, m6, f1, hd, hm, hf⟩ := xm_get hG
  exact ⟨hd, hm⟩
theorem in_i {v a b : Int32} (h : inP v a b) : a.toInt ≤ v.toInt ∧ v.toInt ≤ b.toInt := by
  unfold inP at h
  rw [Int32.le_iff_toInt_le, Int32.le_iff_toInt_le] at h
  exact h
theorem i_inP {v a b : Int32} (h : a.toInt ≤ v.toInt ∧ v.toInt ≤ b.toInt) : inP v a b := by
  unfold inP
  rw [Int32.le_iff_toInt_le, Int32.le_iff_toInt_le]
  exact h
theorem po_st {k a v : Int32} (h : okS k a v) : k.toInt.toNat ≤ 12 ∧ (hasP k.toInt.toNat → ∃ q, q < 4 ∧ a = nI q) ∧ (hasL k.toInt.toNat → ∃ q, q < 3 ∧ a = nI q) ∧ (hasN k.toInt.toNat → ∃ m, m ≤ 9 ∧ v = nI m) ∧ (k.toInt.toNat = 4 → ∃ m, m ≤ 10 ∧ v = nI m) := by
  obtain ⟨h1, h2, h3, h4⟩ := h
  have i1 := in_i h1
  have e0 : (0 : Int32).toInt = 0 := rfl
  have e2 : (2 : Int32).toInt = 2 := rfl
  have e3 : (3 : Int32).toInt = 3 := rfl
  have e5 : (5 : Int32).toInt = 5 := rfl
  have e6 : (6 : Int32).toInt = 6 := rfl
  have e7 : (7 : Int32).toInt = 7 := rfl
  have e8 : (8 : Int32).toInt = 8 := rfl
  have e9 : (9 : Int32).toInt = 9 := rfl
  have e11 : (11 : Int32).toInt = 11 := rfl
  have e12 : (12 : Int32).toInt = 12 := rfl
  refine ⟨by omega, fun h => ?_, fun h => ?_, fun h => ?_, fun h => ?_⟩
  · have hp : hasPl k := by
      unfold hasP at h
      unfold hasPl
      by_cases c : k.toInt < 3
      · exact Or.inl (by rw [Int32.lt_iff_toInt_lt]; omega)
      · exact Or.inr (i_inP (by omega))
    have := in_i (h2 hp)
    obtain ⟨q, hq, e⟩ := nI_rg (x := a) (m := 3) (by omega) (by omega)
    exact ⟨q, by omega, e⟩
  · unfold hasL at h
    have := in_i (h3 (i_inP (by omega)))
    obtain ⟨q, hq, e⟩ := nI_rg (x := a) (m := 2) (by omega) (by omega)
    exact ⟨q, by omega, e⟩
  · unfold hasN at h
    have hp : hasNm k := by
      unfold hasNm
      by_cases c : k.toInt = 0
      · exact Or.inl (Int32.toInt_inj.mp c)
      · exact Or.inr (i_inP (by omega))
    have h5 := h4 hp
    have e : ¬ k = 4 := fun e => by
      rw [e] at h
      revert h
      decide
    rw [if_neg e] at h5
    have := in_i h5
    exact nI_rg (x := v) (m := 9) (by omega) (by omega)
  · have hk : k = 4 := Int32.toInt_inj.mp (show k.toInt = 4 by omega)
    have hp : hasNm k := Or.inr (i_inP (by omega))
    have h5 := h4 hp
    rw [if_pos hk] at h5
    have := in_i h5
    exact nI_rg (x := v) (m := 10) (by omega) (by omega)
theorem po_wf (hR : RQ θ) (hQ : WQ θ) (hV : VQ f) : WFP (PGo θ f) := by
  obtain ⟨hd, hl⟩ := hR
  refine ⟨by show 1 ≤ θ.2.2.2.2.toInt.toNat; omega, by show θ.2.2.2.2.toInt.toNat ≤ 3; omega, fun x hx => ?_, fun p hp => ?_, fun x i hx hi => ?_⟩
  · have hx' : x < θ.2.2.2.2.toInt.toNat := hx
    have := hl x (by omega)
    show (θ.1 x).toInt.toNat ≤ 8
    omega
  · have := hV p hp
    show (if p < 4 then (f p).toInt.toNat else 0) ≤ 9
    rw [if_pos hp]
    omega
  · have hx' : x < θ.2.2.2.2.toInt.toNat := hx
    have hi' : i < (θ.1 x).toInt.toNat := hi
    have := hl x (by omega)
    exact po_st (hQ x i (by omega) (by omega) (by omega))
theorem po_tie (hR : RQ θ) (hQ : WQ θ) : tie θ (PGo θ f) := by
  obtain ⟨hd, hl⟩ := hR
  refine ⟨nI_ofI (k := θ.2.2.2.2.toInt.toNat) (by omega) (by omega), fun x hx => ?_, fun x i hx hi => ?_⟩
  · have hx' : x < θ.2.2.2.2.toInt.toNat := hx
    have := hl x (by omega)
    exact nI_ofI (k := (θ.1 x).toInt.toNat) (by omega) (by omega)
  · have hx' : x < θ.2.2.2.2.toInt.toNat := hx
    have hi' : i < (θ.1 x).toInt.toNat := hi
    have := hl x (by omega)
    have h1 := in_i (hQ x i (by omega) (by omega) (by omega)).1
    have e0 : (0 : Int32).toInt = 0 := rfl
    have e12 : (12 : Int32).toInt = 12 := rfl
    exact ⟨nI_ofI (k := (θ.2.1 (8 * x + i)).toInt.toNat) (by omega) (by omega), rfl, rfl⟩
theorem po_jpc (hG : GS θ S n) (h2 : J2 θ S) (hk : JK θ S) (k2 : S 2 = .inl (0, 4, .inl f)) (hV : VQ f) : JPc 1 (PGo θ f) S := by
  obtain ⟨hd, hl⟩ := gs_rq hG
  obtain ⟨⟨fs, k1, f0⟩, ln, k3, hln⟩ := h2
  obtain ⟨l4, l5, l6, k4, k5, k6, hK⟩ := hk
  obtain ⟨gs, g1, hf⟩ := gs_obj hG (k := 1) rfl
  rw [k1] at g1
  cases g1
  refine ⟨_, f, ln, l4, l5, l6, k1, ?_, fo_ref (hf 1 _ rfl) rfl, fo_ref (hf 2 _ rfl) rfl, fo_ref (hf 3 _ rfl) rfl, fo_ref (hf 4 _ rfl) rfl, fo_ref (hf 5 _ rfl) rfl, k2, k3, k4, k5, k6, fun p hp => ?_, fun x hx => ?_, fun x i hx hi => ?_⟩
  · rw [f0, show θ.2.2.2.2 = nI (pH (PGo θ f)) from nI_ofI (k := θ.2.2.2.2.toInt.toNat) (by omega) (by omega)]
  · have := hV p hp
    show f p = nI (if p < 4 then (f p).toInt.toNat else 0)
    rw [if_pos hp]
    exact nI_ofI (k := (f p).toInt.toNat) (by omega) (by omega)
  · have hx' : x < θ.2.2.2.2.toInt.toNat := hx
    have := hl x (by omega)
    rw [hln x (by omega)]
    exact nI_ofI (k := (θ.1 x).toInt.toNat) (by omega) (by omega)
  · have hx' : x < θ.2.2.2.2.toInt.toNat := hx
    have hi' : i < (θ.1 x).toInt.toNat := hi
    have := hl x (by omega)
    obtain ⟨q0, q1, q2, q3⟩ := hK x i (by omega) (by omega) (by omega)
    have h1 := in_i q0
    have e0 : (0 : Int32).toInt = 0 := rfl
    have e12 : (12 : Int32).toInt = 12 := rfl
    refine ⟨?_, q2, q3⟩
    rw [q1] at h1 ⊢
    exact nI_ofI (k := (θ.2.1 (8 * x + i)).toInt.toNat) (by omega) (by omega)
/-- what stands between the law's calls -/
def JA (θ : Th) (S : Nat → pm_E) : Prop := J2 θ S ∧ JK θ S ∧ WQ θ ∧ ∃ f : Nat → Int32, S 2 = .inl (0, 4, .inl f) ∧ VQ f ∧ JZ (PGo θ f) S
def jal : List Nat := [1, 7, 8, 16, 2, 3, 4, 5, 6, 9, 10, 11, 12, 13, 14, 15, 17, 22, 23, 44, 45, 51, 55, 56, 57, 59, 60, 62, 63, 64]
theorem jcb_al {j : Nat} (h : jcb j = true) : j ∈ jal := by
  unfold jcb at h
  simp only [Bool.or_eq_true] at h
  rcases h with h | h | h | h | h
  · have h9 := List.contains_iff_mem.mp h
    have t2 : jzl.all (fun k => jal.contains k) = true := by decide +kernel
    exact List.contains_iff_mem.mp (List.all_eq_true.mp t2 j h9)
  · rw [Nat.eq_of_beq_eq_true h]; decide
  · rw [Nat.eq_of_beq_eq_true h]; decide
  · rw [Nat.eq_of_beq_eq_true h]; decide
  · rw [Nat.eq_of_beq_eq_true h]; decide
theorem ja_z (h : JA θ S) (hJ : ∀ f, S 2 = .inl (0, 4, .inl f) → JZ (PGo θ f) S → JZ (PGo θ f) S') (e1 : S' 1 = S 1) (e2 : S' 2 = S 2) (e3 : S' 3 = S 3) (e4 : S' 4 = S 4) (e5 : S' 5 = S 5) (e6 : S' 6 = S 6) : JA θ S' := by
  obtain ⟨⟨⟨fs, a, b⟩, ln, c, d⟩, ⟨l4, l5, l6, a4, a5, a6, hk⟩, hQ, f, k2, hV, hZ⟩ := h
  exact ⟨⟨⟨fs, e1.trans a, b⟩, ln, e3.trans c, d⟩, ⟨l4, l5, l6, e4.trans a4, e5.trans a5, e6.trans a6, hk⟩, hQ, f, e2.trans k2, hV, hJ f k2 hZ⟩
theorem ja_fr (h : JA θ S) (e : ∀ j, j ∈ jal → S' j = S j) : JA θ S' := ja_z h (fun f _ hZ => jz_fr hZ (fun j hj => e j (jcb_al hj))) (e 1 (by decide)) (e 2 (by decide)) (e 3 (by decide)) (e 4 (by decide)) (e 5 (by decide)) (e 6 (by decide))
/-- a new program: nothing is gone through -/
theorem cj_new {P' : PG} (hj : JPc 1 P' T) (h : CJ P S) (e : ∀ j, j = 7 ∨ (8 ≤ j ∧ j < 24) ∨ j = 45 → T j = S j) (z : zr0 44 T) : CJ P' T := by
  obtain ⟨-, ⟨gs, c0, g⟩, h3, h4, sz, en, a44, a45, -, -⟩ := h
  obtain ⟨f, x44, hz⟩ := z
  exact ⟨hj, ⟨gs, (e 7 (Or.inl rfl)).trans c0, g⟩, OJ_same h3 (fun k h1 h2 => e k (by omega)), OJ_same h4 (fun k h1 h2 => e k (by omega)), f, en, x44, (e 45 (by omega)).trans a45, fun k hk => Or.inl (hz k hk), fun h9 => absurd (hz 0 (by decide)) h9⟩
theorem cj_keep (hj : JPc 1 P T) (h : CJ P S) (e : ∀ j, j = 7 ∨ (8 ≤ j ∧ j < 24) ∨ j = 45 → T j = S j) (e44 : T 44 = S 44) : CJ P T := by
  obtain ⟨-, ⟨gs, c0, g⟩, h3, h4, sz, en, a44, a45, hS, hT⟩ := h
  exact ⟨hj, ⟨gs, (e 7 (Or.inl rfl)).trans c0, g⟩, OJ_same h3 (fun k h1 h2 => e k (by omega)), OJ_same h4 (fun k h1 h2 => e k (by omega)), sz, en, e44.trans a44, (e 45 (by omega)).trans a45, hS, fun u1 u2 => TJ_same (hT u1 u2) (fun k h1 h2 => e k (by omega))⟩
theorem rj_keep (h : RJ P S) (hv : ∃ vl : Nat → Int32, T 51 = .inl (0, 4, .inl vl) ∧ ∀ p, p < 4 → vl p = nI (pV P p)) (e55 : T 55 = S 55) (e56 : T 56 = S 56) (e57 : T 57 = S 57) (e59 : T 59 = S 59) (e60 : T 60 = S 60) (e62 : T 62 = S 62) (e63 : T 63 = S 63) (e64 : T 64 = S 64) : RJ P T := by
  obtain ⟨-, kn, so, ed, b62, b63, b64, hK, hRT⟩ := h
  refine ⟨hv, kn, so, ed, e62.trans b62, e63.trans b63, e64.trans b64, hK, fun u1 u2 => ?_⟩
  obtain ⟨st, cf, cb, sp, ct, c55, c56, c57, c59, c60, hr⟩ := hRT u1 u2
  exact ⟨st, cf, cb, sp, ct, e55.trans c55, e56.trans c56, e57.trans c57, e59.trans c59, e60.trans c60, hr⟩
theorem rj_new {P' : PG} (h : RJ P S) (e63 : T 63 = S 63) (e64 : T 64 = S 64) (z : zr0 62 T) (hv : ∃ vl : Nat → Int32, T 51 = .inl (0, 4, .inl vl) ∧ ∀ p, p < 4 → vl p = nI (pV P' p)) : RJ P' T := by
  obtain ⟨-, kn, so, ed, b62, b63, b64, -, -⟩ := h
  obtain ⟨f, x62, hz⟩ := z
  exact ⟨hv, f, so, ed, x62, e63.trans b63, e64.trans b64, fun k hk => Or.inl (hz k hk), fun h9 => absurd (hz 0 (by decide)) h9⟩
theorem hp_inj {m k : Nat} (h : GS θ S m) (h' : GS θ' S m) (hk : k < 3) : θ.1 k = θ'.1 k := by
  obtain ⟨mn, -, -, -, fs, k47, -, -, -, -, m5, -⟩ := xm_get h
  obtain ⟨mn', -, -, -, fs', k47', -, -, -, -, m5', -⟩ := xm_get h'
  rw [k47] at k47'
  cases k47'
  rw [← m5 k hk, m5' k hk]
theorem po_vl (hV : VQ f) {g : Nat → Int32} (e : ∀ p, p < 4 → g p = f p) : ∀ p, p < 4 → g p = nI (pV (PGo θ f) p) := fun p hp => by
  have := hV p hp
  rw [e p hp]
  show f p = nI (if p < 4 then (f p).toInt.toNat else 0)
  rw [if_pos hp]
  exact nI_ofI (k := (f p).toInt.toNat) (by omega) (by omega)
theorem vf_eq (e : ∀ p, p < 4 → f' p = f p) : PGo θ f' = PGo θ f := by
  have : vf f' = vf f := by
    funext p
    unfold vf
    split
    · rename_i h
      rw [e p h]
    · rfl
  unfold PGo
  rw [this]
theorem th_ne {X : Nat} {v : Int32} {a : Nat → Int32} (hX : X < 3) (hv : v ≠ a X) (e : ∀ k, k < 3 → upd a X v k = a k) : False := by
  have := e X hX
  unfold upd at this
  rw [if_pos rfl] at this
  exact hv this
theorem ja_val (h : JA θ S) : ∃ f g : Nat → Int32, S 2 = .inl (0, 4, .inl f) ∧ S 51 = .inl (0, 4, .inl g) ∧ ∀ p, p < 4 → f p = g p := by
  obtain ⟨-, -, -, f, k2, hV, hZ⟩ := h
  obtain ⟨-, -, ⟨vl, k51, hv⟩, -⟩ := hZ
  exact ⟨f, vl, k2, k51, fun p hp => ((po_vl (θ := θ) hV (fun _ _ => rfl) p hp).trans (hv p hp).symm)⟩
theorem ja_init (h : FW S) : JA th0 S := by
  have hR : RQ th0 := ⟨⟨by decide, by decide⟩, fun x _ => ⟨by show (0 : Int) ≤ (0 : Int32).toInt; decide, by show (0 : Int32).toInt ≤ 8; decide⟩⟩
  have hQ : WQ th0 := fun X i _ _ hi => absurd hi (by show ¬ (i : Int) < (0 : Int32).toInt; have e : (0 : Int32).toInt = 0 := rfl; omega)
  have hV : VQ (fun _ => 0) := fun p _ => ⟨by show (0 : Int) ≤ (0 : Int32).toInt; decide, by show (0 : Int32).toInt ≤ 9; decide⟩
  have hG := gs_init h
  have h2 := j2_init h
  have hk : JK th0 S := by
    refine ⟨_, _, _, FW_4 S h, FW_5 S h, FW_6 S h, fun X i _ _ hl => ?_⟩
    exact absurd hl (by show ¬ (i : Int) < (0 : Int32).toInt; have e : (0 : Int32).toInt = 0 := rfl; omega)
  refine ⟨h2, hk, hQ, fun _ => 0, FW_2 S h, hV, po_wf hR hQ hV, ⟨po_jpc hG h2 hk (FW_2 S h) hV, ⟨_, FW_7 S h, rfl, rfl⟩, ⟨_, 0, _, _, _, FW_8 S h, rfl, by decide, FW_9 S h, FW_14 S h, FW_15 S h, ht_0 (fun _ _ => rfl)⟩, ⟨_, 0, _, _, _, FW_16 S h, rfl, by decide, FW_17 S h, FW_22 S h, FW_23 S h, ht_0 (fun _ _ => rfl)⟩, _, _, FW_44 S h, FW_45 S h, fun k _ => Or.inl rfl, fun h9 => absurd rfl h9⟩, ⟨_, FW_51 S h, po_vl hV (fun _ _ => rfl)⟩, _, _, _, FW_62 S h, FW_63 S h, FW_64 S h, fun k _ => Or.inl rfl, fun h9 => absurd rfl h9⟩
def jm1 : List Nat := [2, 7, 8, 9, 10, 11, 12, 13, 14, 15, 16, 17, 18, 19, 20, 21, 22, 23, 45, 51, 55, 56, 57, 59, 60, 62, 63, 64]
def jm2 : List Nat := [1, 2, 3, 4, 5, 6, 7, 8, 9, 10, 11, 12, 13, 14, 15, 16, 17, 18, 19, 20, 21, 22, 23, 44, 45, 51, 55, 56, 57, 59, 60, 63, 64]
theorem jm1_82 : jm1.all (fun k => Nat.blt k 82) = true := by decide
theorem jm2_82 : jm2.all (fun k => Nat.blt k 82) = true := by decide
theorem fr_l {M l : List Nat} {T1 : Nat → pm_E} (hn : 82 ≤ n) (e1 : fr1 l S T1 n) (q1 : M.all (fun k => !(l.contains k)) = true) (h : M.all (fun k => Nat.blt k 82) = true) : ∀ k, k ∈ M → T1 k = S k := fun k hk => by
  have h1 := List.all_eq_true.mp q1 k hk
  have h2 := Nat.le_of_ble_eq_true (List.all_eq_true.mp h k hk)
  have h3 : l.contains k = false := by
    cases h4 : l.contains k
    · rfl
    · rw [h4] at h1
      cases h1
  exact e1 k (by omega) h3
theorem jm_t : (List.range 24).all (fun j => !(Nat.ble 8 j) || (jm1.contains j && jm2.contains j)) = true := by decide +kernel
theorem jm_m {j : Nat} (h : j = 7 ∨ (8 ≤ j ∧ j < 24) ∨ j = 45) : j ∈ jm1 ∧ j ∈ jm2 := by
  rcases h with rfl | ⟨h1, h2⟩ | rfl
  · exact ⟨by decide, by decide⟩
  · have h3 := List.all_eq_true.mp jm_t j (List.mem_range.mpr h2)
    rw [Nat.ble_eq_true_of_le h1] at h3
    simp only [Bool.not_true, Bool.false_or, Bool.and_eq_true] at h3
    exact ⟨List.contains_iff_mem.mp h3.1, List.contains_iff_mem.mp h3.2⟩
  · exact ⟨by decide, by decide⟩
theorem jm_m1 {j : Nat} (h : j = 7 ∨ (8 ≤ j ∧ j < 24) ∨ j = 45) : j ∈ jm1 := (jm_m h).1
theorem jm_m2 {j : Nat} (h : j = 7 ∨ (8 ≤ j ∧ j < 24) ∨ j = 45) : j ∈ jm2 := (jm_m h).2
/-- behind code and uncode of both -/
theorem ja_step {T1 T2 : Nat → pm_E} {l l' : List Nat} (hG : GS θ S n) (hG1 : GS θ T1 n) (hG2 : GS θ' T2 n) (hJ : JA θ S) (h2 : J2 θ' T1) (hk : JK θ' T1) (hQ : WQ θ') (e1 : fr1 l S T1 n) (e2 : fr1 l' T1 T2 n) (q1 : jm1.all (fun k => !(l.contains k)) = true) (q2 : jm2.all (fun k => !(l'.contains k)) = true) (z1 : ZQ 44 S T1) (z2 : ZQ 62 T1 T2) (hd : θ' = θ ∨ ∃ k, k < 3 ∧ θ'.1 k ≠ θ.1 k) : JA θ' T2 := by
  have hn := gs_n hG
  have f1 : ∀ k, k ∈ jm1 → T1 k = S k := fr_l hn e1 q1 jm1_82
  have f2 : ∀ k, k ∈ jm2 → T2 k = T1 k := fr_l hn e2 q2 jm2_82
  obtain ⟨hj2, hjk, hQ0, f, k2, hV, hW, hC, hR⟩ := hJ
  have g2 : J2 θ' T2 := by
    obtain ⟨⟨fs, a, b⟩, ln, c, d⟩ := h2
    exact ⟨⟨fs, (f2 1 (by decide)).trans a, b⟩, ln, (f2 3 (by decide)).trans c, d⟩
  have gk : JK θ' T2 := by
    obtain ⟨l4, l5, l6, a4, a5, a6, h9⟩ := hk
    exact ⟨l4, l5, l6, (f2 4 (by decide)).trans a4, (f2 5 (by decide)).trans a5, (f2 6 (by decide)).trans a6, h9⟩
  have k2' : T2 2 = .inl (0, 4, .inl f) := (f2 2 (by decide)).trans ((f1 2 (by decide)).trans k2)
  have hjp := po_jpc hG2 g2 gk k2' hV
  have hv51 : ∃ vl : Nat → Int32, T2 51 = .inl (0, 4, .inl vl) ∧ ∀ p, p < 4 → vl p = nI (pV (PGo θ' f) p) := by
    obtain ⟨⟨vl, k51, hv⟩, -⟩ := hR
    exact ⟨vl, (f2 51 (by decide)).trans ((f1 51 (by decide)).trans k51), fun p hp => (hv p hp).trans (by rw [pv_po, pv_po])⟩
  have mid : ∀ j, j = 7 ∨ (8 ≤ j ∧ j < 24) ∨ j = 45 → T2 j = S j := fun j hj => (f2 j (jm_m2 hj)).trans (f1 j (jm_m1 hj))
  refine ⟨g2, gk, hQ, f, k2', hV, po_wf (gs_rq hG2) hQ hV, ?_, ?_⟩
  · rcases z1 with e | ⟨⟨z, -⟩, -⟩
    · rcases hd with e9 | ⟨k, hk3, hne⟩
      · subst e9
        exact cj_keep hjp hC mid ((f2 44 (by decide)).trans (by rw [e]))
      · obtain ⟨-, ln, c, d⟩ := hj2
        obtain ⟨-, ln', c', d'⟩ := h2
        rw [← e, c] at c'
        cases c'
        exact absurd ((d' k hk3).symm.trans (d k hk3)) hne
    · obtain ⟨sz, x44, hz⟩ := z
      exact cj_new hjp hC mid ⟨sz, (f2 44 (by decide)).trans x44, hz⟩
  · have e63 : T2 63 = S 63 := (f2 63 (by decide)).trans (f1 63 (by decide))
    have e64 : T2 64 = S 64 := (f2 64 (by decide)).trans (f1 64 (by decide))
    rcases z2 with e | ⟨⟨z, -⟩, -⟩
    · rcases hd with e9 | ⟨k, hk3, hne⟩
      · subst e9
        have e62 : T2 62 = S 62 := by rw [← e]; exact f1 62 (by decide)
        exact rj_keep hR hv51 ((f2 55 (by decide)).trans (f1 55 (by decide))) ((f2 56 (by decide)).trans (f1 56 (by decide))) ((f2 57 (by decide)).trans (f1 57 (by decide))) ((f2 59 (by decide)).trans (f1 59 (by decide))) ((f2 60 (by decide)).trans (f1 60 (by decide))) e62 e63 e64
      · rw [e] at hG1
        exact absurd (hp_inj hG2 hG1 hk3) hne
    · exact rj_new hR e63 e64 z hv51
theorem wq_uc {x z : Int32} (hR : RQ θ) (hQ : WQ θ) (h : ucR θ x z θ') : WQ θ' ∧ (θ' = θ ∨ ∃ k, k < 3 ∧ θ'.1 k ≠ θ.1 k) := by
  rcases h with ⟨-, -, rfl⟩ | ⟨X, hX, -, -, ⟨-, -, rfl⟩ | ⟨h0, -, rfl⟩⟩
  · exact ⟨hQ, Or.inl rfl⟩
  · exact ⟨hQ, Or.inl rfl⟩
  · have hl := hR.2 X hX
    have hne : (θ.1 X).toInt ≠ 0 := fun e => h0 (Int32.toInt_inj.mp e)
    have e1 : (θ.1 X - 1).toInt = (θ.1 X).toInt - 1 := by
      have e : (θ.1 X - 1).toInt = ((θ.1 X).toInt - (1 : Int32).toInt).bmod 4294967296 := Int32.toInt_sub _ _
      rw [e, show (1 : Int32).toInt = 1 from rfl]
      exact ck_bm (by unfold ck_lo; omega) (by unfold ck_hi; omega)
    refine ⟨fun Y i hY hi hlt => ?_, Or.inr ⟨X, hX, fun e => ?_⟩⟩
    · have hlt' : (i : Int) < (upd θ.1 X (θ.1 X - 1) Y).toInt := hlt
      refine hQ Y i hY hi ?_
      unfold upd at hlt'
      by_cases e : Y = X
      · rw [if_pos e] at hlt'
        rw [e]
        omega
      · rw [if_neg e] at hlt'
        exact hlt'
    · have e' : upd θ.1 X (θ.1 X - 1) X = θ.1 X := e
      unfold upd at e'
      rw [if_pos rfl] at e'
      rw [e'] at e1
      omega
theorem wq_cd {x k p v z : Int32} (hQ : WQ θ) (h : cdR θ x k p v z θ') : WQ θ' ∧ (θ' = θ ∨ ∃ k, k < 3 ∧ θ'.1 k ≠ θ.1 k) := by
  rcases h with ⟨-, -, rfl⟩ | ⟨hok, X, m, hX, -, -, em, hm8, ⟨-, -, rfl⟩ | ⟨h8, -, rfl⟩⟩
  · exact ⟨hQ, Or.inl rfl⟩
  · exact ⟨hQ, Or.inl rfl⟩
  · refine ⟨fun Y i hY hi hlt => ?_, Or.inr ⟨X, hX, fun e => ?_⟩⟩
    · have hlt' : (i : Int) < (upd θ.1 X (nI (m + 1)) Y).toInt := hlt
      show okS (upd θ.2.1 (8 * X + m) k (8 * Y + i)) (upd θ.2.2.1 (8 * X + m) p (8 * Y + i)) (upd θ.2.2.2.1 (8 * X + m) v (8 * Y + i))
      unfold upd at hlt' ⊢
      by_cases e : 8 * Y + i = 8 * X + m
      · rw [if_pos e, if_pos e, if_pos e]
        exact hok
      · rw [if_neg e, if_neg e, if_neg e]
        refine hQ Y i hY hi ?_
        by_cases eY : Y = X
        · subst eY
          rw [if_pos rfl, nI_toInt (by omega)] at hlt'
          rw [em, nI_toInt (by omega)]
          omega
        · rw [if_neg eY] at hlt'
          exact hlt'
    · have e' : upd θ.1 X (nI (m + 1)) X = θ.1 X := e
      unfold upd at e'
      rw [if_pos rfl, em] at e'
      have := (m_eq (a := m + 1) (b := m) (by omega) (by omega)).mp e'
      omega
/-- behind puzzle of both -/
theorem ja_puz {T1 T2 : Nat → pm_E} {h z : Int32} (hG : GS θ S n) (hG2 : GS θ' T2 n) (hJ : JA θ S) (h2 : J2 θ' T1) (hk : JK θ' T1) (e1 : fr1 [0, 1, 2, 3, 32, 42, 44] S T1 n) (e2 : fr1 [46, 47, 51, 52, 54, 62, 74] T1 T2 n) (u1 : ¬ inP h 1 3 → S = T1) (u2 : inP h 1 3 → zr 44 T1 ∧ ∃ g : Nat → Int32, T1 2 = .inl (0, 4, .inl g) ∧ ∀ p, p < 4 → g p = 0) (v1 : ¬ inP h 1 3 → T2 = T1) (v2 : inP h 1 3 → zr 62 T2 ∧ ∃ g : Nat → Int32, T2 51 = .inl (0, 4, .inl g) ∧ ∀ p, p < 4 → g p = 0) (hr : pzR θ h z θ') : JA θ' T2 := by
  have hn := gs_n hG
  rcases hr with ⟨hi, -, rfl⟩ | ⟨hi, -, e9⟩
  · rw [v1 hi, ← u1 hi]
    exact hJ
  obtain ⟨⟨z44, -⟩, g, a2, hg⟩ := u2 hi
  obtain ⟨⟨z62, -⟩, g', b51, hg'⟩ := v2 hi
  obtain ⟨hj2, hjk, hQ0, f, k2, hV, hW, hC, hR⟩ := hJ
  have g2 : J2 θ' T2 := by
    obtain ⟨⟨fs, a, b⟩, ln, c, d⟩ := h2
    exact ⟨⟨fs, (e2 1 (by omega) rfl).trans a, b⟩, ln, (e2 3 (by omega) rfl).trans c, d⟩
  have gk : JK θ' T2 := by
    obtain ⟨l4, l5, l6, a4, a5, a6, h9⟩ := hk
    exact ⟨l4, l5, l6, (e2 4 (by omega) rfl).trans a4, (e2 5 (by omega) rfl).trans a5, (e2 6 (by omega) rfl).trans a6, h9⟩
  have hV' : VQ g := fun p hp => by
    rw [hg p hp]
    decide
  have hQ : WQ θ' := by
    rw [e9]
    intro X i hX _ hl
    exfalso
    have e0 : (0 : Int32).toInt = 0 := rfl
    match X, hX, hl with
    | 0, _, hl => exact absurd hl (by show ¬ (i : Int) < (0 : Int32).toInt; omega)
    | 1, _, hl => exact absurd hl (by show ¬ (i : Int) < (0 : Int32).toInt; omega)
    | 2, _, hl => exact absurd hl (by show ¬ (i : Int) < (0 : Int32).toInt; omega)
    | X + 3, h, _ => omega
  have k2' : T2 2 = .inl (0, 4, .inl g) := (e2 2 (by omega) rfl).trans a2
  have l1 : ∀ j, j = 7 ∨ (8 ≤ j ∧ j < 24) ∨ j = 45 → T2 j = S j := fun j hj => by
    have c1 : [0, 1, 2, 3, 32, 42, 44].contains j = false := by
      cases h9 : [0, 1, 2, 3, 32, 42, 44].contains j
      · rfl
      · have := List.contains_iff_mem.mp h9
        simp only [List.mem_cons, List.not_mem_nil, or_false] at this
        omega
    have c2 : [46, 47, 51, 52, 54, 62, 74].contains j = false := by
      cases h9 : [46, 47, 51, 52, 54, 62, 74].contains j
      · rfl
      · have := List.contains_iff_mem.mp h9
        simp only [List.mem_cons, List.not_mem_nil, or_false] at this
        omega
    exact (e2 j (by omega) c2).trans (e1 j (by omega) c1)
  refine ⟨g2, gk, hQ, g, k2', hV', po_wf (gs_rq hG2) hQ hV', cj_new (po_jpc hG2 g2 gk k2' hV') hC l1 ?_, rj_new hR ((e2 63 (by omega) rfl).trans (e1 63 (by omega) rfl)) ((e2 64 (by omega) rfl).trans (e1 64 (by omega) rfl)) z62 ⟨g', b51, po_vl hV' (fun p hp => (hg' p hp).trans (hg p hp).symm)⟩⟩
  obtain ⟨sz, x44, hz⟩ := z44
  exact ⟨sz, (e2 44 (by omega) rfl).trans x44, hz⟩
/-- behind value of both -/
theorem ja_vl {T1 T2 : Nat → pm_E} {p v z z' : Int32} {g0 g' : Nat → Int32} (hG : GS θ S n) (hG2 : GS θ T2 n) (hJ : JA θ S) (e1 : fr1 [0, 2, 32, 42, 44] S T1 n) (e2 : fr1 [46, 51, 52, 54, 62, 74] T1 T2 n) (z1 : ZQ 44 S T1) (z2 : ZQ 62 T1 T2) (q1 : S 2 = .inl (0, 4, .inl f)) (q2 : T1 2 = .inl (0, 4, .inl f')) (q3 : T1 51 = .inl (0, 4, .inl g0)) (q4 : T2 51 = .inl (0, 4, .inl g')) (hv : vaR f p v z f') (hv' : vaR g0 p v z' g') : z = z' ∧ JA θ T2 := by
  have hn := gs_n hG
  obtain ⟨f9, g9, r2, r51, hfg⟩ := ja_val hJ
  rw [q1] at r2
  cases r2
  have q3' := (e1 51 (by omega) rfl).symm.trans q3
  rw [r51] at q3'
  cases q3'
  obtain ⟨ez, hE⟩ := va_eq hfg hv hv'
  refine ⟨ez, ?_⟩
  obtain ⟨hj2, hjk, hQ, f8, k2, hV, hW, hC, hR⟩ := hJ
  rw [q1] at k2
  cases k2
  have fr : ∀ j, j < 82 → [0, 2, 32, 42, 44].contains j = false → [46, 51, 52, 54, 62, 74].contains j = false → T2 j = S j := fun j hj c1 c2 => (e2 j (by omega) c2).trans (e1 j (by omega) c1)
  have g2 : J2 θ T2 := by
    obtain ⟨⟨fs, a, b⟩, ln, c, d⟩ := hj2
    exact ⟨⟨fs, (fr 1 (by decide) rfl rfl).trans a, b⟩, ln, (fr 3 (by decide) rfl rfl).trans c, d⟩
  have gk : JK θ T2 := by
    obtain ⟨l4, l5, l6, a4, a5, a6, h9⟩ := hjk
    exact ⟨l4, l5, l6, (fr 4 (by decide) rfl rfl).trans a4, (fr 5 (by decide) rfl rfl).trans a5, (fr 6 (by decide) rfl rfl).trans a6, h9⟩
  have hV' : VQ f' := by
    rcases hv with ⟨-, -, rfl⟩ | ⟨hO, Q, hQ4, -, -, rfl⟩
    · exact hV
    · intro p hp
      unfold upd
      split
      · have := in_i hO.2
        have e0 : (0 : Int32).toInt = 0 := rfl
        have e9 : (9 : Int32).toInt = 9 := rfl
        omega
      · exact hV p hp
  have k2' : T2 2 = .inl (0, 4, .inl f') := (e2 2 (by omega) rfl).trans q2
  have hjp := po_jpc hG2 g2 gk k2' hV'
  have mid : ∀ j, j = 7 ∨ (8 ≤ j ∧ j < 24) ∨ j = 45 → T2 j = S j := fun j hj => by
    refine fr j (by omega) ?_ ?_
    · cases h9 : [0, 2, 32, 42, 44].contains j
      · rfl
      · have := List.contains_iff_mem.mp h9
        simp only [List.mem_cons, List.not_mem_nil, or_false] at this
        omega
    · cases h9 : [46, 51, 52, 54, 62, 74].contains j
      · rfl
      · have := List.contains_iff_mem.mp h9
        simp only [List.mem_cons, List.not_mem_nil, or_false] at this
        omega
  have hv51 : ∃ vl : Nat → Int32, T2 51 = .inl (0, 4, .inl vl) ∧ ∀ p, p < 4 → vl p = nI (pV (PGo θ f') p) := ⟨g', q4, po_vl hV' (fun p hp => (hE p hp).symm)⟩
  refine ⟨g2, gk, hQ, f', k2', hV', po_wf (gs_rq hG2) hQ hV', ?_, ?_⟩
  · rcases z1 with e | ⟨⟨z, -⟩, -⟩
    · have ef : f' = f := by
        rw [← e, q1] at q2
        cases q2
        rfl
      subst ef
      obtain ⟨-, h2', h3, h4, sz, en, a44, a45, hS, hT⟩ := hC
      have e44 : T2 44 = S 44 := (e2 44 (by omega) rfl).trans (by rw [e])
      exact ⟨hjp, by
        obtain ⟨gs, c0, g⟩ := h2'
        exact ⟨gs, (mid 7 (Or.inl rfl)).trans c0, g⟩, OJ_same h3 (fun k h1 h2 => mid k (by omega)), OJ_same h4 (fun k h1 h2 => mid k (by omega)), sz, en, e44.trans a44, (mid 45 (by omega)).trans a45, hS, fun u1 u2 => TJ_same (hT u1 u2) (fun k h1 h2 => mid k (by omega))⟩
    · obtain ⟨sz, x44, hz⟩ := z
      exact cj_new hjp hC mid ⟨sz, (e2 44 (by omega) rfl).trans x44, hz⟩
  · rcases z2 with e | ⟨⟨z, -⟩, -⟩
    · have ef : ∀ p, p < 4 → f' p = f p := fun p hp => by
        rw [← e, q3] at q4
        cases q4
        rw [hE p hp, hfg p hp]
      rw [vf_eq ef] at hv51 ⊢
      obtain ⟨-, kn, so, ed, b62, b63, b64, hK, hRT⟩ := hR
      have g : ∀ k, k < 82 → [0, 2, 32, 42, 44].contains k = false → T2 k = S k := fun k hk c1 => by
        rw [← e]
        exact e1 k (by omega) c1
      refine ⟨hv51, kn, so, ed, (g 62 (by decide) rfl).trans b62, (g 63 (by decide) rfl).trans b63, (g 64 (by decide) rfl).trans b64, hK, fun u1 u2 => ?_⟩
      obtain ⟨st, cf, cb, sp, ct, c55, c56, c57, c59, c60, hr⟩ := hRT u1 u2
      exact ⟨st, cf, cb, sp, ct, (g 55 (by decide) rfl).trans c55, (g 56 (by decide) rfl).trans c56, (g 57 (by decide) rfl).trans c57, (g 59 (by decide) rfl).trans c59, (g 60 (by decide) rfl).trans c60, hr⟩
    · exact rj_new hR (fr 63 (by decide) rfl rfl) (fr 64 (by decide) rfl rfl) z hv51
end IA
