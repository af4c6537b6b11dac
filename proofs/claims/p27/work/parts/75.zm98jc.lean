/-! what was gone through; always: class and reference -/
section JC
variable {θ : Th} {P : PG} {S S' : Nat → pm_E} {n k : Nat} {L : Nat} {xs : Nat → Int32} {x y z w : Int32}
/-- the first number below N with A, or -2 -/
def fsP (A : Nat → Prop) (N : Nat) (v : Int32) : Prop := (∃ j, j < N ∧ A j ∧ (∀ i, i < j → ¬ A i) ∧ v = nI j) ∨ ((∀ j, j < N → ¬ A j) ∧ v = -2)
theorem fs_fn {A : Nat → Prop} {N : Nat} {v v' : Int32} (h : fsP A N v) (h' : fsP A N v') : v = v' := by
  rcases h with ⟨j, h1, h2, h3, rfl⟩ | ⟨h1, rfl⟩ <;> rcases h' with ⟨j', g1, g2, g3, rfl⟩ | ⟨g1, rfl⟩
  · have e : j = j' := by
      rcases Nat.lt_trichotomy j j' with c | c | c
      · exact absurd h2 (g3 j c)
      · exact c
      · exact absurd g2 (h3 j' c)
    rw [e]
  · exact absurd h2 (g1 j h1)
  · exact absurd g2 (h1 j' g1)
  · rfl
noncomputable def epR (Q : Int32 → Prop) : Int32 := @Classical.epsilon Int32 ⟨0⟩ Q
theorem ep_is {Q : Int32 → Prop} (hQ : ∀ z z', Q z → Q z' → z = z') {v : Int32} (h : Q v) : epR Q = v := hQ _ _ (Classical.epsilon_spec (p := Q) ⟨v, h⟩) h
theorem ep_r {Q : Int32 → Prop} (hQ : ∀ z z', Q z → Q z' → z = z') {v : Int32} (h : Q v) : some (Value.int v) = some (Value.int (epR Q)) := by rw [ep_is hQ h]
theorem n_in {a b : Nat} {B : Int32} (hB : B = nI b) (hb : b < 100) (ha : a < b) : 0 ≤ nI a ∧ nI a < B := by
  subst hB
  exact ⟨nI_p0 (by omega), (m_lt (by omega) (by omega)).mpr ha⟩
/-- class: the true picture's orders as they were gone through -/
def CSo (P : PG) (S : Nat → pm_E) : Prop := ∃ (ts os : List Value) (fo : Nat → Int64) (og mv so fw : Nat → Int32), S 0 = .inr (9, ts) ∧ ts[1]? = some (.ref 7) ∧ ts[2]? = some (.ref 8) ∧ S 8 = .inr (5, os) ∧ os[0]? = some (.int (nI (xN (xE P 0)))) ∧ os[4]? = some (.ref 9) ∧ os[5]? = some (.ref 10) ∧ os[6]? = some (.ref 11) ∧ os[7]? = some (.ref 12) ∧ os[8]? = some (.ref 13) ∧ S 9 = .inl (1, 2000, .inr (.inl fo)) ∧ S 10 = .inl (0, 2000, .inl og) ∧ S 11 = .inl (0, 2000, .inl mv) ∧ S 12 = .inl (0, 2000, .inl so) ∧ S 13 = .inl (0, 6000, .inl fw) ∧ (∀ j, j < xN (xE P 0) → e_D (fo j) = xS (xE P 0) j) ∧ (∀ j, j < xN (xE P 0) → og j = xF (xE P 0) j ∧ mv j = xB (xE P 0) j) ∧ (∀ j, j < xN (xE P 0) → so j = nI (srt P 0 (xS (xE P 0) j))) ∧ ∀ q, q < 3 * xN (xE P 0) → fw q = xL (xE P 0) q
theorem c_sz3 (hG : GS θ S n) (hZ : JZ P S) : PM (j_SL L) (j_SV xs) j_EX mm_X11_sizeOf [.ref 0, .int (nI 0)] S n (fun r S' n' => n = n' ∧ r = some (.int (szR P 0)) ∧ CJ P S' ∧ frZ S S' ∧ (xP (xE P 0) = false → CSo P S')) := by
  have hn := gs_n hG
  refine pm_weak (c_size (P := P) (k := 0) hZ.1 hn (by decide) (gs_ts hG) (gs_oall8 hG hZ.2.1.2.2.1) (gs_oall16 hG hZ.2.1.2.2.2.1) hZ.2.1) (fun r T m h => ?_)
  obtain ⟨rfl, rfl, hC, hF, sz', t44, hz⟩ := h
  refine ⟨rfl, rfl, hC, hF, fun hp1 => ?_⟩
  obtain ⟨ts, u0, u1, u2, -⟩ := gs_ts hG
  obtain ⟨-, -, -, -, sz, en, a44, a45, hS, hT⟩ := hC
  rw [t44] at a44
  cases a44
  obtain ⟨sl, e0, so, ⟨fo, og, mv, fw, tb, ce, ⟨os, t8, o0, -, -, -, o4, o5, o6, o7, o8, -, -, t9, t10, t11, t12, t13, -⟩, -, hfo, hog, hfw⟩, hso, -⟩ := hT hz hp1
  exact ⟨ts, os, fo, og, mv, so, fw, (hF 0 (by decide) (by omega) (by decide) (by decide)).trans u0, u1, u2, t8, o0, o4, o5, o6, o7, o8, t9, t10, t11, t12, t13, hfo, hog, hso, hfw hp1⟩
theorem c_stAt {N s : Nat} {os : List Value} {fo : Nat → Int64} (hn : 82 ≤ n) (t8 : S 8 = .inr (5, os)) (o0 : os[0]? = some (.int (nI N))) (o4 : os[4]? = some (.ref 9)) (t9 : S 9 = .inl (1, 2000, .inr (.inl fo))) (hN : N ≤ 2000) (hs : s < N) : PM (j_SL L) (j_SV xs) j_EX mm_X7_stateAt [.ref 8, .int (nI s)] S n (fun r S' n' => S = S' ∧ n = n' ∧ r = some (.long (fo s))) := by
  change PQ (j_SL L) (j_SV xs) j_EX mm_X7_stateAt 0 [.ref 8, .int (nI s)] [] S n 0 0 _
  refine q_iload_n rfl rfl rfl ?_
  refine q_aload_n rfl rfl rfl ?_
  refine q_getf rfl rfl (by omega) t8 o0 ?_
  refine q_cS rfl rfl (Or.inr rfl) rfl rfl trivial rfl rfl rfl rfl rfl c_wi ?_
  rintro r _ _ ⟨rfl, rfl, hr⟩
  rcases hr with ⟨q, rfl⟩ | ⟨q, rfl⟩
  · exact (c_out q ⟨nI_p0 (by omega), (m_lt (by omega) (by omega)).mpr hs⟩).elim
  show PQ (j_SL L) (j_SV xs) j_EX mm_X7_stateAt 8 [.ref 8, .int (nI s)] [.int 1] S n 0 0 _
  refine q_ifeq rfl rfl (fun c => absurd c (by decide)) (fun _ => ?_)
  refine q_aload_n rfl rfl rfl ?_
  refine q_getf rfl rfl (by omega) t8 o4 ?_
  refine q_iload_n rfl rfl rfl ?_
  refine q_lald rfl rfl (by omega) t9 (q_inN (by omega) (by decide)) (q_tnl (z := fo s) (by rw [nI_clamp (by omega)]) ?_)
  refine q_goto rfl ?_
  exact q_lret rfl rfl trivial ⟨rfl, rfl, rfl⟩
/-- reference: room 0 as it was gone through -/
def RSo (P : PG) (S : Nat → pm_E) : Prop := ∃ st cf cb ch sp ct nt nx nw : Nat → Int32, ORo 0 (xN (xE P 0)) st cf cb ch sp ct nt nx S ∧ S 52 = .inl (0, 20, .inl nw) ∧ JR 0 P S ∧ (∀ j, j < xN (xE P 0) → ∀ i, i < 20 → row st 0 j i = ra P (xS (xE P 0) j) i) ∧ (∀ j, j < xN (xE P 0) → cf (2000 * 0 + j) = xF (xE P 0) j ∧ cb (2000 * 0 + j) = xB (xE P 0) j) ∧ ∀ q, q < 3 * xN (xE P 0) → sp (6000 * 0 + q) = xL (xE P 0) q
theorem rso_52 {nw : Nat → Int32} (h : RSo P S) (e : ∀ k, k ≠ 52 → S' k = S k) (t : S' 52 = .inl (0, 20, .inl nw)) : RSo P S' := by
  obtain ⟨st, cf, cb, ch, sp, ct, nt, nx, nw0, hO, -, hJ, h1, h2, h3⟩ := h
  exact ⟨st, cf, cb, ch, sp, ct, nt, nx, nw, or_fr hO (e 46 (by decide)) (e 53 (by decide)) (fun k a b => e k (by omega)), t, JR_same hJ (fun k a b => e k (by omega)), h1, h2, h3⟩
theorem l_sp3 (hG : GS θ S n) (hT : tie θ P) (hZ : JZ P S) : PM (j_SL L) (j_SV xs) j_EX mm_X12_isSpent [.ref 46, .int (nI 0)] S n (fun r S' n' => n = n' ∧ r = some (.int (spR P 0)) ∧ GS θ S' n ∧ RJ P S' ∧ frR S S' ∧ (xP (xE P 0) = false → RSo P S')) := by
  obtain ⟨fs, hp⟩ := gs_jrp hG hT hZ.1 hZ.2.2
  have hn := gs_n hG
  have hp' := hp
  obtain ⟨_, _, _, _, _, w0, _, -, -, -, -, -, -, -, f70, -⟩ := hp'
  refine pm_weak (pm_and (l_spent (k := 0) hZ.1 hn (by decide) hp (gs_rws hG (by decide)) hZ.2.2) (q_kc w201 [(0 : Int)] hG ⟨rfl, ck_oku rfl rfl, trivial⟩ (ck_en_c (by decide) (by decide) ck_en_n) (fun d hd => by cases hd))) (fun r T m h => ?_)
  obtain ⟨⟨rfl, rfl, hR, hF, ⟨z', t46⟩, kn', t62, hkn⟩, S2, e2, -, g2, -⟩ := h
  have g : GS θ T n := by
    unfold GS at g2 ⊢
    rw [← e2]
    exact g2
  refine ⟨rfl, rfl, g, hR, hF, fun hp1 => ?_⟩
  obtain ⟨fs', mn, fk, fa, fn, vl, w, z0, k46, f1, f2, f3, f4, f5, f6, f7, f8, f9, f10, f11, f12, f13, f14, f15, f16, f17, f18, f19, f20, f21, k47, k48, k49, k50, k51, hmn, hpr, hvl⟩ := gs_jrp g hT hZ.1 hR
  have ef := (Prod.mk.inj (Sum.inr.inj (t46.symm.trans k46))).2
  have e7 : fs'[7]? = some (.int 0) := by
    rw [← ef]
    exact (os_ne (by decide)).trans (os_at f70)
  obtain ⟨N, _, _, _, ch, _, _, nt, nx, nw, t52, t53, -, -, -, t58, -, -, t61, -⟩ := gs_rws (R := 0) g (by decide)
  obtain ⟨-, kn, so, en, b62, b63, b64, hK, hRT⟩ := hR
  rw [t62] at b62
  cases b62
  obtain ⟨st, cf, cb, sp, ct, c55, c56, c57, c59, c60, hct, hrow, hcf, hsp⟩ := hRT hkn hp1
  exact ⟨st, cf, cb, ch, sp, ct, nt, nx, nw, ⟨fs', k46, f8, f9, f11, f12, f13, f14, f15, f16, f17, t53, c55, c56, c57, t58, c59, c60, t61, hct⟩, t52, ⟨fs', mn, fk, fa, fn, vl, k46, f1, f2, f3, f4, f5, f6, e7, f8, f9, f10, k47, k48, k49, k50, k51, hmn, hpr, hvl⟩, hrow, hcf, hsp⟩
theorem l_std {j : Nat} (hW : WFP P) (hn : 82 ≤ n) (h : RSo P S) (hj : j < xN (xE P 0)) : PM (j_SL L) (j_SV xs) j_EX mm_X12_standAt [.ref 46, .int (nI 0), .int (nI j)] S n (fun r S' n' => r = none ∧ n = n' ∧ (∀ k, k ≠ 52 → S' k = S k) ∧ RSo P S' ∧ ∃ nw : Nat → Int32, S' 52 = .inl (0, 20, .inl nw) ∧ ∀ i, i < 20 → nw i = ra P (xS (xE P 0) j) i) := by
  have h9 := h
  obtain ⟨st, cf, cb, ch, sp, ct, nt, nx, nw0, hO, t52, hJ, h1, h2, h3⟩ := h
  have hN := (xe_wx (k := 0) hW).1.2.1
  refine pm_weak (r_stand (R := 0) hn (by decide) (by omega) hO t52) (fun r T m h => ?_)
  obtain ⟨rfl, rfl, e, nw, a, b⟩ := h
  exact ⟨rfl, rfl, e, rso_52 h9 e a, nw, a, fun i hi => (b i hi).trans (h1 j hj i hi)⟩
def alP (X I p v : Nat) (D : Nat → Nat) : Prop := D (4 * X) = I ∧ D (4 * X + 2) = 0 ∧ ¬ D (12 + p) = v
def okL (θ : Th) (x y z w : Int32) (X I p v : Nat) : Prop := stA θ x y X I ∧ (p < 4 ∧ z = nI p) ∧ (v < 10 ∧ w = nI v)
def alQ (θ : Th) (P : PG) (x y z w r : Int32) : Prop := ((¬ ∃ X I p v, okL θ x y z w X I p v) ∧ r = -1) ∨ ∃ X I p v, okL θ x y z w X I p v ∧ ((xP (xE P 0) = true ∧ r = -5) ∨ (xP (xE P 0) = false ∧ fsP (fun j => alP X I p v (xS (xE P 0) j)) (xN (xE P 0)) r))
theorem al_fn (r r' : Int32) (h : alQ θ P x y z w r) (h' : alQ θ P x y z w r') : r = r' := by
  rcases h with ⟨a, rfl⟩ | ⟨X, I, p, v, a1, a2⟩ <;> rcases h' with ⟨b, rfl⟩ | ⟨Y, J, p', v', b1, b2⟩
  · rfl
  · exact absurd ⟨Y, J, p', v', b1⟩ a
  · exact absurd ⟨X, I, p, v, a1⟩ b
  · obtain ⟨⟨hX, ex, -, hI, ei, -⟩, ⟨hp, ep⟩, hv, ev⟩ := a1
    obtain ⟨⟨hY, ey, -, hJ, ej, -⟩, ⟨hp', ep'⟩, hv', ev'⟩ := b1
    have q1 : X = Y := nI_inj (by omega) (by omega) (ex.symm.trans ey)
    have q2 : I = J := nI_inj (by omega) (by omega) (ei.symm.trans ej)
    have q3 : p = p' := nI_inj (by omega) (by omega) (ep.symm.trans ep')
    have q4 : v = v' := nI_inj (by omega) (by omega) (ev.symm.trans ev')
    subst q1 q2 q3 q4
    rcases a2 with ⟨c, rfl⟩ | ⟨c, d⟩ <;> rcases b2 with ⟨c', rfl⟩ | ⟨c', d'⟩
    · rfl
    · rw [c] at c'
      cases c'
    · rw [c] at c'
      cases c'
    · exact fs_fn d d'
theorem stA_P {X I : Nat} (hW : WFP P) (hT : tie θ P) (h : stA θ x y X I) : X < pH P ∧ I < pL P X := by
  obtain ⟨hX, -, hXh, hI, -, hl⟩ := h
  have h3 := hW.2.1
  have a : X < pH P := by
    rw [hT.1, nI_toInt (by omega)] at hXh
    omega
  have h8 := hW.2.2.1 X a
  refine ⟨a, ?_⟩
  rw [hT.2.1 X a, nI_toInt (by omega)] at hl
  omega
set_option maxHeartbeats 4000000 in
theorem c_alw (hG : GS θ S n) (hj : J2 θ S) (hT : tie θ P) (hZ : JZ P S) : PM (j_SL L) (j_SV xs) j_EX mm_X11_always [.ref 0, .int x, .int y, .int z, .int w] S n (fun r S' n' => r = some (.int (epR (alQ θ P x y z w)))) := by
  have hn := gs_n hG
  obtain ⟨ts0, k0, hf⟩ := gs_obj hG (k := 0) rfl
  have t00 : ts0[0]? = some (.ref 1) := fo_ref (hf 0 _ rfl) rfl
  have hj' := hj
  obtain ⟨⟨fs1, k1, -⟩, -⟩ := hj'
  change PQ (j_SL L) (j_SV xs) j_EX mm_X11_always 0 [.ref 0, .int x, .int y, .int z, .int w, pm_un, pm_un, pm_un, pm_un] [] S n 0 0 _
  have bad : (¬ ∃ X I p v, okL θ x y z w X I p v) → PQ (j_SL L) (j_SV xs) j_EX mm_X11_always 30 [.ref 0, .int x, .int y, .int z, .int w, pm_un, pm_un, pm_un, pm_un] [] S n 0 0 (fun r S' n' => r = some (.int (epR (alQ θ P x y z w)))) := by
    intro h
    refine q_iconst rfl rfl ?_
    exact q_iret rfl rfl trivial (ep_r al_fn (Or.inl ⟨h, rfl⟩))
  refine q_aload_n rfl rfl rfl ?_
  refine q_getf rfl rfl (by omega) k0 t00 ?_
  refine q_iload_n rfl rfl rfl ?_
  refine q_iload_n rfl rfl rfl ?_
  refine q_cV rfl rfl (Or.inl rfl) rfl rfl rfl rfl (by omega) k1 trivial rfl rfl rfl rfl rfl (c_hs hG hj) ?_
  rintro r _ _ ⟨rfl, rfl, hr⟩
  rcases hr with ⟨q, rfl⟩ | ⟨qx, rfl⟩
  · show PQ (j_SL L) (j_SV xs) j_EX mm_X11_always 9 [.ref 0, .int x, .int y, .int z, .int w, pm_un, pm_un, pm_un, pm_un] [.int 0] S n 0 0 _
    exact q_ifeq rfl rfl (fun _ => bad (fun ⟨X, I, _, _, h⟩ => q ⟨X, I, h.1⟩)) (fun c => absurd rfl c)
  show PQ (j_SL L) (j_SV xs) j_EX mm_X11_always 9 [.ref 0, .int x, .int y, .int z, .int w, pm_un, pm_un, pm_un, pm_un] [.int 1] S n 0 0 _
  refine q_ifeq rfl rfl (fun c => absurd c (by decide)) (fun _ => ?_)
  refine q_iload_n rfl rfl rfl ?_
  refine q_iconst rfl rfl ?_
  refine q_cS rfl rfl (Or.inl rfl) rfl rfl trivial rfl rfl rfl rfl rfl c_wi ?_
  rintro r _ _ ⟨rfl, rfl, hr⟩
  rcases hr with ⟨q, rfl⟩ | ⟨qz, rfl⟩
  · show PQ (j_SL L) (j_SV xs) j_EX mm_X11_always 17 [.ref 0, .int x, .int y, .int z, .int w, pm_un, pm_un, pm_un, pm_un] [.int 0] S n 0 0 _
    exact q_ifeq rfl rfl (fun _ => bad (fun ⟨_, _, _, _, h⟩ => c_out q (by rw [h.2.1.2]; exact n_in (b := 4) rfl (by decide) h.2.1.1))) (fun c => absurd rfl c)
  show PQ (j_SL L) (j_SV xs) j_EX mm_X11_always 17 [.ref 0, .int x, .int y, .int z, .int w, pm_un, pm_un, pm_un, pm_un] [.int 1] S n 0 0 _
  refine q_ifeq rfl rfl (fun c => absurd c (by decide)) (fun _ => ?_)
  refine q_iload rfl rfl rfl ?_
  refine q_bipush rfl rfl ?_
  refine q_cS rfl rfl (Or.inl rfl) rfl rfl trivial rfl rfl rfl rfl rfl c_wi ?_
  rintro r _ _ ⟨rfl, rfl, hr⟩
  rcases hr with ⟨q, rfl⟩ | ⟨qw, rfl⟩
  · show PQ (j_SL L) (j_SV xs) j_EX mm_X11_always 27 [.ref 0, .int x, .int y, .int z, .int w, pm_un, pm_un, pm_un, pm_un] [.int 0] S n 0 0 _
    exact q_ifne rfl rfl (fun _ => bad (fun ⟨_, _, _, _, h⟩ => c_out q (by rw [h.2.2.2]; exact n_in (b := 10) rfl (by decide) h.2.2.1))) (fun c => absurd rfl c)
  show PQ (j_SL L) (j_SV xs) j_EX mm_X11_always 27 [.ref 0, .int x, .int y, .int z, .int w, pm_un, pm_un, pm_un, pm_un] [.int 1] S n 0 0 _
  refine q_ifne rfl rfl (fun c => absurd c (by decide)) (fun _ => ?_)
  clear bad
  obtain ⟨X, I, hA⟩ := qx
  obtain ⟨p, hp, rfl⟩ := in_b (b := 3) rfl (by decide) qz
  obtain ⟨v, hv, rfl⟩ := in_b (b := 9) rfl (by decide) qw
  obtain ⟨hXP, hIP⟩ := stA_P hZ.1 hT hA
  have hA' := hA
  obtain ⟨hX, rfl, -, hI, rfl, -⟩ := hA'
  have ok : okL θ (nI X) (nI I) (nI p) (nI v) X I p v := ⟨hA, ⟨hp, rfl⟩, hv, rfl⟩
  clear hA qz qw
  refine q_aload_n rfl rfl rfl ?_
  refine q_iconst rfl rfl ?_
  refine q_cV rfl rfl (Or.inl rfl) rfl rfl rfl rfl (by omega) k0 trivial rfl rfl rfl rfl rfl (c_sz3 hG hZ) ?_
  rintro r T _ ⟨rfl, rfl, hC, hF, hCS⟩
  show PQ (j_SL L) (j_SV xs) j_EX mm_X11_always 37 [.ref 0, .int (nI X), .int (nI I), .int (nI p), .int (nI v), pm_un, pm_un, pm_un, pm_un] [.int (szR P 0)] T n 0 0 _
  refine q_bipush rfl rfl ?_
  have hN := (xe_wx (k := 0) hZ.1).1.2.1
  cases hp1 : xP (xE P 0)
  rotate_left
  · rw [szR_t hp1]
    refine q_icne rfl rfl (fun _ => ?_) (fun h => absurd rfl h)
    refine q_bipush rfl rfl ?_
    exact q_iret rfl rfl trivial (ep_r al_fn (Or.inr ⟨X, I, p, v, ok, Or.inl ⟨hp1, rfl⟩⟩))
  rw [szR_f hp1]
  refine q_icne rfl rfl (fun h => ?_) (fun _ => ?_)
  · exfalso
    have e9 := congrArg Int32.toInt h
    rw [nI_toInt (by omega)] at e9
    have e5 : (-5 : Int32).toInt = -5 := rfl
    omega
  obtain ⟨ts, os, fo, og, mv, so, fw, t0, u1, u2, t8, o0, o4, o5, o6, o7, o8, t9, t10, t11, t12, t13, hfo, hog, hso, hfw⟩ := hCS hp1
  clear hCS hC hF
  have loop : ∀ q s : Nat, s + q = xN (xE P 0) → (∀ j, j < s → ¬ alP X I p v (xS (xE P 0) j)) → ∀ l6 l8 : Value, PQ (j_SL L) (j_SV xs) j_EX mm_X11_always 48 [.ref 0, .int (nI X), .int (nI I), .int (nI p), .int (nI v), .int (nI s), l6, pm_un, l8] [] T n 0 0 (fun r S' n' => r = some (.int (epR (alQ θ P (nI X) (nI I) (nI p) (nI v))))) := by
    intro q
    induction q with
    | zero =>
      intro s hs hno l6 l8
      have e : s = xN (xE P 0) := by omega
      subst e
      refine q_iload rfl rfl rfl ?_
      refine q_aload_n rfl rfl rfl ?_
      refine q_getf rfl rfl (by omega) t0 u2 ?_
      refine q_getf rfl rfl (by omega) t8 o0 ?_
      refine q_icge rfl rfl (fun _ => ?_) (fun h => absurd (Int32.le_refl _) h)
      refine q_bipush rfl rfl ?_
      exact q_iret rfl rfl trivial (ep_r al_fn (Or.inr ⟨X, I, p, v, ok, Or.inr ⟨hp1, Or.inr ⟨hno, rfl⟩⟩⟩))
    | succ q ih =>
      intro s hsq hno l6 l8
      have hs : s < xN (xE P 0) := by omega
      refine q_iload rfl rfl rfl ?_
      refine q_aload_n rfl rfl rfl ?_
      refine q_getf rfl rfl (by omega) t0 u2 ?_
      refine q_getf rfl rfl (by omega) t8 o0 ?_
      refine q_icge rfl rfl (fun h => absurd h (nI_ge (a := s) (b := xN (xE P 0)) (by omega) (by omega))) (fun _ => ?_)
      have nx : ∀ l8 : Value, ¬ alP X I p v (xS (xE P 0) s) → PQ (j_SL L) (j_SV xs) j_EX mm_X11_always 116 [.ref 0, .int (nI X), .int (nI I), .int (nI p), .int (nI v), .int (nI s), .long (fo s), pm_un, l8] [] T n 0 0 (fun r S' n' => r = some (.int (epR (alQ θ P (nI X) (nI I) (nI p) (nI v))))) := by
        intro l8 h
        refine q_inc5 rfl rfl rfl rfl ?_
        refine q_goto rfl ?_
        rw [show nI s + 1 = nI (s + 1) from nI_add s 1]
        refine ih (s + 1) (by omega) (fun j hj => ?_) _ _
        rcases Nat.lt_or_eq_of_le (Nat.le_of_lt_succ hj) with c | c
        · exact hno j c
        · rw [c]
          exact h
      have no94 : ¬ alP X I p v (xS (xE P 0) s) → PQ (j_SL L) (j_SV xs) j_EX mm_X11_always 94 [.ref 0, .int (nI X), .int (nI I), .int (nI p), .int (nI v), .int (nI s), .long (fo s), pm_un, l8] [] T n 0 0 (fun r S' n' => r = some (.int (epR (alQ θ P (nI X) (nI I) (nI p) (nI v))))) := by
        intro h
        refine q_iconst rfl rfl ?_
        refine q_ist8 rfl rfl rfl rfl ?_
        refine q_iload rfl rfl rfl ?_
        exact q_ifeq rfl rfl (fun _ => nx _ h) (fun c => absurd rfl c)
      refine q_aload_n rfl rfl rfl ?_
      refine q_getf rfl rfl (by omega) t0 u2 ?_
      refine q_iload rfl rfl rfl ?_
      refine q_cV rfl rfl (Or.inl rfl) rfl rfl rfl rfl (by omega) t8 trivial rfl rfl rfl rfl rfl (c_stAt hn t8 o0 o4 t9 hN hs) ?_
      rintro r _ _ ⟨rfl, rfl, rfl⟩
      show PQ (j_SL L) (j_SV xs) j_EX mm_X11_always 69 [.ref 0, .int (nI X), .int (nI I), .int (nI p), .int (nI v), .int (nI s), l6, pm_un, l8] [.long (fo s)] T n 0 0 _
      refine q_lst6 rfl rfl rfl rfl ?_
      refine q_lload rfl rfl rfl ?_
      refine q_iload_n rfl rfl rfl ?_
      refine q_cS rfl rfl (Or.inl rfl) rfl rfl trivial rfl rfl rfl rfl rfl (b_position (h := X) (by omega)) ?_
      rintro r _ _ ⟨rfl, rfl, rfl⟩
      show PQ (j_SL L) (j_SV xs) j_EX mm_X11_always 77 [.ref 0, .int (nI X), .int (nI I), .int (nI p), .int (nI v), .int (nI s), .long (fo s), pm_un, l8] [.int (nI (e_D (fo s) (4 * X)))] T n 0 0 _
      have b4 := e_D4 (s := fo s) (x := X) (by omega)
      have bp := e_Dp (s := fo s) hp
      rw [hfo s hs] at b4 bp ⊢
      refine q_iload_n rfl rfl rfl ?_
      refine q_icne rfl rfl (fun h1 => ?_) (fun h1 => no94 (fun h => h1 (by rw [h.1])))
      have g1 := (m_eq (by omega) (by omega)).mp h1
      refine q_lload rfl rfl rfl ?_
      refine q_iload_n rfl rfl rfl ?_
      refine q_cS rfl rfl (Or.inl rfl) rfl rfl trivial rfl rfl rfl rfl rfl (b_made (h := X) (by omega)) ?_
      rintro r _ _ ⟨rfl, rfl, rfl⟩
      show PQ (j_SL L) (j_SV xs) j_EX mm_X11_always 87 [.ref 0, .int (nI X), .int (nI I), .int (nI p), .int (nI v), .int (nI s), .long (fo s), pm_un, l8] [.int (nI (e_D (fo s) (4 * X + 2)))] T n 0 0 _
      rw [hfo s hs]
      refine q_ifne rfl rfl (fun h2 => ?_) (fun h2 => no94 (fun h => h2 (by rw [h.2.1]; rfl)))
      have g2 : xS (xE P 0) s (4 * X + 2) = 0 := (m_eq (b := 0) (by omega) (by decide)).mp h2
      refine q_iconst rfl rfl ?_
      refine q_goto rfl ?_
      refine q_ist8 rfl rfl rfl rfl ?_
      refine q_iload rfl rfl rfl ?_
      refine q_ifeq rfl rfl (fun c => absurd c (by decide)) (fun _ => ?_)
      refine q_lload rfl rfl rfl ?_
      refine q_iload_n rfl rfl rfl ?_
      refine q_cS rfl rfl (Or.inl rfl) rfl rfl trivial rfl rfl rfl rfl rfl (b_place (p := p) hp) ?_
      rintro r _ _ ⟨rfl, rfl, rfl⟩
      show PQ (j_SL L) (j_SV xs) j_EX mm_X11_always 108 [.ref 0, .int (nI X), .int (nI I), .int (nI p), .int (nI v), .int (nI s), .long (fo s), pm_un, .int 1] [.int (nI (e_D (fo s) (12 + p)))] T n 0 0 _
      rw [hfo s hs]
      refine q_iload rfl rfl rfl ?_
      refine q_iceq rfl rfl (fun h3 => nx _ (fun h => h.2.2 ((m_eq (by omega) (by omega)).mp h3))) (fun h3 => ?_)
      refine q_iload rfl rfl rfl ?_
      exact q_iret rfl rfl trivial (ep_r al_fn (Or.inr ⟨X, I, p, v, ok, Or.inr ⟨hp1, Or.inl ⟨s, hs, ⟨g1, g2, fun h => h3 (by rw [h])⟩, hno, rfl⟩⟩⟩))
  refine q_iconst rfl rfl ?_
  refine q_ist5 rfl rfl rfl rfl ?_
  exact loop (xN (xE P 0)) 0 (by omega) (fun j hj => absurd hj (by omega)) _ _
set_option maxHeartbeats 4000000 in
theorem l_alw (hG : GS θ S n) (hT : tie θ P) (hZ : JZ P S) : PM (j_SL L) (j_SV xs) j_EX mm_X12_always [.ref 46, .int x, .int y, .int z, .int w] S n (fun r S' n' => r = some (.int (epR (alQ θ P x y z w)))) := by
  have hn := gs_n hG
  obtain ⟨mn, fk, fa, fn, fs, k47, k48, k49, k50, k46, m5, m6, f1, hd, hm, hf⟩ := xm_get hG
  have f2 : fs[2]? = some (.ref 47) := fo_ref (hf 2 _ rfl) rfl
  change PQ (j_SL L) (j_SV xs) j_EX mm_X12_always 0 [.ref 46, .int x, .int y, .int z, .int w, pm_un] [] S n 0 0 _
  have bad : ∀ x : Int32, (¬ ∃ X I p v, okL θ x y z w X I p v) → PQ (j_SL L) (j_SV xs) j_EX mm_X12_always 45 [.ref 46, .int x, .int y, .int z, .int w, pm_un] [] S n 0 0 (fun r S' n' => r = some (.int (epR (alQ θ P x y z w)))) := by
    intro x h
    refine q_iconst rfl rfl ?_
    exact q_iret rfl rfl trivial (ep_r al_fn (Or.inl ⟨h, rfl⟩))
  refine q_aload_n rfl rfl rfl ?_
  refine q_iload_n rfl rfl rfl ?_
  refine q_cV rfl rfl (Or.inl rfl) rfl rfl rfl rfl (by omega) k46 trivial rfl rfl rfl rfl rfl (l_isHand hn k46 f1) ?_
  rintro r S1 n1 ⟨e1, e2, hr⟩
  obtain rfl := e1.symm
  obtain rfl := e2.symm
  rcases hr with ⟨q, rfl⟩ | ⟨q, rfl⟩
  · show PQ (j_SL L) (j_SV xs) j_EX mm_X12_always 5 [.ref 46, .int x, .int y, .int z, .int w, pm_un] [.int 0] S n 0 0 _
    refine q_ifeq rfl rfl (fun _ => bad x (fun h => ?_)) (fun c => absurd rfl c)
    obtain ⟨X, I, _, _, ⟨hX, rfl, hXh, -⟩, -⟩ := h
    exact q (hnd hd.1 hd.2 ⟨by rw [Int32.le_iff_toInt_le, nI_toInt (by omega)]; show (0 : Int) ≤ _; omega, by rw [Int32.lt_iff_toInt_lt, nI_toInt (by omega)]; exact hXh⟩).2
  show PQ (j_SL L) (j_SV xs) j_EX mm_X12_always 5 [.ref 46, .int x, .int y, .int z, .int w, pm_un] [.int 1] S n 0 0 _
  refine q_ifeq rfl rfl (fun c => absurd c (by decide)) (fun _ => ?_)
  obtain ⟨X, hX, rfl, hXh⟩ := hand_of hd q
  have hmX := hm X hX
  have hst : inP y 0 (θ.1 X - 1) ↔ stP θ (nI X) y := in_st hX rfl hXh rfl hmX.1 hmX.2
  refine q_aload_n rfl rfl rfl ?_
  refine q_iload_n rfl rfl rfl ?_
  refine q_iconst rfl rfl ?_
  refine q_aload_n rfl rfl rfl ?_
  refine q_getf rfl rfl (by omega) k46 f2 ?_
  refine q_iload_n rfl rfl rfl ?_
  refine q_iald rfl rfl (by omega) k47 (q_inN (by omega) (by decide)) (q_tn (z := θ.1 X) (by rw [nI_clamp (by omega)]; exact m5 X hX) ?_)
  refine q_iconst rfl rfl ?_
  refine q_isub rfl rfl ?_
  refine q_cV rfl rfl (Or.inl rfl) rfl rfl rfl rfl (by omega) k46 trivial rfl rfl rfl rfl rfl l_in ?_
  rintro r S1 n1 ⟨e1, e2, hr⟩
  obtain rfl := e1.symm
  obtain rfl := e2.symm
  rcases hr with ⟨q, rfl⟩ | ⟨qy, rfl⟩
  · show PQ (j_SL L) (j_SV xs) j_EX mm_X12_always 22 [.ref 46, .int (nI X), .int y, .int z, .int w, pm_un] [.int 0] S n 0 0 _
    exact q_ifeq rfl rfl (fun _ => bad _ (fun ⟨Y, I, _, _, h⟩ => q (hst.mpr ⟨Y, I, h.1⟩))) (fun c => absurd rfl c)
  show PQ (j_SL L) (j_SV xs) j_EX mm_X12_always 22 [.ref 46, .int (nI X), .int y, .int z, .int w, pm_un] [.int 1] S n 0 0 _
  refine q_ifeq rfl rfl (fun c => absurd c (by decide)) (fun _ => ?_)
  refine q_aload_n rfl rfl rfl ?_
  refine q_iload_n rfl rfl rfl ?_
  refine q_cV rfl rfl (Or.inl rfl) rfl rfl rfl rfl (by omega) k46 trivial rfl rfl rfl rfl rfl (l_isPlace hn k46) ?_
  rintro r S1 n1 ⟨e1, e2, hr⟩
  obtain rfl := e1.symm
  obtain rfl := e2.symm
  rcases hr with ⟨q, rfl⟩ | ⟨qz, rfl⟩
  · show PQ (j_SL L) (j_SV xs) j_EX mm_X12_always 30 [.ref 46, .int (nI X), .int y, .int z, .int w, pm_un] [.int 0] S n 0 0 _
    exact q_ifeq rfl rfl (fun _ => bad _ (fun ⟨_, _, _, _, h⟩ => q ((inw (a := 3) (b := 4) (by decide)).mpr (by rw [h.2.1.2]; exact n_in (b := 4) rfl (by decide) h.2.1.1)))) (fun c => absurd rfl c)
  show PQ (j_SL L) (j_SV xs) j_EX mm_X12_always 30 [.ref 46, .int (nI X), .int y, .int z, .int w, pm_un] [.int 1] S n 0 0 _
  refine q_ifeq rfl rfl (fun c => absurd c (by decide)) (fun _ => ?_)
  refine q_aload_n rfl rfl rfl ?_
  refine q_iload rfl rfl rfl ?_
  refine q_iconst rfl rfl ?_
  refine q_bipush rfl rfl ?_
  refine q_cV rfl rfl (Or.inl rfl) rfl rfl rfl rfl (by omega) k46 trivial rfl rfl rfl rfl rfl l_in ?_
  rintro r S1 n1 ⟨e1, e2, hr⟩
  obtain rfl := e1.symm
  obtain rfl := e2.symm
  rcases hr with ⟨q, rfl⟩ | ⟨qw, rfl⟩
  · show PQ (j_SL L) (j_SV xs) j_EX mm_X12_always 42 [.ref 46, .int (nI X), .int y, .int z, .int w, pm_un] [.int 0] S n 0 0 _
    exact q_ifne rfl rfl (fun _ => bad _ (fun ⟨_, _, _, _, h⟩ => q ((inw (a := 9) (b := 10) (by decide)).mpr (by rw [h.2.2.2]; exact n_in (b := 10) rfl (by decide) h.2.2.1)))) (fun c => absurd rfl c)
  show PQ (j_SL L) (j_SV xs) j_EX mm_X12_always 42 [.ref 46, .int (nI X), .int y, .int z, .int w, pm_un] [.int 1] S n 0 0 _
  refine q_ifne rfl rfl (fun c => absurd c (by decide)) (fun _ => ?_)
  clear bad
  obtain ⟨p, hp, rfl⟩ := in_b (b := 3) rfl (by decide) ((inw (a := 3) (b := 4) (by decide)).mp qz)
  obtain ⟨v, hv, rfl⟩ := in_b (b := 9) rfl (by decide) ((inw (a := 9) (b := 10) (by decide)).mp qw)
  obtain ⟨Y, I, hA⟩ := hst.mp qy
  have hA' := hA
  obtain ⟨hY, eY, -, hI, rfl, -⟩ := hA'
  have := nI_inj (by omega) (by omega) eY
  subst this
  obtain ⟨hXP, hIP⟩ := stA_P hZ.1 hT hA
  have ok : okL θ (nI X) (nI I) (nI p) (nI v) X I p v := ⟨hA, ⟨hp, rfl⟩, hv, rfl⟩
  clear hA qz qw qy hst
  refine q_aload_n rfl rfl rfl ?_
  refine q_iconst rfl rfl ?_
  refine q_cV rfl rfl (Or.inl rfl) rfl rfl rfl rfl (by omega) k46 trivial rfl rfl rfl rfl rfl (l_sp3 hG hT hZ) ?_
  rintro r T _ ⟨rfl, rfl, gT, -, -, hRS⟩
  show PQ (j_SL L) (j_SV xs) j_EX mm_X12_always 52 [.ref 46, .int (nI X), .int (nI I), .int (nI p), .int (nI v), pm_un] [.int (spR P 0)] T n 0 0 _
  have hN := (xe_wx (k := 0) hZ.1).1.2.1
  cases hp1 : xP (xE P 0)
  rotate_left
  · rw [spR_t hp1]
    refine q_ifeq rfl rfl (fun h => absurd h (by decide)) (fun _ => ?_)
    refine q_bipush rfl rfl ?_
    exact q_iret rfl rfl trivial (ep_r al_fn (Or.inr ⟨X, I, p, v, ok, Or.inl ⟨hp1, rfl⟩⟩))
  rw [spR_f hp1]
  refine q_ifeq rfl rfl (fun _ => ?_) (fun h => absurd rfl h)
  have loop : ∀ q s : Nat, s + q = xN (xE P 0) → (∀ j, j < s → ¬ alP X I p v (xS (xE P 0) j)) → ∀ T : Nat → pm_E, RSo P T → PQ (j_SL L) (j_SV xs) j_EX mm_X12_always 61 [.ref 46, .int (nI X), .int (nI I), .int (nI p), .int (nI v), .int (nI s)] [] T n 0 0 (fun r S' n' => r = some (.int (epR (alQ θ P (nI X) (nI I) (nI p) (nI v))))) := by
    intro q
    induction q with
    | zero =>
      intro s hs hno T hR
      have e : s = xN (xE P 0) := by omega
      subst e
      obtain ⟨st, cf, cb, ch, sp, ct, nt, nx, nw0, ⟨gs, u46, g8, g9, g11, g12, g13, g14, g15, g16, g17, t53, t55, t56, t57, t58, t59, t60, t61, hct⟩, t52, hJ, h1, h2, h3⟩ := hR
      refine q_iload rfl rfl rfl ?_
      refine q_aload_n rfl rfl rfl ?_
      refine q_getf rfl rfl (by omega) u46 g16 ?_
      refine q_iconst rfl rfl ?_
      refine q_iald rfl rfl (by omega) t60 rfl (q_tn (z := nI (xN (xE P 0))) hct ?_)
      refine q_icge rfl rfl (fun _ => ?_) (fun h => absurd (Int32.le_refl _) h)
      refine q_bipush rfl rfl ?_
      exact q_iret rfl rfl trivial (ep_r al_fn (Or.inr ⟨X, I, p, v, ok, Or.inr ⟨hp1, Or.inr ⟨hno, rfl⟩⟩⟩))
    | succ q ih =>
      intro s hsq hno T hR
      have hs : s < xN (xE P 0) := by omega
      have hR9 := hR
      obtain ⟨st, cf, cb, ch, sp, ct, nt, nx, nw0, ⟨gs, u46, g8, g9, g11, g12, g13, g14, g15, g16, g17, t53, t55, t56, t57, t58, t59, t60, t61, hct⟩, t52, hJ, h1, h2, h3⟩ := hR
      refine q_iload rfl rfl rfl ?_
      refine q_aload_n rfl rfl rfl ?_
      refine q_getf rfl rfl (by omega) u46 g16 ?_
      refine q_iconst rfl rfl ?_
      refine q_iald rfl rfl (by omega) t60 rfl (q_tn (z := nI (xN (xE P 0))) hct ?_)
      refine q_icge rfl rfl (fun h => absurd h (nI_ge (a := s) (b := xN (xE P 0)) (by omega) (by omega))) (fun _ => ?_)
      refine q_aload_n rfl rfl rfl ?_
      refine q_iconst rfl rfl ?_
      refine q_iload rfl rfl rfl ?_
      refine q_cV rfl rfl (Or.inl rfl) rfl rfl rfl rfl (by omega) u46 trivial rfl rfl rfl rfl rfl (l_std hZ.1 hn hR9 hs) ?_
      rintro r U _ ⟨rfl, rfl, eU, hU, nw, v52, hnw⟩
      show PQ (j_SL L) (j_SV xs) j_EX mm_X12_always 79 [.ref 46, .int (nI X), .int (nI I), .int (nI p), .int (nI v), .int (nI s)] [] U n 0 0 _
      have v46 := (eU 46 (by decide)).trans u46
      have hD := (xe_wx (k := 0) hZ.1).1.2.2.1 s hs
      have nx' : ¬ alP X I p v (xS (xE P 0) s) → PQ (j_SL L) (j_SV xs) j_EX mm_X12_always 121 [.ref 46, .int (nI X), .int (nI I), .int (nI p), .int (nI v), .int (nI s)] [] U n 0 0 (fun r S' n' => r = some (.int (epR (alQ θ P (nI X) (nI I) (nI p) (nI v))))) := by
        intro h
        refine q_inc5 rfl rfl rfl rfl ?_
        refine q_goto rfl ?_
        rw [show nI s + 1 = nI (s + 1) from nI_add s 1]
        refine ih (s + 1) (by omega) (fun j hj => ?_) U hU
        rcases Nat.lt_or_eq_of_le (Nat.le_of_lt_succ hj) with c | c
        · exact hno j c
        · rw [c]
          exact h
      have hh := hD.1 X hXP
      have hh2 := hh.2.2.1
      have hpl := hD.2.2.1 p hp
      have hL8 := hZ.1.2.2.1 X hXP
      have r0 : nw (4 * X) = nI (rp P (xS (xE P 0) s) X) := (hnw _ (by omega)).trans (ra_0 hXP)
      have r2 : nw (4 * X + 2) = nI (xS (xE P 0) s (4 * X + 2)) := (hnw _ (by omega)).trans (ra_k (by omega))
      have rP : nw (12 + p) = nI (xS (xE P 0) s (12 + p)) := (hnw _ (by omega)).trans (ra_h hZ.1.2.1 (by omega))
      have rl : rp P (xS (xE P 0) s) X < 100 := by
        unfold rp
        split
        · omega
        · split <;> omega
      have rI : rp P (xS (xE P 0) s) X = I ↔ xS (xE P 0) s (4 * X) = I := by
        unfold rp
        split
        · exact Iff.rfl
        · split <;> constructor <;> intro h <;> omega
      have mX : (4 : Int32) * nI X = nI (4 * X) := by rw [show (4 : Int32) = nI 4 from rfl, pk_mul]
      refine q_aload_n rfl rfl rfl ?_
      refine q_getf rfl rfl (by omega) v46 g8 ?_
      refine q_iconst rfl rfl ?_
      refine q_iload_n rfl rfl rfl ?_
      refine q_imul rfl rfl (q_tn (z := nI (4 * X)) mX ?_)
      refine q_iald rfl rfl (by omega) v52 (q_inN (by omega) (by decide)) (q_tn (z := nI (rp P (xS (xE P 0) s) X)) (by rw [nI_clamp (by omega)]; exact r0) ?_)
      refine q_iload_n rfl rfl rfl ?_
      refine q_icne rfl rfl (fun h4 => ?_) (fun h4 => nx' (fun h => h4 (by rw [rI.mpr h.1])))
      have g1 := rI.mp ((m_eq (by omega) (by omega)).mp h4)
      refine q_aload_n rfl rfl rfl ?_
      refine q_getf rfl rfl (by omega) v46 g8 ?_
      refine q_iconst rfl rfl ?_
      refine q_iload_n rfl rfl rfl ?_
      refine q_imul rfl rfl (q_tn (z := nI (4 * X)) mX ?_)
      refine q_iconst rfl rfl ?_
      refine q_iadd rfl rfl (q_tn (z := nI (4 * X + 2)) (nI_add _ 2) ?_)
      refine q_iald rfl rfl (by omega) v52 (q_inN (by omega) (by decide)) (q_tn (z := nI (xS (xE P 0) s (4 * X + 2))) (by rw [nI_clamp (by omega)]; exact r2) ?_)
      refine q_ifne rfl rfl (fun h5 => ?_) (fun h5 => nx' (fun h => h5 (by rw [h.2.1]; rfl)))
      have g2 : xS (xE P 0) s (4 * X + 2) = 0 := (m_eq (b := 0) (by omega) (by decide)).mp h5
      refine q_aload_n rfl rfl rfl ?_
      refine q_getf rfl rfl (by omega) v46 g8 ?_
      refine q_bipush rfl rfl ?_
      refine q_iload_n rfl rfl rfl ?_
      refine q_iadd rfl rfl (q_tn (z := nI (12 + p)) (nI_add 12 _) ?_)
      refine q_iald rfl rfl (by omega) v52 (q_inN (by omega) (by decide)) (q_tn (z := nI (xS (xE P 0) s (12 + p))) (by rw [nI_clamp (by omega)]; exact rP) ?_)
      refine q_iload rfl rfl rfl ?_
      refine q_iceq rfl rfl (fun h6 => nx' (fun h => h.2.2 ((m_eq (by omega) (by omega)).mp h6))) (fun h6 => ?_)
      refine q_iload rfl rfl rfl ?_
      exact q_iret rfl rfl trivial (ep_r al_fn (Or.inr ⟨X, I, p, v, ok, Or.inr ⟨hp1, Or.inl ⟨s, hs, ⟨g1, g2, fun h => h6 (by rw [h])⟩, hno, rfl⟩⟩⟩))
  refine q_iconst rfl rfl ?_
  refine q_ist5 rfl rfl rfl rfl ?_
  exact loop (xN (xE P 0)) 0 (by omega) (fun j hj => absurd hj (by omega)) T (hRS hp1)
end JC
