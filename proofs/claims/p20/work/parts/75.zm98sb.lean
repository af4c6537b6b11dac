/-! fixed: what stands between the law's calls -/
section SB9
variable {θ θ' : Th} {f : Nat → Int32} {S S' T T1 T2 : Nat → pm_E} {n : Nat} {P : PG} {L : Nat} {xs : Nat → Int32} {a1 a2 a3 y z : Int32} {l l' : List Nat}
def flC : List Nat := [12, 27, 43, 77, 78, 80, 81, 86, 87, 93, 94, 95, 96, 134, 135, 137, 138, 139, 222]
def flD : List Nat := [140, 142, 143, 144, 145, 146, 147, 148, 149, 150, 151, 152, 153, 155, 156, 157, 158, 159, 160, 161, 162, 163, 164, 165, 166, 167, 168, 169, 170, 171, 172, 173, 174, 175, 176, 177, 178, 179, 180, 181, 182, 183, 184, 185, 186, 187, 188, 189, 190, 191, 192, 193, 194, 203, 204, 205, 206, 207, 208, 209, 210, 214]
theorem flC_ok : aok9 flC 0 0 = true := by decide +kernel
theorem flD_ok : aok9 flD 10 32 = true := by decide +kernel
/-- the lock that was put last is the same in both -/
def JSu (S : Nat → pm_E) : Prop := ∃ (gs rs : List Value) (su : Int32) (ch ff ft : Nat → Int32), S 32 = .inr (0, gs) ∧ gs[0]? = some (.int su) ∧ S 40 = .inl (0, 2, .inl ch) ∧ S 46 = .inr (10, rs) ∧ rs[32]? = some (.int su) ∧ S 72 = .inl (0, 2, .inl ff) ∧ S 73 = .inl (0, 2, .inl ft) ∧ (su ≠ 0 → ∃ c d, c < 11 ∧ d < 11 ∧ ch 0 = nI c ∧ ch 1 = nI d ∧ ff 0 = fI9 c ∧ ff 1 = fI9 d ∧ ft 0 = tI9 c ∧ ft 1 = tI9 d)
theorem jsu_pin (h : JSu S) (p32 : pnF 32 0 0 S S') (p46 : pnF 46 10 32 S S') (e40 : S' 40 = S 40) (e72 : S' 72 = S 72) (e73 : S' 73 = S 73) : JSu S' := by
  obtain ⟨gs, rs, su, ch, ff, ft, k32, g0, k40, k46, r32, k72, k73, hs⟩ := h
  obtain ⟨gs', k32', e⟩ := p32 gs k32
  obtain ⟨rs', k46', e'⟩ := p46 rs k46
  exact ⟨gs', rs', su, ch, ff, ft, k32', e.trans g0, e40.trans k40, k46', e'.trans r32, e72.trans k72, e73.trans k73, hs⟩
theorem pn_eq {z ci p : Nat} (e : S' z = S z) : pnF z ci p S S' := fun fs h => ⟨fs, e.trans h, rfl⟩
theorem pn_tr {z ci p : Nat} (a : pnF z ci p S S') (b : pnF z ci p S' T) : pnF z ci p S T := fun fs e => by
  obtain ⟨fs1, e1, q1⟩ := a fs e
  obtain ⟨fs2, e2, q2⟩ := b fs1 e1
  exact ⟨fs2, e2, q2.trans q1⟩
def JAg (θ : Th) (S : Nat → pm_E) : Prop := JAf θ S ∧ JSu S
def jal6 : List Nat := [40, 46, 72, 73, 32, 39, 41, 1, 7, 8, 16, 2, 3, 4, 5, 6, 9, 10, 11, 12, 13, 14, 15, 17, 22, 23, 44, 45, 51, 55, 56, 57, 59, 60, 62, 63, 64]
theorem jag_fr (h : JAg θ S) (e : ∀ j, j ∈ jal6 → S' j = S j) : JAg θ S' := ⟨jaf_fr h.1 (fun j hj => e j (List.mem_cons_of_mem _ (List.mem_cons_of_mem _ (List.mem_cons_of_mem _ (List.mem_cons_of_mem _ hj))))), jsu_pin h.2 (pn_eq (e 32 (by decide))) (pn_eq (e 46 (by decide))) (e 40 (by decide)) (e 72 (by decide)) (e 73 (by decide))⟩
theorem fr_c {k : Nat} (e1 : fr1 l S S' n) (hn : 82 ≤ n) (h82 : k < 82) (q : l.contains k = false) : S' k = S k := e1 k (by omega) q
def q1L (l : List Nat) : Prop := l.contains 40 = false ∧ l.contains 46 = false ∧ l.contains 72 = false ∧ l.contains 73 = false
def q2L (l : List Nat) : Prop := l.contains 32 = false ∧ l.contains 40 = false ∧ l.contains 72 = false ∧ l.contains 73 = false
theorem jsu_2 (hn : 82 ≤ n) (h : JSu S) (e1 : fr1 l S T1 n) (e2 : fr1 l' T1 T2 n) (q1 : q1L l) (q2 : q2L l') (p1 : pnF 32 0 0 S T1) (p2 : pnF 46 10 32 T1 T2) : JSu T2 := jsu_pin h (pn_tr p1 (pn_eq (fr_c e2 hn (by decide) q2.1))) (pn_tr (pn_eq (fr_c e1 hn (by decide) q1.2.1)) p2) ((fr_c e2 hn (by decide) q2.2.1).trans (fr_c e1 hn (by decide) q1.1)) ((fr_c e2 hn (by decide) q2.2.2.1).trans (fr_c e1 hn (by decide) q1.2.2.1)) ((fr_c e2 hn (by decide) q2.2.2.2).trans (fr_c e1 hn (by decide) q1.2.2.2))
theorem jsu_3 (hn : 82 ≤ n) (h : JSu S) (e1 : fr1 l S T1 n) (e2 : fr1 l' T1 T2 n) (q0 : l.contains 32 = false) (q1 : q1L l) (q2 : q2L l') (p2 : pnF 46 10 32 T1 T2) : JSu T2 := jsu_2 hn h e1 e2 q1 q2 (pn_eq (fr_c e1 hn (by decide) q0)) p2
/-- behind a call that leaves the fixer's and the exploration's cells -/
theorem jaf_2 (hn : 82 ≤ n) (hj : JAf θ S) (e1 : fr1 l S T1 n) (e2 : fr1 l' T1 T2 n) (q1 : jal5.all (fun k => !(l.contains k)) = true) (q2 : jal5.all (fun k => !(l'.contains k)) = true) : JAf θ T2 := jaf_fr hj (fun j hj9 => by
  have h82 : j < 82 := by
    have t : jal5.all (fun k => Nat.ble k 81) = true := by decide
    have := Nat.le_of_ble_eq_true (List.all_eq_true.mp t j hj9)
    omega
  exact (fr_c e2 hn h82 (by simpa using List.all_eq_true.mp q2 j hj9)).trans (fr_c e1 hn h82 (by simpa using List.all_eq_true.mp q1 j hj9)))
theorem jag_init (h : FW S) : JAg th0 S := ⟨jaf_init h, _, _, 0, _, _, _, FW_32 S h, rfl, FW_40 S h, FW_46 S h, rfl, FW_72 S h, FW_73 S h, fun h9 => absurd rfl h9⟩
/-- what fixed answers: the same in both -/
theorem fx_eq {su : Int32} {ch ff ft : Nat → Int32} (hs : su ≠ 0 → ∃ c d, c < 11 ∧ d < 11 ∧ ch 0 = nI c ∧ ch 1 = nI d ∧ ff 0 = fI9 c ∧ ff 1 = fI9 d ∧ ft 0 = tI9 c ∧ ft 1 = tI9 d) : fxR su ch y z = rxR su ff ft y z := by
  unfold fxR rxR
  by_cases h : (0 ≤ y ∧ y < 2) ∧ (0 ≤ z ∧ z < 2)
  · rw [if_pos h, if_pos h]
    by_cases s0 : su = 0
    · rw [if_pos s0, if_pos s0]
    · rw [if_neg s0, if_neg s0]
      obtain ⟨c, d, hc, hd, c0, c1, f0, f1, t0, t1⟩ := hs s0
      obtain ⟨a, ha, rfl⟩ := in2 (b := 2) (by decide) h.1
      rw [nI_clamp (by omega)]
      rcases (show a = 0 ∨ a = 1 by omega) with e | e
      · subst e
        rw [c0, nI_clamp (by omega), f0, t0]
      · subst e
        rw [c1, nI_clamp (by omega), f1, t1]
  · rw [if_neg h, if_neg h]
theorem jsu_su {gs rs : List Value} {su su' : Int32} (h : JSu S) (k32 : S 32 = .inr (0, gs)) (g0 : gs[0]? = some (.int su)) (k46 : S 46 = .inr (10, rs)) (r32 : rs[32]? = some (.int su')) : su = su' := by
  obtain ⟨gs', rs', su9, ch, ff, ft, q32, q0, -, q46, qr, -⟩ := h
  have e1 := (Prod.mk.inj (Sum.inr.inj (k32.symm.trans q32))).2
  have e2 := (Prod.mk.inj (Sum.inr.inj (k46.symm.trans q46))).2
  subst e1 e2
  rw [g0] at q0
  rw [r32] at qr
  cases q0
  cases qr
  rfl
/-- what the class's fix leaves of the lock, by what it found -/
def cSu (r9 : Option (Nat × Nat)) (S S' : Nat → pm_E) : Prop := match r9 with
  | none => pnF 32 0 0 S S' ∧ S' 40 = S 40
  | some (_, q) => ∃ (gs' : List Value) (ch' : Nat → Int32), S' 32 = .inr (0, gs') ∧ gs'[0]? = some (.int 1) ∧ S' 40 = .inl (0, 2, .inl ch') ∧ ch' 0 = nI (q / 11) ∧ ch' 1 = nI (q % 11)
def rSu (r9 : Option (Nat × Nat)) (S S' : Nat → pm_E) : Prop := match r9 with
  | none => pnF 46 10 32 S S' ∧ S' 72 = S 72 ∧ S' 73 = S 73
  | some (_, q) => ∃ (rs' : List Value) (ff' ft' : Nat → Int32), S' 46 = .inr (10, rs') ∧ rs'[32]? = some (.int 1) ∧ S' 72 = .inl (0, 2, .inl ff') ∧ S' 73 = .inl (0, 2, .inl ft') ∧ ff' 0 = fI9 (q / 11) ∧ ff' 1 = fI9 (q % 11) ∧ ft' 0 = tI9 (q / 11) ∧ ft' 1 = tI9 (q % 11)
def sQ (P : PG) (a1 a2 a3 : Int32) (r9 : Option (Nat × Nat)) : Prop := (¬ (fit9 P ∧ (0 ≤ a1 ∧ a1 < 3) ∧ (0 ≤ a2 ∧ a2 < 4) ∧ (0 ≤ a3 ∧ a3 < 10)) ∧ r9 = none) ∨ (fit9 P ∧ ∃ l p v : Nat, l < 3 ∧ p < 4 ∧ v < 10 ∧ a1 = nI l ∧ a2 = nI p ∧ a3 = nI v ∧ fst9 (hit9 P l p v) r9)
theorem sq_fn {r9 r9' : Option (Nat × Nat)} (h : sQ P a1 a2 a3 r9) (h' : sQ P a1 a2 a3 r9') : r9 = r9' := by
  rcases h with ⟨i, rfl⟩ | ⟨hf, l, p, v, hl, hp, hv, e1, e2, e3, hr⟩
  · rcases h' with ⟨-, rfl⟩ | ⟨hf, l, p, v, hl, hp, hv, rfl, rfl, rfl, -⟩
    · rfl
    · exact absurd ⟨hf, in_all hl hp hv⟩ i
  · rcases h' with ⟨i', -⟩ | ⟨-, l', p', v', hl', hp', hv', e1', e2', e3', hr'⟩
    · rw [e1, e2, e3] at i'
      exact absurd ⟨hf, in_all hl hp hv⟩ i'
    · have q1 : l = l' := nI_inj (by omega) (by omega) (e1.symm.trans e1')
      have q2 : p = p' := nI_inj (by omega) (by omega) (e2.symm.trans e2')
      have q3 : v = v' := nI_inj (by omega) (by omega) (e3.symm.trans e3')
      subst q1 q2 q3
      exact fst_fn hr hr'
theorem jsu_fix {r9 : Option (Nat × Nat)} {P' : PG} (h : JSu S) (hc : cSu r9 S T1) (hr : rSu r9 T1 T2) (h9 : ∀ s q, r9 = some (s, q) → q < 121) (e46 : T1 46 = S 46) (e72 : T1 72 = S 72) (e73 : T1 73 = S 73) (e32 : T2 32 = T1 32) (e40 : T2 40 = T1 40) : JSu T2 := by
  cases r9 with
  | none => exact jsu_pin h (pn_tr hc.1 (pn_eq e32)) (pn_tr (pn_eq e46) hr.1) (e40.trans hc.2) (hr.2.1.trans e72) (hr.2.2.trans e73)
  | some t =>
    obtain ⟨s, q⟩ := t
    obtain ⟨gs', ch', k32, g0, k40, c0, c1⟩ := hc
    obtain ⟨rs', ff', ft', k46, r32, k72, k73, f0, f1, t0, t1⟩ := hr
    have hq := h9 s q rfl
    exact ⟨gs', rs', 1, ch', ff', ft', e32.trans k32, g0, e40.trans k40, k46, r32, k72, k73, fun _ => ⟨q / 11, q % 11, by omega, by omega, c0, c1, f0, f1, t0, t1⟩⟩
theorem sq_121 {r9 : Option (Nat × Nat)} (h : sQ P a1 a2 a3 r9) : ∀ s q, r9 = some (s, q) → q < 121 := fun s q e => by
  subst e
  rcases h with ⟨-, e⟩ | ⟨-, l, p, v, -, -, -, -, -, -, hr⟩
  · cases e
  · exact hr.2.1
theorem c_fixG (hGJ : GJ θ P S n) (hJ8 : J8 P) (hJF : JFp P S) : PM (j_SL L) (j_SV xs) j_EX mm_X11_fix [.ref 0, .int a1, .int a2, .int a3] S n (fun r S' n' => JFp P S' ∧ ∃ z : Int32, r = some (.int z) ∧ ∃ r9, sQ P a1 a2 a3 r9 ∧ cSu r9 S S') := by
  obtain ⟨hG, hT, hW, hC, hR⟩ := gj_ab hGJ
  obtain ⟨fs, gs, su, st, ch, ot, k0, f5, hX, g0, g1, k40, ho⟩ := gj_fx hGJ hJF
  refine pm_weak (c_fix9 hW hJ8 (gs_n hG) k0 f5 hX g0 g1 k40 ho) (fun r S' n' h => ?_)
  obtain ⟨h1, z, h2, -⟩ := fx_q h hJF
  refine ⟨h1, z, h2, ?_⟩
  rcases h with ⟨i, rfl, -, -⟩ | ⟨-, nf, rfl, -, -⟩ | ⟨hf, l, p, v, hl, hp, hv, e1, e2, e3, -, -, gs', ot', hX', -, -, r9, hr, h⟩
  · exact ⟨none, Or.inl ⟨fun h9 => i h9.2, rfl⟩, pn_eq rfl, rfl⟩
  · exact ⟨none, Or.inl ⟨fun h9 => nf h9.1, rfl⟩, pn_eq rfl, rfl⟩
  · refine ⟨r9, Or.inr ⟨hf, l, p, v, hl, hp, hv, e1, e2, e3, hr⟩, ?_⟩
    rcases h with ⟨rfl, -, q0, q40⟩ | ⟨s, q, ch', rfl, -, q0, q40, c0, c1⟩
    · refine ⟨fun fs9 e9 => ⟨gs', hX'.2.1, ?_⟩, q40.trans k40.symm⟩
      have ef := (Prod.mk.inj (Sum.inr.inj (e9.symm.trans hX.2.1))).2
      rw [ef, g0, q0]
    · exact ⟨gs', ch', hX'.2.1, q0, q40, c0, c1⟩
theorem l_fixG (hGJ : GJ θ P S n) (hJ8 : J8 P) : PM (j_SL L) (j_SV xs) j_EX mm_X12_fix [.ref 46, .int a1, .int a2, .int a3] S n (fun r S' n' => ∃ z : Int32, r = some (.int z) ∧ ∃ r9, sQ P a1 a2 a3 r9 ∧ rSu r9 S S') := by
  obtain ⟨hG, hT, hW, hC, hR⟩ := gj_ab hGJ
  obtain ⟨fs, mn, fk, fa, fn, vl, w, z, k46, f1, f2, f3, f4, f5, f6, f7, f8, f9, f10, f11, f12, f13, f14, f15, f16, f17, f18, f19, f20, f21, k47, k48, k49, k50, k51, hmn, hpr, hvl⟩ := gs_jrp hG hT hW hR
  obtain ⟨fs', k46', hf⟩ := gs_obj hG (k := 46) rfl
  have ef := (Prod.mk.inj (Sum.inr.inj (k46'.symm.trans k46))).2
  subst ef
  obtain ⟨su, f32, -⟩ := fo_int (hf 32 _ rfl) rfl
  obtain ⟨ff, k72, -⟩ := gs_arr hG (k := 72) rfl
  obtain ⟨ft, k73, -⟩ := gs_arr hG (k := 73) rfl
  refine pm_weak (r_fix9 (su := su) (ff := ff) (ft := ft) hW hJ8 (gs_n hG) ⟨fs', mn, fk, fa, fn, vl, k46, ⟨f1, f2, f3, f4, f5, f6, f8, f9, f10, f11, f12, f13, f14, f15, f16, f17, fo_ref (hf 30 _ rfl) rfl, fo_ref (hf 31 _ rfl) rfl, f32⟩, ⟨w, f7⟩, k47, k48, k49, k50, k51, k72, k73, fun x hx => ?_, fun x i hx hi => ?_, hvl, gs_rws hG (by decide)⟩) (fun r S' n' h => ?_)
  · have h := hmn x hx
    rw [Nat.zero_add] at h
    exact h
  · have h := hpr x i hx hi
    rw [Nat.zero_add] at h
    exact h
  rcases h with ⟨i, rfl, rfl⟩ | ⟨-, nf, rfl, rfl⟩ | ⟨hf9, l, p, v, hl, hp, hv, e1, e2, e3, r9, gs, hr, q46, h⟩
  · exact ⟨_, rfl, none, Or.inl ⟨fun h9 => i h9.2, rfl⟩, pn_eq rfl, rfl, rfl⟩
  · exact ⟨_, rfl, none, Or.inl ⟨fun h9 => nf h9.1, rfl⟩, pn_eq rfl, rfl, rfl⟩
  · rcases h with ⟨rfl, rfl, q32, q72, q73⟩ | ⟨s, q, ff', ft', rfl, rfl, q32, q72, q73, c0, c1, c2, c3⟩
    · refine ⟨_, rfl, none, Or.inr ⟨hf9, l, p, v, hl, hp, hv, e1, e2, e3, hr⟩, fun fs9 e9 => ⟨gs, q46, ?_⟩, q72.trans k72.symm, q73.trans k73.symm⟩
      have ef := (Prod.mk.inj (Sum.inr.inj (e9.symm.trans k46))).2
      rw [ef, f32, q32]
    · exact ⟨_, rfl, some (s, q), Or.inr ⟨hf9, l, p, v, hl, hp, hv, e1, e2, e3, hr⟩, gs, ff', ft', q46, q32, q72, q73, c0, c1, c2, c3⟩
theorem c_fixedG (hG : GS θ S n) (hS : JSu S) : ∃ (su : Int32) (ch ff ft : Nat → Int32), (∀ y z, fxR su ch y z = rxR su ff ft y z) ∧ (∀ y z, PM (j_SL L) (j_SV xs) j_EX mm_X11_fixed [.ref 0, .int y, .int z] S n (fun r S' n' => S = S' ∧ n = n' ∧ r = some (.int (fxR su ch y z)))) ∧ ∀ y z, PM (j_SL L) (j_SV xs) j_EX mm_X12_fixed [.ref 46, .int y, .int z] S n (fun r S' n' => S = S' ∧ n = n' ∧ r = some (.int (rxR su ff ft y z))) := by
  obtain ⟨gs, rs, su, ch, ff, ft, k32, g0, k40, k46, r32, k72, k73, hs⟩ := hS
  obtain ⟨fs, k0, hf0⟩ := gs_obj hG (k := 0) rfl
  obtain ⟨gs', k32', hf⟩ := gs_obj hG (k := 32) rfl
  have eg := (Prod.mk.inj (Sum.inr.inj (k32'.symm.trans k32))).2
  subst eg
  obtain ⟨rs', k46', hr⟩ := gs_obj hG (k := 46) rfl
  have er := (Prod.mk.inj (Sum.inr.inj (k46'.symm.trans k46))).2
  subst er
  refine ⟨su, ch, ff, ft, fun y z => fx_eq hs, fun y z => c_fixed9 (gs_n hG) k0 (fo_ref (hf0 5 _ rfl) rfl) k32 g0 (fo_ref (hf 6 _ rfl) rfl) k40 (fun h => ?_), fun y z => r_fixed9' (gs_n hG) k46 (fo_ref (hr 30 _ rfl) rfl) (fo_ref (hr 31 _ rfl) rfl) r32 k72 k73⟩
  obtain ⟨c, d, hc, hd, c0, c1, -⟩ := hs h
  exact ⟨c, d, hc, hd, c0, c1⟩
end SB9
