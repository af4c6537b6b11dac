/-! cost, explain: class and reference -/
section LG
variable {θ : Th} {P : PG} {S S' : Nat → pm_E} {n k : Nat} {lr fs : List Value} {ak ag : Int64} {tl : Nat → Int32} {x : Int32} {L : Nat} {xs : Nat → Int32}
theorem rl_and {Y : pm_M} {as : List Value} {l : List Nat} {v : Int32} (h1 : PM (j_SL L) (j_SV xs) j_EX Y as S n (RIL θ P l S n)) (h2 : PM (j_SL L) (j_SV xs) j_EX Y as S n (fun r S' n' => r = some (.int v))) : PM (j_SL L) (j_SV xs) j_EX Y as S n (fun r S' n' => n = n' ∧ GL θ P S' n ∧ fr1 l S S' n ∧ ∃ z : Int32, r = some (.int z) ∧ z = v) := pm_weak (pm_and h1 h2) (fun r S' n' h => by
  obtain ⟨⟨a, ⟨z, hz⟩, b, c⟩, -, -, d⟩ := h
  refine ⟨a, b, c, z, hz, ?_⟩
  rw [hz] at d
  cases d
  rfl)
noncomputable def coR (P : PG) (ak ag : Int64) (x : Int32) : Int32 := @ite _ (0 ≤ x ∧ x < 5) (Classical.propDecidable _) (@ite _ (anyP P) (Classical.propDecidable _) (-5) (nI (cst P x.toInt.toNat ak ag))) (-1)
theorem co_b (h : ¬ (0 ≤ x ∧ x < 5)) : coR P ak ag x = -1 := by
  unfold coR
  exact if_neg h
theorem co_s (h : 0 ≤ x ∧ x < 5) (ha : anyP P) : coR P ak ag x = -5 := by
  unfold coR
  exact (if_pos h).trans (if_pos ha)
theorem co_v (hk : k < 5) (h : 0 ≤ nI k ∧ nI k < 5) (ha : ¬ anyP P) : coR P ak ag (nI k) = nI (cst P k ak ag) := by
  unfold coR
  refine (if_pos h).trans ((if_neg ha).trans ?_)
  rw [nI_toInt (by omega), Int.toNat_natCast]
/-- the numbers of the ends are right, once all are gone through -/
theorem en_all (g : GJ θ P S n) (hs : szN S 5) (ha : ¬ anyP P) : ∃ en : Nat → Int64, S 45 = .inl (1, 5, .inr (.inl en)) ∧ ∀ k, k < 5 → enOK P k (en k) := by
  obtain ⟨-, -, -, hC, -⟩ := gj_ab g
  obtain ⟨-, -, -, -, sz, en, a44, a45, hS, -⟩ := hC
  obtain ⟨sz', b44, hz⟩ := hs
  rw [a44] at b44
  cases b44
  refine ⟨en, a45, fun k hk => ((hS k hk).resolve_left (hz k hk)).2 ?_⟩
  cases h : xP (xE P k)
  · rfl
  · exact absurd ⟨k, hk, h⟩ ha
theorem eI_all (g : GJ θ P S n) (hs : knN S 5) (ha : ¬ anyP P) : ∃ en : Nat → Int32, S 64 = .inl (0, 20, .inl en) ∧ ∀ k, k < 5 → ∀ p, p < 4 → enI P k (xN (xE P k)) p (en (4 * k + p)) := by
  obtain ⟨-, -, -, -, -, kn, so, en, b62, b63, b64, hK, -⟩ := gj_ab g
  obtain ⟨kn', c62, hz⟩ := hs
  rw [b62] at c62
  cases c62
  refine ⟨en, b64, fun k hk => (kn_f hK hk (hz k hk) ?_).2⟩
  cases h : xP (xE P k)
  · rfl
  · exact absurd ⟨k, hk, h⟩ ha
set_option maxHeartbeats 4000000 in
theorem c_cost (g : GJ θ P S n) (k42 : S 42 = .inr (1, lr)) (l0 : lr[0]? = some (.long ak)) (l1 : lr[1]? = some (.long ag)) (h40 : ∀ j, 40 ≤ j → e_bt ak j = false) : PM (j_SL L) (j_SV xs) j_EX mm_X11_cost [.ref 0, .int x] S n (fun r S' n' => r = some (.int (coR P ak ag x))) := by
  obtain ⟨hG, hT, hZ⟩ := gj_ab g
  have hn := gs_n hG
  obtain ⟨ts, k0, hf⟩ := gs_obj hG (k := 0) rfl
  have f6 : ts[6]? = some (.ref 42) := fo_ref (hf 6 _ rfl) rfl
  have f9 : ts[9]? = some (.ref 45) := fo_ref (hf 9 _ rfl) rfl
  change PQ (j_SL L) (j_SV xs) j_EX mm_X11_cost 0 [.ref 0, .int x] [] S n 0 0 _
  refine q_iload_n rfl rfl rfl ?_
  refine q_iconst rfl rfl ?_
  refine q_cS rfl rfl (Or.inl rfl) rfl rfl trivial rfl rfl rfl rfl rfl c_wi ?_
  rintro r _ _ ⟨rfl, rfl, hr⟩
  rcases hr with ⟨q, rfl⟩ | ⟨q, rfl⟩
  · show PQ (j_SL L) (j_SV xs) j_EX mm_X11_cost 5 [.ref 0, .int x] [.int 0] S n 0 0 _
    refine q_ifne rfl rfl (fun _ => ?_) (fun c => absurd rfl c)
    refine q_iconst rfl rfl ?_
    exact q_iret rfl rfl trivial (by rw [co_b (fun h => c_out q h)])
  show PQ (j_SL L) (j_SV xs) j_EX mm_X11_cost 5 [.ref 0, .int x] [.int 1] S n 0 0 _
  refine q_ifne rfl rfl (fun c => absurd c (by decide)) (fun _ => ?_)
  obtain ⟨k, hk, rfl⟩ := in5 q
  refine q_aload_n rfl rfl rfl ?_
  refine q_cV rfl rfl (Or.inl rfl) rfl rfl rfl rfl (by omega) k0 trivial rfl rfl rfl rfl rfl (c_some g) ?_
  rintro r T _ ⟨rfl, gT, e0, e42, hs, hr⟩
  rcases hr with ⟨ha, rfl⟩ | ⟨ha, rfl⟩
  · show PQ (j_SL L) (j_SV xs) j_EX mm_X11_cost 14 [.ref 0, .int (nI k)] [.int 1] T n 0 0 _
    refine q_ifeq rfl rfl (fun c => absurd c (by decide)) (fun _ => ?_)
    refine q_bipush rfl rfl ?_
    refine q_goto rfl ?_
    exact q_iret rfl rfl trivial (by rw [co_s q ha])
  show PQ (j_SL L) (j_SV xs) j_EX mm_X11_cost 14 [.ref 0, .int (nI k)] [.int 0] T n 0 0 _
  refine q_ifeq rfl rfl (fun _ => ?_) (fun c => absurd rfl c)
  obtain ⟨en, t45, hen⟩ := en_all gT hs ha
  have t0 := e0.trans k0
  refine q_aload_n rfl rfl rfl ?_
  refine q_getf rfl rfl (by omega) t0 f6 ?_
  refine q_aload_n rfl rfl rfl ?_
  refine q_getf rfl rfl (by omega) t0 f9 ?_
  refine q_iload_n rfl rfl rfl ?_
  refine q_lald rfl rfl (by omega) t45 (q_inN (by omega) (by decide)) (q_tnl (z := en k) (by rw [nI_clamp (by omega)]) ?_)
  refine q_cV rfl rfl (Or.inl rfl) rfl rfl rfl rfl (by omega) (e42.trans k42) trivial rfl rfl rfl rfl rfl (c_cby hn hZ.1 (e42.trans k42) l0 l1 h40 (hen k hk)) ?_
  rintro r _ _ ⟨rfl, rfl, rfl⟩
  show PQ (j_SL L) (j_SV xs) j_EX mm_X11_cost 35 [.ref 0, .int (nI k)] [.int (nI (cst P k ak ag))] T n 0 0 _
  exact q_iret rfl rfl trivial (by rw [co_v hk q ha])
theorem q10 {q : Nat} (hq : q < 40) : nI q / 10 = nI (q / 10) ∧ nI q - nI q / 10 * 10 = nI (q % 10) := by
  have h : ∀ q : Fin 40, nI q.val / 10 = nI (q.val / 10) ∧ nI q.val - nI q.val / 10 * 10 = nI (q.val % 10) := by decide +kernel
  exact h ⟨q, hq⟩
set_option maxHeartbeats 4000000 in
theorem l_cof {en : Nat → Int32} (hn : 82 ≤ n) (k46 : S 46 = .inr (10, fs)) (f33 : fs[33]? = some (.ref 74)) (f21 : fs[21]? = some (.ref 64)) (k74 : S 74 = .inl (0, 40, .inl tl)) (k64 : S 64 = .inl (0, 20, .inl en)) (hk : k < 5) (he : ∀ p, p < 4 → enI P k (xN (xE P k)) p (en (4 * k + p))) (hb : ∀ q, q < 40 → (tl q = -2 ∧ e_bt ak q = false) ∨ (tl q = 1 ∧ e_bt ak q = true ∧ e_bt ag q = true) ∨ (tl q = 0 ∧ e_bt ak q = true ∧ e_bt ag q = false)) : PM (j_SL L) (j_SV xs) j_EX mm_X12_costOf [.ref 46, .int (nI k)] S n (fun r S' n' => S = S' ∧ n = n' ∧ r = some (.int (nI (cst P k ak ag)))) := by
  change PQ (j_SL L) (j_SV xs) j_EX mm_X12_costOf 0 [.ref 46, .int (nI k), pm_un, pm_un] [] S n 0 0 _
  have loop : ∀ d q : Nat, q + d = 40 → PQ (j_SL L) (j_SV xs) j_EX mm_X12_costOf 4 [.ref 46, .int (nI k), .int (nI (cntB (fun q => (caB P k q ^^ e_bt ag q) && e_bt ak q) q)), .int (nI q)] [] S n 0 0 (fun r S' n' => S = S' ∧ n = n' ∧ r = some (.int (nI (cst P k ak ag)))) := by
    intro d
    induction d with
    | zero =>
      intro q hq
      have e : q = 40 := by omega
      subst e
      refine q_iload_n rfl rfl rfl ?_
      refine q_bipush rfl rfl ?_
      refine q_icge rfl rfl (fun _ => ?_) (fun h => absurd (by decide) h)
      refine q_iload_n rfl rfl rfl ?_
      exact q_iret rfl rfl trivial ⟨rfl, rfl, rfl⟩
    | succ d ih =>
      intro q hqd
      have hq : q < 40 := by omega
      have hq10 := q10 hq
      generalize hc : cntB (fun q => (caB P k q ^^ e_bt ag q) && e_bt ak q) q = C
      have go : ∀ u : Int32, u = nI ((caB P k q ^^ e_bt ag q) && e_bt ak q).toNat → PQ (j_SL L) (j_SV xs) j_EX mm_X12_costOf 56 [.ref 46, .int (nI k), .int (nI C), .int (nI q)] [.int u, .int (nI C)] S n 0 0 (fun r S' n' => S = S' ∧ n = n' ∧ r = some (.int (nI (cst P k ak ag)))) := by
        rintro u rfl
        refine q_iadd rfl rfl (q_tn (z := nI (C + ((caB P k q ^^ e_bt ag q) && e_bt ak q).toNat)) (nI_add _ _) ?_)
        refine q_ist2n rfl rfl rfl rfl ?_
        refine q_inc3 rfl rfl rfl rfl ?_
        refine q_goto rfl ?_
        rw [show nI q + 1 = nI (q + 1) from nI_add q 1]
        have := ih (q + 1) (by omega)
        rw [← hc]
        exact this
      refine q_iload_n rfl rfl rfl ?_
      refine q_bipush rfl rfl ?_
      refine q_icge rfl rfl (fun h => absurd h (nI_ge (a := q) (b := 40) hq (by decide))) (fun _ => ?_)
      refine q_iload_n rfl rfl rfl ?_
      refine q_aload_n rfl rfl rfl ?_
      refine q_getf rfl rfl (by omega) k46 f33 ?_
      refine q_iload_n rfl rfl rfl ?_
      refine q_iald rfl rfl (by omega) k74 (q_inN (by omega) (by decide)) (q_tn (z := tl q) (by rw [nI_clamp (by omega)]) ?_)
      refine q_bipush rfl rfl ?_
      have hbit := b32_shr (e := en (4 * k + q / 10)) (v := q % 10) (by omega)
      have hen := he (q / 10) (by omega) (q % 10) (by omega)
      have hcb : b32 (en (4 * k + q / 10)) (q % 10) = true ↔ caB P k q = true := by
        rw [hen, caB_t]
        exact Iff.rfl
      refine q_iceq rfl rfl (fun h => ?_) (fun h => ?_)
      · refine q_iconst rfl rfl ?_
        rcases hb q hq with ⟨-, h2⟩ | ⟨h1, -⟩ | ⟨h1, -⟩
        · exact go 0 (by rw [h2, Bool.and_false]; rfl)
        · rw [h1] at h
          exact absurd h (by decide)
        · rw [h1] at h
          exact absurd h (by decide)
      refine q_aload_n rfl rfl rfl ?_
      refine q_getf rfl rfl (by omega) k46 f33 ?_
      refine q_iload_n rfl rfl rfl ?_
      refine q_iald rfl rfl (by omega) k74 (q_inN (by omega) (by decide)) (q_tn (z := tl q) (by rw [nI_clamp (by omega)]) ?_)
      refine q_aload_n rfl rfl rfl ?_
      refine q_getf rfl rfl (by omega) k46 f21 ?_
      refine q_iconst rfl rfl ?_
      refine q_iload_n rfl rfl rfl ?_
      refine q_imul rfl rfl (q_tn (z := nI (4 * k)) (by rw [show (4 : Int32) = nI 4 from rfl, pk_mul]) ?_)
      refine q_iload_n rfl rfl rfl ?_
      refine q_bipush rfl rfl ?_
      refine q_idiv rfl rfl (by decide) (q_tn (z := nI (q / 10)) hq10.1 ?_)
      refine q_iadd rfl rfl (q_tn (z := nI (4 * k + q / 10)) (nI_add _ _) ?_)
      refine q_iald rfl rfl (by omega) k64 (q_inN (by omega) (by decide)) (q_tn (z := en (4 * k + q / 10)) (by rw [nI_clamp (by omega)]) ?_)
      refine q_iload_n rfl rfl rfl ?_
      refine q_bipush rfl rfl ?_
      refine q_irem rfl rfl (by decide) (q_tn (z := nI (q % 10)) hq10.2 ?_)
      refine q_ishr rfl rfl ?_
      refine q_iconst rfl rfl ?_
      refine q_iand rfl rfl (q_tn (z := if b32 (en (4 * k + q / 10)) (q % 10) = true then 1 else 0) hbit ?_)
      have no : ∀ {b : Bool}, ¬ b = true → b = false := fun {b} h => by
        cases b
        · rfl
        · exact absurd rfl h
      refine q_iceq rfl rfl (fun h9 => ?_) (fun h9 => ?_)
      · refine q_iconst rfl rfl ?_
        rcases hb q hq with ⟨h1, -⟩ | ⟨h1, h2, h3⟩ | ⟨h1, h2, h3⟩
        · exact absurd h1 h
        · by_cases c : b32 (en (4 * k + q / 10)) (q % 10) = true
          · exact go 0 (by rw [hcb.mp c, h3]; rfl)
          · rw [h1, if_neg c] at h9
            exact absurd h9 (by decide)
        · by_cases c : b32 (en (4 * k + q / 10)) (q % 10) = true
          · rw [h1, if_pos c] at h9
            exact absurd h9 (by decide)
          · exact go 0 (by rw [no (fun h => c (hcb.mpr h)), h3]; rfl)
      · refine q_iconst rfl rfl ?_
        refine q_goto rfl ?_
        rcases hb q hq with ⟨h1, -⟩ | ⟨h1, h2, h3⟩ | ⟨h1, h2, h3⟩
        · exact absurd h1 h
        · by_cases c : b32 (en (4 * k + q / 10)) (q % 10) = true
          · rw [h1, if_pos c] at h9
            exact absurd rfl h9
          · exact go 1 (by rw [no (fun h => c (hcb.mpr h)), h3, h2]; rfl)
        · by_cases c : b32 (en (4 * k + q / 10)) (q % 10) = true
          · exact go 1 (by rw [hcb.mp c, h3, h2]; rfl)
          · rw [h1, if_neg c] at h9
            exact absurd rfl h9
  refine q_iconst rfl rfl ?_
  refine q_ist2n rfl rfl rfl rfl ?_
  refine q_iconst rfl rfl ?_
  refine q_ist3n rfl rfl rfl rfl ?_
  exact loop 40 0 rfl
set_option maxHeartbeats 4000000 in
theorem l_cost (g : GJ θ P S n) (k74 : S 74 = .inl (0, 40, .inl tl)) (hb : ∀ q, q < 40 → (tl q = -2 ∧ e_bt ak q = false) ∨ (tl q = 1 ∧ e_bt ak q = true ∧ e_bt ag q = true) ∨ (tl q = 0 ∧ e_bt ak q = true ∧ e_bt ag q = false)) : PM (j_SL L) (j_SV xs) j_EX mm_X12_cost [.ref 46, .int x] S n (fun r S' n' => r = some (.int (coR P ak ag x))) := by
  obtain ⟨hG, hT, hZ⟩ := gj_ab g
  have hn := gs_n hG
  obtain ⟨fs, k46, -⟩ := gs_obj hG (k := 46) rfl
  change PQ (j_SL L) (j_SV xs) j_EX mm_X12_cost 0 [.ref 46, .int x] [] S n 0 0 _
  refine q_aload_n rfl rfl rfl ?_
  refine q_iload_n rfl rfl rfl ?_
  refine q_iconst rfl rfl ?_
  refine q_iconst rfl rfl ?_
  refine q_cV rfl rfl (Or.inl rfl) rfl rfl rfl rfl (by omega) k46 trivial rfl rfl rfl rfl rfl l_in ?_
  rintro r S1 n1 ⟨ea, eb, hr⟩
  obtain rfl := ea.symm
  obtain rfl := eb.symm
  rcases hr with ⟨q, rfl⟩ | ⟨q', rfl⟩
  · show PQ (j_SL L) (j_SV xs) j_EX mm_X12_cost 7 [.ref 46, .int x] [.int 0] S n 0 0 _
    refine q_ifne rfl rfl (fun _ => ?_) (fun c => absurd rfl c)
    refine q_iconst rfl rfl ?_
    exact q_iret rfl rfl trivial (by rw [co_b (fun h => q ((inw (a := 4) (b := 5) (by decide)).mpr h))])
  show PQ (j_SL L) (j_SV xs) j_EX mm_X12_cost 7 [.ref 46, .int x] [.int 1] S n 0 0 _
  refine q_ifne rfl rfl (fun c => absurd c (by decide)) (fun _ => ?_)
  have q := (inw (a := 4) (b := 5) (by decide)).mp q'
  obtain ⟨k, hk, rfl⟩ := in5 q
  refine q_aload_n rfl rfl rfl ?_
  refine q_cV rfl rfl (Or.inl rfl) rfl rfl rfl rfl (by omega) k46 trivial rfl rfl rfl rfl rfl (l_any g) ?_
  rintro r T _ ⟨rfl, gT, e74, hs, hr⟩
  rcases hr with ⟨ha, rfl⟩ | ⟨ha, rfl⟩
  · show PQ (j_SL L) (j_SV xs) j_EX mm_X12_cost 16 [.ref 46, .int (nI k)] [.int 1] T n 0 0 _
    refine q_ifeq rfl rfl (fun c => absurd c (by decide)) (fun _ => ?_)
    refine q_bipush rfl rfl ?_
    refine q_goto rfl ?_
    exact q_iret rfl rfl trivial (by rw [co_s q ha])
  show PQ (j_SL L) (j_SV xs) j_EX mm_X12_cost 16 [.ref 46, .int (nI k)] [.int 0] T n 0 0 _
  refine q_ifeq rfl rfl (fun _ => ?_) (fun c => absurd rfl c)
  obtain ⟨en, t64, hen⟩ := eI_all gT hs ha
  obtain ⟨fsT, t46, hf⟩ := gs_obj (gj_ab gT).1 (k := 46) rfl
  have f33 : fsT[33]? = some (.ref 74) := fo_ref (hf 33 _ rfl) rfl
  have f21 : fsT[21]? = some (.ref 64) := fo_ref (hf 21 _ rfl) rfl
  refine q_aload_n rfl rfl rfl ?_
  refine q_iload_n rfl rfl rfl ?_
  refine q_cV rfl rfl (Or.inl rfl) rfl rfl rfl rfl (by omega) t46 trivial rfl rfl rfl rfl rfl (l_cof hn t46 f33 f21 (e74.trans k74) t64 hk (hen k hk) hb) ?_
  rintro r _ _ ⟨rfl, rfl, rfl⟩
  show PQ (j_SL L) (j_SV xs) j_EX mm_X12_cost 29 [.ref 46, .int (nI k)] [.int (nI (cst P k ak ag))] T n 0 0 _
  exact q_iret rfl rfl trivial (by rw [co_v hk q ha])
end LG
