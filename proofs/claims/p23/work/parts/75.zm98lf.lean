/-! cost, explain: class and reference -/
section LF
variable {θ : Th} {P : PG} {S S' : Nat → pm_E} {n k : Nat} {lr fs : List Value} {ak ag : Int64} {tl : Nat → Int32} {x : Int32} {L : Nat} {xs : Nat → Int32}
def anyP (P : PG) : Prop := ∃ j, j < 5 ∧ xP (xE P j) = true
def szN (S : Nat → pm_E) (i : Nat) : Prop := ∃ sz : Nat → Int32, S 44 = .inl (0, 5, .inl sz) ∧ ∀ j, j < i → sz j ≠ 0
def knN (S : Nat → pm_E) (i : Nat) : Prop := ∃ kn : Nat → Int32, S 62 = .inl (0, 5, .inl kn) ∧ ∀ j, j < i → kn j ≠ 0
theorem gj_hp {S2 : Nat → pm_E} (g : GJ θ P S2 n) (e : hp S2 n = hp S n) : GJ θ P S n := by
  unfold GJ at g ⊢
  rw [← e]
  exact g
theorem c_szA (g : GJ θ P S n) (hk : k < 5) (hs : szN S k) : PM (j_SL L) (j_SV xs) j_EX mm_X11_sizeOf [.ref 0, .int (nI k)] S n (fun r S' n' => n = n' ∧ r = some (.int (szR P k)) ∧ GJ θ P S' n ∧ S' 0 = S 0 ∧ S' 42 = S 42 ∧ szN S' (k + 1)) := by
  obtain ⟨hG, hT, hZ⟩ := gj_ab g
  have hn := gs_n hG
  refine pm_weak (pm_and (c_size (P := P) hZ.1 hn hk (gs_ts hG) (gs_oall8 hG hZ.2.1.2.2.1) (gs_oall16 hG hZ.2.1.2.2.2.1) hZ.2.1) (q_kj wb81 [(k : Int)] g ⟨rfl, ck_oku rfl (nI_toInt (by omega)), trivial⟩ (ck_en_c (by omega) (by omega) ck_en_n) (fun d hd => by cases hd))) (fun r T m h => ?_)
  obtain ⟨⟨rfl, rfl, hC, hF, sz', t44, hz, hmo⟩, S2, e2, -, g2, -⟩ := h
  obtain ⟨sz, s44, hs⟩ := hs
  refine ⟨rfl, rfl, gj_hp g2 e2, hF 0 (by decide) (by omega) (by decide) (by decide), hF 42 (by decide) (by omega) (by decide) (by decide), sz', t44, fun j hj => ?_⟩
  rcases Nat.lt_or_eq_of_le (Nat.le_of_lt_succ hj) with c | c
  · exact hmo sz s44 j (hs j c)
  · rw [c]
    exact hz
theorem l_spA (g : GJ θ P S n) (hk : k < 5) (hs : knN S k) : PM (j_SL L) (j_SV xs) j_EX mm_X12_isSpent [.ref 46, .int (nI k)] S n (fun r S' n' => n = n' ∧ r = some (.int (spR P k)) ∧ GJ θ P S' n ∧ S' 74 = S 74 ∧ knN S' (k + 1)) := by
  obtain ⟨hG, hT, hZ⟩ := gj_ab g
  have hn := gs_n hG
  obtain ⟨fs, hp⟩ := gs_jrp hG hT hZ.1 hZ.2.2
  refine pm_weak (pm_and (l_spent (P := P) hZ.1 hn hk hp (gs_rws hG (by split <;> omega)) hZ.2.2) (q_kj wb201 [(k : Int)] g ⟨rfl, ck_oku rfl (nI_toInt (by omega)), trivial⟩ (ck_en_c (by omega) (by omega) ck_en_n) (fun d hd => by cases hd))) (fun r T m h => ?_)
  obtain ⟨⟨rfl, rfl, hR, hF, -, kn', t62, hz, hmo⟩, S2, e2, -, g2, -⟩ := h
  obtain ⟨kn, s62, hs⟩ := hs
  refine ⟨rfl, rfl, gj_hp g2 e2, hF 74 (by decide) (by decide) (by decide) (by omega), kn', t62, fun j hj => ?_⟩
  rcases Nat.lt_or_eq_of_le (Nat.le_of_lt_succ hj) with c | c
  · exact hmo kn s62 j (hs j c)
  · rw [c]
    exact hz
theorem any_s {i : Nat} (h : ∃ j, j < i ∧ xP (xE P j) = true) : ∃ j, j < i + 1 ∧ xP (xE P j) = true := by
  obtain ⟨j, a, b⟩ := h
  exact ⟨j, by omega, b⟩
set_option maxHeartbeats 4000000 in
theorem c_some (g : GJ θ P S n) : PM (j_SL L) (j_SV xs) j_EX mm_X11_someSpent [.ref 0] S n (fun r S' n' => n = n' ∧ GJ θ P S' n ∧ S' 0 = S 0 ∧ S' 42 = S 42 ∧ szN S' 5 ∧ ((anyP P ∧ r = some (.int 1)) ∨ (¬ anyP P ∧ r = some (.int 0)))) := by
  have hn := gs_n (gj_ab g).1
  obtain ⟨ts, k0, -⟩ := gs_obj (gj_ab g).1 (k := 0) rfl
  have h44 : szN S 0 := by
    obtain ⟨-, -, -, hC, -⟩ := gj_ab g
    obtain ⟨-, -, -, -, sz, en, a44, -⟩ := hC
    exact ⟨sz, a44, fun j hj => absurd hj (by omega)⟩
  change PQ (j_SL L) (j_SV xs) j_EX mm_X11_someSpent 0 [.ref 0, pm_un, pm_un] [] S n 0 0 _
  have loop : ∀ q i : Nat, i + q = 5 → ∀ (T : Nat → pm_E) (b : Int32), GJ θ P T n → T 0 = S 0 → T 42 = S 42 → szN T i → ((b = 1 ∧ ∃ j, j < i ∧ xP (xE P j) = true) ∨ (b = 0 ∧ ¬ ∃ j, j < i ∧ xP (xE P j) = true)) → PQ (j_SL L) (j_SV xs) j_EX mm_X11_someSpent 4 [.ref 0, .int b, .int (nI i)] [] T n 0 0 (fun r S' n' => n = n' ∧ GJ θ P S' n ∧ S' 0 = S 0 ∧ S' 42 = S 42 ∧ szN S' 5 ∧ ((anyP P ∧ r = some (.int 1)) ∨ (¬ anyP P ∧ r = some (.int 0)))) := by
    intro q
    induction q with
    | zero =>
      intro i hi T b gT e0 e42 hs hb
      have e : i = 5 := by omega
      subst e
      refine q_iload_n rfl rfl rfl ?_
      refine q_iconst rfl rfl ?_
      refine q_icge rfl rfl (fun _ => ?_) (fun h => absurd (by decide) h)
      refine q_iload_n rfl rfl rfl ?_
      rcases hb with ⟨rfl, h⟩ | ⟨rfl, h⟩
      · exact q_iret rfl rfl rfl ⟨rfl, gT, e0, e42, hs, Or.inl ⟨h, rfl⟩⟩
      · exact q_iret rfl rfl rfl ⟨rfl, gT, e0, e42, hs, Or.inr ⟨h, rfl⟩⟩
    | succ q ih =>
      intro i hiq T b gT e0 e42 hs hb
      have hi5 : i < 5 := by omega
      have hN := (xe_wx (k := i) (gj_ab gT).2.2.1).1.2.1
      refine q_iload_n rfl rfl rfl ?_
      refine q_iconst rfl rfl ?_
      refine q_icge rfl rfl (fun h => absurd h (nI_ge (a := i) (b := 5) hi5 (by decide))) (fun _ => ?_)
      refine q_iload_n rfl rfl rfl ?_
      refine q_aload_n rfl rfl rfl ?_
      refine q_iload_n rfl rfl rfl ?_
      refine q_cV rfl rfl (Or.inl rfl) rfl rfl rfl rfl (by omega) (e0.trans k0) trivial rfl rfl rfl rfl rfl (c_szA gT hi5 hs) ?_
      rintro r V _ ⟨rfl, rfl, gV, f0, f42, hV⟩
      show PQ (j_SL L) (j_SV xs) j_EX mm_X11_someSpent 15 [.ref 0, .int b, .int (nI i)] [.int (szR P i), .int b] V n 0 0 _
      have go : ∀ c b' : Int32, b ||| c = b' → ((b' = 1 ∧ ∃ j, j < i + 1 ∧ xP (xE P j) = true) ∨ (b' = 0 ∧ ¬ ∃ j, j < i + 1 ∧ xP (xE P j) = true)) → PQ (j_SL L) (j_SV xs) j_EX mm_X11_someSpent 25 [.ref 0, .int b, .int (nI i)] [.int c, .int b] V n 0 0 (fun r S' n' => n = n' ∧ GJ θ P S' n ∧ S' 0 = S 0 ∧ S' 42 = S 42 ∧ szN S' 5 ∧ ((anyP P ∧ r = some (.int 1)) ∨ (¬ anyP P ∧ r = some (.int 0)))) := by
        intro c b' ec h
        refine q_ior rfl rfl (q_tn (z := b') ec ?_)
        refine q_ist1n rfl rfl rfl rfl ?_
        refine q_inc2 rfl rfl rfl rfl ?_
        refine q_goto rfl ?_
        rw [show nI i + 1 = nI (i + 1) from nI_add i 1]
        exact ih (i + 1) (by omega) V b' gV (f0.trans e0) (f42.trans e42) hV h
      refine q_bipush rfl rfl ?_
      cases hp1 : xP (xE P i)
      · rw [szR_f hp1]
        refine q_icne rfl rfl (fun h => ?_) (fun _ => ?_)
        · exfalso
          have e9 := congrArg Int32.toInt h
          rw [nI_toInt (by omega)] at e9
          have e5 : (-5 : Int32).toInt = -5 := rfl
          omega
        refine q_iconst rfl rfl ?_
        rcases hb with ⟨rfl, h⟩ | ⟨rfl, h⟩
        · exact go 0 1 rfl (Or.inl ⟨rfl, any_s h⟩)
        · refine go 0 0 rfl (Or.inr ⟨rfl, fun ⟨j, a, c⟩ => ?_⟩)
          rcases Nat.lt_or_eq_of_le (Nat.le_of_lt_succ a) with d | d
          · exact h ⟨j, d, c⟩
          · rw [d, hp1] at c
            cases c
      · rw [szR_t hp1]
        refine q_icne rfl rfl (fun _ => ?_) (fun h => absurd rfl h)
        refine q_iconst rfl rfl ?_
        refine q_goto rfl ?_
        rcases hb with ⟨rfl, h⟩ | ⟨rfl, h⟩
        · exact go 1 1 rfl (Or.inl ⟨rfl, i, by omega, hp1⟩)
        · exact go 1 1 rfl (Or.inl ⟨rfl, i, by omega, hp1⟩)
  refine q_iconst rfl rfl ?_
  refine q_ist1n rfl rfl rfl rfl ?_
  refine q_iconst rfl rfl ?_
  refine q_ist2n rfl rfl rfl rfl ?_
  exact loop 5 0 rfl S 0 g rfl rfl h44 (Or.inr ⟨rfl, fun ⟨j, a, _⟩ => by omega⟩)
set_option maxHeartbeats 4000000 in
theorem l_any (g : GJ θ P S n) : PM (j_SL L) (j_SV xs) j_EX mm_X12_anySpent [.ref 46] S n (fun r S' n' => n = n' ∧ GJ θ P S' n ∧ S' 74 = S 74 ∧ knN S' 5 ∧ ((anyP P ∧ r = some (.int 1)) ∨ (¬ anyP P ∧ r = some (.int 0)))) := by
  have hn := gs_n (gj_ab g).1
  have h62 : knN S 0 := by
    obtain ⟨-, -, -, -, -, kn, so, en, b62, -⟩ := gj_ab g
    exact ⟨kn, b62, fun j hj => absurd hj (by omega)⟩
  change PQ (j_SL L) (j_SV xs) j_EX mm_X12_anySpent 0 [.ref 46, pm_un, pm_un] [] S n 0 0 _
  have loop : ∀ q i : Nat, i + q = 5 → ∀ (T : Nat → pm_E) (b : Int32), GJ θ P T n → T 74 = S 74 → knN T i → ((b = 1 ∧ ∃ j, j < i ∧ xP (xE P j) = true) ∨ (b = 0 ∧ ¬ ∃ j, j < i ∧ xP (xE P j) = true)) → PQ (j_SL L) (j_SV xs) j_EX mm_X12_anySpent 4 [.ref 46, .int b, .int (nI i)] [] T n 0 0 (fun r S' n' => n = n' ∧ GJ θ P S' n ∧ S' 74 = S 74 ∧ knN S' 5 ∧ ((anyP P ∧ r = some (.int 1)) ∨ (¬ anyP P ∧ r = some (.int 0)))) := by
    intro q
    induction q with
    | zero =>
      intro i hi T b gT e74 hs hb
      have e : i = 5 := by omega
      subst e
      refine q_iload_n rfl rfl rfl ?_
      refine q_iconst rfl rfl ?_
      refine q_icge rfl rfl (fun _ => ?_) (fun h => absurd (by decide) h)
      refine q_iload_n rfl rfl rfl ?_
      rcases hb with ⟨rfl, h⟩ | ⟨rfl, h⟩
      · exact q_iret rfl rfl rfl ⟨rfl, gT, e74, hs, Or.inl ⟨h, rfl⟩⟩
      · exact q_iret rfl rfl rfl ⟨rfl, gT, e74, hs, Or.inr ⟨h, rfl⟩⟩
    | succ q ih =>
      intro i hiq T b gT e74 hs hb
      have hi5 : i < 5 := by omega
      obtain ⟨fsT, k46, -⟩ := gs_obj (gj_ab gT).1 (k := 46) rfl
      refine q_iload_n rfl rfl rfl ?_
      refine q_iconst rfl rfl ?_
      refine q_icge rfl rfl (fun h => absurd h (nI_ge (a := i) (b := 5) hi5 (by decide))) (fun _ => ?_)
      refine q_aload_n rfl rfl rfl ?_
      refine q_iload_n rfl rfl rfl ?_
      refine q_cV rfl rfl (Or.inl rfl) rfl rfl rfl rfl (by omega) k46 trivial rfl rfl rfl rfl rfl (l_spA gT hi5 hs) ?_
      rintro r V _ ⟨rfl, rfl, gV, f74, hV⟩
      show PQ (j_SL L) (j_SV xs) j_EX mm_X12_anySpent 14 [.ref 46, .int b, .int (nI i)] [.int (spR P i)] V n 0 0 _
      have go : ∀ b' : Int32, ((b' = 1 ∧ ∃ j, j < i + 1 ∧ xP (xE P j) = true) ∨ (b' = 0 ∧ ¬ ∃ j, j < i + 1 ∧ xP (xE P j) = true)) → PQ (j_SL L) (j_SV xs) j_EX mm_X12_anySpent 26 [.ref 46, .int b, .int (nI i)] [.int b'] V n 0 0 (fun r S' n' => n = n' ∧ GJ θ P S' n ∧ S' 74 = S 74 ∧ knN S' 5 ∧ ((anyP P ∧ r = some (.int 1)) ∨ (¬ anyP P ∧ r = some (.int 0)))) := by
        intro b' h
        refine q_ist1n rfl rfl rfl rfl ?_
        refine q_inc2 rfl rfl rfl rfl ?_
        refine q_goto rfl ?_
        rw [show nI i + 1 = nI (i + 1) from nI_add i 1]
        exact ih (i + 1) (by omega) V b' gV (f74.trans e74) hV h
      cases hp1 : xP (xE P i)
      · rw [spR_f hp1]
        refine q_ifne rfl rfl (fun _ => ?_) (fun h => absurd rfl h)
        refine q_iload_n rfl rfl rfl ?_
        rcases hb with ⟨rfl, h⟩ | ⟨rfl, h⟩
        · refine q_ifeq rfl rfl (fun c => absurd c (by decide)) (fun _ => ?_)
          refine q_iconst rfl rfl ?_
          refine q_goto rfl ?_
          exact go 1 (Or.inl ⟨rfl, any_s h⟩)
        · refine q_ifeq rfl rfl (fun _ => ?_) (fun c => absurd rfl c)
          refine q_iconst rfl rfl ?_
          refine go 0 (Or.inr ⟨rfl, fun ⟨j, a, c⟩ => ?_⟩)
          rcases Nat.lt_or_eq_of_le (Nat.le_of_lt_succ a) with d | d
          · exact h ⟨j, d, c⟩
          · rw [d, hp1] at c
            cases c
      · rw [spR_t hp1]
        refine q_ifne rfl rfl (fun c => absurd c (by decide)) (fun _ => ?_)
        refine q_iconst rfl rfl ?_
        refine q_goto rfl ?_
        exact go 1 (Or.inl ⟨rfl, i, by omega, hp1⟩)
  refine q_iconst rfl rfl ?_
  refine q_ist1n rfl rfl rfl rfl ?_
  refine q_iconst rfl rfl ?_
  refine q_ist2n rfl rfl rfl rfl ?_
  exact loop 5 0 rfl S 0 g rfl h62 (Or.inr ⟨rfl, fun ⟨j, a, _⟩ => by omega⟩)
/-- whether an end of picture k has that place and number -/
noncomputable def caB (P : PG) (k q : Nat) : Bool := @decide (canP P k (q / 10) (q % 10)) (Classical.propDecidable _)
noncomputable def cst (P : PG) (k : Nat) (ak ag : Int64) : Nat := cntB (fun q => (caB P k q ^^ e_bt ag q) && e_bt ak q) 40
theorem caB_t {q : Nat} : caB P k q = true ↔ canP P k (q / 10) (q % 10) := by
  unfold caB
  exact @decide_eq_true_iff _ (Classical.propDecidable _)
theorem cntB_40 {b : Nat → Bool} (h : ∀ j, 40 ≤ j → b j = false) : cntB b 64 = cntB b 40 := by
  rw [show (64 : Nat) = 40 + 24 from rfl, cntB_add]
  have e : cntB (fun i => b (40 + i)) 24 = cntB (fun _ => false) 24 := cntB_cg (fun i _ => h (40 + i) (by omega))
  rw [e, cntB_0, Nat.add_zero]
theorem cst_le : cst P k ak ag ≤ 40 := by
  have h : ∀ (b : Nat → Bool) (m : Nat), cntB b m ≤ m := fun b m => by
    induction m with
    | zero => exact Nat.le_refl 0
    | succ m ih =>
      show cntB b m + (b m).toNat ≤ m + 1
      have := Bool.toNat_le (b m)
      omega
  exact h _ 40
theorem c_cby {e : Int64} (hn : 82 ≤ n) (hW : WFP P) (k42 : S 42 = .inr (1, lr)) (l0 : lr[0]? = some (.long ak)) (l1 : lr[1]? = some (.long ag)) (h40 : ∀ j, 40 ≤ j → e_bt ak j = false) (he : enOK P k e) : PM (j_SL L) (j_SV xs) j_EX mm_X3_costBy [.ref 42, .long e] S n (fun r S' n' => S = S' ∧ n = n' ∧ r = some (.int (nI (cst P k ak ag)))) := by
  change PQ (j_SL L) (j_SV xs) j_EX mm_X3_costBy 0 [.ref 42, .long e, pm_un] [] S n 0 0 _
  refine q_lload_n rfl rfl rfl ?_
  refine q_aload_n rfl rfl rfl ?_
  refine q_getf rfl rfl (by omega) k42 l1 ?_
  refine q_lxor rfl rfl ?_
  refine q_aload_n rfl rfl rfl ?_
  refine q_getf rfl rfl (by omega) k42 l0 ?_
  refine q_land rfl rfl ?_
  refine q_cS rfl rfl (Or.inl rfl) rfl rfl trivial rfl rfl rfl rfl rfl (bc_ok _) ?_
  rintro r _ _ ⟨rfl, rfl, rfl⟩
  show PQ (j_SL L) (j_SV xs) j_EX mm_X3_costBy 14 [.ref 42, .long e, pm_un] [.int (nI (cntB (e_bt ((e ^^^ ag) &&& ak)) 64))] S n 0 0 _
  have e1 : cntB (e_bt ((e ^^^ ag) &&& ak)) 64 = cst P k ak ag := by
    rw [cntB_40 (fun j hj => by rw [e_bt_and, h40 j hj, Bool.and_false])]
    refine cntB_cg (fun q hq => ?_)
    rw [e_bt_and, e_bt_xor]
    have hc : e_bt e q = caB P k q := by
      have h1 := en_can (p := q / 10) (v := q % 10) hW he (by omega) (by omega)
      rw [show 10 * (q / 10) + q % 10 = q by omega] at h1
      cases h2 : caB P k q
      · cases h3 : e_bt e q
        · rfl
        · rw [caB_t.mpr (h1.mp h3)] at h2
          cases h2
      · exact h1.mpr (caB_t.mp h2)
    rw [hc]
  rw [e1]
  exact q_iret rfl rfl trivial ⟨rfl, rfl, rfl⟩
end LF
