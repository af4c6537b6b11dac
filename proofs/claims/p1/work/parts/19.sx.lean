/-! the oracle: Math.max, Math.min, and the law's element on a fresh object -/
def o_M (nm : MethodName) (f : Int32 → Int32 → Int32) (M : pm_M) (c : pm_C) (R : pm_C → Prop) : Prop :=
  ∃ (idx : Nat) (x y : Int32) (st : List Value), c.2.2.1 = .int y :: .int x :: st ∧ decode (pm_cd M) c.1 = .ok (.invokestatic idx, 3) ∧ j_mem (pm_hn M idx) (.methodLink (pm_nm M).cls idx nm) = true ∧ (Nat.ble 1 (pm_rm M).frames && Nat.ble (pm_cat st + 13) (pm_rm M).locals) = true ∧ R = fun c' => c' = (c.1 + 3, c.2.1, .int (f x y) :: st, c.2.2.2.1, c.2.2.2.2.1, c.2.2.2.2.2)
def o_E (M : pm_M) (c : pm_C) (R : pm_C → Prop) : Prop :=
  M = mm_L_law ∧ c.1 = 1091 ∧ ∃ (p0 p1 k : Int32) (st : List Value) (fs : List Value) (f : Nat → Option Nat), c.2.2.1 = .ref 81 :: .int p1 :: .int p0 :: .ref 0 :: st ∧ pm_cat st = 0 ∧ c.2.2.2.1[0]? = some (.inr (9, fs)) ∧ fs[7]? = some (.ref 43) ∧ c.2.2.2.1[43]? = some (.inl (4, 8, .inr (.inr (.inr (.inr f))))) ∧ (∀ j, j < 8 → f j = none) ∧ (((p0 < 0 ∨ 8 ≤ p0) ∧ k = 1) ∨ ((0 ≤ p0 ∧ p0 ≤ 7) ∧ k = 2)) ∧ c.2.2.2.2.1 + 1 ≤ 600002 ∧ c.2.2.2.2.2 + 6 ≤ 7302232 ∧
    R = fun c' => ∃ g : List Value, c' = (c.1 + 3, c.2.1, .int k :: st, c.2.2.2.1 ++ [.inr (99, g)], c.2.2.2.2.1 + 1, c.2.2.2.2.2 + 6)
def j_EX : pm_M → pm_C → (pm_C → Prop) → Prop := fun M c R => o_M Lib.Math.max.name (fun x y => if x < y then y else x) M c R ∨ o_M Lib.Math.min.name (fun x y => if y < x then y else x) M c R ∨ o_E M c R
section OX
variable {SL : Nat → Nat} {SV : Nat → Nat → Int32} {M : pm_M} {pc q : Nat} {L st : List Value} {S : Nat → pm_E} {n c s : Nat} {K : q_K}
theorem q_ex {R : pm_C → Prop} (hl : pm_look M pc = none) (hR : j_EX M (pc, L, st, hp S n, c, s) R) (kk : ∀ c', R c' → pm_W j_ft j_df SL SV j_MT j_EX M c' (fun r h => ∃ S' n', h = hp S' n' ∧ K r S' n')) : PQ SL SV j_EX M pc L st S n c s K := by
  unfold PQ
  refine pm_in _ _ _ _ _ _ ?_
  unfold pm_F
  have hs : pm_step j_ft j_df SL SV j_MT M (pc, L, st, hp S n, c, s) = none := by
    unfold pm_step
    rw [hl]
  rw [hs]
  exact ⟨R, hR, kk⟩
theorem q_mmax {idx : Nat} {x y z : Int32} (hl : pm_look M pc = none) (hd : decode (pm_cd M) pc = .ok (.invokestatic idx, 3) ∧ j_mem (pm_hn M idx) (.methodLink (pm_nm M).cls idx Lib.Math.max.name) = true) (hr : (Nat.ble 1 (pm_rm M).frames && Nat.ble (pm_cat st + 13) (pm_rm M).locals) = true) (hq : pc + 3 = q) (hz : (if x < y then y else x) = z) (kk : PQ SL SV j_EX M q L (.int z :: st) S n c s K) : PQ SL SV j_EX M pc L (.int y :: .int x :: st) S n c s K := by
  subst hq hz
  exact q_ex hl (Or.inl ⟨idx, x, y, st, rfl, hd.1, hd.2, hr, rfl⟩) (fun c' e => by subst e; exact kk)
theorem q_elem {p0 p1 k : Int32} {fs : List Value} {f : Nat → Option Nat} (hn : 43 < n) (h0 : S 0 = .inr (9, fs)) (h7 : fs[7]? = some (.ref 43)) (h43 : S 43 = .inl (4, 8, .inr (.inr (.inr (.inr f))))) (hf : ∀ j, j < 8 → f j = none) (hk : ((p0 < 0 ∨ 8 ≤ p0) ∧ k = 1) ∨ ((0 ≤ p0 ∧ p0 ≤ 7) ∧ k = 2)) (hc : c + 1 ≤ 600002) (hs : s + 6 ≤ 7302232) (kk : ∀ g : List Value, PQ SL SV j_EX mm_L_law 1094 L [.int k] (va_up S n (.inr (99, g))) (n + 1) (c + 1) (s + 6) K) : PQ SL SV j_EX mm_L_law 1091 L [.ref 81, .int p1, .int p0, .ref 0] S n c s K := by
  refine q_ex rfl (Or.inr (Or.inr ⟨rfl, rfl, p0, p1, k, [], fs, f, rfl, rfl, ?_, h7, ?_, hf, hk, hc, hs, rfl⟩)) ?_
  · rw [← h0]; exact hp_get (by omega)
  · rw [← h43]; exact hp_get hn
  · rintro c' ⟨g, rfl⟩
    have := kk g
    unfold PQ at this
    rw [← hp_push] at this
    exact this
end OX
theorem om_gp : decode (pm_cd mm_X3_greaterPart) 48 = .ok (.invokestatic 46, 3) ∧ j_mem (pm_hn mm_X3_greaterPart 46) (.methodLink (pm_nm mm_X3_greaterPart).cls 46 Lib.Math.max.name) = true := ⟨by decide +kernel, by decide +kernel⟩
theorem om_lr : decode (pm_cd mm_X4_init) 7 = .ok (.invokestatic 7, 3) ∧ j_mem (pm_hn mm_X4_init 7) (.methodLink (pm_nm mm_X4_init).cls 7 Lib.Math.max.name) = true := ⟨by decide +kernel, by decide +kernel⟩
theorem om_sr : decode (pm_cd mm_X9_init) 7 = .ok (.invokestatic 7, 3) ∧ j_mem (pm_hn mm_X9_init 7) (.methodLink (pm_nm mm_X9_init).cls 7 Lib.Math.max.name) = true := ⟨by decide +kernel, by decide +kernel⟩
theorem i_s0 {x : Int32} (h : 0 ≤ x) : x = 0 ∨ 1 ≤ x := by
  by_cases e : x = 0
  · exact Or.inl e
  · exact Or.inr (i_ltge (i_nle (fun q => e (Int32.le_antisymm q h))) rfl)
theorem i_tri (x : Int32) : x < 0 ∨ 8 ≤ x ∨ (0 ≤ x ∧ x ≤ 7) := by
  by_cases h1 : x < 0
  · exact Or.inl h1
  · by_cases h2 : 8 ≤ x
    · exact Or.inr (Or.inl h2)
    · exact Or.inr (Or.inr ⟨i_nlt h1, i_ltle (i_nle h2) rfl⟩)
theorem i_b8 {x B lo : Int32} (h : lo ≤ x) (h2 : x ≤ B) (e : (decide (0 ≤ lo) && decide (B.toInt ≤ 60)) = true) : Nat.ble (x.toNatClampNeg * 8) 536870912 = true := by
  simp only [Bool.and_eq_true, decide_eq_true_eq] at e
  apply Nat.ble_eq_true_of_le
  rw [Int32.le_iff_toInt_le] at *
  have e0 : (0 : Int32).toInt = 0 := rfl
  have e1 : x.toNatClampNeg = x.toInt.toNat := rfl
  omega
theorem i_bs {x B lo : Int32} {s m : Nat} (h : lo ≤ x) (h2 : x ≤ B) (e : (decide (0 ≤ lo) && (decide (B.toInt ≤ 60) && Nat.ble (s + 60) m)) = true) : Nat.ble (s + x.toNatClampNeg) m = true := by
  simp only [Bool.and_eq_true, decide_eq_true_eq] at e
  have e3 := Nat.le_of_ble_eq_true e.2.2
  apply Nat.ble_eq_true_of_le
  rw [Int32.le_iff_toInt_le] at *
  have e0 : (0 : Int32).toInt = 0 := rfl
  have e1 : x.toNatClampNeg = x.toInt.toNat := rfl
  omega
