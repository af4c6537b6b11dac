/-! the law's cases, printed by wip/gen_law.py -/
section LW
variable {θ : Th} {Ls : Nat} {xs : Nat → Int32} {S : Nat → pm_E} {n c s p : Nat} {a5 a6 a7 : Value} {K : q_K}
def RI (θ : Th) (l : List Nat) (S : Nat → pm_E) (n : Nat) : q_K := fun r S' n' => n = n' ∧ (∃ z : Int32, r = some (.int z)) ∧ GS θ S' n ∧ fr1 l S S' n
theorem ri_of {C : ck_Ct} {r0 : List Int} {r : Option Value} {S' : Nat → pm_E} {n' : Nat} (hP : C.2.2.2.1.all (fun P => Nat.beq P.2.1.1 0) = true) (h : KC θ C r0 S n r S' n') : RI θ C.2.2.2.2 S n r S' n' := by
  obtain ⟨h1, h2, h3, h4⟩ := kc_int hP h
  exact ⟨h1.symm, h2, h3, h4⟩
def RL (θ : Th) (l : List Nat) (S : Nat → pm_E) (n : Nat) : q_K := fun r S' n' => n = n' ∧ (∃ z : Int64, r = some (.long z)) ∧ GS θ S' n ∧ fr1 l S S' n
theorem rl_of {C : ck_Ct} {r0 : List Int} {r : Option Value} {S' : Nat → pm_E} {n' : Nat} (hP : C.2.2.2.1.all (fun P => Nat.beq P.2.1.1 3) = true) (h : KC θ C r0 S n r S' n') : RL θ C.2.2.2.2 S n r S' n' := by
  obtain ⟨h1, h2, h3, P, hp, h4, h5, -⟩ := h
  have e := Nat.eq_of_beq_eq_true (List.all_eq_true.mp hP P hp)
  unfold ck_rv at h5
  rw [e] at h5
  exact ⟨h1.symm, h5, h2, h3⟩
/-- the class's own program stays -/
def smf (S S' : Nat → pm_E) : Prop := ∀ k, k ∈ [0, 54, 1, 7, 8, 16, 2, 3, 4, 5, 6, 9, 10, 11, 12, 13, 14, 15, 17, 22, 23, 44, 45, 51, 55, 56, 57, 59, 60, 62, 63, 64] → S' k = S k
theorem smf_rf : smf S S := fun _ _ => rfl
theorem smf_tr {S1 S2 : Nat → pm_E} (h1 : smf S S1) (h2 : smf S1 S2) : smf S S2 := fun k hk => (h2 k hk).trans (h1 k hk)
theorem smf_of {l : List Nat} {S S' : Nat → pm_E} {n : Nat} (h : fr1 l S S' n) (hn : 82 ≤ n) (hl : [0, 54, 1, 7, 8, 16, 2, 3, 4, 5, 6, 9, 10, 11, 12, 13, 14, 15, 17, 22, 23, 44, 45, 51, 55, 56, 57, 59, 60, 62, 63, 64].all (fun k => Nat.ble k 81 && !(l.contains k)) = true) : smf S S' := fun k hk => by
  have e := List.all_eq_true.mp hl k hk
  rw [Bool.and_eq_true] at e
  have e1 := Nat.le_of_ble_eq_true e.1
  exact h k (by omega) (by simpa using e.2)
theorem smf_po {S S' : Nat → pm_E} (h : ∀ k, k < 82 → k ≠ 43 → S' k = S k) : smf S S' := fun k hk => h k (by simp only [List.mem_cons, List.not_mem_nil, or_false] at hk; omega) (by simp only [List.mem_cons, List.not_mem_nil, or_false] at hk; omega)
theorem sc_i {p k Ls : Nat} (h : p + 6 ≤ Ls) (hL : Ls < 2 ^ 31) (hk : k ≤ 5) : pm_inb (nI (p + k)) (j_SL Ls (5 : UInt32).toNat) = true := q_inN (m := Ls) (by omega) hL
theorem sc_v {p k Ls : Nat} {xs : Nat → Int32} (h : p + 6 ≤ Ls) (hL : Ls < 2 ^ 31) (hk : k ≤ 5) : j_SV xs (5 : UInt32).toNat (nI (p + k)).toNatClampNeg = xs (p + k) := by
  rw [nI_clamp (by omega)]
  rfl
/-- what the law asks behind a call that leaves θ -/
def GK (θ : Th) (Ls : Nat) (xs : Nat → Int32) (S : Nat → pm_E) (c s p : Nat) (K : q_K) : Prop := ∀ (S' : Nat → pm_E) (n' c' s' : Nat) (b5 b6 b7 : Value), GS θ S' n' → smf S S' → c' ≤ c + 5 → s' ≤ s + 124 → PQ (j_SL Ls) (j_SV xs) j_EX mm_L_law 1267 [.float 5, .ref 0, .ref 46, .ref 81, .int (nI p), b5, b6, b7] [] S' n' c' s' K
def GKw (Ls : Nat) (xs : Nat → Int32) (c s p : Nat) (K : q_K) : Prop := ∀ (θ' : Th) (S' : Nat → pm_E) (n' c' s' : Nat) (b5 b6 b7 : Value), GS θ' S' n' → c' ≤ c + 5 → s' ≤ s + 124 → PQ (j_SL Ls) (j_SV xs) j_EX mm_L_law 1267 [.float 5, .ref 0, .ref 46, .ref 81, .int (nI p), b5, b6, b7] [] S' n' c' s' K
theorem el_ex {f : Nat → Option Nat} (hG : GS θ S n) (h43 : S 43 = sh43 f) (p0 p1 : Int32) : ∃ (k : Int32) (v : Int64), o_el (hp S n) f p0 p1 k v := by
  obtain ⟨f0, a1, a2⟩ := gs_43 hG
  rw [h43] at a1
  cases a1
  by_cases h0 : 0 ≤ p0 ∧ p0 < 8
  · obtain ⟨-, h8⟩ := c_in8 h0
    cases hf : f p0.toNatClampNeg with
    | none => exact ⟨2, 0, Or.inr ⟨h0, Or.inl ⟨hf, rfl⟩⟩⟩
    | some y =>
      rcases (a2 _ h8 y hf).2 with ⟨a, b, h1⟩ | ⟨z, len, g, h1, h2, h3, h4⟩ | ⟨z, len, g, h1, h2, h3, h4, h5⟩
      · exact ⟨2, 0, Or.inr ⟨h0, Or.inr ⟨y, hf, Or.inl ⟨a, b, h1, rfl⟩⟩⟩⟩
      · by_cases hv : vp_in p1 len
        · exact ⟨0, _, Or.inr ⟨h0, Or.inr ⟨y, hf, Or.inr (Or.inl ⟨z, len, g, h1, h4, h3, Or.inr ⟨hv, rfl, rfl⟩⟩)⟩⟩⟩
        · exact ⟨2, 0, Or.inr ⟨h0, Or.inr ⟨y, hf, Or.inr (Or.inl ⟨z, len, g, h1, h4, h3, Or.inl ⟨hv, rfl⟩⟩)⟩⟩⟩
      · by_cases hv : vp_in p1 len
        · exact ⟨0, _, Or.inr ⟨h0, Or.inr ⟨y, hf, Or.inr (Or.inr ⟨z, len, g, h1, h4, h3, Or.inr ⟨hv, rfl, rfl⟩⟩)⟩⟩⟩
        · exact ⟨2, 0, Or.inr ⟨h0, Or.inr ⟨y, hf, Or.inr (Or.inr ⟨z, len, g, h1, h4, h3, Or.inl ⟨hv, rfl⟩⟩)⟩⟩⟩
  · refine ⟨1, 0, Or.inl ⟨?_, rfl⟩⟩
    simp only [Int32.lt_iff_toInt_lt, Int32.le_iff_toInt_le] at h0 ⊢
    omega
end LW
