/-! isStatement says what the reference says -/
section TZ
theorem is_eq {k : Nat} (hk : k < 13) (a v : Int32) : isP k a v ↔ okS (nI k) a v := by
  have n0 : (0 : Int32).toInt = 0 := rfl
  have n1 : (1 : Int32).toInt = 1 := rfl
  have n2 : (2 : Int32).toInt = 2 := rfl
  have n3 : (3 : Int32).toInt = 3 := rfl
  have n4 : (4 : Int32).toInt = 4 := rfl
  have n5 : (5 : Int32).toInt = 5 := rfl
  have n6 : (6 : Int32).toInt = 6 := rfl
  have n7 : (7 : Int32).toInt = 7 := rfl
  have n8 : (8 : Int32).toInt = 8 := rfl
  have n9 : (9 : Int32).toInt = 9 := rfl
  have n11 : (11 : Int32).toInt = 11 := rfl
  have n12 : (12 : Int32).toInt = 12 := rfl
  have e := nI_toInt (n := k) (by omega)
  have ht : ∃ A B : Int, (jv0.getD k 0).toInt = A ∧ (jv1.getD k 0).toInt = B ∧ (A = 1 ↔ (k < 3 ∨ 5 ≤ k ∧ k ≤ 7)) ∧ (A = 2 ↔ (8 ≤ k ∧ k ≤ 11)) ∧ ((k = 0 ∨ 3 ≤ k ∧ k ≤ 6) ∧ B = (if k = 4 then 8 else 9) ∨ ¬ (k = 0 ∨ 3 ≤ k ∧ k ≤ 6) ∧ B = -1) := by
    match k, hk with
    | 0, _ => exact ⟨1, 9, rfl, rfl, by omega, by omega, by simp⟩
    | 1, _ => exact ⟨1, -1, rfl, rfl, by omega, by omega, by simp⟩
    | 2, _ => exact ⟨1, -1, rfl, rfl, by omega, by omega, by simp⟩
    | 3, _ => exact ⟨0, 9, rfl, rfl, by omega, by omega, by simp⟩
    | 4, _ => exact ⟨0, 8, rfl, rfl, by omega, by omega, by simp⟩
    | 5, _ => exact ⟨1, 9, rfl, rfl, by omega, by omega, by simp⟩
    | 6, _ => exact ⟨1, 9, rfl, rfl, by omega, by omega, by simp⟩
    | 7, _ => exact ⟨1, -1, rfl, rfl, by omega, by omega, by simp⟩
    | 8, _ => exact ⟨2, -1, rfl, rfl, by omega, by omega, by simp⟩
    | 9, _ => exact ⟨2, -1, rfl, rfl, by omega, by omega, by simp⟩
    | 10, _ => exact ⟨2, -1, rfl, rfl, by omega, by omega, by simp⟩
    | 11, _ => exact ⟨2, -1, rfl, rfl, by omega, by omega, by simp⟩
    | 12, _ => exact ⟨0, -1, rfl, rfl, by omega, by omega, by simp⟩
    | k + 13, h => omega
  obtain ⟨A, B, hA, hB, h1, h2, h3⟩ := ht
  unfold isP okS hasPl hasNm inP
  by_cases h4 : k = 4
  · subst h4
    rw [if_pos (show nI 4 = 4 from rfl)]
    rw [if_pos rfl] at h3
    simp only [Int32.lt_iff_toInt_lt, Int32.le_iff_toInt_le, ← Int32.toInt_inj, hA, hB, e, n0, n1, n2, n3, n4, n5, n6, n7, n8, n9, n11, n12]
    omega
  · rw [if_neg (show ¬ nI k = 4 from fun h => h4 (by
      have := congrArg Int32.toInt h
      rw [e, n4] at this
      omega))]
    rw [if_neg h4] at h3
    simp only [Int32.lt_iff_toInt_lt, Int32.le_iff_toInt_le, ← Int32.toInt_inj, hA, hB, e, n0, n1, n2, n3, n4, n5, n6, n7, n8, n9, n11, n12]
    omega
theorem is_ok {x a v : Int32} : isQ x a v ↔ okS x a v := by
  constructor
  · rintro ⟨k, hk, rfl, hP⟩
    exact (is_eq hk a v).mp hP
  · intro h
    have h0 := h.1
    unfold inP at h0
    simp only [Int32.le_iff_toInt_le] at h0
    have n0 : (0 : Int32).toInt = 0 := rfl
    have n12 : (12 : Int32).toInt = 12 := rfl
    obtain ⟨k, hk, rfl⟩ := nat_of (x := x) (b := 12) (by omega) (by omega)
    exact ⟨k, by omega, rfl, (is_eq (by omega) a v).mpr h⟩
end TZ
