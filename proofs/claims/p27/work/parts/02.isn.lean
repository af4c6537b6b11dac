def pm_isN : Cond → Bool
  | .fieldLinkNest _ _ _ _ _ _ => true
  | .methodLinkNest _ _ _ _ => true
  | .castable _ _ => true
  | _ => false
theorem pm_in_of {i : Int32} {n : Nat} (h : vp_in i n) : pm_inb i n = true := by
  unfold pm_inb
  rw [Bool.and_eq_true]
  refine ⟨?_, Nat.ble_eq_true_of_le (Nat.not_le.mp fun q => h (Or.inr q))⟩
  rw [decide_eq_false (fun q => h (Or.inl q))]; rfl
