/-! the class's isStatement, as a function -/
section SZ
variable {θ : Th} {L : Nat} {xs : Nat → Int32} {S : Nat → pm_E} {n : Nat}
theorem in_k {k : Nat} (hk : k < 13) : (0 : Int32) ≤ nI k ∧ nI k < 13 := by
  have e := nI_toInt (n := k) (by omega)
  have e0 : (0 : Int32).toInt = 0 := rfl
  have e13 : (13 : Int32).toInt = 13 := rfl
  simp only [Int32.lt_iff_toInt_lt, Int32.le_iff_toInt_le]
  omega
theorem c_of {k : Nat} (hk : k < 13) : PM (j_SL L) (j_SV xs) j_EX mm_X11_operandOf [.int (nI k)] S n (fun r S' n' => S = S' ∧ n = n' ∧ r = some (.int (jv0.getD k 0))) := by
  change PQ (j_SL L) (j_SV xs) j_EX mm_X11_operandOf 0 [.int (nI k)] [] S n 0 0 _
  refine q_iload_n rfl rfl rfl ?_
  refine q_bipush rfl rfl ?_
  refine q_cS rfl rfl (Or.inl rfl) rfl rfl trivial rfl rfl rfl rfl rfl c_wi ?_
  rintro r _ _ ⟨rfl, rfl, ⟨q, -⟩ | ⟨-, rfl⟩⟩
  · exact (c_out q (in_k hk)).elim
  show PQ (j_SL L) (j_SV xs) j_EX mm_X11_operandOf 6 _ [.int 1] S n 0 0 _
  refine q_ifeq rfl rfl (fun c => absurd c (by decide)) (fun _ => ?_)
  refine q_gets rfl rfl ?_
  refine q_iload_n rfl rfl rfl ?_
  refine q_ialdF rfl rfl (q_inN (m := 13) hk (by decide)) ?_
  refine q_goto rfl ?_
  refine q_iret rfl rfl trivial ⟨rfl, rfl, ?_⟩
  rw [nI_clamp (by omega)]
  rfl
theorem c_tp {k : Nat} (hk : k < 13) : PM (j_SL L) (j_SV xs) j_EX mm_X11_topOf [.int (nI k)] S n (fun r S' n' => S = S' ∧ n = n' ∧ r = some (.int (jv1.getD k 0))) := by
  change PQ (j_SL L) (j_SV xs) j_EX mm_X11_topOf 0 [.int (nI k)] [] S n 0 0 _
  refine q_iload_n rfl rfl rfl ?_
  refine q_bipush rfl rfl ?_
  refine q_cS rfl rfl (Or.inl rfl) rfl rfl trivial rfl rfl rfl rfl rfl c_wi ?_
  rintro r _ _ ⟨rfl, rfl, ⟨q, -⟩ | ⟨-, rfl⟩⟩
  · exact (c_out q (in_k hk)).elim
  show PQ (j_SL L) (j_SV xs) j_EX mm_X11_topOf 6 _ [.int 1] S n 0 0 _
  refine q_ifeq rfl rfl (fun c => absurd c (by decide)) (fun _ => ?_)
  refine q_gets rfl rfl ?_
  refine q_iload_n rfl rfl rfl ?_
  refine q_ialdF rfl rfl (q_inN (m := 13) hk (by decide)) ?_
  refine q_goto rfl ?_
  refine q_iret rfl rfl trivial ⟨rfl, rfl, ?_⟩
  rw [nI_clamp (by omega)]
  rfl
def isP (k : Nat) (a v : Int32) : Prop := (jv0.getD k 0 = 1 → 0 ≤ a ∧ a < 4) ∧ (jv0.getD k 0 = 2 → 0 ≤ a ∧ a < 3) ∧ (jv1.getD k 0 < 0 ∨ (0 ≤ v ∧ v ≤ jv1.getD k 0))
def isQ (x a v : Int32) : Prop := ∃ k : Nat, k < 13 ∧ x = nI k ∧ isP k a v
set_option maxHeartbeats 4000000 in
theorem c_is {x a v : Int32} : PM (j_SL L) (j_SV xs) j_EX mm_X11_isStatement [.int x, .int a, .int v] S n (fun r S' n' => S = S' ∧ n = n' ∧ ((¬ isQ x a v ∧ r = some (.int 0)) ∨ (isQ x a v ∧ r = some (.int 1)))) := by
  change PQ (j_SL L) (j_SV xs) j_EX mm_X11_isStatement 0 [.int x, .int a, .int v, pm_un, pm_un] [] S n 0 0 _
  refine q_iload_n rfl rfl rfl ?_
  refine q_bipush rfl rfl ?_
  refine q_cS rfl rfl (Or.inl rfl) rfl rfl trivial rfl rfl rfl rfl rfl c_wi ?_
  rintro r _ _ ⟨rfl, rfl, ⟨q, rfl⟩ | ⟨q, rfl⟩⟩
  · show PQ (j_SL L) (j_SV xs) j_EX mm_X11_isStatement 6 _ [.int 0] S n 0 0 _
    refine q_ifne rfl rfl (fun _ => ?_) (fun c => absurd rfl c)
    refine q_iconst rfl rfl ?_
    exact q_iret rfl rfl rfl ⟨rfl, rfl, Or.inl ⟨fun ⟨k, hk, e, _⟩ => c_out q (e ▸ in_k hk), rfl⟩⟩
  show PQ (j_SL L) (j_SV xs) j_EX mm_X11_isStatement 6 _ [.int 1] S n 0 0 _
  refine q_ifne rfl rfl (fun c => absurd c (by decide)) (fun _ => ?_)
  obtain ⟨k, hk13, rfl⟩ : ∃ k : Nat, k < 13 ∧ x = nI k := by
    have e0 : (0 : Int32).toInt = 0 := rfl
    have e13 : (13 : Int32).toInt = 13 := rfl
    simp only [Int32.lt_iff_toInt_lt, Int32.le_iff_toInt_le] at q
    obtain ⟨k, hk, e⟩ := nat_of (x := x) (b := 12) (by omega) (by omega)
    exact ⟨k, by omega, e⟩
  have inj : ∀ {a v : Int32}, isQ (nI k) a v → isP k a v := fun {a v} h => by
    obtain ⟨k', hk', e, hP⟩ := h
    have := congrArg Int32.toInt e
    rw [nI_toInt (by omega), nI_toInt (by omega)] at this
    have e2 : k = k' := by omega
    subst e2
    exact hP
  refine q_iload_n rfl rfl rfl ?_
  refine q_cS rfl rfl (Or.inl rfl) rfl rfl trivial rfl rfl rfl rfl rfl (c_of hk13) ?_
  rintro r _ _ ⟨rfl, rfl, rfl⟩
  show PQ (j_SL L) (j_SV xs) j_EX mm_X11_isStatement 15 _ [.int (jv0.getD k 0)] S n 0 0 _
  refine q_ist3n rfl rfl rfl rfl ?_
  have s46 : (jv0.getD k 0 = 1 → 0 ≤ a ∧ a < 4) → (jv0.getD k 0 = 2 → 0 ≤ a ∧ a < 3) → PQ (j_SL L) (j_SV xs) j_EX mm_X11_isStatement 46 [.int (nI k), .int a, .int v, .int (jv0.getD k 0), pm_un] [] S n 0 0 (fun r S' n' => S = S' ∧ n = n' ∧ ((¬ isQ (nI k) a v ∧ r = some (.int 0)) ∨ (isQ (nI k) a v ∧ r = some (.int 1)))) := by
    intro p1 p2
    refine q_iload_n rfl rfl rfl ?_
    refine q_cS rfl rfl (Or.inl rfl) rfl rfl trivial rfl rfl rfl rfl rfl (c_tp hk13) ?_
    rintro r _ _ ⟨rfl, rfl, rfl⟩
    show PQ (j_SL L) (j_SV xs) j_EX mm_X11_isStatement 50 _ [.int (jv1.getD k 0)] S n 0 0 _
    refine q_ist4 rfl rfl rfl rfl ?_
    refine q_iload rfl rfl rfl ?_
    refine q_iflt rfl rfl (fun c1 => ?_) (fun c1 => ?_)
    · refine q_iconst rfl rfl ?_
      refine q_goto rfl ?_
      exact q_iret rfl rfl rfl ⟨rfl, rfl, Or.inr ⟨⟨k, hk13, rfl, p1, p2, Or.inl c1⟩, rfl⟩⟩
    refine q_iload_n rfl rfl rfl ?_
    refine q_iflt rfl rfl (fun c2 => ?_) (fun c2 => ?_)
    · refine q_iconst rfl rfl ?_
      exact q_iret rfl rfl rfl ⟨rfl, rfl, Or.inl ⟨fun h => (inj h).2.2.elim c1 (fun h9 => i_ab c2 h9.1), rfl⟩⟩
    refine q_iload_n rfl rfl rfl ?_
    refine q_iload rfl rfl rfl ?_
    refine q_icgt rfl rfl (fun c3 => ?_) (fun c3 => ?_)
    · refine q_iconst rfl rfl ?_
      exact q_iret rfl rfl rfl ⟨rfl, rfl, Or.inl ⟨fun h => (inj h).2.2.elim c1 (fun h9 => i_ab2 h9.2 c3), rfl⟩⟩
    refine q_iconst rfl rfl ?_
    refine q_goto rfl ?_
    exact q_iret rfl rfl rfl ⟨rfl, rfl, Or.inr ⟨⟨k, hk13, rfl, p1, p2, Or.inr ⟨i_nlt c2, i_nlt c3⟩⟩, rfl⟩⟩
  have s31 : (jv0.getD k 0 = 1 → 0 ≤ a ∧ a < 4) → PQ (j_SL L) (j_SV xs) j_EX mm_X11_isStatement 31 [.int (nI k), .int a, .int v, .int (jv0.getD k 0), pm_un] [] S n 0 0 (fun r S' n' => S = S' ∧ n = n' ∧ ((¬ isQ (nI k) a v ∧ r = some (.int 0)) ∨ (isQ (nI k) a v ∧ r = some (.int 1)))) := by
    intro p1
    refine q_iload_n rfl rfl rfl ?_
    refine q_iconst rfl rfl ?_
    refine q_icne rfl rfl (fun c2 => ?_) (fun c2 => s46 p1 (fun h => absurd h c2))
    refine q_iload_n rfl rfl rfl ?_
    refine q_iconst rfl rfl ?_
    refine q_cS rfl rfl (Or.inl rfl) rfl rfl trivial rfl rfl rfl rfl rfl c_wi ?_
    rintro r _ _ ⟨rfl, rfl, ⟨q, rfl⟩ | ⟨q, rfl⟩⟩
    · show PQ (j_SL L) (j_SV xs) j_EX mm_X11_isStatement 41 _ [.int 0] S n 0 0 _
      refine q_ifne rfl rfl (fun _ => ?_) (fun c => absurd rfl c)
      refine q_iconst rfl rfl ?_
      exact q_iret rfl rfl rfl ⟨rfl, rfl, Or.inl ⟨fun h => c_out q ((inj h).2.1 c2), rfl⟩⟩
    show PQ (j_SL L) (j_SV xs) j_EX mm_X11_isStatement 41 _ [.int 1] S n 0 0 _
    exact q_ifne rfl rfl (fun c => absurd c (by decide)) (fun _ => s46 p1 (fun _ => q))
  refine q_iload_n rfl rfl rfl ?_
  refine q_iconst rfl rfl ?_
  refine q_icne rfl rfl (fun c1 => ?_) (fun c1 => s31 (fun h => absurd h c1))
  refine q_iload_n rfl rfl rfl ?_
  refine q_iconst rfl rfl ?_
  refine q_cS rfl rfl (Or.inl rfl) rfl rfl trivial rfl rfl rfl rfl rfl c_wi ?_
  rintro r _ _ ⟨rfl, rfl, ⟨q, rfl⟩ | ⟨q, rfl⟩⟩
  · show PQ (j_SL L) (j_SV xs) j_EX mm_X11_isStatement 26 _ [.int 0] S n 0 0 _
    refine q_ifne rfl rfl (fun _ => ?_) (fun c => absurd rfl c)
    refine q_iconst rfl rfl ?_
    exact q_iret rfl rfl rfl ⟨rfl, rfl, Or.inl ⟨fun h => c_out q ((inj h).1 c1), rfl⟩⟩
  show PQ (j_SL L) (j_SV xs) j_EX mm_X11_isStatement 26 _ [.int 1] S n 0 0 _
  exact q_ifne rfl rfl (fun c => absurd c (by decide)) (fun _ => s31 (fun _ => q))
end SZ
