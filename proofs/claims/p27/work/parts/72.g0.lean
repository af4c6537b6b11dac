/-! the invariant at the law's first call -/
section G0
variable {S : Nat → pm_E}
theorem ia_0 {t m : Nat} {cls : List (Nat × Int × Int)} (hb : cls.all (fun q => decide (q.2.1 ≤ 0) && decide (0 ≤ q.2.2)) = true) (hc : Nat.ble 1 cls.length = true) : ck_cell (0, t, m, cls) (.inl (t, m, .inl (fun _ => 0))) := by
  refine ⟨_, rfl, fun i _ => ?_⟩
  have h1 : i % cls.length < cls.length := Nat.mod_lt _ (Nat.le_of_ble_eq_true hc)
  have h2 := List.all_eq_true.mp hb _ (List.getElem_mem h1)
  rw [Bool.and_eq_true] at h2
  exact ⟨_, List.getElem?_eq_getElem h1, of_decide_eq_true h2.1, of_decide_eq_true h2.2⟩
theorem ia_1 {t m : Nat} {q : Nat × Int × Int} {f : Nat → Int32} (hb : ∀ i, q.2.1 ≤ (f i).toInt ∧ (f i).toInt ≤ q.2.2) : ck_cell (0, t, m, [q]) (.inl (t, m, .inl f)) := ⟨f, rfl, fun i _ => ⟨q, by show [q][i % 1]? = _; rw [Nat.mod_one]; rfl, (hb i).1, (hb i).2⟩⟩
theorem ia_d {t m : Nat} {cls : List (Nat × Int × Int)} {f : Nat → Int32} (hb : (List.range m).all (fun i => match cls[i % cls.length]? with
  | some q => decide (q.2.1 ≤ (f i).toInt) && decide ((f i).toInt ≤ q.2.2)
  | none => false) = true) : ck_cell (0, t, m, cls) (.inl (t, m, .inl f)) := by
  refine ⟨f, rfl, fun i hi => ?_⟩
  have h := List.all_eq_true.mp hb i (List.mem_range.mpr hi)
  split at h
  · rename_i q e
    rw [Bool.and_eq_true] at h
    exact ⟨q, e, of_decide_eq_true h.1, of_decide_eq_true h.2⟩
  · cases h
def ioF (q : Nat × Int × Int) (w : Value) : Bool := match q.1, w with
  | 0, .int x => decide (q.2.1 ≤ x.toInt) && decide (x.toInt ≤ q.2.2)
  | 1, .ref k => Nat.beq k q.2.1.toNat
  | 3, .long _ => true
  | _, _ => false
theorem ioF_ok {q : Nat × Int × Int} {w : Value} (h : ioF q w = true) : ck_fo q w := by
  unfold ioF at h
  unfold ck_fo
  split at h
  · rename_i e
    rw [e]
    rw [Bool.and_eq_true] at h
    exact ⟨_, rfl, of_decide_eq_true h.1, of_decide_eq_true h.2⟩
  · rename_i e
    rw [e, Nat.eq_of_beq_eq_true h]
    exact (rfl : Value.ref _ = Value.ref _)
  · rename_i e
    rw [e]
    exact ⟨_, rfl⟩
  · cases h
def ioK : List (Nat × Int × Int) → List Value → Bool
  | [], _ => true
  | q :: l, w :: fs => ioF q w && ioK l fs
  | _ :: _, [] => false
theorem ioK_ok : ∀ (l : List (Nat × Int × Int)) (fs : List Value), ioK l fs = true → ∀ (b : Nat) (q : Nat × Int × Int), l[b]? = some q → ∃ w, fs[b]? = some w ∧ ck_fo q w
  | [], _, _, b, q, h => by simp at h
  | q0 :: l, w :: fs, h, 0, q, hq => by
    rw [ioK, Bool.and_eq_true] at h
    cases hq
    exact ⟨w, rfl, ioF_ok h.1⟩
  | q0 :: l, w :: fs, h, b + 1, q, hq => by
    rw [ioK, Bool.and_eq_true] at h
    rw [List.getElem?_cons_succ] at hq
    obtain ⟨w', h1, h2⟩ := ioK_ok l fs h.2 b q hq
    exact ⟨w', by rw [List.getElem?_cons_succ]; exact h1, h2⟩
  | _ :: _, [], h, _, _, _ => by cases h
theorem io_1 {ci m : Nat} {l : List (Nat × Int × Int)} {fs : List Value} (h : ioK l fs = true) : ck_cell (1, ci, m, l) (.inr (ci, fs)) := ⟨fs, rfl, ioK_ok l fs h⟩
theorem i0_0 (h : FW S) : ck_cell (jga 0) (S 0) := by
  rw [FW_0 S h]
  exact (io_1 rfl : ck_cell (1, 9, 0, [(1, 1, 0), (1, 7, 0), (1, 8, 0), (1, 16, 0), (1, 24, 0), (1, 32, 0), (1, 42, 0), (1, 43, 0), (1, 44, 0), (1, 45, 0), (0, 0, 1), (3, 0, 0)]) (.inr (9, [.ref 1, .ref 7, .ref 8, .ref 16, .ref 24, .ref 32, .ref 42, .ref 43, .ref 44, .ref 45, .int 0, .long 0])))
theorem i0_1 (h : FW S) : ck_cell (jga 1) (S 1) := by
  rw [FW_1 S h]
  exact (io_1 rfl : ck_cell (1, 6, 0, [(0, 1, 3), (1, 2, 0), (1, 3, 0), (1, 4, 0), (1, 5, 0), (1, 6, 0)]) (.inr (6, [.int 1, .ref 2, .ref 3, .ref 4, .ref 5, .ref 6])))
theorem i0_2 (h : FW S) : ck_cell (jga 2) (S 2) := by
  rw [FW_2 S h]
  exact (ia_0 rfl rfl : ck_cell (0, 0, 4, [(0, (-2147483648), 2147483647)]) (.inl (0, 4, .inl (fun _ => 0))))
theorem i0_3 (h : FW S) : ck_cell (jga 3) (S 3) := by
  rw [FW_3 S h]
  exact (ia_0 rfl rfl : ck_cell (0, 0, 3, [(0, 0, 8)]) (.inl (0, 3, .inl (fun _ => 0))))
theorem i0_4 (h : FW S) : ck_cell (jga 4) (S 4) := by
  rw [FW_4 S h]
  exact (ia_0 rfl rfl : ck_cell (0, 0, 24, [(0, (-2147483648), 2147483647)]) (.inl (0, 24, .inl (fun _ => 0))))
theorem i0_5 (h : FW S) : ck_cell (jga 5) (S 5) := by
  rw [FW_5 S h]
  exact (ia_0 rfl rfl : ck_cell (0, 0, 24, [(0, (-2147483648), 2147483647)]) (.inl (0, 24, .inl (fun _ => 0))))
theorem i0_6 (h : FW S) : ck_cell (jga 6) (S 6) := by
  rw [FW_6 S h]
  exact (ia_0 rfl rfl : ck_cell (0, 0, 24, [(0, (-2147483648), 2147483647)]) (.inl (0, 24, .inl (fun _ => 0))))
theorem i0_7 (h : FW S) : ck_cell (jga 7) (S 7) := by
  rw [FW_7 S h]
  exact (io_1 rfl : ck_cell (1, 4, 0, [(1, 1, 0), (0, (-2147483648), 2147483647)]) (.inr (4, [.ref 1, .int 0])))
theorem i0_8 (h : FW S) : ck_cell (jga 8) (S 8) := by
  rw [FW_8 S h]
  exact (io_1 rfl : ck_cell (1, 5, 0, [(0, 0, 2000), (0, 0, 1), (0, 0, 1), (3, 0, 0), (1, 9, 0), (1, 10, 0), (1, 11, 0), (1, 12, 0), (1, 13, 0), (1, 14, 0), (1, 15, 0)]) (.inr (5, [.int 0, .int 0, .int 0, .long 0, .ref 9, .ref 10, .ref 11, .ref 12, .ref 13, .ref 14, .ref 15])))
theorem i0_9 (h : FW S) : ck_cell (jga 9) (S 9) := by
  rw [FW_9 S h]
  exact (⟨_, rfl⟩ : ck_cell (2, 1, 2000, []) (.inl (1, 2000, .inr (.inl (fun _ => 0)))))
theorem i0_10 (h : FW S) : ck_cell (jga 10) (S 10) := by
  rw [FW_10 S h]
  exact (ia_0 rfl rfl : ck_cell (0, 0, 2000, [(0, (-2147483648), 2147483647)]) (.inl (0, 2000, .inl (fun _ => 0))))
theorem i0_11 (h : FW S) : ck_cell (jga 11) (S 11) := by
  rw [FW_11 S h]
  exact (ia_0 rfl rfl : ck_cell (0, 0, 2000, [(0, (-2147483648), 2147483647)]) (.inl (0, 2000, .inl (fun _ => 0))))
theorem i0_12 (h : FW S) : ck_cell (jga 12) (S 12) := by
  rw [FW_12 S h]
  exact (ia_0 rfl rfl : ck_cell (0, 0, 2000, [(0, (-2147483648), 2147483647)]) (.inl (0, 2000, .inl (fun _ => 0))))
theorem i0_13 (h : FW S) : ck_cell (jga 13) (S 13) := by
  rw [FW_13 S h]
  exact (ia_0 rfl rfl : ck_cell (0, 0, 6000, [(0, (-2147483648), 2147483647)]) (.inl (0, 6000, .inl (fun _ => 0))))
theorem i0_14 (h : FW S) : ck_cell (jga 14) (S 14) := by
  rw [FW_14 S h]
  exact (ia_0 rfl rfl : ck_cell (0, 0, 4096, [(0, 0, 2000)]) (.inl (0, 4096, .inl (fun _ => 0))))
theorem i0_15 (h : FW S) : ck_cell (jga 15) (S 15) := by
  rw [FW_15 S h]
  exact (ia_0 rfl rfl : ck_cell (0, 0, 2000, [(0, 0, 4095)]) (.inl (0, 2000, .inl (fun _ => 0))))
theorem i0_16 (h : FW S) : ck_cell (jga 16) (S 16) := by
  rw [FW_16 S h]
  exact (io_1 rfl : ck_cell (1, 5, 0, [(0, 0, 2000), (0, 0, 1), (0, 0, 1), (3, 0, 0), (1, 17, 0), (1, 18, 0), (1, 19, 0), (1, 20, 0), (1, 21, 0), (1, 22, 0), (1, 23, 0)]) (.inr (5, [.int 0, .int 0, .int 0, .long 0, .ref 17, .ref 18, .ref 19, .ref 20, .ref 21, .ref 22, .ref 23])))
theorem i0_17 (h : FW S) : ck_cell (jga 17) (S 17) := by
  rw [FW_17 S h]
  exact (⟨_, rfl⟩ : ck_cell (2, 1, 2000, []) (.inl (1, 2000, .inr (.inl (fun _ => 0)))))
theorem i0_18 (h : FW S) : ck_cell (jga 18) (S 18) := by
  rw [FW_18 S h]
  exact (ia_0 rfl rfl : ck_cell (0, 0, 2000, [(0, (-2147483648), 2147483647)]) (.inl (0, 2000, .inl (fun _ => 0))))
theorem i0_19 (h : FW S) : ck_cell (jga 19) (S 19) := by
  rw [FW_19 S h]
  exact (ia_0 rfl rfl : ck_cell (0, 0, 2000, [(0, (-2147483648), 2147483647)]) (.inl (0, 2000, .inl (fun _ => 0))))
theorem i0_20 (h : FW S) : ck_cell (jga 20) (S 20) := by
  rw [FW_20 S h]
  exact (ia_0 rfl rfl : ck_cell (0, 0, 2000, [(0, (-2147483648), 2147483647)]) (.inl (0, 2000, .inl (fun _ => 0))))
theorem i0_21 (h : FW S) : ck_cell (jga 21) (S 21) := by
  rw [FW_21 S h]
  exact (ia_0 rfl rfl : ck_cell (0, 0, 6000, [(0, (-2147483648), 2147483647)]) (.inl (0, 6000, .inl (fun _ => 0))))
theorem i0_22 (h : FW S) : ck_cell (jga 22) (S 22) := by
  rw [FW_22 S h]
  exact (ia_0 rfl rfl : ck_cell (0, 0, 4096, [(0, 0, 2000)]) (.inl (0, 4096, .inl (fun _ => 0))))
theorem i0_23 (h : FW S) : ck_cell (jga 23) (S 23) := by
  rw [FW_23 S h]
  exact (ia_0 rfl rfl : ck_cell (0, 0, 2000, [(0, 0, 4095)]) (.inl (0, 2000, .inl (fun _ => 0))))
theorem i0_24 (h : FW S) : ck_cell (jga 24) (S 24) := by
  rw [FW_24 S h]
  exact (io_1 rfl : ck_cell (1, 3, 0, [(1, 25, 0), (1, 26, 0), (1, 27, 0), (1, 28, 0), (1, 29, 0), (1, 30, 0), (1, 31, 0), (0, 0, 2000), (0, 0, 2000), (0, (-2147483648), 2147483647)]) (.inr (3, [.ref 25, .ref 26, .ref 27, .ref 28, .ref 29, .ref 30, .ref 31, .int 0, .int 0, .int 0])))
theorem i0_25 (h : FW S) : ck_cell (jga 25) (S 25) := by
  rw [FW_25 S h]
  exact (ia_0 rfl rfl : ck_cell (0, 0, 2000, [(0, (-2147483648), 2147483647)]) (.inl (0, 2000, .inl (fun _ => 0))))
theorem i0_26 (h : FW S) : ck_cell (jga 26) (S 26) := by
  rw [FW_26 S h]
  exact (ia_0 rfl rfl : ck_cell (0, 0, 2000, [(0, (-2147483648), 2147483647)]) (.inl (0, 2000, .inl (fun _ => 0))))
theorem i0_27 (h : FW S) : ck_cell (jga 27) (S 27) := by
  rw [FW_27 S h]
  exact (ia_0 rfl rfl : ck_cell (0, 0, 2000, [(0, (-2147483648), 2147483647)]) (.inl (0, 2000, .inl (fun _ => 0))))
theorem i0_28 (h : FW S) : ck_cell (jga 28) (S 28) := by
  rw [FW_28 S h]
  exact (ia_0 rfl rfl : ck_cell (0, 0, 2000, [(0, 0, 1999)]) (.inl (0, 2000, .inl (fun _ => 0))))
theorem i0_29 (h : FW S) : ck_cell (jga 29) (S 29) := by
  rw [FW_29 S h]
  exact (ia_0 rfl rfl : ck_cell (0, 0, 2000, [(0, 0, 1999)]) (.inl (0, 2000, .inl (fun _ => 0))))
theorem i0_30 (h : FW S) : ck_cell (jga 30) (S 30) := by
  rw [FW_30 S h]
  exact (ia_0 rfl rfl : ck_cell (0, 2, 2000, [(0, 0, 1)]) (.inl (2, 2000, .inl (fun _ => 0))))
theorem i0_31 (h : FW S) : ck_cell (jga 31) (S 31) := by
  rw [FW_31 S h]
  exact (ia_0 rfl rfl : ck_cell (0, 2, 2000, [(0, 0, 1)]) (.inl (2, 2000, .inl (fun _ => 0))))
theorem i0_32 (h : FW S) : ck_cell (jga 32) (S 32) := by
  rw [FW_32 S h]
  exact (io_1 rfl : ck_cell (1, 0, 0, [(0, 0, 1), (0, 0, 1), (1, 1, 0), (1, 16, 0), (1, 33, 0), (1, 39, 0), (1, 40, 0), (1, 41, 0)]) (.inr (0, [.int 0, .int 1, .ref 1, .ref 16, .ref 33, .ref 39, .ref 40, .ref 41])))
theorem i0_33 (h : FW S) : ck_cell (jga 33) (S 33) := by
  rw [FW_33 S h]
  exact (io_1 rfl : ck_cell (1, 6, 0, [(0, 1, 3), (1, 34, 0), (1, 35, 0), (1, 36, 0), (1, 37, 0), (1, 38, 0)]) (.inr (6, [.int 1, .ref 34, .ref 35, .ref 36, .ref 37, .ref 38])))
theorem i0_34 (h : FW S) : ck_cell (jga 34) (S 34) := by
  rw [FW_34 S h]
  exact (ia_0 rfl rfl : ck_cell (0, 0, 4, [(0, (-2147483648), 2147483647)]) (.inl (0, 4, .inl (fun _ => 0))))
theorem i0_35 (h : FW S) : ck_cell (jga 35) (S 35) := by
  rw [FW_35 S h]
  exact (ia_0 rfl rfl : ck_cell (0, 0, 3, [(0, 0, 8)]) (.inl (0, 3, .inl (fun _ => 0))))
theorem i0_36 (h : FW S) : ck_cell (jga 36) (S 36) := by
  rw [FW_36 S h]
  exact (ia_0 rfl rfl : ck_cell (0, 0, 24, [(0, (-2147483648), 2147483647)]) (.inl (0, 24, .inl (fun _ => 0))))
theorem i0_37 (h : FW S) : ck_cell (jga 37) (S 37) := by
  rw [FW_37 S h]
  exact (ia_0 rfl rfl : ck_cell (0, 0, 24, [(0, (-2147483648), 2147483647)]) (.inl (0, 24, .inl (fun _ => 0))))
theorem i0_38 (h : FW S) : ck_cell (jga 38) (S 38) := by
  rw [FW_38 S h]
  exact (ia_0 rfl rfl : ck_cell (0, 0, 24, [(0, (-2147483648), 2147483647)]) (.inl (0, 24, .inl (fun _ => 0))))
theorem i0_39 (h : FW S) : ck_cell (jga 39) (S 39) := by
  rw [FW_39 S h]
  exact (io_1 rfl : ck_cell (1, 4, 0, [(1, 33, 0), (0, (-2147483648), 2147483647)]) (.inr (4, [.ref 33, .int 0])))
theorem i0_40 (h : FW S) : ck_cell (jga 40) (S 40) := by
  rw [FW_40 S h]
  exact (ia_0 rfl rfl : ck_cell (0, 0, 2, [(0, 0, 10)]) (.inl (0, 2, .inl (fun _ => 0))))
theorem i0_41 (h : FW S) : ck_cell (jga 41) (S 41) := by
  rw [FW_41 S h]
  exact (⟨_, rfl⟩ : ck_cell (2, 1, 363, []) (.inl (1, 363, .inr (.inl (fun _ => 0)))))
theorem i0_42 (h : FW S) : ck_cell (jga 42) (S 42) := by
  rw [FW_42 S h]
  exact (io_1 rfl : ck_cell (1, 1, 0, [(3, 0, 0), (3, 0, 0)]) (.inr (1, [.long 0, .long 0])))
theorem i0_44 (h : FW S) : ck_cell (jga 44) (S 44) := by
  rw [FW_44 S h]
  exact (ia_0 rfl rfl : ck_cell (0, 0, 5, [(0, (-2147483648), 2147483647)]) (.inl (0, 5, .inl (fun _ => 0))))
theorem i0_45 (h : FW S) : ck_cell (jga 45) (S 45) := by
  rw [FW_45 S h]
  exact (⟨_, rfl⟩ : ck_cell (2, 1, 5, []) (.inl (1, 5, .inr (.inl (fun _ => 0)))))
theorem i0_46 (h : FW S) : ck_cell (jga 46) (S 46) := by
  rw [FW_46 S h]
  exact (io_1 rfl : ck_cell (1, 10, 2, [(0, (-2147483648), 2147483647), (0, 1, 3), (1, 47, 0), (1, 48, 0), (1, 49, 0), (1, 50, 0), (1, 51, 0), (0, 0, 3), (1, 52, 0), (1, 53, 0), (1, 54, 0), (1, 55, 0), (1, 56, 0), (1, 57, 0), (1, 58, 0), (1, 59, 0), (1, 60, 0), (1, 61, 0), (0, 0, 1), (1, 62, 0), (1, 63, 0), (1, 64, 0), (1, 65, 0), (1, 66, 0), (1, 67, 0), (1, 68, 0), (1, 69, 0), (1, 70, 0), (1, 71, 0), (0, (-2147483648), 2147483647), (1, 72, 0), (1, 73, 0), (0, 0, 1), (1, 74, 0), (0, (-2147483648), 2147483647), (1, 75, 0), (1, 76, 0), (1, 77, 0), (1, 78, 0), (1, 79, 0), (1, 80, 0)]) (.inr (10, [.int 0, .int 1, .ref 47, .ref 48, .ref 49, .ref 50, .ref 51, .int 0, .ref 52, .ref 53, .ref 54, .ref 55, .ref 56, .ref 57, .ref 58, .ref 59, .ref 60, .ref 61, .int 0, .ref 62, .ref 63, .ref 64, .ref 65, .ref 66, .ref 67, .ref 68, .ref 69, .ref 70, .ref 71, .int 0, .ref 72, .ref 73, .int 0, .ref 74, .int 0, .ref 75, .ref 76, .ref 77, .ref 78, .ref 79, .ref 80])))
theorem i0_47 (h : FW S) : ck_cell (jga 47) (S 47) := by
  rw [FW_47 S h]
  exact (ia_0 rfl rfl : ck_cell (0, 0, 6, [(1, 0, 8), (1, 0, 8), (1, 0, 8), (1, 0, 12), (1, 0, 12), (1, 0, 12)]) (.inl (0, 6, .inl (fun _ => 0))))
theorem i0_48 (h : FW S) : ck_cell (jga 48) (S 48) := by
  rw [FW_48 S h]
  exact (ia_0 rfl rfl : ck_cell (0, 0, 48, [(1, (-2147483648), 2147483647)]) (.inl (0, 48, .inl (fun _ => 0))))
theorem i0_49 (h : FW S) : ck_cell (jga 49) (S 49) := by
  rw [FW_49 S h]
  exact (ia_0 rfl rfl : ck_cell (0, 0, 48, [(1, (-2147483648), 2147483647)]) (.inl (0, 48, .inl (fun _ => 0))))
theorem i0_50 (h : FW S) : ck_cell (jga 50) (S 50) := by
  rw [FW_50 S h]
  exact (ia_0 rfl rfl : ck_cell (0, 0, 48, [(1, (-2147483648), 2147483647)]) (.inl (0, 48, .inl (fun _ => 0))))
theorem i0_51 (h : FW S) : ck_cell (jga 51) (S 51) := by
  rw [FW_51 S h]
  exact (ia_0 rfl rfl : ck_cell (0, 0, 4, [(0, (-2147483648), 2147483647)]) (.inl (0, 4, .inl (fun _ => 0))))
theorem i0_52 (h : FW S) : ck_cell (jga 52) (S 52) := by
  rw [FW_52 S h]
  exact (ia_d (by decide +kernel) : ck_cell (0, 0, 20, [(0, 0, 11), (0, (-2147483648), 2147483647), (0, (-2147483648), 2147483647), (0, (-2147483648), 2147483647), (0, 0, 11), (0, (-2147483648), 2147483647), (0, (-2147483648), 2147483647), (0, (-2147483648), 2147483647), (0, 0, 11), (0, (-2147483648), 2147483647), (0, (-2147483648), 2147483647), (0, (-2147483648), 2147483647), (0, (-2147483648), 2147483647), (0, (-2147483648), 2147483647), (0, (-2147483648), 2147483647), (0, (-2147483648), 2147483647), (0, (-2147483648), 2147483647), (0, (-2147483648), 2147483647), (0, (-2147483648), 2147483647), (0, 0, 3)]) (.inl (0, 20, .inl fFirst)))
theorem i0_53 (h : FW S) : ck_cell (jga 53) (S 53) := by
  rw [FW_53 S h]
  exact (ia_0 rfl rfl : ck_cell (0, 0, 20, [(0, 0, 11), (0, (-2147483648), 2147483647), (0, (-2147483648), 2147483647), (0, (-2147483648), 2147483647), (0, 0, 11), (0, (-2147483648), 2147483647), (0, (-2147483648), 2147483647), (0, (-2147483648), 2147483647), (0, 0, 11), (0, (-2147483648), 2147483647), (0, (-2147483648), 2147483647), (0, (-2147483648), 2147483647), (0, (-2147483648), 2147483647), (0, (-2147483648), 2147483647), (0, (-2147483648), 2147483647), (0, (-2147483648), 2147483647), (0, (-2147483648), 2147483647), (0, (-2147483648), 2147483647), (0, (-2147483648), 2147483647), (0, 0, 3)]) (.inl (0, 20, .inl (fun _ => 0))))
theorem i0_54 (h : FW S) : ck_cell (jga 54) (S 54) := by
  rw [FW_54 S h]
  exact (ia_d (by decide +kernel) : ck_cell (0, 0, 20, [(0, 0, 11), (0, (-2147483648), 2147483647), (0, (-2147483648), 2147483647), (0, (-2147483648), 2147483647), (0, 0, 11), (0, (-2147483648), 2147483647), (0, (-2147483648), 2147483647), (0, (-2147483648), 2147483647), (0, 0, 11), (0, (-2147483648), 2147483647), (0, (-2147483648), 2147483647), (0, (-2147483648), 2147483647), (0, (-2147483648), 2147483647), (0, (-2147483648), 2147483647), (0, (-2147483648), 2147483647), (0, (-2147483648), 2147483647), (0, (-2147483648), 2147483647), (0, (-2147483648), 2147483647), (0, (-2147483648), 2147483647), (0, 0, 3)]) (.inl (0, 20, .inl fFirst)))
theorem i0_55 (h : FW S) : ck_cell (jga 55) (S 55) := by
  rw [FW_55 S h]
  exact (ia_0 rfl rfl : ck_cell (0, 0, 80000, [(0, 0, 11), (0, (-2147483648), 2147483647), (0, (-2147483648), 2147483647), (0, (-2147483648), 2147483647), (0, 0, 11), (0, (-2147483648), 2147483647), (0, (-2147483648), 2147483647), (0, (-2147483648), 2147483647), (0, 0, 11), (0, (-2147483648), 2147483647), (0, (-2147483648), 2147483647), (0, (-2147483648), 2147483647), (0, (-2147483648), 2147483647), (0, (-2147483648), 2147483647), (0, (-2147483648), 2147483647), (0, (-2147483648), 2147483647), (0, (-2147483648), 2147483647), (0, (-2147483648), 2147483647), (0, (-2147483648), 2147483647), (0, 0, 3)]) (.inl (0, 80000, .inl (fun _ => 0))))
theorem i0_56 (h : FW S) : ck_cell (jga 56) (S 56) := by
  rw [FW_56 S h]
  exact (ia_0 rfl rfl : ck_cell (0, 0, 4000, [(1, (-1), 1999)]) (.inl (0, 4000, .inl (fun _ => 0))))
theorem i0_57 (h : FW S) : ck_cell (jga 57) (S 57) := by
  rw [FW_57 S h]
  exact (ia_0 rfl rfl : ck_cell (0, 0, 4000, [(0, (-2147483648), 2147483647)]) (.inl (0, 4000, .inl (fun _ => 0))))
theorem i0_58 (h : FW S) : ck_cell (jga 58) (S 58) := by
  rw [FW_58 S h]
  exact (ia_0 rfl rfl : ck_cell (0, 0, 4000, [(0, (-2147483648), 2147483647)]) (.inl (0, 4000, .inl (fun _ => 0))))
theorem i0_59 (h : FW S) : ck_cell (jga 59) (S 59) := by
  rw [FW_59 S h]
  exact (ia_0 rfl rfl : ck_cell (0, 0, 12000, [(0, (-1), 1999)]) (.inl (0, 12000, .inl (fun _ => 0))))
theorem i0_60 (h : FW S) : ck_cell (jga 60) (S 60) := by
  rw [FW_60 S h]
  exact (ia_0 rfl rfl : ck_cell (0, 0, 2, [(1, 0, 2000)]) (.inl (0, 2, .inl (fun _ => 0))))
theorem i0_61 (h : FW S) : ck_cell (jga 61) (S 61) := by
  rw [FW_61 S h]
  exact (ia_0 rfl rfl : ck_cell (0, 0, 16384, [(0, (-2147483648), 2147483647)]) (.inl (0, 16384, .inl (fun _ => 0))))
theorem i0_62 (h : FW S) : ck_cell (jga 62) (S 62) := by
  rw [FW_62 S h]
  exact (ia_0 rfl rfl : ck_cell (0, 0, 5, [(0, (-2147483648), 2147483647)]) (.inl (0, 5, .inl (fun _ => 0))))
theorem i0_63 (h : FW S) : ck_cell (jga 63) (S 63) := by
  rw [FW_63 S h]
  exact (ia_0 rfl rfl : ck_cell (0, 0, 5, [(0, (-2147483648), 2147483647)]) (.inl (0, 5, .inl (fun _ => 0))))
theorem i0_64 (h : FW S) : ck_cell (jga 64) (S 64) := by
  rw [FW_64 S h]
  exact (ia_0 rfl rfl : ck_cell (0, 0, 20, [(0, (-2147483648), 2147483647)]) (.inl (0, 20, .inl (fun _ => 0))))
theorem i0_65 (h : FW S) : ck_cell (jga 65) (S 65) := by
  rw [FW_65 S h]
  exact (ia_0 rfl rfl : ck_cell (0, 2, 2000, [(0, 0, 1)]) (.inl (2, 2000, .inl (fun _ => 0))))
theorem i0_66 (h : FW S) : ck_cell (jga 66) (S 66) := by
  rw [FW_66 S h]
  exact (ia_0 rfl rfl : ck_cell (0, 0, 2000, [(0, (-2147483648), 2147483647)]) (.inl (0, 2000, .inl (fun _ => 0))))
theorem i0_67 (h : FW S) : ck_cell (jga 67) (S 67) := by
  rw [FW_67 S h]
  exact (ia_0 rfl rfl : ck_cell (0, 0, 2000, [(0, (-2147483648), 2147483647)]) (.inl (0, 2000, .inl (fun _ => 0))))
theorem i0_68 (h : FW S) : ck_cell (jga 68) (S 68) := by
  rw [FW_68 S h]
  exact (ia_0 rfl rfl : ck_cell (0, 0, 2000, [(0, 0, 1999)]) (.inl (0, 2000, .inl (fun _ => 0))))
theorem i0_69 (h : FW S) : ck_cell (jga 69) (S 69) := by
  rw [FW_69 S h]
  exact (ia_0 rfl rfl : ck_cell (0, 0, 2000, [(0, 0, 1999)]) (.inl (0, 2000, .inl (fun _ => 0))))
theorem i0_70 (h : FW S) : ck_cell (jga 70) (S 70) := by
  rw [FW_70 S h]
  exact (ia_0 rfl rfl : ck_cell (0, 0, 2000, [(0, 0, 3)]) (.inl (0, 2000, .inl (fun _ => 0))))
theorem i0_71 (h : FW S) : ck_cell (jga 71) (S 71) := by
  rw [FW_71 S h]
  exact (ia_0 rfl rfl : ck_cell (0, 2, 2000, [(0, 0, 1)]) (.inl (2, 2000, .inl (fun _ => 0))))
theorem i0_72 (h : FW S) : ck_cell (jga 72) (S 72) := by
  rw [FW_72 S h]
  exact (ia_d (by decide +kernel) : ck_cell (0, 0, 2, [(0, (-2), 3)]) (.inl (0, 2, .inl fM2)))
theorem i0_73 (h : FW S) : ck_cell (jga 73) (S 73) := by
  rw [FW_73 S h]
  exact (ia_d (by decide +kernel) : ck_cell (0, 0, 2, [(0, (-2), 3)]) (.inl (0, 2, .inl fM2)))
theorem i0_74 (h : FW S) : ck_cell (jga 74) (S 74) := by
  rw [FW_74 S h]
  exact (ia_d (by decide +kernel) : ck_cell (0, 0, 40, [(0, (-2), 1)]) (.inl (0, 40, .inl fM40)))
theorem i0_75 (h : FW S) : ck_cell (jga 75) (S 75) := by
  rw [FW_75 S h]
  exact (ia_0 rfl rfl : ck_cell (0, 0, 8, [(0, 0, 4)]) (.inl (0, 8, .inl (fun _ => 0))))
theorem i0_76 (h : FW S) : ck_cell (jga 76) (S 76) := by
  rw [FW_76 S h]
  exact (ia_0 rfl rfl : ck_cell (0, 0, 8, [(0, (-2147483648), 2147483647)]) (.inl (0, 8, .inl (fun _ => 0))))
theorem i0_77 (h : FW S) : ck_cell (jga 77) (S 77) := by
  rw [FW_77 S h]
  exact (ia_0 rfl rfl : ck_cell (0, 0, 8, [(0, (-2147483648), 2147483647)]) (.inl (0, 8, .inl (fun _ => 0))))
theorem i0_78 (h : FW S) : ck_cell (jga 78) (S 78) := by
  rw [FW_78 S h]
  exact (ia_0 rfl rfl : ck_cell (0, 0, 8, [(0, 0, 60)]) (.inl (0, 8, .inl (fun _ => 0))))
theorem i0_79 (h : FW S) : ck_cell (jga 79) (S 79) := by
  rw [FW_79 S h]
  exact (⟨_, rfl⟩ : ck_cell (2, 1, 480, []) (.inl (1, 480, .inr (.inl (fun _ => 0)))))
theorem i0_80 (h : FW S) : ck_cell (jga 80) (S 80) := by
  rw [FW_80 S h]
  exact (⟨_, rfl⟩ : ck_cell (2, 1, 60, []) (.inl (1, 60, .inr (.inl (fun _ => 0)))))
theorem i0_81 (h : FW S) : ck_cell (jga 81) (S 81) := by
  rw [FW_81 S h]
  exact (⟨_, rfl⟩ : ck_cell (2, 1, 1, []) (.inl (1, 1, .inr (.inl (fun _ => 0)))))
def th0 : Th := (fun _ => 0, fun _ => 0, fun _ => 0, fun _ => 0, 1)
theorem gs_init (h : FW S) : GS th0 S 82 := by
  refine ⟨fun k hk => ?_, ?_, ?_, ?_, ?_⟩
  · have hk82 : k < 82 := by
      rcases Nat.lt_or_ge k 82 with h | h
      · exact h
      · rw [xi_82 h] at hk
        cases hk
    refine ⟨S k, hp_get hk82, ?_⟩
    match k, hk82, hk with
    | 0, _, _ => exact i0_0 h
    | 1, _, _ => exact i0_1 h
    | 2, _, _ => exact i0_2 h
    | 3, _, _ => exact i0_3 h
    | 4, _, _ => exact i0_4 h
    | 5, _, _ => exact i0_5 h
    | 6, _, _ => exact i0_6 h
    | 7, _, _ => exact i0_7 h
    | 8, _, _ => exact i0_8 h
    | 9, _, _ => exact i0_9 h
    | 10, _, _ => exact i0_10 h
    | 11, _, _ => exact i0_11 h
    | 12, _, _ => exact i0_12 h
    | 13, _, _ => exact i0_13 h
    | 14, _, _ => exact i0_14 h
    | 15, _, _ => exact i0_15 h
    | 16, _, _ => exact i0_16 h
    | 17, _, _ => exact i0_17 h
    | 18, _, _ => exact i0_18 h
    | 19, _, _ => exact i0_19 h
    | 20, _, _ => exact i0_20 h
    | 21, _, _ => exact i0_21 h
    | 22, _, _ => exact i0_22 h
    | 23, _, _ => exact i0_23 h
    | 24, _, _ => exact i0_24 h
    | 25, _, _ => exact i0_25 h
    | 26, _, _ => exact i0_26 h
    | 27, _, _ => exact i0_27 h
    | 28, _, _ => exact i0_28 h
    | 29, _, _ => exact i0_29 h
    | 30, _, _ => exact i0_30 h
    | 31, _, _ => exact i0_31 h
    | 32, _, _ => exact i0_32 h
    | 33, _, _ => exact i0_33 h
    | 34, _, _ => exact i0_34 h
    | 35, _, _ => exact i0_35 h
    | 36, _, _ => exact i0_36 h
    | 37, _, _ => exact i0_37 h
    | 38, _, _ => exact i0_38 h
    | 39, _, _ => exact i0_39 h
    | 40, _, _ => exact i0_40 h
    | 41, _, _ => exact i0_41 h
    | 42, _, _ => exact i0_42 h
    | 43, _, hk => exact absurd hk (by decide)
    | 44, _, _ => exact i0_44 h
    | 45, _, _ => exact i0_45 h
    | 46, _, _ => exact i0_46 h
    | 47, _, _ => exact i0_47 h
    | 48, _, _ => exact i0_48 h
    | 49, _, _ => exact i0_49 h
    | 50, _, _ => exact i0_50 h
    | 51, _, _ => exact i0_51 h
    | 52, _, _ => exact i0_52 h
    | 53, _, _ => exact i0_53 h
    | 54, _, _ => exact i0_54 h
    | 55, _, _ => exact i0_55 h
    | 56, _, _ => exact i0_56 h
    | 57, _, _ => exact i0_57 h
    | 58, _, _ => exact i0_58 h
    | 59, _, _ => exact i0_59 h
    | 60, _, _ => exact i0_60 h
    | 61, _, _ => exact i0_61 h
    | 62, _, _ => exact i0_62 h
    | 63, _, _ => exact i0_63 h
    | 64, _, _ => exact i0_64 h
    | 65, _, _ => exact i0_65 h
    | 66, _, _ => exact i0_66 h
    | 67, _, _ => exact i0_67 h
    | 68, _, _ => exact i0_68 h
    | 69, _, _ => exact i0_69 h
    | 70, _, _ => exact i0_70 h
    | 71, _, _ => exact i0_71 h
    | 72, _, _ => exact i0_72 h
    | 73, _, _ => exact i0_73 h
    | 74, _, _ => exact i0_74 h
    | 75, _, _ => exact i0_75 h
    | 76, _, _ => exact i0_76 h
    | 77, _, _ => exact i0_77 h
    | 78, _, _ => exact i0_78 h
    | 79, _, _ => exact i0_79 h
    | 80, _, _ => exact i0_80 h
    | 81, _, _ => exact i0_81 h
    | j + 82, h9, _ => omega
  · exact ⟨_, by rw [hp_get (by decide), FW_56 S h], fun i h1 _ => by show (0 : Int) < _; omega⟩
  · exact ⟨_, _, _, by rw [hp_get (by decide), FW_48 S h], by rw [hp_get (by decide), FW_49 S h], by rw [hp_get (by decide), FW_50 S h], fun j _ => ⟨fun _ => ⟨by decide, by decide⟩, fun _ => ⟨by decide, by decide⟩, fun e => absurd e (by decide)⟩⟩
  · exact ⟨_, by rw [hp_get (by decide), FW_43 S h], fun d _ y e => by cases e⟩
  · exact ⟨fun _ => 0, fun _ => 0, fun _ => 0, fun _ => 0, by rw [hp_get (by decide), FW_47 S h], by rw [hp_get (by decide), FW_48 S h], by rw [hp_get (by decide), FW_49 S h], by rw [hp_get (by decide), FW_50 S h], fun _ _ => rfl, fun _ _ => ⟨rfl, rfl, rfl⟩, _, by rw [hp_get (by decide), FW_46 S h], rfl⟩
end G0
