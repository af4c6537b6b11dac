def fFirst : Nat → Int32 := fun j => if j = 0 then 10 else 0
def fM2 : Nat → Int32 := fun j => if j < 2 then -2 else 0
def fM40 : Nat → Int32 := fun j => if j < 40 then -2 else 0
def FW (S : Nat → pm_E) : Prop := S 0 = .inr (9, [.ref 1, .ref 7, .ref 8, .ref 16, .ref 24, .ref 32, .ref 42, .ref 43, .ref 44, .ref 45, .int 0, .long 0]) ∧
  S 1 = .inr (6, [.int 1, .ref 2, .ref 3, .ref 4, .ref 5, .ref 6]) ∧
  S 2 = .inl (0, 4, .inl (fun _ => 0)) ∧
  S 3 = .inl (0, 3, .inl (fun _ => 0)) ∧
  S 4 = .inl (0, 24, .inl (fun _ => 0)) ∧
  S 5 = .inl (0, 24, .inl (fun _ => 0)) ∧
  S 6 = .inl (0, 24, .inl (fun _ => 0)) ∧
  S 7 = .inr (4, [.ref 1, .int 0]) ∧
  S 8 = .inr (5, [.int 0, .int 0, .int 0, .long 0, .ref 9, .ref 10, .ref 11, .ref 12, .ref 13, .ref 14, .ref 15]) ∧
  S 9 = .inl (1, 2000, .inr (.inl (fun _ => 0))) ∧
  S 10 = .inl (0, 2000, .inl (fun _ => 0)) ∧
  S 11 = .inl (0, 2000, .inl (fun _ => 0)) ∧
  S 12 = .inl (0, 2000, .inl (fun _ => 0)) ∧
  S 13 = .inl (0, 6000, .inl (fun _ => 0)) ∧
  S 14 = .inl (0, 4096, .inl (fun _ => 0)) ∧
  S 15 = .inl (0, 2000, .inl (fun _ => 0)) ∧
  S 16 = .inr (5, [.int 0, .int 0, .int 0, .long 0, .ref 17, .ref 18, .ref 19, .ref 20, .ref 21, .ref 22, .ref 23]) ∧
  S 17 = .inl (1, 2000, .inr (.inl (fun _ => 0))) ∧
  S 18 = .inl (0, 2000, .inl (fun _ => 0)) ∧
  S 19 = .inl (0, 2000, .inl (fun _ => 0)) ∧
  S 20 = .inl (0, 2000, .inl (fun _ => 0)) ∧
  S 21 = .inl (0, 6000, .inl (fun _ => 0)) ∧
  S 22 = .inl (0, 4096, .inl (fun _ => 0)) ∧
  S 23 = .inl (0, 2000, .inl (fun _ => 0)) ∧
  S 24 = .inr (3, [.ref 25, .ref 26, .ref 27, .ref 28, .ref 29, .ref 30, .ref 31, .int 0, .int 0, .int 0]) ∧
  S 25 = .inl (0, 2000, .inl (fun _ => 0)) ∧
  S 26 = .inl (0, 2000, .inl (fun _ => 0)) ∧
  S 27 = .inl (0, 2000, .inl (fun _ => 0)) ∧
  S 28 = .inl (0, 2000, .inl (fun _ => 0)) ∧
  S 29 = .inl (0, 2000, .inl (fun _ => 0)) ∧
  S 30 = .inl (2, 2000, .inl (fun _ => 0)) ∧
  S 31 = .inl (2, 2000, .inl (fun _ => 0)) ∧
  S 32 = .inr (0, [.int 0, .int 1, .ref 1, .ref 16, .ref 33, .ref 39, .ref 40, .ref 41]) ∧
  S 33 = .inr (6, [.int 1, .ref 34, .ref 35, .ref 36, .ref 37, .ref 38]) ∧
  S 34 = .inl (0, 4, .inl (fun _ => 0)) ∧
  S 35 = .inl (0, 3, .inl (fun _ => 0)) ∧
  S 36 = .inl (0, 24, .inl (fun _ => 0)) ∧
  S 37 = .inl (0, 24, .inl (fun _ => 0)) ∧
  S 38 = .inl (0, 24, .inl (fun _ => 0)) ∧
  S 39 = .inr (4, [.ref 33, .int 0]) ∧
  S 40 = .inl (0, 2, .inl (fun _ => 0)) ∧
  S 41 = .inl (1, 363, .inr (.inl (fun _ => 0))) ∧
  S 42 = .inr (1, [.long 0, .long 0]) ∧
  S 43 = .inl (4, 8, .inr (.inr (.inr (.inr (fun _ => none))))) ∧
  S 44 = .inl (0, 5, .inl (fun _ => 0)) ∧
  S 45 = .inl (1, 5, .inr (.inl (fun _ => 0))) ∧
  S 46 = .inr (10, [.int 0, .int 1, .ref 47, .ref 48, .ref 49, .ref 50, .ref 51, .int 0, .ref 52, .ref 53, .ref 54, .ref 55, .ref 56, .ref 57, .ref 58, .ref 59, .ref 60, .ref 61, .int 0, .ref 62, .ref 63, .ref 64, .ref 65, .ref 66, .ref 67, .ref 68, .ref 69, .ref 70, .ref 71, .int 0, .ref 72, .ref 73, .int 0, .ref 74, .int 0, .ref 75, .ref 76, .ref 77, .ref 78, .ref 79, .ref 80]) ∧
  S 47 = .inl (0, 6, .inl (fun _ => 0)) ∧
  S 48 = .inl (0, 48, .inl (fun _ => 0)) ∧
  S 49 = .inl (0, 48, .inl (fun _ => 0)) ∧
  S 50 = .inl (0, 48, .inl (fun _ => 0)) ∧
  S 51 = .inl (0, 4, .inl (fun _ => 0)) ∧
  S 52 = .inl (0, 20, .inl fFirst) ∧
  S 53 = .inl (0, 20, .inl (fun _ => 0)) ∧
  S 54 = .inl (0, 20, .inl fFirst) ∧
  S 55 = .inl (0, 80000, .inl (fun _ => 0)) ∧
  S 56 = .inl (0, 4000, .inl (fun _ => 0)) ∧
  S 57 = .inl (0, 4000, .inl (fun _ => 0)) ∧
  S 58 = .inl (0, 4000, .inl (fun _ => 0)) ∧
  S 59 = .inl (0, 12000, .inl (fun _ => 0)) ∧
  S 60 = .inl (0, 2, .inl (fun _ => 0)) ∧
  S 61 = .inl (0, 16384, .inl (fun _ => 0)) ∧
  S 62 = .inl (0, 5, .inl (fun _ => 0)) ∧
  S 63 = .inl (0, 5, .inl (fun _ => 0)) ∧
  S 64 = .inl (0, 20, .inl (fun _ => 0)) ∧
  S 65 = .inl (2, 2000, .inl (fun _ => 0)) ∧
  S 66 = .inl (0, 2000, .inl (fun _ => 0)) ∧
  S 67 = .inl (0, 2000, .inl (fun _ => 0)) ∧
  S 68 = .inl (0, 2000, .inl (fun _ => 0)) ∧
  S 69 = .inl (0, 2000, .inl (fun _ => 0)) ∧
  S 70 = .inl (0, 2000, .inl (fun _ => 0)) ∧
  S 71 = .inl (2, 2000, .inl (fun _ => 0)) ∧
  S 72 = .inl (0, 2, .inl fM2) ∧
  S 73 = .inl (0, 2, .inl fM2) ∧
  S 74 = .inl (0, 40, .inl fM40) ∧
  S 75 = .inl (0, 8, .inl (fun _ => 0)) ∧
  S 76 = .inl (0, 8, .inl (fun _ => 0)) ∧
  S 77 = .inl (0, 8, .inl (fun _ => 0)) ∧
  S 78 = .inl (0, 8, .inl (fun _ => 0)) ∧
  S 79 = .inl (1, 480, .inr (.inl (fun _ => 0))) ∧
  S 80 = .inl (1, 60, .inr (.inl (fun _ => 0))) ∧
  S 81 = .inl (1, 1, .inr (.inl (fun _ => 0)))
theorem FW_0 (S : Nat → pm_E) (h : FW S) : S 0 = .inr (9, [.ref 1, .ref 7, .ref 8, .ref 16, .ref 24, .ref 32, .ref 42, .ref 43, .ref 44, .ref 45, .int 0, .long 0]) := h.1
theorem FW_1 (S : Nat → pm_E) (h : FW S) : S 1 = .inr (6, [.int 1, .ref 2, .ref 3, .ref 4, .ref 5, .ref 6]) := h.2.1
theorem FW_2 (S : Nat → pm_E) (h : FW S) : S 2 = .inl (0, 4, .inl (fun _ => 0)) := h.2.2.1
theorem FW_3 (S : Nat → pm_E) (h : FW S) : S 3 = .inl (0, 3, .inl (fun _ => 0)) := h.2.2.2.1
theorem FW_4 (S : Nat → pm_E) (h : FW S) : S 4 = .inl (0, 24, .inl (fun _ => 0)) := h.2.2.2.2.1
theorem FW_5 (S : Nat → pm_E) (h : FW S) : S 5 = .inl (0, 24, .inl (fun _ => 0)) := h.2.2.2.2.2.1
theorem FW_6 (S : Nat → pm_E) (h : FW S) : S 6 = .inl (0, 24, .inl (fun _ => 0)) := h.2.2.2.2.2.2.1
theorem FW_7 (S : Nat → pm_E) (h : FW S) : S 7 = .inr (4, [.ref 1, .int 0]) := h.2.2.2.2.2.2.2.1
theorem FW_8 (S : Nat → pm_E) (h : FW S) : S 8 = .inr (5, [.int 0, .int 0, .int 0, .long 0, .ref 9, .ref 10, .ref 11, .ref 12, .ref 13, .ref 14, .ref 15]) := h.2.2.2.2.2.2.2.2.1
theorem FW_9 (S : Nat → pm_E) (h : FW S) : S 9 = .inl (1, 2000, .inr (.inl (fun _ => 0))) := h.2.2.2.2.2.2.2.2.2.1
theorem FW_10 (S : Nat → pm_E) (h : FW S) : S 10 = .inl (0, 2000, .inl (fun _ => 0)) := h.2.2.2.2.2.2.2.2.2.2.1
theorem FW_11 (S : Nat → pm_E) (h : FW S) : S 11 = .inl (0, 2000, .inl (fun _ => 0)) := h.2.2.2.2.2.2.2.2.2.2.2.1
theorem FW_12 (S : Nat → pm_E) (h : FW S) : S 12 = .inl (0, 2000, .inl (fun _ => 0)) := h.2.2.2.2.2.2.2.2.2.2.2.2.1
theorem FW_13 (S : Nat → pm_E) (h : FW S) : S 13 = .inl (0, 6000, .inl (fun _ => 0)) := h.2.2.2.2.2.2.2.2.2.2.2.2.2.1
theorem FW_14 (S : Nat → pm_E) (h : FW S) : S 14 = .inl (0, 4096, .inl (fun _ => 0)) := h.2.2.2.2.2.2.2.2.2.2.2.2.2.2.1
theorem FW_15 (S : Nat → pm_E) (h : FW S) : S 15 = .inl (0, 2000, .inl (fun _ => 0)) := h.2.2.2.2.2.2.2.2.2.2.2.2.2.2.2.1
theorem FW_16 (S : Nat → pm_E) (h : FW S) : S 16 = .inr (5, [.int 0, .int 0, .int 0, .long 0, .ref 17, .ref 18, .ref 19, .ref 20, .ref 21, .ref 22, .ref 23]) := h.2.2.2.2.2.2.2.2.2.2.2.2.2.2.2.2.1
theorem FW_17 (S : Nat → pm_E) (h : FW S) : S 17 = .inl (1, 2000, .inr (.inl (fun _ => 0))) := h.2.2.2.2.2.2.2.2.2.2.2.2.2.2.2.2.2.1
theorem FW_18 (S : Nat → pm_E) (h : FW S) : S 18 = .inl (0, 2000, .inl (fun _ => 0)) := h.2.2.2.2.2.2.2.2.2.2.2.2.2.2.2.2.2.2.1
theorem FW_19 (S : Nat → pm_E) (h : FW S) : S 19 = .inl (0, 2000, .inl (fun _ => 0)) := h.2.2.2.2.2.2.2.2.2.2.2.2.2.2.2.2.2.2.2.1
theorem FW_20 (S : Nat → pm_E) (h : FW S) : S 20 = .inl (0, 2000, .inl (fun _ => 0)) := h.2.2.2.2.2.2.2.2.2.2.2.2.2.2.2.2.2.2.2.2.1
theorem FW_21 (S : Nat → pm_E) (h : FW S) : S 21 = .inl (0, 6000, .inl (fun _ => 0)) := h.2.2.2.2.2.2.2.2.2.2.2.2.2.2.2.2.2.2.2.2.2.1
theorem FW_22 (S : Nat → pm_E) (h : FW S) : S 22 = .inl (0, 4096, .inl (fun _ => 0)) := h.2.2.2.2.2.2.2.2.2.2.2.2.2.2.2.2.2.2.2.2.2.2.1
theorem FW_23 (S : Nat → pm_E) (h : FW S) : S 23 = .inl (0, 2000, .inl (fun _ => 0)) := h.2.2.2.2.2.2.2.2.2.2.2.2.2.2.2.2.2.2.2.2.2.2.2.1
theorem FW_24 (S : Nat → pm_E) (h : FW S) : S 24 = .inr (3, [.ref 25, .ref 26, .ref 27, .ref 28, .ref 29, .ref 30, .ref 31, .int 0, .int 0, .int 0]) := h.2.2.2.2.2.2.2.2.2.2.2.2.2.2.2.2.2.2.2.2.2.2.2.2.1
theorem FW_25 (S : Nat → pm_E) (h : FW S) : S 25 = .inl (0, 2000, .inl (fun _ => 0)) := h.2.2.2.2.2.2.2.2.2.2.2.2.2.2.2.2.2.2.2.2.2.2.2.2.2.1
theorem FW_26 (S : Nat → pm_E) (h : FW S) : S 26 = .inl (0, 2000, .inl (fun _ => 0)) := h.2.2.2.2.2.2.2.2.2.2.2.2.2.2.2.2.2.2.2.2.2.2.2.2.2.2.1
theorem FW_27 (S : Nat → pm_E) (h : FW S) : S 27 = .inl (0, 2000, .inl (fun _ => 0)) := h.2.2.2.2.2.2.2.2.2.2.2.2.2.2.2.2.2.2.2.2.2.2.2.2.2.2.2.1
theorem FW_28 (S : Nat → pm_E) (h : FW S) : S 28 = .inl (0, 2000, .inl (fun _ => 0)) := h.2.2.2.2.2.2.2.2.2.2.2.2.2.2.2.2.2.2.2.2.2.2.2.2.2.2.2.2.1
theorem FW_29 (S : Nat → pm_E) (h : FW S) : S 29 = .inl (0, 2000, .inl (fun _ => 0)) := h.2.2.2.2.2.2.2.2.2.2.2.2.2.2.2.2.2.2.2.2.2.2.2.2.2.2.2.2.2.1
theorem FW_30 (S : Nat → pm_E) (h : FW S) : S 30 = .inl (2, 2000, .inl (fun _ => 0)) := h.2.2.2.2.2.2.2.2.2.2.2.2.2.2.2.2.2.2.2.2.2.2.2.2.2.2.2.2.2.2.1
theorem FW_31 (S : Nat → pm_E) (h : FW S) : S 31 = .inl (2, 2000, .inl (fun _ => 0)) := h.2.2.2.2.2.2.2.2.2.2.2.2.2.2.2.2.2.2.2.2.2.2.2.2.2.2.2.2.2.2.2.1
theorem FW_32 (S : Nat → pm_E) (h : FW S) : S 32 = .inr (0, [.int 0, .int 1, .ref 1, .ref 16, .ref 33, .ref 39, .ref 40, .ref 41]) := h.2.2.2.2.2.2.2.2.2.2.2.2.2.2.2.2.2.2.2.2.2.2.2.2.2.2.2.2.2.2.2.2.1
theorem FW_33 (S : Nat → pm_E) (h : FW S) : S 33 = .inr (6, [.int 1, .ref 34, .ref 35, .ref 36, .ref 37, .ref 38]) := h.2.2.2.2.2.2.2.2.2.2.2.2.2.2.2.2.2.2.2.2.2.2.2.2.2.2.2.2.2.2.2.2.2.1
theorem FW_34 (S : Nat → pm_E) (h : FW S) : S 34 = .inl (0, 4, .inl (fun _ => 0)) := h.2.2.2.2.2.2.2.2.2.2.2.2.2.2.2.2.2.2.2.2.2.2.2.2.2.2.2.2.2.2.2.2.2.2.1
theorem FW_35 (S : Nat → pm_E) (h : FW S) : S 35 = .inl (0, 3, .inl (fun _ => 0)) := h.2.2.2.2.2.2.2.2.2.2.2.2.2.2.2.2.2.2.2.2.2.2.2.2.2.2.2.2.2.2.2.2.2.2.2.1
theorem FW_36 (S : Nat → pm_E) (h : FW S) : S 36 = .inl (0, 24, .inl (fun _ => 0)) := h.2.2.2.2.2.2.2.2.2.2.2.2.2.2.2.2.2.2.2.2.2.2.2.2.2.2.2.2.2.2.2.2.2.2.2.2.1
theorem FW_37 (S : Nat → pm_E) (h : FW S) : S 37 = .inl (0, 24, .inl (fun _ => 0)) := h.2.2.2.2.2.2.2.2.2.2.2.2.2.2.2.2.2.2.2.2.2.2.2.2.2.2.2.2.2.2.2.2.2.2.2.2.2.1
theorem FW_38 (S : Nat → pm_E) (h : FW S) : S 38 = .inl (0, 24, .inl (fun _ => 0)) := h.2.2.2.2.2.2.2.2.2.2.2.2.2.2.2.2.2.2.2.2.2.2.2.2.2.2.2.2.2.2.2.2.2.2.2.2.2.2.1
theorem FW_39 (S : Nat → pm_E) (h : FW S) : S 39 = .inr (4, [.ref 33, .int 0]) := h.2.2.2.2.2.2.2.2.2.2.2.2.2.2.2.2.2.2.2.2.2.2.2.2.2.2.2.2.2.2.2.2.2.2.2.2.2.2.2.1
theorem FW_40 (S : Nat → pm_E) (h : FW S) : S 40 = .inl (0, 2, .inl (fun _ => 0)) := h.2.2.2.2.2.2.2.2.2.2.2.2.2.2.2.2.2.2.2.2.2.2.2.2.2.2.2.2.2.2.2.2.2.2.2.2.2.2.2.2.1
theorem FW_41 (S : Nat → pm_E) (h : FW S) : S 41 = .inl (1, 363, .inr (.inl (fun _ => 0))) := h.2.2.2.2.2.2.2.2.2.2.2.2.2.2.2.2.2.2.2.2.2.2.2.2.2.2.2.2.2.2.2.2.2.2.2.2.2.2.2.2.2.1
theorem FW_42 (S : Nat → pm_E) (h : FW S) : S 42 = .inr (1, [.long 0, .long 0]) := h.2.2.2.2.2.2.2.2.2.2.2.2.2.2.2.2.2.2.2.2.2.2.2.2.2.2.2.2.2.2.2.2.2.2.2.2.2.2.2.2.2.2.1
theorem FW_43 (S : Nat → pm_E) (h : FW S) : S 43 = .inl (4, 8, .inr (.inr (.inr (.inr (fun _ => none))))) := h.2.2.2.2.2.2.2.2.2.2.2.2.2.2.2.2.2.2.2.2.2.2.2.2.2.2.2.2.2.2.2.2.2.2.2.2.2.2.2.2.2.2.2.1
theorem FW_44 (S : Nat → pm_E) (h : FW S) : S 44 = .inl (0, 5, .inl (fun _ => 0)) := h.2.2.2.2.2.2.2.2.2.2.2.2.2.2.2.2.2.2.2.2.2.2.2.2.2.2.2.2.2.2.2.2.2.2.2.2.2.2.2.2.2.2.2.2.1
theorem FW_45 (S : Nat → pm_E) (h : FW S) : S 45 = .inl (1, 5, .inr (.inl (fun _ => 0))) := h.2.2.2.2.2.2.2.2.2.2.2.2.2.2.2.2.2.2.2.2.2.2.2.2.2.2.2.2.2.2.2.2.2.2.2.2.2.2.2.2.2.2.2.2.2.1
theorem FW_46 (S : Nat → pm_E) (h : FW S) : S 46 = .inr (10, [.int 0, .int 1, .ref 47, .ref 48, .ref 49, .ref 50, .ref 51, .int 0, .ref 52, .ref 53, .ref 54, .ref 55, .ref 56, .ref 57, .ref 58, .ref 59, .ref 60, .ref 61, .int 0, .ref 62, .ref 63, .ref 64, .ref 65, .ref 66, .ref 67, .ref 68, .ref 69, .ref 70, .ref 71, .int 0, .ref 72, .ref 73, .int 0, .ref 74, .int 0, .ref 75, .ref 76, .ref 77, .ref 78, .ref 79, .ref 80]) := h.2.2.2.2.2.2.2.2.2.2.2.2.2.2.2.2.2.2.2.2.2.2.2.2.2.2.2.2.2.2.2.2.2.2.2.2.2.2.2.2.2.2.2.2.2.2.1
theorem FW_47 (S : Nat → pm_E) (h : FW S) : S 47 = .inl (0, 6, .inl (fun _ => 0)) := h.2.2.2.2.2.2.2.2.2.2.2.2.2.2.2.2.2.2.2.2.2.2.2.2.2.2.2.2.2.2.2.2.2.2.2.2.2.2.2.2.2.2.2.2.2.2.2.1
theorem FW_48 (S : Nat → pm_E) (h : FW S) : S 48 = .inl (0, 48, .inl (fun _ => 0)) := h.2.2.2.2.2.2.2.2.2.2.2.2.2.2.2.2.2.2.2.2.2.2.2.2.2.2.2.2.2.2.2.2.2.2.2.2.2.2.2.2.2.2.2.2.2.2.2.2.1
theorem FW_49 (S : Nat → pm_E) (h : FW S) : S 49 = .inl (0, 48, .inl (fun _ => 0)) := h.2.2.2.2.2.2.2.2.2.2.2.2.2.2.2.2.2.2.2.2.2.2.2.2.2.2.2.2.2.2.2.2.2.2.2.2.2.2.2.2.2.2.2.2.2.2.2.2.2.1
theorem FW_50 (S : Nat → pm_E) (h : FW S) : S 50 = .inl (0, 48, .inl (fun _ => 0)) := h.2.2.2.2.2.2.2.2.2.2.2.2.2.2.2.2.2.2.2.2.2.2.2.2.2.2.2.2.2.2.2.2.2.2.2.2.2.2.2.2.2.2.2.2.2.2.2.2.2.2.1
theorem FW_51 (S : Nat → pm_E) (h : FW S) : S 51 = .inl (0, 4, .inl (fun _ => 0)) := h.2.2.2.2.2.2.2.2.2.2.2.2.2.2.2.2.2.2.2.2.2.2.2.2.2.2.2.2.2.2.2.2.2.2.2.2.2.2.2.2.2.2.2.2.2.2.2.2.2.2.2.1
theorem FW_52 (S : Nat → pm_E) (h : FW S) : S 52 = .inl (0, 20, .inl fFirst) := h.2.2.2.2.2.2.2.2.2.2.2.2.2.2.2.2.2.2.2.2.2.2.2.2.2.2.2.2.2.2.2.2.2.2.2.2.2.2.2.2.2.2.2.2.2.2.2.2.2.2.2.2.1
theorem FW_53 (S : Nat → pm_E) (h : FW S) : S 53 = .inl (0, 20, .inl (fun _ => 0)) := h.2.2.2.2.2.2.2.2.2.2.2.2.2.2.2.2.2.2.2.2.2.2.2.2.2.2.2.2.2.2.2.2.2.2.2.2.2.2.2.2.2.2.2.2.2.2.2.2.2.2.2.2.2.1
theorem FW_54 (S : Nat → pm_E) (h : FW S) : S 54 = .inl (0, 20, .inl fFirst) := h.2.2.2.2.2.2.2.2.2.2.2.2.2.2.2.2.2.2.2.2.2.2.2.2.2.2.2.2.2.2.2.2.2.2.2.2.2.2.2.2.2.2.2.2.2.2.2.2.2.2.2.2.2.2.1
theorem FW_55 (S : Nat → pm_E) (h : FW S) : S 55 = .inl (0, 80000, .inl (fun _ => 0)) := h.2.2.2.2.2.2.2.2.2.2.2.2.2.2.2.2.2.2.2.2.2.2.2.2.2.2.2.2.2.2.2.2.2.2.2.2.2.2.2.2.2.2.2.2.2.2.2.2.2.2.2.2.2.2.2.1
theorem FW_56 (S : Nat → pm_E) (h : FW S) : S 56 = .inl (0, 4000, .inl (fun _ => 0)) := h.2.2.2.2.2.2.2.2.2.2.2.2.2.2.2.2.2.2.2.2.2.2.2.2.2.2.2.2.2.2.2.2.2.2.2.2.2.2.2.2.2.2.2.2.2.2.2.2.2.2.2.2.2.2.2.2.1
theorem FW_57 (S : Nat → pm_E) (h : FW S) : S 57 = .inl (0, 4000, .inl (fun _ => 0)) := h.2.2.2.2.2.2.2.2.2.2.2.2.2.2.2.2.2.2.2.2.2.2.2.2.2.2.2.2.2.2.2.2.2.2.2.2.2.2.2.2.2.2.2.2.2.2.2.2.2.2.2.2.2.2.2.2.2.1
theorem FW_58 (S : Nat → pm_E) (h : FW S) : S 58 = .inl (0, 4000, .inl (fun _ => 0)) := h.2.2.2.2.2.2.2.2.2.2.2.2.2.2.2.2.2.2.2.2.2.2.2.2.2.2.2.2.2.2.2.2.2.2.2.2.2.2.2.2.2.2.2.2.2.2.2.2.2.2.2.2.2.2.2.2.2.2.1
theorem FW_59 (S : Nat → pm_E) (h : FW S) : S 59 = .inl (0, 12000, .inl (fun _ => 0)) := h.2.2.2.2.2.2.2.2.2.2.2.2.2.2.2.2.2.2.2.2.2.2.2.2.2.2.2.2.2.2.2.2.2.2.2.2.2.2.2.2.2.2.2.2.2.2.2.2.2.2.2.2.2.2.2.2.2.2.2.1
theorem FW_60 (S : Nat → pm_E) (h : FW S) : S 60 = .inl (0, 2, .inl (fun _ => 0)) := h.2.2.2.2.2.2.2.2.2.2.2.2.2.2.2.2.2.2.2.2.2.2.2.2.2.2.2.2.2.2.2.2.2.2.2.2.2.2.2.2.2.2.2.2.2.2.2.2.2.2.2.2.2.2.2.2.2.2.2.2.1
theorem FW_61 (S : Nat → pm_E) (h : FW S) : S 61 = .inl (0, 16384, .inl (fun _ => 0)) := h.2.2.2.2.2.2.2.2.2.2.2.2.2.2.2.2.2.2.2.2.2.2.2.2.2.2.2.2.2.2.2.2.2.2.2.2.2.2.2.2.2.2.2.2.2.2.2.2.2.2.2.2.2.2.2.2.2.2.2.2.2.1
theorem FW_62 (S : Nat → pm_E) (h : FW S) : S 62 = .inl (0, 5, .inl (fun _ => 0)) := h.2.2.2.2.2.2.2.2.2.2.2.2.2.2.2.2.2.2.2.2.2.2.2.2.2.2.2.2.2.2.2.2.2.2.2.2.2.2.2.2.2.2.2.2.2.2.2.2.2.2.2.2.2.2.2.2.2.2.2.2.2.2.1
theorem FW_63 (S : Nat → pm_E) (h : FW S) : S 63 = .inl (0, 5, .inl (fun _ => 0)) := h.2.2.2.2.2.2.2.2.2.2.2.2.2.2.2.2.2.2.2.2.2.2.2.2.2.2.2.2.2.2.2.2.2.2.2.2.2.2.2.2.2.2.2.2.2.2.2.2.2.2.2.2.2.2.2.2.2.2.2.2.2.2.2.1
theorem FW_64 (S : Nat → pm_E) (h : FW S) : S 64 = .inl (0, 20, .inl (fun _ => 0)) := h.2.2.2.2.2.2.2.2.2.2.2.2.2.2.2.2.2.2.2.2.2.2.2.2.2.2.2.2.2.2.2.2.2.2.2.2.2.2.2.2.2.2.2.2.2.2.2.2.2.2.2.2.2.2.2.2.2.2.2.2.2.2.2.2.1
theorem FW_65 (S : Nat → pm_E) (h : FW S) : S 65 = .inl (2, 2000, .inl (fun _ => 0)) := h.2.2.2.2.2.2.2.2.2.2.2.2.2.2.2.2.2.2.2.2.2.2.2.2.2.2.2.2.2.2.2.2.2.2.2.2.2.2.2.2.2.2.2.2.2.2.2.2.2.2.2.2.2.2.2.2.2.2.2.2.2.2.2.2.2.1
theorem FW_66 (S : Nat → pm_E) (h : FW S) : S 66 = .inl (0, 2000, .inl (fun _ => 0)) := h.2.2.2.2.2.2.2.2.2.2.2.2.2.2.2.2.2.2.2.2.2.2.2.2.2.2.2.2.2.2.2.2.2.2.2.2.2.2.2.2.2.2.2.2.2.2.2.2.2.2.2.2.2.2.2.2.2.2.2.2.2.2.2.2.2.2.1
theorem FW_67 (S : Nat → pm_E) (h : FW S) : S 67 = .inl (0, 2000, .inl (fun _ => 0)) := h.2.2.2.2.2.2.2.2.2.2.2.2.2.2.2.2.2.2.2.2.2.2.2.2.2.2.2.2.2.2.2.2.2.2.2.2.2.2.2.2.2.2.2.2.2.2.2.2.2.2.2.2.2.2.2.2.2.2.2.2.2.2.2.2.2.2.2.1
theorem FW_68 (S : Nat → pm_E) (h : FW S) : S 68 = .inl (0, 2000, .inl (fun _ => 0)) := h.2.2.2.2.2.2.2.2.2.2.2.2.2.2.2.2.2.2.2.2.2.2.2.2.2.2.2.2.2.2.2.2.2.2.2.2.2.2.2.2.2.2.2.2.2.2.2.2.2.2.2.2.2.2.2.2.2.2.2.2.2.2.2.2.2.2.2.2.1
theorem FW_69 (S : Nat → pm_E) (h : FW S) : S 69 = .inl (0, 2000, .inl (fun _ => 0)) := h.2.2.2.2.2.2.2.2.2.2.2.2.2.2.2.2.2.2.2.2.2.2.2.2.2.2.2.2.2.2.2.2.2.2.2.2.2.2.2.2.2.2.2.2.2.2.2.2.2.2.2.2.2.2.2.2.2.2.2.2.2.2.2.2.2.2.2.2.2.1
theorem FW_70 (S : Nat → pm_E) (h : FW S) : S 70 = .inl (0, 2000, .inl (fun _ => 0)) := h.2.2.2.2.2.2.2.2.2.2.2.2.2.2.2.2.2.2.2.2.2.2.2.2.2.2.2.2.2.2.2.2.2.2.2.2.2.2.2.2.2.2.2.2.2.2.2.2.2.2.2.2.2.2.2.2.2.2.2.2.2.2.2.2.2.2.2.2.2.2.1
theorem FW_71 (S : Nat → pm_E) (h : FW S) : S 71 = .inl (2, 2000, .inl (fun _ => 0)) := h.2.2.2.2.2.2.2.2.2.2.2.2.2.2.2.2.2.2.2.2.2.2.2.2.2.2.2.2.2.2.2.2.2.2.2.2.2.2.2.2.2.2.2.2.2.2.2.2.2.2.2.2.2.2.2.2.2.2.2.2.2.2.2.2.2.2.2.2.2.2.2.1
theorem FW_72 (S : Nat → pm_E) (h : FW S) : S 72 = .inl (0, 2, .inl fM2) := h.2.2.2.2.2.2.2.2.2.2.2.2.2.2.2.2.2.2.2.2.2.2.2.2.2.2.2.2.2.2.2.2.2.2.2.2.2.2.2.2.2.2.2.2.2.2.2.2.2.2.2.2.2.2.2.2.2.2.2.2.2.2.2.2.2.2.2.2.2.2.2.2.1
theorem FW_73 (S : Nat → pm_E) (h : FW S) : S 73 = .inl (0, 2, .inl fM2) := h.2.2.2.2.2.2.2.2.2.2.2.2.2.2.2.2.2.2.2.2.2.2.2.2.2.2.2.2.2.2.2.2.2.2.2.2.2.2.2.2.2.2.2.2.2.2.2.2.2.2.2.2.2.2.2.2.2.2.2.2.2.2.2.2.2.2.2.2.2.2.2.2.2.1
theorem FW_74 (S : Nat → pm_E) (h : FW S) : S 74 = .inl (0, 40, .inl fM40) := h.2.2.2.2.2.2.2.2.2.2.2.2.2.2.2.2.2.2.2.2.2.2.2.2.2.2.2.2.2.2.2.2.2.2.2.2.2.2.2.2.2.2.2.2.2.2.2.2.2.2.2.2.2.2.2.2.2.2.2.2.2.2.2.2.2.2.2.2.2.2.2.2.2.2.1
theorem FW_75 (S : Nat → pm_E) (h : FW S) : S 75 = .inl (0, 8, .inl (fun _ => 0)) := h.2.2.2.2.2.2.2.2.2.2.2.2.2.2.2.2.2.2.2.2.2.2.2.2.2.2.2.2.2.2.2.2.2.2.2.2.2.2.2.2.2.2.2.2.2.2.2.2.2.2.2.2.2.2.2.2.2.2.2.2.2.2.2.2.2.2.2.2.2.2.2.2.2.2.2.1
theorem FW_76 (S : Nat → pm_E) (h : FW S) : S 76 = .inl (0, 8, .inl (fun _ => 0)) := h.2.2.2.2.2.2.2.2.2.2.2.2.2.2.2.2.2.2.2.2.2.2.2.2.2.2.2.2.2.2.2.2.2.2.2.2.2.2.2.2.2.2.2.2.2.2.2.2.2.2.2.2.2.2.2.2.2.2.2.2.2.2.2.2.2.2.2.2.2.2.2.2.2.2.2.2.1
theorem FW_77 (S : Nat → pm_E) (h : FW S) : S 77 = .inl (0, 8, .inl (fun _ => 0)) := h.2.2.2.2.2.2.2.2.2.2.2.2.2.2.2.2.2.2.2.2.2.2.2.2.2.2.2.2.2.2.2.2.2.2.2.2.2.2.2.2.2.2.2.2.2.2.2.2.2.2.2.2.2.2.2.2.2.2.2.2.2.2.2.2.2.2.2.2.2.2.2.2.2.2.2.2.2.1
theorem FW_78 (S : Nat → pm_E) (h : FW S) : S 78 = .inl (0, 8, .inl (fun _ => 0)) := h.2.2.2.2.2.2.2.2.2.2.2.2.2.2.2.2.2.2.2.2.2.2.2.2.2.2.2.2.2.2.2.2.2.2.2.2.2.2.2.2.2.2.2.2.2.2.2.2.2.2.2.2.2.2.2.2.2.2.2.2.2.2.2.2.2.2.2.2.2.2.2.2.2.2.2.2.2.2.1
theorem FW_79 (S : Nat → pm_E) (h : FW S) : S 79 = .inl (1, 480, .inr (.inl (fun _ => 0))) := h.2.2.2.2.2.2.2.2.2.2.2.2.2.2.2.2.2.2.2.2.2.2.2.2.2.2.2.2.2.2.2.2.2.2.2.2.2.2.2.2.2.2.2.2.2.2.2.2.2.2.2.2.2.2.2.2.2.2.2.2.2.2.2.2.2.2.2.2.2.2.2.2.2.2.2.2.2.2.2.1
theorem FW_80 (S : Nat → pm_E) (h : FW S) : S 80 = .inl (1, 60, .inr (.inl (fun _ => 0))) := h.2.2.2.2.2.2.2.2.2.2.2.2.2.2.2.2.2.2.2.2.2.2.2.2.2.2.2.2.2.2.2.2.2.2.2.2.2.2.2.2.2.2.2.2.2.2.2.2.2.2.2.2.2.2.2.2.2.2.2.2.2.2.2.2.2.2.2.2.2.2.2.2.2.2.2.2.2.2.2.2.1
theorem FW_81 (S : Nat → pm_E) (h : FW S) : S 81 = .inl (1, 1, .inr (.inl (fun _ => 0))) := h.2.2.2.2.2.2.2.2.2.2.2.2.2.2.2.2.2.2.2.2.2.2.2.2.2.2.2.2.2.2.2.2.2.2.2.2.2.2.2.2.2.2.2.2.2.2.2.2.2.2.2.2.2.2.2.2.2.2.2.2.2.2.2.2.2.2.2.2.2.2.2.2.2.2.2.2.2.2.2.2.2
section TR
variable {EX : pm_M → pm_C → (pm_C → Prop) → Prop} {xs : Nat → Int32} {K : q_K}
set_option maxHeartbeats 4000000 in
set_option maxRecDepth 20000 in
theorem t_init {SL : Nat → Nat} {SV : Nat → Nat → Int32} {S : Nat → pm_E} (h : ∀ S, FW S → PQ SL SV EX mm_L_law 23 [.float 5, .ref 0, .ref 46, .ref 81, .int 0, pm_un, pm_un, pm_un] [] S 82 82 190091 K) : PQ SL SV EX mm_L_law 0 [.float 5, pm_un, pm_un, pm_un, pm_un, pm_un, pm_un, pm_un] [] S 0 0 0 K := by
  refine q_new rfl rfl rfl rfl ?_
  refine q_dupr rfl rfl ?_
  refine q_nI0vA rfl rfl (Or.inl rfl) rfl rfl ⟨rfl, rfl⟩ rfl rfl rfl ?_
  change PQ _ _ _ mm_X11_init 0 [.ref 0] [] _ _ 0 0 _
  refine q_aload_n rfl rfl rfl ?_
  refine q_objI rfl rfl rfl ?_
  refine q_aload_n rfl rfl rfl ?_
  refine q_new rfl rfl rfl rfl ?_
  refine q_dupr rfl rfl ?_
  refine q_nI0vA rfl rfl (Or.inr rfl) rfl rfl ⟨rfl, rfl⟩ rfl rfl rfl ?_
  change PQ _ _ _ mm_X8_init 0 [.ref 1] [] _ _ 0 0 _
  refine q_aload_n rfl rfl rfl ?_
  refine q_objI rfl rfl rfl ?_
  refine q_aload_n rfl rfl rfl ?_
  refine q_iconst rfl rfl ?_
  refine q_putf rfl rfl (by decide) rfl (by decide) rfl trivial ?_
  refine q_aload_n rfl rfl rfl ?_
  refine q_iconst rfl rfl ?_
  refine q_newa (m0 := 4) rfl rfl (by decide) rfl rfl rfl rfl ?_
  refine q_putf rfl rfl (by decide) rfl (by decide) rfl trivial ?_
  refine q_aload_n rfl rfl rfl ?_
  refine q_iconst rfl rfl ?_
  refine q_newa (m0 := 3) rfl rfl (by decide) rfl rfl rfl rfl ?_
  refine q_putf rfl rfl (by decide) rfl (by decide) rfl trivial ?_
  refine q_aload_n rfl rfl rfl ?_
  refine q_bipush rfl rfl ?_
  refine q_newa (m0 := 24) rfl rfl (by decide) rfl rfl rfl rfl ?_
  refine q_putf rfl rfl (by decide) rfl (by decide) rfl trivial ?_
  refine q_aload_n rfl rfl rfl ?_
  refine q_bipush rfl rfl ?_
  refine q_newa (m0 := 24) rfl rfl (by decide) rfl rfl rfl rfl ?_
  refine q_putf rfl rfl (by decide) rfl (by decide) rfl trivial ?_
  refine q_aload_n rfl rfl rfl ?_
  refine q_bipush rfl rfl ?_
  refine q_newa (m0 := 24) rfl rfl (by decide) rfl rfl rfl rfl ?_
  refine q_putf rfl rfl (by decide) rfl (by decide) rfl trivial ?_
  refine q_ret rfl rfl ?_
  refine ⟨rfl, ?_⟩
  refine q_putf rfl rfl (by decide) rfl (by decide) rfl trivial ?_
  refine q_aload_n rfl rfl rfl ?_
  refine q_new rfl rfl rfl rfl ?_
  refine q_dupr rfl rfl ?_
  refine q_aload_n rfl rfl rfl ?_
  refine q_getf rfl rfl (by decide) rfl rfl ?_
  refine q_nI1v rfl rfl (Or.inl rfl) rfl rfl ⟨rfl, rfl⟩ rfl ?_
  change PQ _ _ _ mm_X6_init 0 [.ref 7, .ref 1] [] _ _ 0 0 _
  refine q_aload_n rfl rfl rfl ?_
  refine q_objI rfl rfl rfl ?_
  refine q_aload_n rfl rfl rfl ?_
  refine q_iconst rfl rfl ?_
  refine q_putf rfl rfl (by decide) rfl (by decide) rfl trivial ?_
  refine q_aload_n rfl rfl rfl ?_
  refine q_aload_n rfl rfl rfl ?_
  refine q_putf rfl rfl (by decide) rfl (by decide) rfl trivial ?_
  refine q_ret rfl rfl ?_
  refine ⟨rfl, ?_⟩
  refine q_putf rfl rfl (by decide) rfl (by decide) rfl trivial ?_
  refine q_aload_n rfl rfl rfl ?_
  refine q_new rfl rfl rfl rfl ?_
  refine q_dupr rfl rfl ?_
  refine q_nI0vA rfl rfl (Or.inr rfl) rfl rfl ⟨rfl, rfl⟩ rfl rfl rfl ?_
  change PQ _ _ _ mm_X7_init 0 [.ref 8] [] _ _ 0 0 _
  refine q_aload_n rfl rfl rfl ?_
  refine q_objI rfl rfl rfl ?_
  refine q_aload_n rfl rfl rfl ?_
  refine q_iconst rfl rfl ?_
  refine q_putf rfl rfl (by decide) rfl (by decide) rfl trivial ?_
  refine q_aload_n rfl rfl rfl ?_
  refine q_iconst rfl rfl ?_
  refine q_putf rfl rfl (by decide) rfl (by decide) rfl rfl ?_
  refine q_aload_n rfl rfl rfl ?_
  refine q_iconst rfl rfl ?_
  refine q_putf rfl rfl (by decide) rfl (by decide) rfl rfl ?_
  refine q_aload_n rfl rfl rfl ?_
  refine q_lconst rfl rfl ?_
  refine q_putf rfl rfl (by decide) rfl (by decide) rfl trivial ?_
  refine q_aload_n rfl rfl rfl ?_
  refine q_sipush rfl rfl ?_
  refine q_newa (m0 := 2000) rfl rfl (by decide) rfl rfl rfl rfl ?_
  refine q_putf rfl rfl (by decide) rfl (by decide) rfl trivial ?_
  refine q_aload_n rfl rfl rfl ?_
  refine q_sipush rfl rfl ?_
  refine q_newa (m0 := 2000) rfl rfl (by decide) rfl rfl rfl rfl ?_
  refine q_putf rfl rfl (by decide) rfl (by decide) rfl trivial ?_
  refine q_aload_n rfl rfl rfl ?_
  refine q_sipush rfl rfl ?_
  refine q_newa (m0 := 2000) rfl rfl (by decide) rfl rfl rfl rfl ?_
  refine q_putf rfl rfl (by decide) rfl (by decide) rfl trivial ?_
  refine q_aload_n rfl rfl rfl ?_
  refine q_sipush rfl rfl ?_
  refine q_newa (m0 := 2000) rfl rfl (by decide) rfl rfl rfl rfl ?_
  refine q_putf rfl rfl (by decide) rfl (by decide) rfl trivial ?_
  refine q_aload_n rfl rfl rfl ?_
  refine q_sipush rfl rfl ?_
  refine q_newa (m0 := 6000) rfl rfl (by decide) rfl rfl rfl rfl ?_
  refine q_putf rfl rfl (by decide) rfl (by decide) rfl trivial ?_
  refine q_aload_n rfl rfl rfl ?_
  refine q_sipush rfl rfl ?_
  refine q_newa (m0 := 4096) rfl rfl (by decide) rfl rfl rfl rfl ?_
  refine q_putf rfl rfl (by decide) rfl (by decide) rfl trivial ?_
  refine q_aload_n rfl rfl rfl ?_
  refine q_sipush rfl rfl ?_
  refine q_newa (m0 := 2000) rfl rfl (by decide) rfl rfl rfl rfl ?_
  refine q_putf rfl rfl (by decide) rfl (by decide) rfl trivial ?_
  refine q_ret rfl rfl ?_
  refine ⟨rfl, ?_⟩
  refine q_putf rfl rfl (by decide) rfl (by decide) rfl trivial ?_
  refine q_aload_n rfl rfl rfl ?_
  refine q_new rfl rfl rfl rfl ?_
  refine q_dupr rfl rfl ?_
  refine q_nI0vA rfl rfl (Or.inr rfl) rfl rfl ⟨rfl, rfl⟩ rfl rfl rfl ?_
  change PQ _ _ _ mm_X7_init 0 [.ref 16] [] _ _ 0 0 _
  refine q_aload_n rfl rfl rfl ?_
  refine q_objI rfl rfl rfl ?_
  refine q_aload_n rfl rfl rfl ?_
  refine q_iconst rfl rfl ?_
  refine q_putf rfl rfl (by decide) rfl (by decide) rfl trivial ?_
  refine q_aload_n rfl rfl rfl ?_
  refine q_iconst rfl rfl ?_
  refine q_putf rfl rfl (by decide) rfl (by decide) rfl rfl ?_
  refine q_aload_n rfl rfl rfl ?_
  refine q_iconst rfl rfl ?_
  refine q_putf rfl rfl (by decide) rfl (by decide) rfl rfl ?_
  refine q_aload_n rfl rfl rfl ?_
  refine q_lconst rfl rfl ?_
  refine q_putf rfl rfl (by decide) rfl (by decide) rfl trivial ?_
  refine q_aload_n rfl rfl rfl ?_
  refine q_sipush rfl rfl ?_
  refine q_newa (m0 := 2000) rfl rfl (by decide) rfl rfl rfl rfl ?_
  refine q_putf rfl rfl (by decide) rfl (by decide) rfl trivial ?_
  refine q_aload_n rfl rfl rfl ?_
  refine q_sipush rfl rfl ?_
  refine q_newa (m0 := 2000) rfl rfl (by decide) rfl rfl rfl rfl ?_
  refine q_putf rfl rfl (by decide) rfl (by decide) rfl trivial ?_
  refine q_aload_n rfl rfl rfl ?_
  refine q_sipush rfl rfl ?_
  refine q_newa (m0 := 2000) rfl rfl (by decide) rfl rfl rfl rfl ?_
  refine q_putf rfl rfl (by decide) rfl (by decide) rfl trivial ?_
  refine q_aload_n rfl rfl rfl ?_
  refine q_sipush rfl rfl ?_
  refine q_newa (m0 := 2000) rfl rfl (by decide) rfl rfl rfl rfl ?_
  refine q_putf rfl rfl (by decide) rfl (by decide) rfl trivial ?_
  refine q_aload_n rfl rfl rfl ?_
  refine q_sipush rfl rfl ?_
  refine q_newa (m0 := 6000) rfl rfl (by decide) rfl rfl rfl rfl ?_
  refine q_putf rfl rfl (by decide) rfl (by decide) rfl trivial ?_
  refine q_aload_n rfl rfl rfl ?_
  refine q_sipush rfl rfl ?_
  refine q_newa (m0 := 4096) rfl rfl (by decide) rfl rfl rfl rfl ?_
  refine q_putf rfl rfl (by decide) rfl (by decide) rfl trivial ?_
  refine q_aload_n rfl rfl rfl ?_
  refine q_sipush rfl rfl ?_
  refine q_newa (m0 := 2000) rfl rfl (by decide) rfl rfl rfl rfl ?_
  refine q_putf rfl rfl (by decide) rfl (by decide) rfl trivial ?_
  refine q_ret rfl rfl ?_
  refine ⟨rfl, ?_⟩
  refine q_putf rfl rfl (by decide) rfl (by decide) rfl trivial ?_
  refine q_aload_n rfl rfl rfl ?_
  refine q_new rfl rfl rfl rfl ?_
  refine q_dupr rfl rfl ?_
  refine q_nI0vA rfl rfl (Or.inr rfl) rfl rfl ⟨rfl, rfl⟩ rfl rfl rfl ?_
  change PQ _ _ _ mm_X5_init 0 [.ref 24] [] _ _ 0 0 _
  refine q_aload_n rfl rfl rfl ?_
  refine q_objI rfl rfl rfl ?_
  refine q_aload_n rfl rfl rfl ?_
  refine q_sipush rfl rfl ?_
  refine q_newa (m0 := 2000) rfl rfl (by decide) rfl rfl rfl rfl ?_
  refine q_putf rfl rfl (by decide) rfl (by decide) rfl trivial ?_
  refine q_aload_n rfl rfl rfl ?_
  refine q_sipush rfl rfl ?_
  refine q_newa (m0 := 2000) rfl rfl (by decide) rfl rfl rfl rfl ?_
  refine q_putf rfl rfl (by decide) rfl (by decide) rfl trivial ?_
  refine q_aload_n rfl rfl rfl ?_
  refine q_sipush rfl rfl ?_
  refine q_newa (m0 := 2000) rfl rfl (by decide) rfl rfl rfl rfl ?_
  refine q_putf rfl rfl (by decide) rfl (by decide) rfl trivial ?_
  refine q_aload_n rfl rfl rfl ?_
  refine q_sipush rfl rfl ?_
  refine q_newa (m0 := 2000) rfl rfl (by decide) rfl rfl rfl rfl ?_
  refine q_putf rfl rfl (by decide) rfl (by decide) rfl trivial ?_
  refine q_aload_n rfl rfl rfl ?_
  refine q_sipush rfl rfl ?_
  refine q_newa (m0 := 2000) rfl rfl (by decide) rfl rfl rfl rfl ?_
  refine q_putf rfl rfl (by decide) rfl (by decide) rfl trivial ?_
  refine q_aload_n rfl rfl rfl ?_
  refine q_sipush rfl rfl ?_
  refine q_newa (m0 := 2000) rfl rfl (by decide) rfl rfl rfl rfl ?_
  refine q_putf rfl rfl (by decide) rfl (by decide) rfl trivial ?_
  refine q_aload_n rfl rfl rfl ?_
  refine q_sipush rfl rfl ?_
  refine q_newa (m0 := 2000) rfl rfl (by decide) rfl rfl rfl rfl ?_
  refine q_putf rfl rfl (by decide) rfl (by decide) rfl trivial ?_
  refine q_aload_n rfl rfl rfl ?_
  refine q_iconst rfl rfl ?_
  refine q_putf rfl rfl (by decide) rfl (by decide) rfl trivial ?_
  refine q_aload_n rfl rfl rfl ?_
  refine q_iconst rfl rfl ?_
  refine q_putf rfl rfl (by decide) rfl (by decide) rfl trivial ?_
  refine q_aload_n rfl rfl rfl ?_
  refine q_iconst rfl rfl ?_
  refine q_putf rfl rfl (by decide) rfl (by decide) rfl trivial ?_
  refine q_ret rfl rfl ?_
  refine ⟨rfl, ?_⟩
  refine q_putf rfl rfl (by decide) rfl (by decide) rfl trivial ?_
  refine q_aload_n rfl rfl rfl ?_
  refine q_new rfl rfl rfl rfl ?_
  refine q_dupr rfl rfl ?_
  refine q_aload_n rfl rfl rfl ?_
  refine q_getf rfl rfl (by decide) rfl rfl ?_
  refine q_aload_n rfl rfl rfl ?_
  refine q_getf rfl rfl (by decide) rfl rfl ?_
  refine q_nI2vA rfl rfl (Or.inl rfl) rfl rfl ⟨rfl, rfl⟩ rfl rfl rfl ?_
  change PQ _ _ _ mm_X1_init 0 [.ref 32, .ref 1, .ref 16] [] _ _ 0 0 _
  refine q_aload_n rfl rfl rfl ?_
  refine q_objI rfl rfl rfl ?_
  refine q_aload_n rfl rfl rfl ?_
  refine q_iconst rfl rfl ?_
  refine q_putf rfl rfl (by decide) rfl (by decide) rfl rfl ?_
  refine q_aload_n rfl rfl rfl ?_
  refine q_iconst rfl rfl ?_
  refine q_putf rfl rfl (by decide) rfl (by decide) rfl rfl ?_
  refine q_aload_n rfl rfl rfl ?_
  refine q_new rfl rfl rfl rfl ?_
  refine q_dupr rfl rfl ?_
  refine q_nI0vA rfl rfl (Or.inr rfl) rfl rfl ⟨rfl, rfl⟩ rfl rfl rfl ?_
  change PQ _ _ _ mm_X8_init 0 [.ref 33] [] _ _ 0 0 _
  refine q_aload_n rfl rfl rfl ?_
  refine q_objI rfl rfl rfl ?_
  refine q_aload_n rfl rfl rfl ?_
  refine q_iconst rfl rfl ?_
  refine q_putf rfl rfl (by decide) rfl (by decide) rfl trivial ?_
  refine q_aload_n rfl rfl rfl ?_
  refine q_iconst rfl rfl ?_
  refine q_newa (m0 := 4) rfl rfl (by decide) rfl rfl rfl rfl ?_
  refine q_putf rfl rfl (by decide) rfl (by decide) rfl trivial ?_
  refine q_aload_n rfl rfl rfl ?_
  refine q_iconst rfl rfl ?_
  refine q_newa (m0 := 3) rfl rfl (by decide) rfl rfl rfl rfl ?_
  refine q_putf rfl rfl (by decide) rfl (by decide) rfl trivial ?_
  refine q_aload_n rfl rfl rfl ?_
  refine q_bipush rfl rfl ?_
  refine q_newa (m0 := 24) rfl rfl (by decide) rfl rfl rfl rfl ?_
  refine q_putf rfl rfl (by decide) rfl (by decide) rfl trivial ?_
  refine q_aload_n rfl rfl rfl ?_
  refine q_bipush rfl rfl ?_
  refine q_newa (m0 := 24) rfl rfl (by decide) rfl rfl rfl rfl ?_
  refine q_putf rfl rfl (by decide) rfl (by decide) rfl trivial ?_
  refine q_aload_n rfl rfl rfl ?_
  refine q_bipush rfl rfl ?_
  refine q_newa (m0 := 24) rfl rfl (by decide) rfl rfl rfl rfl ?_
  refine q_putf rfl rfl (by decide) rfl (by decide) rfl trivial ?_
  refine q_ret rfl rfl ?_
  refine ⟨rfl, ?_⟩
  refine q_putf rfl rfl (by decide) rfl (by decide) rfl trivial ?_
  refine q_aload_n rfl rfl rfl ?_
  refine q_new rfl rfl rfl rfl ?_
  refine q_dupr rfl rfl ?_
  refine q_aload_n rfl rfl rfl ?_
  refine q_getf rfl rfl (by decide) rfl rfl ?_
  refine q_nI1v rfl rfl (Or.inl rfl) rfl rfl ⟨rfl, rfl⟩ rfl ?_
  change PQ _ _ _ mm_X6_init 0 [.ref 39, .ref 33] [] _ _ 0 0 _
  refine q_aload_n rfl rfl rfl ?_
  refine q_objI rfl rfl rfl ?_
  refine q_aload_n rfl rfl rfl ?_
  refine q_iconst rfl rfl ?_
  refine q_putf rfl rfl (by decide) rfl (by decide) rfl trivial ?_
  refine q_aload_n rfl rfl rfl ?_
  refine q_aload_n rfl rfl rfl ?_
  refine q_putf rfl rfl (by decide) rfl (by decide) rfl trivial ?_
  refine q_ret rfl rfl ?_
  refine ⟨rfl, ?_⟩
  refine q_putf rfl rfl (by decide) rfl (by decide) rfl trivial ?_
  refine q_aload_n rfl rfl rfl ?_
  refine q_iconst rfl rfl ?_
  refine q_newa (m0 := 2) rfl rfl (by decide) rfl rfl rfl rfl ?_
  refine q_putf rfl rfl (by decide) rfl (by decide) rfl trivial ?_
  refine q_aload_n rfl rfl rfl ?_
  refine q_sipush rfl rfl ?_
  refine q_newa (m0 := 363) rfl rfl (by decide) rfl rfl rfl rfl ?_
  refine q_putf rfl rfl (by decide) rfl (by decide) rfl trivial ?_
  refine q_aload_n rfl rfl rfl ?_
  refine q_aload_n rfl rfl rfl ?_
  refine q_putf rfl rfl (by decide) rfl (by decide) rfl trivial ?_
  refine q_aload_n rfl rfl rfl ?_
  refine q_aload_n rfl rfl rfl ?_
  refine q_putf rfl rfl (by decide) rfl (by decide) rfl trivial ?_
  refine q_ret rfl rfl ?_
  refine ⟨rfl, ?_⟩
  refine q_putf rfl rfl (by decide) rfl (by decide) rfl trivial ?_
  refine q_aload_n rfl rfl rfl ?_
  refine q_new rfl rfl rfl rfl ?_
  refine q_dupr rfl rfl ?_
  refine q_nI0v rfl rfl (Or.inr rfl) rfl rfl ⟨rfl, rfl⟩ rfl ?_
  change PQ _ _ _ mm_X3_init 0 [.ref 42] [] _ _ 0 0 _
  refine q_aload_n rfl rfl rfl ?_
  refine q_objI rfl rfl rfl ?_
  refine q_aload_n rfl rfl rfl ?_
  refine q_lconst rfl rfl ?_
  refine q_putf rfl rfl (by decide) rfl (by decide) rfl trivial ?_
  refine q_aload_n rfl rfl rfl ?_
  refine q_lconst rfl rfl ?_
  refine q_putf rfl rfl (by decide) rfl (by decide) rfl trivial ?_
  refine q_ret rfl rfl ?_
  refine ⟨rfl, ?_⟩
  refine q_putf rfl rfl (by decide) rfl (by decide) rfl trivial ?_
  refine q_aload_n rfl rfl rfl ?_
  refine q_bipush rfl rfl ?_
  refine q_anewa (m0 := 8) rfl rfl (by decide) rfl rfl rfl rfl ?_
  refine q_putf rfl rfl (by decide) rfl (by decide) rfl trivial ?_
  refine q_aload_n rfl rfl rfl ?_
  refine q_iconst rfl rfl ?_
  refine q_newa (m0 := 5) rfl rfl (by decide) rfl rfl rfl rfl ?_
  refine q_putf rfl rfl (by decide) rfl (by decide) rfl trivial ?_
  refine q_aload_n rfl rfl rfl ?_
  refine q_iconst rfl rfl ?_
  refine q_newa (m0 := 5) rfl rfl (by decide) rfl rfl rfl rfl ?_
  refine q_putf rfl rfl (by decide) rfl (by decide) rfl trivial ?_
  refine q_aload_n rfl rfl rfl ?_
  refine q_iconst rfl rfl ?_
  refine q_putf rfl rfl (by decide) rfl (by decide) rfl rfl ?_
  refine q_aload_n rfl rfl rfl ?_
  refine q_lconst rfl rfl ?_
  refine q_putf rfl rfl (by decide) rfl (by decide) rfl trivial ?_
  refine q_ret rfl rfl ?_
  refine ⟨rfl, ?_⟩
  refine q_ast1n rfl rfl rfl rfl ?_
  refine q_new rfl rfl rfl rfl ?_
  refine q_dupr rfl rfl ?_
  refine q_nI0vA rfl rfl (Or.inl rfl) rfl rfl ⟨rfl, rfl⟩ rfl rfl rfl ?_
  change PQ _ _ _ mm_X12_init 0 [.ref 46] [] _ _ 0 0 _
  refine q_aload_n rfl rfl rfl ?_
  refine q_objI rfl rfl rfl ?_
  refine q_aload_n rfl rfl rfl ?_
  refine q_iconst rfl rfl ?_
  refine q_putf rfl rfl (by decide) rfl (by decide) rfl trivial ?_
  refine q_aload_n rfl rfl rfl ?_
  refine q_iconst rfl rfl ?_
  refine q_putf rfl rfl (by decide) rfl (by decide) rfl trivial ?_
  refine q_aload_n rfl rfl rfl ?_
  refine q_bipush rfl rfl ?_
  refine q_newa (m0 := 6) rfl rfl (by decide) rfl rfl rfl rfl ?_
  refine q_putf rfl rfl (by decide) rfl (by decide) rfl trivial ?_
  refine q_aload_n rfl rfl rfl ?_
  refine q_bipush rfl rfl ?_
  refine q_newa (m0 := 48) rfl rfl (by decide) rfl rfl rfl rfl ?_
  refine q_putf rfl rfl (by decide) rfl (by decide) rfl trivial ?_
  refine q_aload_n rfl rfl rfl ?_
  refine q_bipush rfl rfl ?_
  refine q_newa (m0 := 48) rfl rfl (by decide) rfl rfl rfl rfl ?_
  refine q_putf rfl rfl (by decide) rfl (by decide) rfl trivial ?_
  refine q_aload_n rfl rfl rfl ?_
  refine q_bipush rfl rfl ?_
  refine q_newa (m0 := 48) rfl rfl (by decide) rfl rfl rfl rfl ?_
  refine q_putf rfl rfl (by decide) rfl (by decide) rfl trivial ?_
  refine q_aload_n rfl rfl rfl ?_
  refine q_iconst rfl rfl ?_
  refine q_newa (m0 := 4) rfl rfl (by decide) rfl rfl rfl rfl ?_
  refine q_putf rfl rfl (by decide) rfl (by decide) rfl trivial ?_
  refine q_aload_n rfl rfl rfl ?_
  refine q_iconst rfl rfl ?_
  refine q_putf rfl rfl (by decide) rfl (by decide) rfl trivial ?_
  refine q_aload_n rfl rfl rfl ?_
  refine q_bipush rfl rfl ?_
  refine q_newa (m0 := 20) rfl rfl (by decide) rfl rfl rfl rfl ?_
  refine q_putf rfl rfl (by decide) rfl (by decide) rfl trivial ?_
  refine q_aload_n rfl rfl rfl ?_
  refine q_bipush rfl rfl ?_
  refine q_newa (m0 := 20) rfl rfl (by decide) rfl rfl rfl rfl ?_
  refine q_putf rfl rfl (by decide) rfl (by decide) rfl trivial ?_
  refine q_aload_n rfl rfl rfl ?_
  refine q_bipush rfl rfl ?_
  refine q_newa (m0 := 20) rfl rfl (by decide) rfl rfl rfl rfl ?_
  refine q_putf rfl rfl (by decide) rfl (by decide) rfl trivial ?_
  refine q_aload_n rfl rfl rfl ?_
  refine q_ldc rfl rfl ?_
  refine q_newa (m0 := 80000) rfl rfl (by decide) rfl rfl rfl rfl ?_
  refine q_putf rfl rfl (by decide) rfl (by decide) rfl trivial ?_
  refine q_aload_n rfl rfl rfl ?_
  refine q_sipush rfl rfl ?_
  refine q_newa (m0 := 4000) rfl rfl (by decide) rfl rfl rfl rfl ?_
  refine q_putf rfl rfl (by decide) rfl (by decide) rfl trivial ?_
  refine q_aload_n rfl rfl rfl ?_
  refine q_sipush rfl rfl ?_
  refine q_newa (m0 := 4000) rfl rfl (by decide) rfl rfl rfl rfl ?_
  refine q_putf rfl rfl (by decide) rfl (by decide) rfl trivial ?_
  refine q_aload_n rfl rfl rfl ?_
  refine q_sipush rfl rfl ?_
  refine q_newa (m0 := 4000) rfl rfl (by decide) rfl rfl rfl rfl ?_
  refine q_putf rfl rfl (by decide) rfl (by decide) rfl trivial ?_
  refine q_aload_n rfl rfl rfl ?_
  refine q_sipush rfl rfl ?_
  refine q_newa (m0 := 12000) rfl rfl (by decide) rfl rfl rfl rfl ?_
  refine q_putf rfl rfl (by decide) rfl (by decide) rfl trivial ?_
  refine q_aload_n rfl rfl rfl ?_
  refine q_iconst rfl rfl ?_
  refine q_newa (m0 := 2) rfl rfl (by decide) rfl rfl rfl rfl ?_
  refine q_putf rfl rfl (by decide) rfl (by decide) rfl trivial ?_
  refine q_aload_n rfl rfl rfl ?_
  refine q_sipush rfl rfl ?_
  refine q_newa (m0 := 16384) rfl rfl (by decide) rfl rfl rfl rfl ?_
  refine q_putf rfl rfl (by decide) rfl (by decide) rfl trivial ?_
  refine q_aload_n rfl rfl rfl ?_
  refine q_iconst rfl rfl ?_
  refine q_putf rfl rfl (by decide) rfl (by decide) rfl rfl ?_
  refine q_aload_n rfl rfl rfl ?_
  refine q_iconst rfl rfl ?_
  refine q_newa (m0 := 5) rfl rfl (by decide) rfl rfl rfl rfl ?_
  refine q_putf rfl rfl (by decide) rfl (by decide) rfl trivial ?_
  refine q_aload_n rfl rfl rfl ?_
  refine q_iconst rfl rfl ?_
  refine q_newa (m0 := 5) rfl rfl (by decide) rfl rfl rfl rfl ?_
  refine q_putf rfl rfl (by decide) rfl (by decide) rfl trivial ?_
  refine q_aload_n rfl rfl rfl ?_
  refine q_bipush rfl rfl ?_
  refine q_newa (m0 := 20) rfl rfl (by decide) rfl rfl rfl rfl ?_
  refine q_putf rfl rfl (by decide) rfl (by decide) rfl trivial ?_
  refine q_aload_n rfl rfl rfl ?_
  refine q_sipush rfl rfl ?_
  refine q_newa (m0 := 2000) rfl rfl (by decide) rfl rfl rfl rfl ?_
  refine q_putf rfl rfl (by decide) rfl (by decide) rfl trivial ?_
  refine q_aload_n rfl rfl rfl ?_
  refine q_sipush rfl rfl ?_
  refine q_newa (m0 := 2000) rfl rfl (by decide) rfl rfl rfl rfl ?_
  refine q_putf rfl rfl (by decide) rfl (by decide) rfl trivial ?_
  refine q_aload_n rfl rfl rfl ?_
  refine q_sipush rfl rfl ?_
  refine q_newa (m0 := 2000) rfl rfl (by decide) rfl rfl rfl rfl ?_
  refine q_putf rfl rfl (by decide) rfl (by decide) rfl trivial ?_
  refine q_aload_n rfl rfl rfl ?_
  refine q_sipush rfl rfl ?_
  refine q_newa (m0 := 2000) rfl rfl (by decide) rfl rfl rfl rfl ?_
  refine q_putf rfl rfl (by decide) rfl (by decide) rfl trivial ?_
  refine q_aload_n rfl rfl rfl ?_
  refine q_sipush rfl rfl ?_
  refine q_newa (m0 := 2000) rfl rfl (by decide) rfl rfl rfl rfl ?_
  refine q_putf rfl rfl (by decide) rfl (by decide) rfl trivial ?_
  refine q_aload_n rfl rfl rfl ?_
  refine q_sipush rfl rfl ?_
  refine q_newa (m0 := 2000) rfl rfl (by decide) rfl rfl rfl rfl ?_
  refine q_putf rfl rfl (by decide) rfl (by decide) rfl trivial ?_
  refine q_aload_n rfl rfl rfl ?_
  refine q_sipush rfl rfl ?_
  refine q_newa (m0 := 2000) rfl rfl (by decide) rfl rfl rfl rfl ?_
  refine q_putf rfl rfl (by decide) rfl (by decide) rfl trivial ?_
  refine q_aload_n rfl rfl rfl ?_
  refine q_iconst rfl rfl ?_
  refine q_putf rfl rfl (by decide) rfl (by decide) rfl trivial ?_
  refine q_aload_n rfl rfl rfl ?_
  refine q_iconst rfl rfl ?_
  refine q_newa (m0 := 2) rfl rfl (by decide) rfl rfl rfl rfl ?_
  refine q_dupr rfl rfl ?_
  refine q_iconst rfl rfl ?_
  refine q_bipush rfl rfl ?_
  refine q_iast rfl rfl (by decide) rfl (by decide) ?_
  refine q_dupr rfl rfl ?_
  refine q_iconst rfl rfl ?_
  refine q_bipush rfl rfl ?_
  refine q_iast rfl rfl (by decide) rfl (by decide) ?_
  refine q_putf rfl rfl (by decide) rfl (by decide) rfl trivial ?_
  refine q_aload_n rfl rfl rfl ?_
  refine q_iconst rfl rfl ?_
  refine q_newa (m0 := 2) rfl rfl (by decide) rfl rfl rfl rfl ?_
  refine q_dupr rfl rfl ?_
  refine q_iconst rfl rfl ?_
  refine q_bipush rfl rfl ?_
  refine q_iast rfl rfl (by decide) rfl (by decide) ?_
  refine q_dupr rfl rfl ?_
  refine q_iconst rfl rfl ?_
  refine q_bipush rfl rfl ?_
  refine q_iast rfl rfl (by decide) rfl (by decide) ?_
  refine q_putf rfl rfl (by decide) rfl (by decide) rfl trivial ?_
  refine q_aload_n rfl rfl rfl ?_
  refine q_iconst rfl rfl ?_
  refine q_putf rfl rfl (by decide) rfl (by decide) rfl rfl ?_
  refine q_aload_n rfl rfl rfl ?_
  refine q_bipush rfl rfl ?_
  refine q_newa (m0 := 40) rfl rfl (by decide) rfl rfl rfl rfl ?_
  refine q_dupr rfl rfl ?_
  refine q_iconst rfl rfl ?_
  refine q_bipush rfl rfl ?_
  refine q_iast rfl rfl (by decide) rfl (by decide) ?_
  refine q_dupr rfl rfl ?_
  refine q_iconst rfl rfl ?_
  refine q_bipush rfl rfl ?_
  refine q_iast rfl rfl (by decide) rfl (by decide) ?_
  refine q_dupr rfl rfl ?_
  refine q_iconst rfl rfl ?_
  refine q_bipush rfl rfl ?_
  refine q_iast rfl rfl (by decide) rfl (by decide) ?_
  refine q_dupr rfl rfl ?_
  refine q_iconst rfl rfl ?_
  refine q_bipush rfl rfl ?_
  refine q_iast rfl rfl (by decide) rfl (by decide) ?_
  refine q_dupr rfl rfl ?_
  refine q_iconst rfl rfl ?_
  refine q_bipush rfl rfl ?_
  refine q_iast rfl rfl (by decide) rfl (by decide) ?_
  refine q_dupr rfl rfl ?_
  refine q_iconst rfl rfl ?_
  refine q_bipush rfl rfl ?_
  refine q_iast rfl rfl (by decide) rfl (by decide) ?_
  refine q_dupr rfl rfl ?_
  refine q_bipush rfl rfl ?_
  refine q_bipush rfl rfl ?_
  refine q_iast rfl rfl (by decide) rfl (by decide) ?_
  refine q_dupr rfl rfl ?_
  refine q_bipush rfl rfl ?_
  refine q_bipush rfl rfl ?_
  refine q_iast rfl rfl (by decide) rfl (by decide) ?_
  refine q_dupr rfl rfl ?_
  refine q_bipush rfl rfl ?_
  refine q_bipush rfl rfl ?_
  refine q_iast rfl rfl (by decide) rfl (by decide) ?_
  refine q_dupr rfl rfl ?_
  refine q_bipush rfl rfl ?_
  refine q_bipush rfl rfl ?_
  refine q_iast rfl rfl (by decide) rfl (by decide) ?_
  refine q_dupr rfl rfl ?_
  refine q_bipush rfl rfl ?_
  refine q_bipush rfl rfl ?_
  refine q_iast rfl rfl (by decide) rfl (by decide) ?_
  refine q_dupr rfl rfl ?_
  refine q_bipush rfl rfl ?_
  refine q_bipush rfl rfl ?_
  refine q_iast rfl rfl (by decide) rfl (by decide) ?_
  refine q_dupr rfl rfl ?_
  refine q_bipush rfl rfl ?_
  refine q_bipush rfl rfl ?_
  refine q_iast rfl rfl (by decide) rfl (by decide) ?_
  refine q_dupr rfl rfl ?_
  refine q_bipush rfl rfl ?_
  refine q_bipush rfl rfl ?_
  refine q_iast rfl rfl (by decide) rfl (by decide) ?_
  refine q_dupr rfl rfl ?_
  refine q_bipush rfl rfl ?_
  refine q_bipush rfl rfl ?_
  refine q_iast rfl rfl (by decide) rfl (by decide) ?_
  refine q_dupr rfl rfl ?_
  refine q_bipush rfl rfl ?_
  refine q_bipush rfl rfl ?_
  refine q_iast rfl rfl (by decide) rfl (by decide) ?_
  refine q_dupr rfl rfl ?_
  refine q_bipush rfl rfl ?_
  refine q_bipush rfl rfl ?_
  refine q_iast rfl rfl (by decide) rfl (by decide) ?_
  refine q_dupr rfl rfl ?_
  refine q_bipush rfl rfl ?_
  refine q_bipush rfl rfl ?_
  refine q_iast rfl rfl (by decide) rfl (by decide) ?_
  refine q_dupr rfl rfl ?_
  refine q_bipush rfl rfl ?_
  refine q_bipush rfl rfl ?_
  refine q_iast rfl rfl (by decide) rfl (by decide) ?_
  refine q_dupr rfl rfl ?_
  refine q_bipush rfl rfl ?_
  refine q_bipush rfl rfl ?_
  refine q_iast rfl rfl (by decide) rfl (by decide) ?_
  refine q_dupr rfl rfl ?_
  refine q_bipush rfl rfl ?_
  refine q_bipush rfl rfl ?_
  refine q_iast rfl rfl (by decide) rfl (by decide) ?_
  refine q_dupr rfl rfl ?_
  refine q_bipush rfl rfl ?_
  refine q_bipush rfl rfl ?_
  refine q_iast rfl rfl (by decide) rfl (by decide) ?_
  refine q_dupr rfl rfl ?_
  refine q_bipush rfl rfl ?_
  refine q_bipush rfl rfl ?_
  refine q_iast rfl rfl (by decide) rfl (by decide) ?_
  refine q_dupr rfl rfl ?_
  refine q_bipush rfl rfl ?_
  refine q_bipush rfl rfl ?_
  refine q_iast rfl rfl (by decide) rfl (by decide) ?_
  refine q_dupr rfl rfl ?_
  refine q_bipush rfl rfl ?_
  refine q_bipush rfl rfl ?_
  refine q_iast rfl rfl (by decide) rfl (by decide) ?_
  refine q_dupr rfl rfl ?_
  refine q_bipush rfl rfl ?_
  refine q_bipush rfl rfl ?_
  refine q_iast rfl rfl (by decide) rfl (by decide) ?_
  refine q_dupr rfl rfl ?_
  refine q_bipush rfl rfl ?_
  refine q_bipush rfl rfl ?_
  refine q_iast rfl rfl (by decide) rfl (by decide) ?_
  refine q_dupr rfl rfl ?_
  refine q_bipush rfl rfl ?_
  refine q_bipush rfl rfl ?_
  refine q_iast rfl rfl (by decide) rfl (by decide) ?_
  refine q_dupr rfl rfl ?_
  refine q_bipush rfl rfl ?_
  refine q_bipush rfl rfl ?_
  refine q_iast rfl rfl (by decide) rfl (by decide) ?_
  refine q_dupr rfl rfl ?_
  refine q_bipush rfl rfl ?_
  refine q_bipush rfl rfl ?_
  refine q_iast rfl rfl (by decide) rfl (by decide) ?_
  refine q_dupr rfl rfl ?_
  refine q_bipush rfl rfl ?_
  refine q_bipush rfl rfl ?_
  refine q_iast rfl rfl (by decide) rfl (by decide) ?_
  refine q_dupr rfl rfl ?_
  refine q_bipush rfl rfl ?_
  refine q_bipush rfl rfl ?_
  refine q_iast rfl rfl (by decide) rfl (by decide) ?_
  refine q_dupr rfl rfl ?_
  refine q_bipush rfl rfl ?_
  refine q_bipush rfl rfl ?_
  refine q_iast rfl rfl (by decide) rfl (by decide) ?_
  refine q_dupr rfl rfl ?_
  refine q_bipush rfl rfl ?_
  refine q_bipush rfl rfl ?_
  refine q_iast rfl rfl (by decide) rfl (by decide) ?_
  refine q_dupr rfl rfl ?_
  refine q_bipush rfl rfl ?_
  refine q_bipush rfl rfl ?_
  refine q_iast rfl rfl (by decide) rfl (by decide) ?_
  refine q_dupr rfl rfl ?_
  refine q_bipush rfl rfl ?_
  refine q_bipush rfl rfl ?_
  refine q_iast rfl rfl (by decide) rfl (by decide) ?_
  refine q_dupr rfl rfl ?_
  refine q_bipush rfl rfl ?_
  refine q_bipush rfl rfl ?_
  refine q_iast rfl rfl (by decide) rfl (by decide) ?_
  refine q_dupr rfl rfl ?_
  refine q_bipush rfl rfl ?_
  refine q_bipush rfl rfl ?_
  refine q_iast rfl rfl (by decide) rfl (by decide) ?_
  refine q_dupr rfl rfl ?_
  refine q_bipush rfl rfl ?_
  refine q_bipush rfl rfl ?_
  refine q_iast rfl rfl (by decide) rfl (by decide) ?_
  refine q_dupr rfl rfl ?_
  refine q_bipush rfl rfl ?_
  refine q_bipush rfl rfl ?_
  refine q_iast rfl rfl (by decide) rfl (by decide) ?_
  refine q_putf rfl rfl (by decide) rfl (by decide) rfl trivial ?_
  refine q_aload_n rfl rfl rfl ?_
  refine q_iconst rfl rfl ?_
  refine q_putf rfl rfl (by decide) rfl (by decide) rfl trivial ?_
  refine q_aload_n rfl rfl rfl ?_
  refine q_bipush rfl rfl ?_
  refine q_newa (m0 := 8) rfl rfl (by decide) rfl rfl rfl rfl ?_
  refine q_putf rfl rfl (by decide) rfl (by decide) rfl trivial ?_
  refine q_aload_n rfl rfl rfl ?_
  refine q_bipush rfl rfl ?_
  refine q_newa (m0 := 8) rfl rfl (by decide) rfl rfl rfl rfl ?_
  refine q_putf rfl rfl (by decide) rfl (by decide) rfl trivial ?_
  refine q_aload_n rfl rfl rfl ?_
  refine q_bipush rfl rfl ?_
  refine q_newa (m0 := 8) rfl rfl (by decide) rfl rfl rfl rfl ?_
  refine q_putf rfl rfl (by decide) rfl (by decide) rfl trivial ?_
  refine q_aload_n rfl rfl rfl ?_
  refine q_bipush rfl rfl ?_
  refine q_newa (m0 := 8) rfl rfl (by decide) rfl rfl rfl rfl ?_
  refine q_putf rfl rfl (by decide) rfl (by decide) rfl trivial ?_
  refine q_aload_n rfl rfl rfl ?_
  refine q_sipush rfl rfl ?_
  refine q_newa (m0 := 480) rfl rfl (by decide) rfl rfl rfl rfl ?_
  refine q_putf rfl rfl (by decide) rfl (by decide) rfl trivial ?_
  refine q_aload_n rfl rfl rfl ?_
  refine q_bipush rfl rfl ?_
  refine q_newa (m0 := 60) rfl rfl (by decide) rfl rfl rfl rfl ?_
  refine q_putf rfl rfl (by decide) rfl (by decide) rfl trivial ?_
  refine q_aload_n rfl rfl rfl ?_
  refine q_nV0v rfl rfl (Or.inl rfl) rfl rfl rfl (by decide) rfl ⟨rfl, rfl⟩ rfl ?_
  change PQ _ _ _ mm_X12_toFirst 0 [.ref 46, pm_un] [] _ _ 0 0 _
  refine q_aload_n rfl rfl rfl ?_
  refine q_iconst rfl rfl ?_
  refine q_putf rfl rfl (by decide) rfl (by decide) rfl trivial ?_
  refine q_aload_n rfl rfl rfl ?_
  refine q_nV0v rfl rfl (Or.inl rfl) rfl rfl rfl (by decide) rfl ⟨rfl, rfl⟩ rfl ?_
  change PQ _ _ _ mm_X12_firstState 0 [.ref 46, pm_un] [] _ _ 0 0 _
  refine q_iconst rfl rfl ?_
  refine q_ist1n rfl rfl rfl rfl ?_
  refine q_iload_n rfl rfl rfl ?_
  refine q_bipush rfl rfl ?_
  refine q_icge rfl rfl (fun c1 => absurd c1 (by decide)) (fun c1 => ?_)
  refine q_aload_n rfl rfl rfl ?_
  refine q_getf rfl rfl (by decide) rfl rfl ?_
  refine q_iload_n rfl rfl rfl ?_
  refine q_iconst rfl rfl ?_
  refine q_iast rfl rfl (by decide) rfl (by decide) ?_
  refine q_icc1 (z := 1) rfl rfl rfl rfl rfl ?_
  refine q_goto rfl ?_
  refine q_iload_n rfl rfl rfl ?_
  refine q_bipush rfl rfl ?_
  refine q_icge rfl rfl (fun c2 => absurd c2 (by decide)) (fun c2 => ?_)
  refine q_aload_n rfl rfl rfl ?_
  refine q_getf rfl rfl (by decide) rfl rfl ?_
  refine q_iload_n rfl rfl rfl ?_
  refine q_iconst rfl rfl ?_
  refine q_iast rfl rfl (by decide) rfl (by decide) ?_
  refine q_icc1 (z := 2) rfl rfl rfl rfl rfl ?_
  refine q_goto rfl ?_
  refine q_iload_n rfl rfl rfl ?_
  refine q_bipush rfl rfl ?_
  refine q_icge rfl rfl (fun c3 => absurd c3 (by decide)) (fun c3 => ?_)
  refine q_aload_n rfl rfl rfl ?_
  refine q_getf rfl rfl (by decide) rfl rfl ?_
  refine q_iload_n rfl rfl rfl ?_
  refine q_iconst rfl rfl ?_
  refine q_iast rfl rfl (by decide) rfl (by decide) ?_
  refine q_icc1 (z := 3) rfl rfl rfl rfl rfl ?_
  refine q_goto rfl ?_
  refine q_iload_n rfl rfl rfl ?_
  refine q_bipush rfl rfl ?_
  refine q_icge rfl rfl (fun c4 => absurd c4 (by decide)) (fun c4 => ?_)
  refine q_aload_n rfl rfl rfl ?_
  refine q_getf rfl rfl (by decide) rfl rfl ?_
  refine q_iload_n rfl rfl rfl ?_
  refine q_iconst rfl rfl ?_
  refine q_iast rfl rfl (by decide) rfl (by decide) ?_
  refine q_icc1 (z := 4) rfl rfl rfl rfl rfl ?_
  refine q_goto rfl ?_
  refine q_iload_n rfl rfl rfl ?_
  refine q_bipush rfl rfl ?_
  refine q_icge rfl rfl (fun c5 => absurd c5 (by decide)) (fun c5 => ?_)
  refine q_aload_n rfl rfl rfl ?_
  refine q_getf rfl rfl (by decide) rfl rfl ?_
  refine q_iload_n rfl rfl rfl ?_
  refine q_iconst rfl rfl ?_
  refine q_iast rfl rfl (by decide) rfl (by decide) ?_
  refine q_icc1 (z := 5) rfl rfl rfl rfl rfl ?_
  refine q_goto rfl ?_
  refine q_iload_n rfl rfl rfl ?_
  refine q_bipush rfl rfl ?_
  refine q_icge rfl rfl (fun c6 => absurd c6 (by decide)) (fun c6 => ?_)
  refine q_aload_n rfl rfl rfl ?_
  refine q_getf rfl rfl (by decide) rfl rfl ?_
  refine q_iload_n rfl rfl rfl ?_
  refine q_iconst rfl rfl ?_
  refine q_iast rfl rfl (by decide) rfl (by decide) ?_
  refine q_icc1 (z := 6) rfl rfl rfl rfl rfl ?_
  refine q_goto rfl ?_
  refine q_iload_n rfl rfl rfl ?_
  refine q_bipush rfl rfl ?_
  refine q_icge rfl rfl (fun c7 => absurd c7 (by decide)) (fun c7 => ?_)
  refine q_aload_n rfl rfl rfl ?_
  refine q_getf rfl rfl (by decide) rfl rfl ?_
  refine q_iload_n rfl rfl rfl ?_
  refine q_iconst rfl rfl ?_
  refine q_iast rfl rfl (by decide) rfl (by decide) ?_
  refine q_icc1 (z := 7) rfl rfl rfl rfl rfl ?_
  refine q_goto rfl ?_
  refine q_iload_n rfl rfl rfl ?_
  refine q_bipush rfl rfl ?_
  refine q_icge rfl rfl (fun c8 => absurd c8 (by decide)) (fun c8 => ?_)
  refine q_aload_n rfl rfl rfl ?_
  refine q_getf rfl rfl (by decide) rfl rfl ?_
  refine q_iload_n rfl rfl rfl ?_
  refine q_iconst rfl rfl ?_
  refine q_iast rfl rfl (by decide) rfl (by decide) ?_
  refine q_icc1 (z := 8) rfl rfl rfl rfl rfl ?_
  refine q_goto rfl ?_
  refine q_iload_n rfl rfl rfl ?_
  refine q_bipush rfl rfl ?_
  refine q_icge rfl rfl (fun c9 => absurd c9 (by decide)) (fun c9 => ?_)
  refine q_aload_n rfl rfl rfl ?_
  refine q_getf rfl rfl (by decide) rfl rfl ?_
  refine q_iload_n rfl rfl rfl ?_
  refine q_iconst rfl rfl ?_
  refine q_iast rfl rfl (by decide) rfl (by decide) ?_
  refine q_icc1 (z := 9) rfl rfl rfl rfl rfl ?_
  refine q_goto rfl ?_
  refine q_iload_n rfl rfl rfl ?_
  refine q_bipush rfl rfl ?_
  refine q_icge rfl rfl (fun c10 => absurd c10 (by decide)) (fun c10 => ?_)
  refine q_aload_n rfl rfl rfl ?_
  refine q_getf rfl rfl (by decide) rfl rfl ?_
  refine q_iload_n rfl rfl rfl ?_
  refine q_iconst rfl rfl ?_
  refine q_iast rfl rfl (by decide) rfl (by decide) ?_
  refine q_icc1 (z := 10) rfl rfl rfl rfl rfl ?_
  refine q_goto rfl ?_
  refine q_iload_n rfl rfl rfl ?_
  refine q_bipush rfl rfl ?_
  refine q_icge rfl rfl (fun c11 => absurd c11 (by decide)) (fun c11 => ?_)
  refine q_aload_n rfl rfl rfl ?_
  refine q_getf rfl rfl (by decide) rfl rfl ?_
  refine q_iload_n rfl rfl rfl ?_
  refine q_iconst rfl rfl ?_
  refine q_iast rfl rfl (by decide) rfl (by decide) ?_
  refine q_icc1 (z := 11) rfl rfl rfl rfl rfl ?_
  refine q_goto rfl ?_
  refine q_iload_n rfl rfl rfl ?_
  refine q_bipush rfl rfl ?_
  refine q_icge rfl rfl (fun c12 => absurd c12 (by decide)) (fun c12 => ?_)
  refine q_aload_n rfl rfl rfl ?_
  refine q_getf rfl rfl (by decide) rfl rfl ?_
  refine q_iload_n rfl rfl rfl ?_
  refine q_iconst rfl rfl ?_
  refine q_iast rfl rfl (by decide) rfl (by decide) ?_
  refine q_icc1 (z := 12) rfl rfl rfl rfl rfl ?_
  refine q_goto rfl ?_
  refine q_iload_n rfl rfl rfl ?_
  refine q_bipush rfl rfl ?_
  refine q_icge rfl rfl (fun c13 => absurd c13 (by decide)) (fun c13 => ?_)
  refine q_aload_n rfl rfl rfl ?_
  refine q_getf rfl rfl (by decide) rfl rfl ?_
  refine q_iload_n rfl rfl rfl ?_
  refine q_iconst rfl rfl ?_
  refine q_iast rfl rfl (by decide) rfl (by decide) ?_
  refine q_icc1 (z := 13) rfl rfl rfl rfl rfl ?_
  refine q_goto rfl ?_
  refine q_iload_n rfl rfl rfl ?_
  refine q_bipush rfl rfl ?_
  refine q_icge rfl rfl (fun c14 => absurd c14 (by decide)) (fun c14 => ?_)
  refine q_aload_n rfl rfl rfl ?_
  refine q_getf rfl rfl (by decide) rfl rfl ?_
  refine q_iload_n rfl rfl rfl ?_
  refine q_iconst rfl rfl ?_
  refine q_iast rfl rfl (by decide) rfl (by decide) ?_
  refine q_icc1 (z := 14) rfl rfl rfl rfl rfl ?_
  refine q_goto rfl ?_
  refine q_iload_n rfl rfl rfl ?_
  refine q_bipush rfl rfl ?_
  refine q_icge rfl rfl (fun c15 => absurd c15 (by decide)) (fun c15 => ?_)
  refine q_aload_n rfl rfl rfl ?_
  refine q_getf rfl rfl (by decide) rfl rfl ?_
  refine q_iload_n rfl rfl rfl ?_
  refine q_iconst rfl rfl ?_
  refine q_iast rfl rfl (by decide) rfl (by decide) ?_
  refine q_icc1 (z := 15) rfl rfl rfl rfl rfl ?_
  refine q_goto rfl ?_
  refine q_iload_n rfl rfl rfl ?_
  refine q_bipush rfl rfl ?_
  refine q_icge rfl rfl (fun c16 => absurd c16 (by decide)) (fun c16 => ?_)
  refine q_aload_n rfl rfl rfl ?_
  refine q_getf rfl rfl (by decide) rfl rfl ?_
  refine q_iload_n rfl rfl rfl ?_
  refine q_iconst rfl rfl ?_
  refine q_iast rfl rfl (by decide) rfl (by decide) ?_
  refine q_icc1 (z := 16) rfl rfl rfl rfl rfl ?_
  refine q_goto rfl ?_
  refine q_iload_n rfl rfl rfl ?_
  refine q_bipush rfl rfl ?_
  refine q_icge rfl rfl (fun c17 => absurd c17 (by decide)) (fun c17 => ?_)
  refine q_aload_n rfl rfl rfl ?_
  refine q_getf rfl rfl (by decide) rfl rfl ?_
  refine q_iload_n rfl rfl rfl ?_
  refine q_iconst rfl rfl ?_
  refine q_iast rfl rfl (by decide) rfl (by decide) ?_
  refine q_icc1 (z := 17) rfl rfl rfl rfl rfl ?_
  refine q_goto rfl ?_
  refine q_iload_n rfl rfl rfl ?_
  refine q_bipush rfl rfl ?_
  refine q_icge rfl rfl (fun c18 => absurd c18 (by decide)) (fun c18 => ?_)
  refine q_aload_n rfl rfl rfl ?_
  refine q_getf rfl rfl (by decide) rfl rfl ?_
  refine q_iload_n rfl rfl rfl ?_
  refine q_iconst rfl rfl ?_
  refine q_iast rfl rfl (by decide) rfl (by decide) ?_
  refine q_icc1 (z := 18) rfl rfl rfl rfl rfl ?_
  refine q_goto rfl ?_
  refine q_iload_n rfl rfl rfl ?_
  refine q_bipush rfl rfl ?_
  refine q_icge rfl rfl (fun c19 => absurd c19 (by decide)) (fun c19 => ?_)
  refine q_aload_n rfl rfl rfl ?_
  refine q_getf rfl rfl (by decide) rfl rfl ?_
  refine q_iload_n rfl rfl rfl ?_
  refine q_iconst rfl rfl ?_
  refine q_iast rfl rfl (by decide) rfl (by decide) ?_
  refine q_icc1 (z := 19) rfl rfl rfl rfl rfl ?_
  refine q_goto rfl ?_
  refine q_iload_n rfl rfl rfl ?_
  refine q_bipush rfl rfl ?_
  refine q_icge rfl rfl (fun c20 => absurd c20 (by decide)) (fun c20 => ?_)
  refine q_aload_n rfl rfl rfl ?_
  refine q_getf rfl rfl (by decide) rfl rfl ?_
  refine q_iload_n rfl rfl rfl ?_
  refine q_iconst rfl rfl ?_
  refine q_iast rfl rfl (by decide) rfl (by decide) ?_
  refine q_icc1 (z := 20) rfl rfl rfl rfl rfl ?_
  refine q_goto rfl ?_
  refine q_iload_n rfl rfl rfl ?_
  refine q_bipush rfl rfl ?_
  refine q_icge rfl rfl (fun c21 => ?_) (fun c21 => absurd (by decide) c21)
  refine q_iconst rfl rfl ?_
  refine q_ist1n rfl rfl rfl rfl ?_
  refine q_iload_n rfl rfl rfl ?_
  refine q_aload_n rfl rfl rfl ?_
  refine q_getf rfl rfl (by decide) rfl rfl ?_
  refine q_icge rfl rfl (fun c22 => absurd c22 (by decide)) (fun c22 => ?_)
  refine q_aload_n rfl rfl rfl ?_
  refine q_getf rfl rfl (by decide) rfl rfl ?_
  refine q_iconst rfl rfl ?_
  refine q_iload_n rfl rfl rfl ?_
  refine q_imul rfl rfl (q_tn (z := 0) rfl ?_)
  refine q_aload_n rfl rfl rfl ?_
  refine q_getf rfl rfl (by decide) rfl rfl ?_
  refine q_aload_n rfl rfl rfl ?_
  refine q_getf rfl rfl (by decide) rfl rfl ?_
  refine q_iload_n rfl rfl rfl ?_
  refine q_iadd rfl rfl (q_tn (z := 0) rfl ?_)
  refine q_iald rfl rfl (by decide) rfl (by decide) (q_tn (z := 0) rfl ?_)
  refine q_ifne rfl rfl (fun c23 => ?_) (fun c23 => absurd (by decide) c23)
  refine q_bipush rfl rfl ?_
  refine q_goto rfl ?_
  refine q_iast rfl rfl (by decide) rfl (by decide) ?_
  refine q_icc1 (z := 1) rfl rfl rfl rfl rfl ?_
  refine q_goto rfl ?_
  refine q_iload_n rfl rfl rfl ?_
  refine q_aload_n rfl rfl rfl ?_
  refine q_getf rfl rfl (by decide) rfl rfl ?_
  refine q_icge rfl rfl (fun c24 => ?_) (fun c24 => absurd (by decide) c24)
  refine q_iconst rfl rfl ?_
  refine q_ist1n rfl rfl rfl rfl ?_
  refine q_iload_n rfl rfl rfl ?_
  refine q_iconst rfl rfl ?_
  refine q_icge rfl rfl (fun c25 => absurd c25 (by decide)) (fun c25 => ?_)
  refine q_aload_n rfl rfl rfl ?_
  refine q_getf rfl rfl (by decide) rfl rfl ?_
  refine q_bipush rfl rfl ?_
  refine q_iload_n rfl rfl rfl ?_
  refine q_iadd rfl rfl (q_tn (z := 12) rfl ?_)
  refine q_aload_n rfl rfl rfl ?_
  refine q_getf rfl rfl (by decide) rfl rfl ?_
  refine q_iload_n rfl rfl rfl ?_
  refine q_iald rfl rfl (by decide) rfl (by decide) (q_tn (z := 0) rfl ?_)
  refine q_iast rfl rfl (by decide) rfl (by decide) ?_
  refine q_icc1 (z := 1) rfl rfl rfl rfl rfl ?_
  refine q_goto rfl ?_
  refine q_iload_n rfl rfl rfl ?_
  refine q_iconst rfl rfl ?_
  refine q_icge rfl rfl (fun c26 => absurd c26 (by decide)) (fun c26 => ?_)
  refine q_aload_n rfl rfl rfl ?_
  refine q_getf rfl rfl (by decide) rfl rfl ?_
  refine q_bipush rfl rfl ?_
  refine q_iload_n rfl rfl rfl ?_
  refine q_iadd rfl rfl (q_tn (z := 13) rfl ?_)
  refine q_aload_n rfl rfl rfl ?_
  refine q_getf rfl rfl (by decide) rfl rfl ?_
  refine q_iload_n rfl rfl rfl ?_
  refine q_iald rfl rfl (by decide) rfl (by decide) (q_tn (z := 0) rfl ?_)
  refine q_iast rfl rfl (by decide) rfl (by decide) ?_
  refine q_icc1 (z := 2) rfl rfl rfl rfl rfl ?_
  refine q_goto rfl ?_
  refine q_iload_n rfl rfl rfl ?_
  refine q_iconst rfl rfl ?_
  refine q_icge rfl rfl (fun c27 => absurd c27 (by decide)) (fun c27 => ?_)
  refine q_aload_n rfl rfl rfl ?_
  refine q_getf rfl rfl (by decide) rfl rfl ?_
  refine q_bipush rfl rfl ?_
  refine q_iload_n rfl rfl rfl ?_
  refine q_iadd rfl rfl (q_tn (z := 14) rfl ?_)
  refine q_aload_n rfl rfl rfl ?_
  refine q_getf rfl rfl (by decide) rfl rfl ?_
  refine q_iload_n rfl rfl rfl ?_
  refine q_iald rfl rfl (by decide) rfl (by decide) (q_tn (z := 0) rfl ?_)
  refine q_iast rfl rfl (by decide) rfl (by decide) ?_
  refine q_icc1 (z := 3) rfl rfl rfl rfl rfl ?_
  refine q_goto rfl ?_
  refine q_iload_n rfl rfl rfl ?_
  refine q_iconst rfl rfl ?_
  refine q_icge rfl rfl (fun c28 => absurd c28 (by decide)) (fun c28 => ?_)
  refine q_aload_n rfl rfl rfl ?_
  refine q_getf rfl rfl (by decide) rfl rfl ?_
  refine q_bipush rfl rfl ?_
  refine q_iload_n rfl rfl rfl ?_
  refine q_iadd rfl rfl (q_tn (z := 15) rfl ?_)
  refine q_aload_n rfl rfl rfl ?_
  refine q_getf rfl rfl (by decide) rfl rfl ?_
  refine q_iload_n rfl rfl rfl ?_
  refine q_iald rfl rfl (by decide) rfl (by decide) (q_tn (z := 0) rfl ?_)
  refine q_iast rfl rfl (by decide) rfl (by decide) ?_
  refine q_icc1 (z := 4) rfl rfl rfl rfl rfl ?_
  refine q_goto rfl ?_
  refine q_iload_n rfl rfl rfl ?_
  refine q_iconst rfl rfl ?_
  refine q_icge rfl rfl (fun c29 => ?_) (fun c29 => absurd (by decide) c29)
  refine q_ret rfl rfl ?_
  refine ⟨rfl, ?_⟩
  refine q_iconst rfl rfl ?_
  refine q_ist1n rfl rfl rfl rfl ?_
  refine q_iload_n rfl rfl rfl ?_
  refine q_bipush rfl rfl ?_
  refine q_icge rfl rfl (fun c30 => absurd c30 (by decide)) (fun c30 => ?_)
  refine q_aload_n rfl rfl rfl ?_
  refine q_getf rfl rfl (by decide) rfl rfl ?_
  refine q_iload_n rfl rfl rfl ?_
  refine q_aload_n rfl rfl rfl ?_
  refine q_getf rfl rfl (by decide) rfl rfl ?_
  refine q_iload_n rfl rfl rfl ?_
  refine q_iald rfl rfl (by decide) rfl (by decide) (q_tn (z := 10) rfl ?_)
  refine q_iast rfl rfl (by decide) rfl (by decide) ?_
  refine q_icc1 (z := 1) rfl rfl rfl rfl rfl ?_
  refine q_goto rfl ?_
  refine q_iload_n rfl rfl rfl ?_
  refine q_bipush rfl rfl ?_
  refine q_icge rfl rfl (fun c31 => absurd c31 (by decide)) (fun c31 => ?_)
  refine q_aload_n rfl rfl rfl ?_
  refine q_getf rfl rfl (by decide) rfl rfl ?_
  refine q_iload_n rfl rfl rfl ?_
  refine q_aload_n rfl rfl rfl ?_
  refine q_getf rfl rfl (by decide) rfl rfl ?_
  refine q_iload_n rfl rfl rfl ?_
  refine q_iald rfl rfl (by decide) rfl (by decide) (q_tn (z := 0) rfl ?_)
  refine q_iast rfl rfl (by decide) rfl (by decide) ?_
  refine q_icc1 (z := 2) rfl rfl rfl rfl rfl ?_
  refine q_goto rfl ?_
  refine q_iload_n rfl rfl rfl ?_
  refine q_bipush rfl rfl ?_
  refine q_icge rfl rfl (fun c32 => absurd c32 (by decide)) (fun c32 => ?_)
  refine q_aload_n rfl rfl rfl ?_
  refine q_getf rfl rfl (by decide) rfl rfl ?_
  refine q_iload_n rfl rfl rfl ?_
  refine q_aload_n rfl rfl rfl ?_
  refine q_getf rfl rfl (by decide) rfl rfl ?_
  refine q_iload_n rfl rfl rfl ?_
  refine q_iald rfl rfl (by decide) rfl (by decide) (q_tn (z := 0) rfl ?_)
  refine q_iast rfl rfl (by decide) rfl (by decide) ?_
  refine q_icc1 (z := 3) rfl rfl rfl rfl rfl ?_
  refine q_goto rfl ?_
  refine q_iload_n rfl rfl rfl ?_
  refine q_bipush rfl rfl ?_
  refine q_icge rfl rfl (fun c33 => absurd c33 (by decide)) (fun c33 => ?_)
  refine q_aload_n rfl rfl rfl ?_
  refine q_getf rfl rfl (by decide) rfl rfl ?_
  refine q_iload_n rfl rfl rfl ?_
  refine q_aload_n rfl rfl rfl ?_
  refine q_getf rfl rfl (by decide) rfl rfl ?_
  refine q_iload_n rfl rfl rfl ?_
  refine q_iald rfl rfl (by decide) rfl (by decide) (q_tn (z := 0) rfl ?_)
  refine q_iast rfl rfl (by decide) rfl (by decide) ?_
  refine q_icc1 (z := 4) rfl rfl rfl rfl rfl ?_
  refine q_goto rfl ?_
  refine q_iload_n rfl rfl rfl ?_
  refine q_bipush rfl rfl ?_
  refine q_icge rfl rfl (fun c34 => absurd c34 (by decide)) (fun c34 => ?_)
  refine q_aload_n rfl rfl rfl ?_
  refine q_getf rfl rfl (by decide) rfl rfl ?_
  refine q_iload_n rfl rfl rfl ?_
  refine q_aload_n rfl rfl rfl ?_
  refine q_getf rfl rfl (by decide) rfl rfl ?_
  refine q_iload_n rfl rfl rfl ?_
  refine q_iald rfl rfl (by decide) rfl (by decide) (q_tn (z := 0) rfl ?_)
  refine q_iast rfl rfl (by decide) rfl (by decide) ?_
  refine q_icc1 (z := 5) rfl rfl rfl rfl rfl ?_
  refine q_goto rfl ?_
  refine q_iload_n rfl rfl rfl ?_
  refine q_bipush rfl rfl ?_
  refine q_icge rfl rfl (fun c35 => absurd c35 (by decide)) (fun c35 => ?_)
  refine q_aload_n rfl rfl rfl ?_
  refine q_getf rfl rfl (by decide) rfl rfl ?_
  refine q_iload_n rfl rfl rfl ?_
  refine q_aload_n rfl rfl rfl ?_
  refine q_getf rfl rfl (by decide) rfl rfl ?_
  refine q_iload_n rfl rfl rfl ?_
  refine q_iald rfl rfl (by decide) rfl (by decide) (q_tn (z := 0) rfl ?_)
  refine q_iast rfl rfl (by decide) rfl (by decide) ?_
  refine q_icc1 (z := 6) rfl rfl rfl rfl rfl ?_
  refine q_goto rfl ?_
  refine q_iload_n rfl rfl rfl ?_
  refine q_bipush rfl rfl ?_
  refine q_icge rfl rfl (fun c36 => absurd c36 (by decide)) (fun c36 => ?_)
  refine q_aload_n rfl rfl rfl ?_
  refine q_getf rfl rfl (by decide) rfl rfl ?_
  refine q_iload_n rfl rfl rfl ?_
  refine q_aload_n rfl rfl rfl ?_
  refine q_getf rfl rfl (by decide) rfl rfl ?_
  refine q_iload_n rfl rfl rfl ?_
  refine q_iald rfl rfl (by decide) rfl (by decide) (q_tn (z := 0) rfl ?_)
  refine q_iast rfl rfl (by decide) rfl (by decide) ?_
  refine q_icc1 (z := 7) rfl rfl rfl rfl rfl ?_
  refine q_goto rfl ?_
  refine q_iload_n rfl rfl rfl ?_
  refine q_bipush rfl rfl ?_
  refine q_icge rfl rfl (fun c37 => absurd c37 (by decide)) (fun c37 => ?_)
  refine q_aload_n rfl rfl rfl ?_
  refine q_getf rfl rfl (by decide) rfl rfl ?_
  refine q_iload_n rfl rfl rfl ?_
  refine q_aload_n rfl rfl rfl ?_
  refine q_getf rfl rfl (by decide) rfl rfl ?_
  refine q_iload_n rfl rfl rfl ?_
  refine q_iald rfl rfl (by decide) rfl (by decide) (q_tn (z := 0) rfl ?_)
  refine q_iast rfl rfl (by decide) rfl (by decide) ?_
  refine q_icc1 (z := 8) rfl rfl rfl rfl rfl ?_
  refine q_goto rfl ?_
  refine q_iload_n rfl rfl rfl ?_
  refine q_bipush rfl rfl ?_
  refine q_icge rfl rfl (fun c38 => absurd c38 (by decide)) (fun c38 => ?_)
  refine q_aload_n rfl rfl rfl ?_
  refine q_getf rfl rfl (by decide) rfl rfl ?_
  refine q_iload_n rfl rfl rfl ?_
  refine q_aload_n rfl rfl rfl ?_
  refine q_getf rfl rfl (by decide) rfl rfl ?_
  refine q_iload_n rfl rfl rfl ?_
  refine q_iald rfl rfl (by decide) rfl (by decide) (q_tn (z := 0) rfl ?_)
  refine q_iast rfl rfl (by decide) rfl (by decide) ?_
  refine q_icc1 (z := 9) rfl rfl rfl rfl rfl ?_
  refine q_goto rfl ?_
  refine q_iload_n rfl rfl rfl ?_
  refine q_bipush rfl rfl ?_
  refine q_icge rfl rfl (fun c39 => absurd c39 (by decide)) (fun c39 => ?_)
  refine q_aload_n rfl rfl rfl ?_
  refine q_getf rfl rfl (by decide) rfl rfl ?_
  refine q_iload_n rfl rfl rfl ?_
  refine q_aload_n rfl rfl rfl ?_
  refine q_getf rfl rfl (by decide) rfl rfl ?_
  refine q_iload_n rfl rfl rfl ?_
  refine q_iald rfl rfl (by decide) rfl (by decide) (q_tn (z := 0) rfl ?_)
  refine q_iast rfl rfl (by decide) rfl (by decide) ?_
  refine q_icc1 (z := 10) rfl rfl rfl rfl rfl ?_
  refine q_goto rfl ?_
  refine q_iload_n rfl rfl rfl ?_
  refine q_bipush rfl rfl ?_
  refine q_icge rfl rfl (fun c40 => absurd c40 (by decide)) (fun c40 => ?_)
  refine q_aload_n rfl rfl rfl ?_
  refine q_getf rfl rfl (by decide) rfl rfl ?_
  refine q_iload_n rfl rfl rfl ?_
  refine q_aload_n rfl rfl rfl ?_
  refine q_getf rfl rfl (by decide) rfl rfl ?_
  refine q_iload_n rfl rfl rfl ?_
  refine q_iald rfl rfl (by decide) rfl (by decide) (q_tn (z := 0) rfl ?_)
  refine q_iast rfl rfl (by decide) rfl (by decide) ?_
  refine q_icc1 (z := 11) rfl rfl rfl rfl rfl ?_
  refine q_goto rfl ?_
  refine q_iload_n rfl rfl rfl ?_
  refine q_bipush rfl rfl ?_
  refine q_icge rfl rfl (fun c41 => absurd c41 (by decide)) (fun c41 => ?_)
  refine q_aload_n rfl rfl rfl ?_
  refine q_getf rfl rfl (by decide) rfl rfl ?_
  refine q_iload_n rfl rfl rfl ?_
  refine q_aload_n rfl rfl rfl ?_
  refine q_getf rfl rfl (by decide) rfl rfl ?_
  refine q_iload_n rfl rfl rfl ?_
  refine q_iald rfl rfl (by decide) rfl (by decide) (q_tn (z := 0) rfl ?_)
  refine q_iast rfl rfl (by decide) rfl (by decide) ?_
  refine q_icc1 (z := 12) rfl rfl rfl rfl rfl ?_
  refine q_goto rfl ?_
  refine q_iload_n rfl rfl rfl ?_
  refine q_bipush rfl rfl ?_
  refine q_icge rfl rfl (fun c42 => absurd c42 (by decide)) (fun c42 => ?_)
  refine q_aload_n rfl rfl rfl ?_
  refine q_getf rfl rfl (by decide) rfl rfl ?_
  refine q_iload_n rfl rfl rfl ?_
  refine q_aload_n rfl rfl rfl ?_
  refine q_getf rfl rfl (by decide) rfl rfl ?_
  refine q_iload_n rfl rfl rfl ?_
  refine q_iald rfl rfl (by decide) rfl (by decide) (q_tn (z := 0) rfl ?_)
  refine q_iast rfl rfl (by decide) rfl (by decide) ?_
  refine q_icc1 (z := 13) rfl rfl rfl rfl rfl ?_
  refine q_goto rfl ?_
  refine q_iload_n rfl rfl rfl ?_
  refine q_bipush rfl rfl ?_
  refine q_icge rfl rfl (fun c43 => absurd c43 (by decide)) (fun c43 => ?_)
  refine q_aload_n rfl rfl rfl ?_
  refine q_getf rfl rfl (by decide) rfl rfl ?_
  refine q_iload_n rfl rfl rfl ?_
  refine q_aload_n rfl rfl rfl ?_
  refine q_getf rfl rfl (by decide) rfl rfl ?_
  refine q_iload_n rfl rfl rfl ?_
  refine q_iald rfl rfl (by decide) rfl (by decide) (q_tn (z := 0) rfl ?_)
  refine q_iast rfl rfl (by decide) rfl (by decide) ?_
  refine q_icc1 (z := 14) rfl rfl rfl rfl rfl ?_
  refine q_goto rfl ?_
  refine q_iload_n rfl rfl rfl ?_
  refine q_bipush rfl rfl ?_
  refine q_icge rfl rfl (fun c44 => absurd c44 (by decide)) (fun c44 => ?_)
  refine q_aload_n rfl rfl rfl ?_
  refine q_getf rfl rfl (by decide) rfl rfl ?_
  refine q_iload_n rfl rfl rfl ?_
  refine q_aload_n rfl rfl rfl ?_
  refine q_getf rfl rfl (by decide) rfl rfl ?_
  refine q_iload_n rfl rfl rfl ?_
  refine q_iald rfl rfl (by decide) rfl (by decide) (q_tn (z := 0) rfl ?_)
  refine q_iast rfl rfl (by decide) rfl (by decide) ?_
  refine q_icc1 (z := 15) rfl rfl rfl rfl rfl ?_
  refine q_goto rfl ?_
  refine q_iload_n rfl rfl rfl ?_
  refine q_bipush rfl rfl ?_
  refine q_icge rfl rfl (fun c45 => absurd c45 (by decide)) (fun c45 => ?_)
  refine q_aload_n rfl rfl rfl ?_
  refine q_getf rfl rfl (by decide) rfl rfl ?_
  refine q_iload_n rfl rfl rfl ?_
  refine q_aload_n rfl rfl rfl ?_
  refine q_getf rfl rfl (by decide) rfl rfl ?_
  refine q_iload_n rfl rfl rfl ?_
  refine q_iald rfl rfl (by decide) rfl (by decide) (q_tn (z := 0) rfl ?_)
  refine q_iast rfl rfl (by decide) rfl (by decide) ?_
  refine q_icc1 (z := 16) rfl rfl rfl rfl rfl ?_
  refine q_goto rfl ?_
  refine q_iload_n rfl rfl rfl ?_
  refine q_bipush rfl rfl ?_
  refine q_icge rfl rfl (fun c46 => absurd c46 (by decide)) (fun c46 => ?_)
  refine q_aload_n rfl rfl rfl ?_
  refine q_getf rfl rfl (by decide) rfl rfl ?_
  refine q_iload_n rfl rfl rfl ?_
  refine q_aload_n rfl rfl rfl ?_
  refine q_getf rfl rfl (by decide) rfl rfl ?_
  refine q_iload_n rfl rfl rfl ?_
  refine q_iald rfl rfl (by decide) rfl (by decide) (q_tn (z := 0) rfl ?_)
  refine q_iast rfl rfl (by decide) rfl (by decide) ?_
  refine q_icc1 (z := 17) rfl rfl rfl rfl rfl ?_
  refine q_goto rfl ?_
  refine q_iload_n rfl rfl rfl ?_
  refine q_bipush rfl rfl ?_
  refine q_icge rfl rfl (fun c47 => absurd c47 (by decide)) (fun c47 => ?_)
  refine q_aload_n rfl rfl rfl ?_
  refine q_getf rfl rfl (by decide) rfl rfl ?_
  refine q_iload_n rfl rfl rfl ?_
  refine q_aload_n rfl rfl rfl ?_
  refine q_getf rfl rfl (by decide) rfl rfl ?_
  refine q_iload_n rfl rfl rfl ?_
  refine q_iald rfl rfl (by decide) rfl (by decide) (q_tn (z := 0) rfl ?_)
  refine q_iast rfl rfl (by decide) rfl (by decide) ?_
  refine q_icc1 (z := 18) rfl rfl rfl rfl rfl ?_
  refine q_goto rfl ?_
  refine q_iload_n rfl rfl rfl ?_
  refine q_bipush rfl rfl ?_
  refine q_icge rfl rfl (fun c48 => absurd c48 (by decide)) (fun c48 => ?_)
  refine q_aload_n rfl rfl rfl ?_
  refine q_getf rfl rfl (by decide) rfl rfl ?_
  refine q_iload_n rfl rfl rfl ?_
  refine q_aload_n rfl rfl rfl ?_
  refine q_getf rfl rfl (by decide) rfl rfl ?_
  refine q_iload_n rfl rfl rfl ?_
  refine q_iald rfl rfl (by decide) rfl (by decide) (q_tn (z := 0) rfl ?_)
  refine q_iast rfl rfl (by decide) rfl (by decide) ?_
  refine q_icc1 (z := 19) rfl rfl rfl rfl rfl ?_
  refine q_goto rfl ?_
  refine q_iload_n rfl rfl rfl ?_
  refine q_bipush rfl rfl ?_
  refine q_icge rfl rfl (fun c49 => absurd c49 (by decide)) (fun c49 => ?_)
  refine q_aload_n rfl rfl rfl ?_
  refine q_getf rfl rfl (by decide) rfl rfl ?_
  refine q_iload_n rfl rfl rfl ?_
  refine q_aload_n rfl rfl rfl ?_
  refine q_getf rfl rfl (by decide) rfl rfl ?_
  refine q_iload_n rfl rfl rfl ?_
  refine q_iald rfl rfl (by decide) rfl (by decide) (q_tn (z := 0) rfl ?_)
  refine q_iast rfl rfl (by decide) rfl (by decide) ?_
  refine q_icc1 (z := 20) rfl rfl rfl rfl rfl ?_
  refine q_goto rfl ?_
  refine q_iload_n rfl rfl rfl ?_
  refine q_bipush rfl rfl ?_
  refine q_icge rfl rfl (fun c50 => ?_) (fun c50 => absurd (by decide) c50)
  refine q_ret rfl rfl ?_
  refine ⟨rfl, ?_⟩
  refine q_ret rfl rfl ?_
  refine ⟨rfl, ?_⟩
  refine q_ast2n rfl rfl rfl rfl ?_
  refine q_iconst rfl rfl ?_
  refine q_newa (m0 := 1) rfl rfl (by decide) rfl rfl rfl rfl ?_
  refine q_ast3n rfl rfl rfl rfl ?_
  refine q_iconst rfl rfl ?_
  refine q_ist4 rfl rfl rfl rfl ?_
  exact h _ ⟨rfl, rfl, rfl, rfl, rfl, rfl, rfl, rfl, rfl, rfl, rfl, rfl, rfl, rfl, rfl, rfl, rfl, rfl, rfl, rfl, rfl, rfl, rfl, rfl, rfl, rfl, rfl, rfl, rfl, rfl, rfl, rfl, rfl, rfl, rfl, rfl, rfl, rfl, rfl, rfl, rfl, rfl, rfl, rfl, rfl, rfl, rfl, rfl, rfl, rfl, rfl, rfl, (congrArg (fun z : Nat → Int32 => (Sum.inl (0, 20, Sum.inl z) : pm_E)) (funext fun j => match j with | 0 => rfl | 1 => rfl | 2 => rfl | 3 => rfl | 4 => rfl | 5 => rfl | 6 => rfl | 7 => rfl | 8 => rfl | 9 => rfl | 10 => rfl | 11 => rfl | 12 => rfl | 13 => rfl | 14 => rfl | 15 => rfl | 16 => rfl | 17 => rfl | 18 => rfl | 19 => rfl | j + 20 => by simp [upd, fFirst])), rfl, (congrArg (fun z : Nat → Int32 => (Sum.inl (0, 20, Sum.inl z) : pm_E)) (funext fun j => match j with | 0 => rfl | 1 => rfl | 2 => rfl | 3 => rfl | 4 => rfl | 5 => rfl | 6 => rfl | 7 => rfl | 8 => rfl | 9 => rfl | 10 => rfl | 11 => rfl | 12 => rfl | 13 => rfl | 14 => rfl | 15 => rfl | 16 => rfl | 17 => rfl | 18 => rfl | 19 => rfl | j + 20 => by simp [upd, fFirst])), rfl, rfl, rfl, rfl, rfl, rfl, rfl, rfl, rfl, rfl, rfl, rfl, rfl, rfl, rfl, rfl, rfl, (congrArg (fun z : Nat → Int32 => (Sum.inl (0, 2, Sum.inl z) : pm_E)) (funext fun j => match j with | 0 => rfl | 1 => rfl | j + 2 => by simp [upd, fM2])), (congrArg (fun z : Nat → Int32 => (Sum.inl (0, 2, Sum.inl z) : pm_E)) (funext fun j => match j with | 0 => rfl | 1 => rfl | j + 2 => by simp [upd, fM2])), (congrArg (fun z : Nat → Int32 => (Sum.inl (0, 40, Sum.inl z) : pm_E)) (funext fun j => match j with | 0 => rfl | 1 => rfl | 2 => rfl | 3 => rfl | 4 => rfl | 5 => rfl | 6 => rfl | 7 => rfl | 8 => rfl | 9 => rfl | 10 => rfl | 11 => rfl | 12 => rfl | 13 => rfl | 14 => rfl | 15 => rfl | 16 => rfl | 17 => rfl | 18 => rfl | 19 => rfl | 20 => rfl | 21 => rfl | 22 => rfl | 23 => rfl | 24 => rfl | 25 => rfl | 26 => rfl | 27 => rfl | 28 => rfl | 29 => rfl | 30 => rfl | 31 => rfl | 32 => rfl | 33 => rfl | 34 => rfl | 35 => rfl | 36 => rfl | 37 => rfl | 38 => rfl | 39 => rfl | j + 40 => by simp [upd, fM40])), rfl, rfl, rfl, rfl, rfl, rfl, rfl⟩
end TR
