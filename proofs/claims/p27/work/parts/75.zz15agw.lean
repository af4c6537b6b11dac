/-! the words of the tables, by numbers -/
theorem lk_l {A B : List Cond} {r : Nat} {w : Cond} (h : A[r]? = some w) : (A ++ B)[r]? = some w := by
  rw [List.getElem?_append_left (List.getElem?_eq_some_iff.mp h).1]
  exact h
theorem lk_a {A B : List Cond} {n r : Nat} {w : Cond} (hn : A.length = n) (h : B[r]? = some w) : (A ++ B)[n + r]? = some w := by
  rw [List.getElem?_append_right (by omega), hn, Nat.add_sub_cancel_left]
  exact h
theorem len0 : (k2_sels lw_privs).length = 82 := by decide +kernel
theorem len1 : tables_1_1.length = 240 := by decide +kernel
theorem len2 : tables_1_2.length = 240 := by decide +kernel
theorem len3 : tables_1_3.length = 240 := by decide +kernel
theorem len4 : tables_1_4.length = 240 := by decide +kernel
theorem len5 : tables_1_5.length = 240 := by decide +kernel
theorem len6 : tables_1_6.length = 211 := by decide +kernel
theorem lk0 {r : Nat} {w : Cond} (h : (k2_sels lw_privs)[r]? = some w) : lw_tbl[r]? = some w := lk_l h
theorem lk1 {r : Nat} {w : Cond} (h : tables_1_1[r]? = some w) : lw_tbl[82 + r]? = some w := lk_a (B := tables_1) len0 (lk_l h)
theorem lk2 {r : Nat} {w : Cond} (h : tables_1_2[r]? = some w) : lw_tbl[82 + (240 + r)]? = some w := lk_a (B := tables_1) len0 (lk_a len1 (lk_l h))
theorem lk3 {r : Nat} {w : Cond} (h : tables_1_3[r]? = some w) : lw_tbl[82 + (240 + (240 + r))]? = some w := lk_a (B := tables_1) len0 (lk_a len1 (lk_a len2 (lk_l h)))
theorem lk4 {r : Nat} {w : Cond} (h : tables_1_4[r]? = some w) : lw_tbl[82 + (240 + (240 + (240 + r)))]? = some w := lk_a (B := tables_1) len0 (lk_a len1 (lk_a len2 (lk_a len3 (lk_l h))))
theorem lk5 {r : Nat} {w : Cond} (h : tables_1_5[r]? = some w) : lw_tbl[82 + (240 + (240 + (240 + (240 + r))))]? = some w := lk_a (B := tables_1) len0 (lk_a len1 (lk_a len2 (lk_a len3 (lk_a len4 (lk_l h)))))
theorem lk6 {r : Nat} {w : Cond} (h : tables_1_6[r]? = some w) : lw_tbl[82 + (240 + (240 + (240 + (240 + (240 + r)))))]? = some w := lk_a (B := tables_1) len0 (lk_a len1 (lk_a len2 (lk_a len3 (lk_a len4 (lk_a len5 h)))))
theorem j_mk {i : Nat} {w : Cond} (h : lw_tbl[i]? = some w) (g : goodWord w = true) : j_mem i w = true := by
  simp only [j_mem, Bool.and_eq_true, decide_eq_true_eq]
  exact ⟨h, g⟩
theorem j_nk {i : Nat} {w : Cond} (h : lw_tbl[i]? = some w) (g : pm_isN w = true) : j_memN i w = true := by
  simp only [j_memN, Bool.and_eq_true, decide_eq_true_eq]
  exact ⟨h, g⟩
def jcn (c : Nat) : String := match c with
  | 0 => "TurnSchool"
  | 1 => "TurnSchool$Bits"
  | 2 => "TurnSchool$Fixer"
  | 3 => "TurnSchool$Held"
  | 4 => "TurnSchool$Learner"
  | 5 => "TurnSchool$LongRow"
  | 6 => "TurnSchool$Loops"
  | 7 => "TurnSchool$Machine"
  | 8 => "TurnSchool$Orders"
  | 9 => "TurnSchool$Program"
  | 10 => "TurnSchool$ShortRow"
  | 11 => "TurnSchool$Statement"
  | 12 => "TurnSchoolModel"
  | 13 => "java/lang/Integer"
  | 14 => "java/lang/Long"
  | 15 => "java/util/Arrays"
  | _ => ""
theorem pn0 : plainName (jcn 0) = true ∧ (jcn 0 ≠ "java/lang/invoke/MethodHandle" ∧ jcn 0 ≠ "java/lang/invoke/VarHandle") := ⟨by decide +kernel, by decide +kernel, by decide +kernel⟩
theorem pn1 : plainName (jcn 1) = true ∧ (jcn 1 ≠ "java/lang/invoke/MethodHandle" ∧ jcn 1 ≠ "java/lang/invoke/VarHandle") := ⟨by decide +kernel, by decide +kernel, by decide +kernel⟩
theorem pn2 : plainName (jcn 2) = true ∧ (jcn 2 ≠ "java/lang/invoke/MethodHandle" ∧ jcn 2 ≠ "java/lang/invoke/VarHandle") := ⟨by decide +kernel, by decide +kernel, by decide +kernel⟩
theorem pn3 : plainName (jcn 3) = true ∧ (jcn 3 ≠ "java/lang/invoke/MethodHandle" ∧ jcn 3 ≠ "java/lang/invoke/VarHandle") := ⟨by decide +kernel, by decide +kernel, by decide +kernel⟩
theorem pn4 : plainName (jcn 4) = true ∧ (jcn 4 ≠ "java/lang/invoke/MethodHandle" ∧ jcn 4 ≠ "java/lang/invoke/VarHandle") := ⟨by decide +kernel, by decide +kernel, by decide +kernel⟩
theorem pn5 : plainName (jcn 5) = true ∧ (jcn 5 ≠ "java/lang/invoke/MethodHandle" ∧ jcn 5 ≠ "java/lang/invoke/VarHandle") := ⟨by decide +kernel, by decide +kernel, by decide +kernel⟩
theorem pn6 : plainName (jcn 6) = true ∧ (jcn 6 ≠ "java/lang/invoke/MethodHandle" ∧ jcn 6 ≠ "java/lang/invoke/VarHandle") := ⟨by decide +kernel, by decide +kernel, by decide +kernel⟩
theorem pn7 : plainName (jcn 7) = true ∧ (jcn 7 ≠ "java/lang/invoke/MethodHandle" ∧ jcn 7 ≠ "java/lang/invoke/VarHandle") := ⟨by decide +kernel, by decide +kernel, by decide +kernel⟩
theorem pn8 : plainName (jcn 8) = true ∧ (jcn 8 ≠ "java/lang/invoke/MethodHandle" ∧ jcn 8 ≠ "java/lang/invoke/VarHandle") := ⟨by decide +kernel, by decide +kernel, by decide +kernel⟩
theorem pn9 : plainName (jcn 9) = true ∧ (jcn 9 ≠ "java/lang/invoke/MethodHandle" ∧ jcn 9 ≠ "java/lang/invoke/VarHandle") := ⟨by decide +kernel, by decide +kernel, by decide +kernel⟩
theorem pn10 : plainName (jcn 10) = true ∧ (jcn 10 ≠ "java/lang/invoke/MethodHandle" ∧ jcn 10 ≠ "java/lang/invoke/VarHandle") := ⟨by decide +kernel, by decide +kernel, by decide +kernel⟩
theorem pn11 : plainName (jcn 11) = true ∧ (jcn 11 ≠ "java/lang/invoke/MethodHandle" ∧ jcn 11 ≠ "java/lang/invoke/VarHandle") := ⟨by decide +kernel, by decide +kernel, by decide +kernel⟩
theorem pn12 : plainName (jcn 12) = true ∧ (jcn 12 ≠ "java/lang/invoke/MethodHandle" ∧ jcn 12 ≠ "java/lang/invoke/VarHandle") := ⟨by decide +kernel, by decide +kernel, by decide +kernel⟩
theorem pn13 : plainName (jcn 13) = true ∧ (jcn 13 ≠ "java/lang/invoke/MethodHandle" ∧ jcn 13 ≠ "java/lang/invoke/VarHandle") := ⟨by decide +kernel, by decide +kernel, by decide +kernel⟩
theorem pn14 : plainName (jcn 14) = true ∧ (jcn 14 ≠ "java/lang/invoke/MethodHandle" ∧ jcn 14 ≠ "java/lang/invoke/VarHandle") := ⟨by decide +kernel, by decide +kernel, by decide +kernel⟩
theorem pn15 : plainName (jcn 15) = true ∧ (jcn 15 ≠ "java/lang/invoke/MethodHandle" ∧ jcn 15 ≠ "java/lang/invoke/VarHandle") := ⟨by decide +kernel, by decide +kernel, by decide +kernel⟩
abbrev CO : Type := Nat × Nat × Nat × Nat × Nat × Nat
def SEM (q : CO) : Prop := match q.2.1 with
  | 0 => ∀ Y, j_MT q.2.2.2.2.1 = some Y → j_mem q.1 (.methodLink (jcn q.2.2.1) q.2.2.2.1 (pm_nm Y)) = true ∧ (parseMethodDescriptor (pm_nm Y).desc).map (fun d => d.parameters.length) = some q.2.2.2.2.2
  | 1 => ∀ Y, j_MT q.2.2.2.2.1 = some Y → j_memN q.1 (.methodLinkNest (jcn q.2.2.1) q.2.2.2.1 (pm_nm Y) j_HO) = true ∧ (parseMethodDescriptor (pm_nm Y).desc).map (fun d => d.parameters.length) = some q.2.2.2.2.2
  | 2 => ∀ r : vw_C, j_cl[q.2.2.2.2.1]? = some r → j_mem q.1 (.fieldLink (jcn q.2.2.1) q.2.2.2.1 (r.2.1 q.2.2.2.2.2).1 (r.2.1 q.2.2.2.2.2).2.1 (r.2.1 q.2.2.2.2.2).2.2.1) = true
  | _ => ∀ r : vw_C, j_cl[q.2.2.2.2.1]? = some r → j_memN q.1 (.fieldLinkNest (jcn q.2.2.1) q.2.2.2.1 (r.2.1 q.2.2.2.2.2).1 (r.2.1 q.2.2.2.2.2).2.1 (r.2.1 q.2.2.2.2.2).2.2.1 j_HO) = true
theorem sm0 {i c k a b : Nat} {Y : pm_M} (hY : j_MT a = some Y) (hp : (parseMethodDescriptor (pm_nm Y).desc).map (fun d => d.parameters.length) = some b) (h : lw_tbl[i]? = some (.methodLink (jcn c) k (pm_nm Y))) : SEM (i, 0, c, k, a, b) := fun Y' e => by
  have e' : j_MT a = some Y' := e
  rw [hY] at e'
  cases e'
  exact ⟨j_mk h rfl, hp⟩
theorem sm1 {i c k a b : Nat} {Y : pm_M} (hY : j_MT a = some Y) (hp : (parseMethodDescriptor (pm_nm Y).desc).map (fun d => d.parameters.length) = some b) (h : lw_tbl[i]? = some (.methodLinkNest (jcn c) k (pm_nm Y) j_HO)) : SEM (i, 1, c, k, a, b) := fun Y' e => by
  have e' : j_MT a = some Y' := e
  rw [hY] at e'
  cases e'
  exact ⟨j_nk h rfl, hp⟩
theorem sf2 {i c k a b : Nat} {r : vw_C} (hr : j_cl[a]? = some r) (h : lw_tbl[i]? = some (.fieldLink (jcn c) k (r.2.1 b).1 (r.2.1 b).2.1 (r.2.1 b).2.2.1)) : SEM (i, 2, c, k, a, b) := fun r' e => by
  have e' : j_cl[a]? = some r' := e
  rw [hr] at e'
  cases e'
  exact j_mk h rfl
theorem sf3 {i c k a b : Nat} {r : vw_C} (hr : j_cl[a]? = some r) (h : lw_tbl[i]? = some (.fieldLinkNest (jcn c) k (r.2.1 b).1 (r.2.1 b).2.1 (r.2.1 b).2.2.1 j_HO)) : SEM (i, 3, c, k, a, b) := fun r' e => by
  have e' : j_cl[a]? = some r' := e
  rw [hr] at e'
  cases e'
  exact j_nk h rfl
def QS (x : Option CO) : Prop := ∀ q, x = some q → SEM q
theorem qs_c {b : Bool} {x y : Option CO} (h : QS x) (h' : QS y) : QS (cond b x y) := by cases b <;> assumption
theorem qs_l {q : CO} (h : SEM q) : QS (some q) := fun q' e => by cases e; exact h
theorem mt0 : j_MT 0 = some mm_X0_position := rfl
theorem arq0 : (parseMethodDescriptor (pm_nm mm_X0_position).desc).map (fun d => d.parameters.length) = some 2 := by decide +kernel
theorem mt1 : j_MT 1 = some mm_X0_made := rfl
theorem arq1 : (parseMethodDescriptor (pm_nm mm_X0_made).desc).map (fun d => d.parameters.length) = some 2 := by decide +kernel
theorem mt2 : j_MT 2 = some mm_X0_register := rfl
theorem arq2 : (parseMethodDescriptor (pm_nm mm_X0_register).desc).map (fun d => d.parameters.length) = some 2 := by decide +kernel
theorem mt3 : j_MT 3 = some mm_X0_sleep := rfl
theorem arq3 : (parseMethodDescriptor (pm_nm mm_X0_sleep).desc).map (fun d => d.parameters.length) = some 2 := by decide +kernel
theorem mt4 : j_MT 4 = some mm_X0_place := rfl
theorem arq4 : (parseMethodDescriptor (pm_nm mm_X0_place).desc).map (fun d => d.parameters.length) = some 2 := by decide +kernel
theorem mt5 : j_MT 5 = some mm_X0_owner := rfl
theorem arq5 : (parseMethodDescriptor (pm_nm mm_X0_owner).desc).map (fun d => d.parameters.length) = some 2 := by decide +kernel
theorem mt6 : j_MT 6 = some mm_X0_last := rfl
theorem arq6 : (parseMethodDescriptor (pm_nm mm_X0_last).desc).map (fun d => d.parameters.length) = some 1 := by decide +kernel
theorem mt7 : j_MT 7 = some mm_X0_withPosition := rfl
theorem arq7 : (parseMethodDescriptor (pm_nm mm_X0_withPosition).desc).map (fun d => d.parameters.length) = some 3 := by decide +kernel
theorem mt8 : j_MT 8 = some mm_X0_passed := rfl
theorem arq8 : (parseMethodDescriptor (pm_nm mm_X0_passed).desc).map (fun d => d.parameters.length) = some 2 := by decide +kernel
theorem mt9 : j_MT 9 = some mm_X0_withMade := rfl
theorem arq9 : (parseMethodDescriptor (pm_nm mm_X0_withMade).desc).map (fun d => d.parameters.length) = some 3 := by decide +kernel
theorem mt10 : j_MT 10 = some mm_X0_withRegister := rfl
theorem arq10 : (parseMethodDescriptor (pm_nm mm_X0_withRegister).desc).map (fun d => d.parameters.length) = some 3 := by decide +kernel
theorem mt11 : j_MT 11 = some mm_X0_withSleep := rfl
theorem arq11 : (parseMethodDescriptor (pm_nm mm_X0_withSleep).desc).map (fun d => d.parameters.length) = some 3 := by decide +kernel
theorem mt12 : j_MT 12 = some mm_X0_withPlace := rfl
theorem arq12 : (parseMethodDescriptor (pm_nm mm_X0_withPlace).desc).map (fun d => d.parameters.length) = some 3 := by decide +kernel
theorem mt13 : j_MT 13 = some mm_X0_withOwner := rfl
theorem arq13 : (parseMethodDescriptor (pm_nm mm_X0_withOwner).desc).map (fun d => d.parameters.length) = some 3 := by decide +kernel
theorem mt14 : j_MT 14 = some mm_X0_withLast := rfl
theorem arq14 : (parseMethodDescriptor (pm_nm mm_X0_withLast).desc).map (fun d => d.parameters.length) = some 2 := by decide +kernel
theorem mt15 : j_MT 15 = some mm_X1_init := rfl
theorem arq15 : (parseMethodDescriptor (pm_nm mm_X1_init).desc).map (fun d => d.parameters.length) = some 2 := by decide +kernel
theorem mt16 : j_MT 16 = some mm_X1_fits := rfl
theorem arq16 : (parseMethodDescriptor (pm_nm mm_X1_fits).desc).map (fun d => d.parameters.length) = some 0 := by decide +kernel
theorem mt17 : j_MT 17 = some mm_X1_bound := rfl
theorem arq17 : (parseMethodDescriptor (pm_nm mm_X1_bound).desc).map (fun d => d.parameters.length) = some 2 := by decide +kernel
theorem mt18 : j_MT 18 = some mm_X1_least := rfl
theorem arq18 : (parseMethodDescriptor (pm_nm mm_X1_least).desc).map (fun d => d.parameters.length) = some 3 := by decide +kernel
theorem mt19 : j_MT 19 = some mm_X1_isPair := rfl
theorem arq19 : (parseMethodDescriptor (pm_nm mm_X1_isPair).desc).map (fun d => d.parameters.length) = some 2 := by decide +kernel
theorem mt20 : j_MT 20 = some mm_X1_holds := rfl
theorem arq20 : (parseMethodDescriptor (pm_nm mm_X1_holds).desc).map (fun d => d.parameters.length) = some 3 := by decide +kernel
theorem mt21 : j_MT 21 = some mm_X1_outcomeOf := rfl
theorem arq21 : (parseMethodDescriptor (pm_nm mm_X1_outcomeOf).desc).map (fun d => d.parameters.length) = some 2 := by decide +kernel
theorem mt22 : j_MT 22 = some mm_X1_draftPair := rfl
theorem arq22 : (parseMethodDescriptor (pm_nm mm_X1_draftPair).desc).map (fun d => d.parameters.length) = some 2 := by decide +kernel
theorem mt23 : j_MT 23 = some mm_X1_draftHand := rfl
theorem arq23 : (parseMethodDescriptor (pm_nm mm_X1_draftHand).desc).map (fun d => d.parameters.length) = some 3 := by decide +kernel
theorem mt24 : j_MT 24 = some mm_X1_ledTo := rfl
theorem arq24 : (parseMethodDescriptor (pm_nm mm_X1_ledTo).desc).map (fun d => d.parameters.length) = some 2 := by decide +kernel
theorem mt25 : j_MT 25 = some mm_X2_init := rfl
theorem arq25 : (parseMethodDescriptor (pm_nm mm_X2_init).desc).map (fun d => d.parameters.length) = some 0 := by decide +kernel
theorem mt26 : j_MT 26 = some mm_X3_init := rfl
theorem arq26 : (parseMethodDescriptor (pm_nm mm_X3_init).desc).map (fun d => d.parameters.length) = some 0 := by decide +kernel
theorem mt27 : j_MT 27 = some mm_X3_clear := rfl
theorem arq27 : (parseMethodDescriptor (pm_nm mm_X3_clear).desc).map (fun d => d.parameters.length) = some 0 := by decide +kernel
theorem mt28 : j_MT 28 = some mm_X3_hear := rfl
theorem arq28 : (parseMethodDescriptor (pm_nm mm_X3_hear).desc).map (fun d => d.parameters.length) = some 2 := by decide +kernel
theorem mt29 : j_MT 29 = some mm_X3_heard := rfl
theorem arq29 : (parseMethodDescriptor (pm_nm mm_X3_heard).desc).map (fun d => d.parameters.length) = some 0 := by decide +kernel
theorem mt30 : j_MT 30 = some mm_X3_costBy := rfl
theorem arq30 : (parseMethodDescriptor (pm_nm mm_X3_costBy).desc).map (fun d => d.parameters.length) = some 1 := by decide +kernel
theorem mt31 : j_MT 31 = some mm_X3_cheapest := rfl
theorem arq31 : (parseMethodDescriptor (pm_nm mm_X3_cheapest).desc).map (fun d => d.parameters.length) = some 1 := by decide +kernel
theorem mt32 : j_MT 32 = some mm_X3_bestQuestion := rfl
theorem arq32 : (parseMethodDescriptor (pm_nm mm_X3_bestQuestion).desc).map (fun d => d.parameters.length) = some 1 := by decide +kernel
theorem mt33 : j_MT 33 = some mm_X3_greaterPart := rfl
theorem arq33 : (parseMethodDescriptor (pm_nm mm_X3_greaterPart).desc).map (fun d => d.parameters.length) = some 3 := by decide +kernel
theorem mt34 : j_MT 34 = some mm_X4_init := rfl
theorem arq34 : (parseMethodDescriptor (pm_nm mm_X4_init).desc).map (fun d => d.parameters.length) = some 1 := by decide +kernel
theorem mt35 : j_MT 35 = some mm_X5_init := rfl
theorem arq35 : (parseMethodDescriptor (pm_nm mm_X5_init).desc).map (fun d => d.parameters.length) = some 0 := by decide +kernel
theorem mt36 : j_MT 36 = some mm_X5_comesBack := rfl
theorem arq36 : (parseMethodDescriptor (pm_nm mm_X5_comesBack).desc).map (fun d => d.parameters.length) = some 1 := by decide +kernel
theorem mt37 : j_MT 37 = some mm_X5_find := rfl
theorem arq37 : (parseMethodDescriptor (pm_nm mm_X5_find).desc).map (fun d => d.parameters.length) = some 1 := by decide +kernel
theorem mt38 : j_MT 38 = some mm_X5_arrive := rfl
theorem arq38 : (parseMethodDescriptor (pm_nm mm_X5_arrive).desc).map (fun d => d.parameters.length) = some 1 := by decide +kernel
theorem mt39 : j_MT 39 = some mm_X5_follow := rfl
theorem arq39 : (parseMethodDescriptor (pm_nm mm_X5_follow).desc).map (fun d => d.parameters.length) = some 2 := by decide +kernel
theorem mt40 : j_MT 40 = some mm_X5_leaveBehind := rfl
theorem arq40 : (parseMethodDescriptor (pm_nm mm_X5_leaveBehind).desc).map (fun d => d.parameters.length) = some 1 := by decide +kernel
theorem mt41 : j_MT 41 = some mm_X5_closeComponent := rfl
theorem arq41 : (parseMethodDescriptor (pm_nm mm_X5_closeComponent).desc).map (fun d => d.parameters.length) = some 1 := by decide +kernel
theorem mt42 : j_MT 42 = some mm_X6_init := rfl
theorem arq42 : (parseMethodDescriptor (pm_nm mm_X6_init).desc).map (fun d => d.parameters.length) = some 1 := by decide +kernel
theorem mt43 : j_MT 43 = some mm_X6_first := rfl
theorem arq43 : (parseMethodDescriptor (pm_nm mm_X6_first).desc).map (fun d => d.parameters.length) = some 0 := by decide +kernel
theorem mt44 : j_MT 44 = some mm_X6_ableHands := rfl
theorem arq44 : (parseMethodDescriptor (pm_nm mm_X6_ableHands).desc).map (fun d => d.parameters.length) = some 1 := by decide +kernel
theorem mt45 : j_MT 45 = some mm_X6_allMeet := rfl
theorem arq45 : (parseMethodDescriptor (pm_nm mm_X6_allMeet).desc).map (fun d => d.parameters.length) = some 1 := by decide +kernel
theorem mt46 : j_MT 46 = some mm_X6_isAble := rfl
theorem arq46 : (parseMethodDescriptor (pm_nm mm_X6_isAble).desc).map (fun d => d.parameters.length) = some 3 := by decide +kernel
theorem mt47 : j_MT 47 = some mm_X6_chosenHands := rfl
theorem arq47 : (parseMethodDescriptor (pm_nm mm_X6_chosenHands).desc).map (fun d => d.parameters.length) = some 2 := by decide +kernel
theorem mt48 : j_MT 48 = some mm_X6_marked := rfl
theorem arq48 : (parseMethodDescriptor (pm_nm mm_X6_marked).desc).map (fun d => d.parameters.length) = some 2 := by decide +kernel
theorem mt49 : j_MT 49 = some mm_X6_after := rfl
theorem arq49 : (parseMethodDescriptor (pm_nm mm_X6_after).desc).map (fun d => d.parameters.length) = some 2 := by decide +kernel
theorem mt50 : j_MT 50 = some mm_X6_taken := rfl
theorem arq50 : (parseMethodDescriptor (pm_nm mm_X6_taken).desc).map (fun d => d.parameters.length) = some 3 := by decide +kernel
theorem mt51 : j_MT 51 = some mm_X6_added := rfl
theorem arq51 : (parseMethodDescriptor (pm_nm mm_X6_added).desc).map (fun d => d.parameters.length) = some 3 := by decide +kernel
theorem mt52 : j_MT 52 = some mm_X6_jumped := rfl
theorem arq52 : (parseMethodDescriptor (pm_nm mm_X6_jumped).desc).map (fun d => d.parameters.length) = some 3 := by decide +kernel
theorem mt53 : j_MT 53 = some mm_X6_longWhole := rfl
theorem arq53 : (parseMethodDescriptor (pm_nm mm_X6_longWhole).desc).map (fun d => d.parameters.length) = some 4 := by decide +kernel
theorem mt54 : j_MT 54 = some mm_X6_longStep := rfl
theorem arq54 : (parseMethodDescriptor (pm_nm mm_X6_longStep).desc).map (fun d => d.parameters.length) = some 4 := by decide +kernel
theorem mt55 : j_MT 55 = some mm_X6_left := rfl
theorem arq55 : (parseMethodDescriptor (pm_nm mm_X6_left).desc).map (fun d => d.parameters.length) = some 3 := by decide +kernel
theorem mt56 : j_MT 56 = some mm_X6_waited := rfl
theorem arq56 : (parseMethodDescriptor (pm_nm mm_X6_waited).desc).map (fun d => d.parameters.length) = some 3 := by decide +kernel
theorem mt57 : j_MT 57 = some mm_X6_called := rfl
theorem arq57 : (parseMethodDescriptor (pm_nm mm_X6_called).desc).map (fun d => d.parameters.length) = some 2 := by decide +kernel
theorem mt58 : j_MT 58 = some mm_X6_met := rfl
theorem arq58 : (parseMethodDescriptor (pm_nm mm_X6_met).desc).map (fun d => d.parameters.length) = some 1 := by decide +kernel
theorem mt59 : j_MT 59 = some mm_X6_isEnd := rfl
theorem arq59 : (parseMethodDescriptor (pm_nm mm_X6_isEnd).desc).map (fun d => d.parameters.length) = some 1 := by decide +kernel
theorem mt60 : j_MT 60 = some mm_X6_someFailed := rfl
theorem arq60 : (parseMethodDescriptor (pm_nm mm_X6_someFailed).desc).map (fun d => d.parameters.length) = some 1 := by decide +kernel
theorem mt61 : j_MT 61 = some mm_X6_races := rfl
theorem arq61 : (parseMethodDescriptor (pm_nm mm_X6_races).desc).map (fun d => d.parameters.length) = some 3 := by decide +kernel
theorem mt62 : j_MT 62 = some mm_X6_touched := rfl
theorem arq62 : (parseMethodDescriptor (pm_nm mm_X6_touched).desc).map (fun d => d.parameters.length) = some 2 := by decide +kernel
theorem mt63 : j_MT 63 = some mm_X6_writes := rfl
theorem arq63 : (parseMethodDescriptor (pm_nm mm_X6_writes).desc).map (fun d => d.parameters.length) = some 2 := by decide +kernel
theorem mt64 : j_MT 64 = some mm_X7_init := rfl
theorem arq64 : (parseMethodDescriptor (pm_nm mm_X7_init).desc).map (fun d => d.parameters.length) = some 0 := by decide +kernel
theorem mt65 : j_MT 65 = some mm_X7_explore := rfl
theorem arq65 : (parseMethodDescriptor (pm_nm mm_X7_explore).desc).map (fun d => d.parameters.length) = some 2 := by decide +kernel
theorem mt66 : j_MT 66 = some mm_X7_clear := rfl
theorem arq66 : (parseMethodDescriptor (pm_nm mm_X7_clear).desc).map (fun d => d.parameters.length) = some 0 := by decide +kernel
theorem mt67 : j_MT 67 = some mm_X7_lookAt := rfl
theorem arq67 : (parseMethodDescriptor (pm_nm mm_X7_lookAt).desc).map (fun d => d.parameters.length) = some 2 := by decide +kernel
theorem mt68 : j_MT 68 = some mm_X7_noteEnd := rfl
theorem arq68 : (parseMethodDescriptor (pm_nm mm_X7_noteEnd).desc).map (fun d => d.parameters.length) = some 1 := by decide +kernel
theorem mt69 : j_MT 69 = some mm_X7_numberOf := rfl
theorem arq69 : (parseMethodDescriptor (pm_nm mm_X7_numberOf).desc).map (fun d => d.parameters.length) = some 3 := by decide +kernel
theorem mt70 : j_MT 70 = some mm_X7_newNumber := rfl
theorem arq70 : (parseMethodDescriptor (pm_nm mm_X7_newNumber).desc).map (fun d => d.parameters.length) = some 4 := by decide +kernel
theorem mt71 : j_MT 71 = some mm_X7_stateAt := rfl
theorem arq71 : (parseMethodDescriptor (pm_nm mm_X7_stateAt).desc).map (fun d => d.parameters.length) = some 1 := by decide +kernel
theorem mt72 : j_MT 72 = some mm_X7_sortOf := rfl
theorem arq72 : (parseMethodDescriptor (pm_nm mm_X7_sortOf).desc).map (fun d => d.parameters.length) = some 1 := by decide +kernel
theorem mt73 : j_MT 73 = some mm_X7_follower := rfl
theorem arq73 : (parseMethodDescriptor (pm_nm mm_X7_follower).desc).map (fun d => d.parameters.length) = some 2 := by decide +kernel
theorem mt74 : j_MT 74 = some mm_X7_wayLength := rfl
theorem arq74 : (parseMethodDescriptor (pm_nm mm_X7_wayLength).desc).map (fun d => d.parameters.length) = some 1 := by decide +kernel
theorem mt75 : j_MT 75 = some mm_X7_wayHand := rfl
theorem arq75 : (parseMethodDescriptor (pm_nm mm_X7_wayHand).desc).map (fun d => d.parameters.length) = some 2 := by decide +kernel
theorem mt76 : j_MT 76 = some mm_X8_init := rfl
theorem arq76 : (parseMethodDescriptor (pm_nm mm_X8_init).desc).map (fun d => d.parameters.length) = some 0 := by decide +kernel
theorem mt77 : j_MT 77 = some mm_X8_renew := rfl
theorem arq77 : (parseMethodDescriptor (pm_nm mm_X8_renew).desc).map (fun d => d.parameters.length) = some 1 := by decide +kernel
theorem mt78 : j_MT 78 = some mm_X8_hasHand := rfl
theorem arq78 : (parseMethodDescriptor (pm_nm mm_X8_hasHand).desc).map (fun d => d.parameters.length) = some 1 := by decide +kernel
theorem mt79 : j_MT 79 = some mm_X8_hasStatement := rfl
theorem arq79 : (parseMethodDescriptor (pm_nm mm_X8_hasStatement).desc).map (fun d => d.parameters.length) = some 2 := by decide +kernel
theorem mt80 : j_MT 80 = some mm_X8_lengthOf := rfl
theorem arq80 : (parseMethodDescriptor (pm_nm mm_X8_lengthOf).desc).map (fun d => d.parameters.length) = some 1 := by decide +kernel
theorem mt81 : j_MT 81 = some mm_X8_statements := rfl
theorem arq81 : (parseMethodDescriptor (pm_nm mm_X8_statements).desc).map (fun d => d.parameters.length) = some 0 := by decide +kernel
theorem mt82 : j_MT 82 = some mm_X8_cellOf := rfl
theorem arq82 : (parseMethodDescriptor (pm_nm mm_X8_cellOf).desc).map (fun d => d.parameters.length) = some 2 := by decide +kernel
theorem mt83 : j_MT 83 = some mm_X8_kindIn := rfl
theorem arq83 : (parseMethodDescriptor (pm_nm mm_X8_kindIn).desc).map (fun d => d.parameters.length) = some 1 := by decide +kernel
theorem mt84 : j_MT 84 = some mm_X8_operandIn := rfl
theorem arq84 : (parseMethodDescriptor (pm_nm mm_X8_operandIn).desc).map (fun d => d.parameters.length) = some 1 := by decide +kernel
theorem mt85 : j_MT 85 = some mm_X8_numberIn := rfl
theorem arq85 : (parseMethodDescriptor (pm_nm mm_X8_numberIn).desc).map (fun d => d.parameters.length) = some 1 := by decide +kernel
theorem mt86 : j_MT 86 = some mm_X8_append := rfl
theorem arq86 : (parseMethodDescriptor (pm_nm mm_X8_append).desc).map (fun d => d.parameters.length) = some 4 := by decide +kernel
theorem mt87 : j_MT 87 = some mm_X8_dropLast := rfl
theorem arq87 : (parseMethodDescriptor (pm_nm mm_X8_dropLast).desc).map (fun d => d.parameters.length) = some 1 := by decide +kernel
theorem mt88 : j_MT 88 = some mm_X9_init := rfl
theorem arq88 : (parseMethodDescriptor (pm_nm mm_X9_init).desc).map (fun d => d.parameters.length) = some 1 := by decide +kernel
theorem mt89 : j_MT 89 = some mm_X10_init := rfl
theorem arq89 : (parseMethodDescriptor (pm_nm mm_X10_init).desc).map (fun d => d.parameters.length) = some 2 := by decide +kernel
theorem mt90 : j_MT 90 = some mm_X10_heaviness := rfl
theorem arq90 : (parseMethodDescriptor (pm_nm mm_X10_heaviness).desc).map (fun d => d.parameters.length) = some 0 := by decide +kernel
theorem mt91 : j_MT 91 = some mm_X10_fail := rfl
theorem arq91 : (parseMethodDescriptor (pm_nm mm_X10_fail).desc).map (fun d => d.parameters.length) = some 0 := by decide +kernel
theorem mt101 : j_MT 101 = some mm_X11_runCanStep := rfl
theorem arq101 : (parseMethodDescriptor (pm_nm mm_X11_runCanStep).desc).map (fun d => d.parameters.length) = some 1 := by decide +kernel
theorem mt102 : j_MT 102 = some mm_X11_ownerSeen := rfl
theorem arq102 : (parseMethodDescriptor (pm_nm mm_X11_ownerSeen).desc).map (fun d => d.parameters.length) = some 1 := by decide +kernel
theorem mt103 : j_MT 103 = some mm_X11_positionSeen := rfl
theorem arq103 : (parseMethodDescriptor (pm_nm mm_X11_positionSeen).desc).map (fun d => d.parameters.length) = some 1 := by decide +kernel
theorem mt104 : j_MT 104 = some mm_X11_movedRunTo := rfl
theorem arq104 : (parseMethodDescriptor (pm_nm mm_X11_movedRunTo).desc).map (fun d => d.parameters.length) = some 1 := by decide +kernel
theorem mt114 : j_MT 114 = some mm_X11_isOfSort := rfl
theorem arq114 : (parseMethodDescriptor (pm_nm mm_X11_isOfSort).desc).map (fun d => d.parameters.length) = some 2 := by decide +kernel
theorem mt115 : j_MT 115 = some mm_X11_refusalOf := rfl
theorem arq115 : (parseMethodDescriptor (pm_nm mm_X11_refusalOf).desc).map (fun d => d.parameters.length) = some 1 := by decide +kernel
theorem mt116 : j_MT 116 = some mm_X11_sizeOf := rfl
theorem arq116 : (parseMethodDescriptor (pm_nm mm_X11_sizeOf).desc).map (fun d => d.parameters.length) = some 1 := by decide +kernel
theorem mt117 : j_MT 117 = some mm_X11_someSpent := rfl
theorem arq117 : (parseMethodDescriptor (pm_nm mm_X11_someSpent).desc).map (fun d => d.parameters.length) = some 0 := by decide +kernel
theorem mt128 : j_MT 128 = some mm_X11_spans := rfl
theorem arq128 : (parseMethodDescriptor (pm_nm mm_X11_spans).desc).map (fun d => d.parameters.length) = some 3 := by decide +kernel
theorem mt131 : j_MT 131 = some mm_X11_statementOf := rfl
theorem arq131 : (parseMethodDescriptor (pm_nm mm_X11_statementOf).desc).map (fun d => d.parameters.length) = some 2 := by decide +kernel
theorem mt132 : j_MT 132 = some mm_X11_numbersOfRun := rfl
theorem arq132 : (parseMethodDescriptor (pm_nm mm_X11_numbersOfRun).desc).map (fun d => d.parameters.length) = some 0 := by decide +kernel
theorem mt133 : j_MT 133 = some mm_X11_kindsOf := rfl
theorem arq133 : (parseMethodDescriptor (pm_nm mm_X11_kindsOf).desc).map (fun d => d.parameters.length) = some 1 := by decide +kernel
theorem mt134 : j_MT 134 = some mm_X11_forget := rfl
theorem arq134 : (parseMethodDescriptor (pm_nm mm_X11_forget).desc).map (fun d => d.parameters.length) = some 0 := by decide +kernel
theorem mt135 : j_MT 135 = some mm_X11_within := rfl
theorem arq135 : (parseMethodDescriptor (pm_nm mm_X11_within).desc).map (fun d => d.parameters.length) = some 2 := by decide +kernel
theorem mt136 : j_MT 136 = some mm_X11_says := rfl
theorem arq136 : (parseMethodDescriptor (pm_nm mm_X11_says).desc).map (fun d => d.parameters.length) = some 2 := by decide +kernel
theorem mt137 : j_MT 137 = some mm_X11_operandOf := rfl
theorem arq137 : (parseMethodDescriptor (pm_nm mm_X11_operandOf).desc).map (fun d => d.parameters.length) = some 1 := by decide +kernel
theorem mt138 : j_MT 138 = some mm_X11_topOf := rfl
theorem arq138 : (parseMethodDescriptor (pm_nm mm_X11_topOf).desc).map (fun d => d.parameters.length) = some 1 := by decide +kernel
theorem mt139 : j_MT 139 = some mm_X11_isStatement := rfl
theorem arq139 : (parseMethodDescriptor (pm_nm mm_X11_isStatement).desc).map (fun d => d.parameters.length) = some 3 := by decide +kernel
theorem mt140 : j_MT 140 = some mm_X12_in := rfl
theorem arq140 : (parseMethodDescriptor (pm_nm mm_X12_in).desc).map (fun d => d.parameters.length) = some 3 := by decide +kernel
theorem mt142 : j_MT 142 = some mm_X12_isHand := rfl
theorem arq142 : (parseMethodDescriptor (pm_nm mm_X12_isHand).desc).map (fun d => d.parameters.length) = some 1 := by decide +kernel
theorem mt143 : j_MT 143 = some mm_X12_isPlace := rfl
theorem arq143 : (parseMethodDescriptor (pm_nm mm_X12_isPlace).desc).map (fun d => d.parameters.length) = some 1 := by decide +kernel
theorem mt144 : j_MT 144 = some mm_X12_hasPlace := rfl
theorem arq144 : (parseMethodDescriptor (pm_nm mm_X12_hasPlace).desc).map (fun d => d.parameters.length) = some 1 := by decide +kernel
theorem mt145 : j_MT 145 = some mm_X12_hasLock := rfl
theorem arq145 : (parseMethodDescriptor (pm_nm mm_X12_hasLock).desc).map (fun d => d.parameters.length) = some 1 := by decide +kernel
theorem mt146 : j_MT 146 = some mm_X12_hasNumber := rfl
theorem arq146 : (parseMethodDescriptor (pm_nm mm_X12_hasNumber).desc).map (fun d => d.parameters.length) = some 1 := by decide +kernel
theorem mt147 : j_MT 147 = some mm_X12_firstState := rfl
theorem arq147 : (parseMethodDescriptor (pm_nm mm_X12_firstState).desc).map (fun d => d.parameters.length) = some 0 := by decide +kernel
theorem mt148 : j_MT 148 = some mm_X12_toFirst := rfl
theorem arq148 : (parseMethodDescriptor (pm_nm mm_X12_toFirst).desc).map (fun d => d.parameters.length) = some 0 := by decide +kernel
theorem mt149 : j_MT 149 = some mm_X12_changed := rfl
theorem arq149 : (parseMethodDescriptor (pm_nm mm_X12_changed).desc).map (fun d => d.parameters.length) = some 0 := by decide +kernel
theorem mt155 : j_MT 155 = some mm_X12_at := rfl
theorem arq155 : (parseMethodDescriptor (pm_nm mm_X12_at).desc).map (fun d => d.parameters.length) = some 1 := by decide +kernel
theorem mt156 : j_MT 156 = some mm_X12_isOver := rfl
theorem arq156 : (parseMethodDescriptor (pm_nm mm_X12_isOver).desc).map (fun d => d.parameters.length) = some 1 := by decide +kernel
theorem mt157 : j_MT 157 = some mm_X12_isFree := rfl
theorem arq157 : (parseMethodDescriptor (pm_nm mm_X12_isFree).desc).map (fun d => d.parameters.length) = some 1 := by decide +kernel
theorem mt158 : j_MT 158 = some mm_X12_meets := rfl
theorem arq158 : (parseMethodDescriptor (pm_nm mm_X12_meets).desc).map (fun d => d.parameters.length) = some 0 := by decide +kernel
theorem mt159 : j_MT 159 = some mm_X12_canStep := rfl
theorem arq159 : (parseMethodDescriptor (pm_nm mm_X12_canStep).desc).map (fun d => d.parameters.length) = some 2 := by decide +kernel
theorem mt160 : j_MT 160 = some mm_X12_maySteps := rfl
theorem arq160 : (parseMethodDescriptor (pm_nm mm_X12_maySteps).desc).map (fun d => d.parameters.length) = some 2 := by decide +kernel
theorem mt161 : j_MT 161 = some mm_X12_goTo := rfl
theorem arq161 : (parseMethodDescriptor (pm_nm mm_X12_goTo).desc).map (fun d => d.parameters.length) = some 2 := by decide +kernel
theorem mt162 : j_MT 162 = some mm_X12_fail := rfl
theorem arq162 : (parseMethodDescriptor (pm_nm mm_X12_fail).desc).map (fun d => d.parameters.length) = some 1 := by decide +kernel
theorem mt163 : j_MT 163 = some mm_X12_longStep := rfl
theorem arq163 : (parseMethodDescriptor (pm_nm mm_X12_longStep).desc).map (fun d => d.parameters.length) = some 3 := by decide +kernel
theorem mt164 : j_MT 164 = some mm_X12_call := rfl
theorem arq164 : (parseMethodDescriptor (pm_nm mm_X12_call).desc).map (fun d => d.parameters.length) = some 1 := by decide +kernel
theorem mt165 : j_MT 165 = some mm_X12_waitStep := rfl
theorem arq165 : (parseMethodDescriptor (pm_nm mm_X12_waitStep).desc).map (fun d => d.parameters.length) = some 2 := by decide +kernel
theorem mt166 : j_MT 166 = some mm_X12_stepBy := rfl
theorem arq166 : (parseMethodDescriptor (pm_nm mm_X12_stepBy).desc).map (fun d => d.parameters.length) = some 2 := by decide +kernel
theorem mt167 : j_MT 167 = some mm_X12_stand := rfl
theorem arq167 : (parseMethodDescriptor (pm_nm mm_X12_stand).desc).map (fun d => d.parameters.length) = some 0 := by decide +kernel
theorem mt168 : j_MT 168 = some mm_X12_isRun := rfl
theorem arq168 : (parseMethodDescriptor (pm_nm mm_X12_isRun).desc).map (fun d => d.parameters.length) = some 0 := by decide +kernel
theorem mt169 : j_MT 169 = some mm_X12_settle := rfl
theorem arq169 : (parseMethodDescriptor (pm_nm mm_X12_settle).desc).map (fun d => d.parameters.length) = some 0 := by decide +kernel
theorem mt173 : j_MT 173 = some mm_X12_rest := rfl
theorem arq173 : (parseMethodDescriptor (pm_nm mm_X12_rest).desc).map (fun d => d.parameters.length) = some 1 := by decide +kernel
theorem mt174 : j_MT 174 = some mm_X12_find := rfl
theorem arq174 : (parseMethodDescriptor (pm_nm mm_X12_find).desc).map (fun d => d.parameters.length) = some 1 := by decide +kernel
theorem mt175 : j_MT 175 = some mm_X12_put := rfl
theorem arq175 : (parseMethodDescriptor (pm_nm mm_X12_put).desc).map (fun d => d.parameters.length) = some 3 := by decide +kernel
theorem mt176 : j_MT 176 = some mm_X12_standAt := rfl
theorem arq176 : (parseMethodDescriptor (pm_nm mm_X12_standAt).desc).map (fun d => d.parameters.length) = some 2 := by decide +kernel
theorem mt177 : j_MT 177 = some mm_X12_explore := rfl
theorem arq177 : (parseMethodDescriptor (pm_nm mm_X12_explore).desc).map (fun d => d.parameters.length) = some 2 := by decide +kernel
theorem mt178 : j_MT 178 = some mm_X12_isEnd := rfl
theorem arq178 : (parseMethodDescriptor (pm_nm mm_X12_isEnd).desc).map (fun d => d.parameters.length) = some 0 := by decide +kernel
theorem mt179 : j_MT 179 = some mm_X12_isStuck := rfl
theorem arq179 : (parseMethodDescriptor (pm_nm mm_X12_isStuck).desc).map (fun d => d.parameters.length) = some 2 := by decide +kernel
theorem mt180 : j_MT 180 = some mm_X12_isSpent := rfl
theorem arq180 : (parseMethodDescriptor (pm_nm mm_X12_isSpent).desc).map (fun d => d.parameters.length) = some 1 := by decide +kernel
theorem mt182 : j_MT 182 = some mm_X12_findBacks := rfl
theorem arq182 : (parseMethodDescriptor (pm_nm mm_X12_findBacks).desc).map (fun d => d.parameters.length) = some 0 := by decide +kernel
theorem mt183 : j_MT 183 = some mm_X12_isSuch := rfl
theorem arq183 : (parseMethodDescriptor (pm_nm mm_X12_isSuch).desc).map (fun d => d.parameters.length) = some 2 := by decide +kernel
theorem mt186 : j_MT 186 = some mm_X12_lacks := rfl
theorem arq186 : (parseMethodDescriptor (pm_nm mm_X12_lacks).desc).map (fun d => d.parameters.length) = some 1 := by decide +kernel
theorem mt187 : j_MT 187 = some mm_X12_length := rfl
theorem arq187 : (parseMethodDescriptor (pm_nm mm_X12_length).desc).map (fun d => d.parameters.length) = some 1 := by decide +kernel
theorem mt191 : j_MT 191 = some mm_X12_touches := rfl
theorem arq191 : (parseMethodDescriptor (pm_nm mm_X12_touches).desc).map (fun d => d.parameters.length) = some 1 := by decide +kernel
theorem mt195 : j_MT 195 = some mm_X12_lay := rfl
theorem arq195 : (parseMethodDescriptor (pm_nm mm_X12_lay).desc).map (fun d => d.parameters.length) = some 4 := by decide +kernel
theorem mt196 : j_MT 196 = some mm_X12_putLock := rfl
theorem arq196 : (parseMethodDescriptor (pm_nm mm_X12_putLock).desc).map (fun d => d.parameters.length) = some 4 := by decide +kernel
theorem mt197 : j_MT 197 = some mm_X12_isGood := rfl
theorem arq197 : (parseMethodDescriptor (pm_nm mm_X12_isGood).desc).map (fun d => d.parameters.length) = some 2 := by decide +kernel
theorem mt198 : j_MT 198 = some mm_X12_choiceFrom := rfl
theorem arq198 : (parseMethodDescriptor (pm_nm mm_X12_choiceFrom).desc).map (fun d => d.parameters.length) = some 1 := by decide +kernel
theorem mt199 : j_MT 199 = some mm_X12_choiceTo := rfl
theorem arq199 : (parseMethodDescriptor (pm_nm mm_X12_choiceTo).desc).map (fun d => d.parameters.length) = some 1 := by decide +kernel
theorem mt200 : j_MT 200 = some mm_X12_within := rfl
theorem arq200 : (parseMethodDescriptor (pm_nm mm_X12_within).desc).map (fun d => d.parameters.length) = some 1 := by decide +kernel
theorem mt204 : j_MT 204 = some mm_X12_anySpent := rfl
theorem arq204 : (parseMethodDescriptor (pm_nm mm_X12_anySpent).desc).map (fun d => d.parameters.length) = some 0 := by decide +kernel
theorem mt205 : j_MT 205 = some mm_X12_costOf := rfl
theorem arq205 : (parseMethodDescriptor (pm_nm mm_X12_costOf).desc).map (fun d => d.parameters.length) = some 1 := by decide +kernel
theorem mt207 : j_MT 207 = some mm_X12_cheapest := rfl
theorem arq207 : (parseMethodDescriptor (pm_nm mm_X12_cheapest).desc).map (fun d => d.parameters.length) = some 0 := by decide +kernel
theorem mt210 : j_MT 210 = some mm_X12_isShelf := rfl
theorem arq210 : (parseMethodDescriptor (pm_nm mm_X12_isShelf).desc).map (fun d => d.parameters.length) = some 1 := by decide +kernel
theorem mt211 : j_MT 211 = some mm_X12_clear := rfl
theorem arq211 : (parseMethodDescriptor (pm_nm mm_X12_clear).desc).map (fun d => d.parameters.length) = some 1 := by decide +kernel
theorem mt216 : j_MT 216 = some mm_X12_lacksStatement := rfl
theorem arq216 : (parseMethodDescriptor (pm_nm mm_X12_lacksStatement).desc).map (fun d => d.parameters.length) = some 1 := by decide +kernel
theorem mt219 : j_MT 219 = some mm_J6_bitCount_0f7a4 := rfl
theorem arq219 : (parseMethodDescriptor (pm_nm mm_J6_bitCount_0f7a4).desc).map (fun d => d.parameters.length) = some 1 := by decide +kernel
theorem mt220 : j_MT 220 = some mm_J13_bitCount_95d88 := rfl
theorem arq220 : (parseMethodDescriptor (pm_nm mm_J13_bitCount_95d88).desc).map (fun d => d.parameters.length) = some 1 := by decide +kernel
theorem mt221 : j_MT 221 = some mm_J7_fill_d0a16 := rfl
theorem arq221 : (parseMethodDescriptor (pm_nm mm_J7_fill_d0a16).desc).map (fun d => d.parameters.length) = some 2 := by decide +kernel
theorem mt222 : j_MT 222 = some mm_J7_fill_53178 := rfl
theorem arq222 : (parseMethodDescriptor (pm_nm mm_J7_fill_53178).desc).map (fun d => d.parameters.length) = some 2 := by decide +kernel
theorem jcl0 : j_cl[0]? = some ("TurnSchool$Fixer", jT0, 8) := rfl
theorem jcl1 : j_cl[1]? = some ("TurnSchool$Learner", jT1, 2) := rfl
theorem jcl2 : j_cl[2]? = some ("TurnSchool$LongRow", jT2, 1) := rfl
theorem jcl3 : j_cl[3]? = some ("TurnSchool$Loops", jT3, 10) := rfl
theorem jcl4 : j_cl[4]? = some ("TurnSchool$Machine", jT4, 2) := rfl
theorem jcl5 : j_cl[5]? = some ("TurnSchool$Orders", jT5, 11) := rfl
theorem jcl6 : j_cl[6]? = some ("TurnSchool$Program", jT6, 6) := rfl
theorem jcl7 : j_cl[7]? = some ("TurnSchool$ShortRow", jT7, 1) := rfl
theorem jcl8 : j_cl[8]? = some ("TurnSchool$Statement", jT8, 2) := rfl
theorem jcl9 : j_cl[9]? = some ("TurnSchool", jT9, 12) := rfl
theorem jcl10 : j_cl[10]? = some ("TurnSchoolModel", jT10, 41) := rfl
theorem sw116 : SEM (116, 1, 0, 11, 76, 0) := sm1 mt76 arq76 (lk1 (r := 34) rfl)
theorem sw120 : SEM (120, 2, 9, 9, 6, 0) := sf2 jcl6 (lk1 (r := 38) rfl)
theorem sw121 : SEM (121, 2, 2, 49, 6, 0) := sf2 jcl6 (lk1 (r := 39) rfl)
theorem sw122 : SEM (122, 2, 7, 35, 6, 0) := sf2 jcl6 (lk1 (r := 40) rfl)
theorem sw123 : SEM (123, 2, 0, 335, 6, 0) := sf2 jcl6 (lk1 (r := 41) rfl)
theorem sw124 : SEM (124, 2, 9, 15, 6, 1) := sf2 jcl6 (lk1 (r := 42) rfl)
theorem sw125 : SEM (125, 2, 7, 19, 6, 1) := sf2 jcl6 (lk1 (r := 43) rfl)
theorem sw126 : SEM (126, 2, 0, 114, 6, 1) := sf2 jcl6 (lk1 (r := 44) rfl)
theorem sw127 : SEM (127, 2, 2, 119, 6, 1) := sf2 jcl6 (lk1 (r := 45) rfl)
theorem sw128 : SEM (128, 2, 9, 19, 6, 2) := sf2 jcl6 (lk1 (r := 46) rfl)
theorem sw129 : SEM (129, 2, 9, 22, 6, 3) := sf2 jcl6 (lk1 (r := 47) rfl)
theorem sw130 : SEM (130, 2, 9, 25, 6, 4) := sf2 jcl6 (lk1 (r := 48) rfl)
theorem sw131 : SEM (131, 2, 9, 28, 6, 5) := sf2 jcl6 (lk1 (r := 49) rfl)
theorem sw148 : SEM (148, 0, 0, 18, 42, 1) := sm0 mt42 arq42 (lk1 (r := 66) rfl)
theorem sw152 : SEM (152, 2, 7, 15, 4, 0) := sf2 jcl4 (lk1 (r := 70) rfl)
theorem sw153 : SEM (153, 2, 7, 9, 4, 1) := sf2 jcl4 (lk1 (r := 71) rfl)
theorem sw154 : SEM (154, 2, 0, 225, 4, 1) := sf2 jcl4 (lk1 (r := 72) rfl)
theorem sw162 : SEM (162, 1, 0, 27, 64, 0) := sm1 mt64 arq64 (lk1 (r := 80) rfl)
theorem sw166 : SEM (166, 2, 8, 9, 5, 0) := sf2 jcl5 (lk1 (r := 84) rfl)
theorem sw167 : SEM (167, 2, 0, 187, 5, 0) := sf2 jcl5 (lk1 (r := 85) rfl)
theorem sw168 : SEM (168, 2, 8, 15, 5, 1) := sf2 jcl5 (lk1 (r := 86) rfl)
theorem sw169 : SEM (169, 2, 2, 103, 5, 1) := sf2 jcl5 (lk1 (r := 87) rfl)
theorem sw170 : SEM (170, 2, 0, 232, 5, 1) := sf2 jcl5 (lk1 (r := 88) rfl)
theorem sw171 : SEM (171, 2, 8, 19, 5, 2) := sf2 jcl5 (lk1 (r := 89) rfl)
theorem sw172 : SEM (172, 2, 2, 106, 5, 2) := sf2 jcl5 (lk1 (r := 90) rfl)
theorem sw173 : SEM (173, 2, 8, 22, 5, 3) := sf2 jcl5 (lk1 (r := 91) rfl)
theorem sw174 : SEM (174, 2, 2, 111, 5, 3) := sf2 jcl5 (lk1 (r := 92) rfl)
theorem sw175 : SEM (175, 2, 0, 235, 5, 3) := sf2 jcl5 (lk1 (r := 93) rfl)
theorem sw176 : SEM (176, 2, 8, 26, 5, 4) := sf2 jcl5 (lk1 (r := 94) rfl)
theorem sw177 : SEM (177, 2, 8, 30, 5, 5) := sf2 jcl5 (lk1 (r := 95) rfl)
theorem sw178 : SEM (178, 2, 8, 34, 5, 6) := sf2 jcl5 (lk1 (r := 96) rfl)
theorem sw179 : SEM (179, 2, 8, 37, 5, 7) := sf2 jcl5 (lk1 (r := 97) rfl)
theorem sw180 : SEM (180, 2, 8, 40, 5, 8) := sf2 jcl5 (lk1 (r := 98) rfl)
theorem sw181 : SEM (181, 2, 8, 43, 5, 9) := sf2 jcl5 (lk1 (r := 99) rfl)
theorem sw182 : SEM (182, 2, 8, 46, 5, 10) := sf2 jcl5 (lk1 (r := 100) rfl)
theorem sw209 : SEM (209, 1, 0, 37, 35, 0) := sm1 mt35 arq35 (lk1 (r := 127) rfl)
theorem sw213 : SEM (213, 2, 6, 9, 3, 0) := sf2 jcl3 (lk1 (r := 131) rfl)
theorem sw214 : SEM (214, 2, 6, 15, 3, 1) := sf2 jcl3 (lk1 (r := 132) rfl)
theorem sw215 : SEM (215, 2, 6, 18, 3, 2) := sf2 jcl3 (lk1 (r := 133) rfl)
theorem sw216 : SEM (216, 2, 6, 21, 3, 3) := sf2 jcl3 (lk1 (r := 134) rfl)
theorem sw217 : SEM (217, 2, 6, 24, 3, 4) := sf2 jcl3 (lk1 (r := 135) rfl)
theorem sw218 : SEM (218, 2, 6, 27, 3, 5) := sf2 jcl3 (lk1 (r := 136) rfl)
theorem sw219 : SEM (219, 2, 6, 31, 3, 6) := sf2 jcl3 (lk1 (r := 137) rfl)
theorem sw220 : SEM (220, 2, 6, 34, 3, 7) := sf2 jcl3 (lk1 (r := 138) rfl)
theorem sw221 : SEM (221, 2, 6, 38, 3, 8) := sf2 jcl3 (lk1 (r := 139) rfl)
theorem sw222 : SEM (222, 2, 6, 41, 3, 9) := sf2 jcl3 (lk1 (r := 140) rfl)
theorem sw247 : SEM (247, 0, 0, 44, 15, 2) := sm0 mt15 arq15 (lk1 (r := 165) rfl)
theorem sw252 : SEM (252, 1, 2, 20, 76, 0) := sm1 mt76 arq76 (lk1 (r := 170) rfl)
theorem sw254 : SEM (254, 0, 2, 27, 42, 1) := sm0 mt42 arq42 (lk1 (r := 172) rfl)
theorem sw255 : SEM (255, 2, 2, 9, 0, 0) := sf2 jcl0 (lk1 (r := 173) rfl)
theorem sw256 : SEM (256, 2, 0, 245, 0, 0) := sf2 jcl0 (lk1 (r := 174) rfl)
theorem sw257 : SEM (257, 2, 2, 15, 0, 1) := sf2 jcl0 (lk1 (r := 175) rfl)
theorem sw258 : SEM (258, 2, 0, 344, 0, 1) := sf2 jcl0 (lk1 (r := 176) rfl)
theorem sw259 : SEM (259, 2, 2, 42, 0, 2) := sf2 jcl0 (lk1 (r := 177) rfl)
theorem sw260 : SEM (260, 2, 2, 45, 0, 3) := sf2 jcl0 (lk1 (r := 178) rfl)
theorem sw261 : SEM (261, 2, 2, 21, 0, 4) := sf2 jcl0 (lk1 (r := 179) rfl)
theorem sw262 : SEM (262, 2, 2, 30, 0, 5) := sf2 jcl0 (lk1 (r := 180) rfl)
theorem sw263 : SEM (263, 2, 2, 34, 0, 6) := sf2 jcl0 (lk1 (r := 181) rfl)
theorem sw264 : SEM (264, 2, 2, 38, 0, 7) := sf2 jcl0 (lk1 (r := 182) rfl)
theorem sw284 : SEM (284, 1, 0, 53, 26, 0) := sm1 mt26 arq26 (lk1 (r := 202) rfl)
theorem sw288 : SEM (288, 2, 4, 9, 1, 0) := sf2 jcl1 (lk1 (r := 206) rfl)
theorem sw289 : SEM (289, 2, 4, 15, 1, 1) := sf2 jcl1 (lk1 (r := 207) rfl)
theorem sw297 : SEM (297, 2, 0, 12, 9, 0) := sf2 jcl9 (lk1 (r := 215) rfl)
theorem sw298 : SEM (298, 2, 0, 21, 9, 1) := sf2 jcl9 (lk1 (r := 216) rfl)
theorem sw299 : SEM (299, 2, 0, 28, 9, 2) := sf2 jcl9 (lk1 (r := 217) rfl)
theorem sw300 : SEM (300, 2, 0, 32, 9, 3) := sf2 jcl9 (lk1 (r := 218) rfl)
theorem sw301 : SEM (301, 2, 0, 38, 9, 4) := sf2 jcl9 (lk1 (r := 219) rfl)
theorem sw302 : SEM (302, 2, 0, 47, 9, 5) := sf2 jcl9 (lk1 (r := 220) rfl)
theorem sw303 : SEM (303, 2, 0, 54, 9, 6) := sf2 jcl9 (lk1 (r := 221) rfl)
theorem sw304 : SEM (304, 2, 0, 60, 9, 7) := sf2 jcl9 (lk1 (r := 222) rfl)
theorem sw305 : SEM (305, 2, 0, 64, 9, 8) := sf2 jcl9 (lk1 (r := 223) rfl)
theorem sw306 : SEM (306, 2, 0, 68, 9, 9) := sf2 jcl9 (lk1 (r := 224) rfl)
theorem sw307 : SEM (307, 2, 0, 72, 9, 10) := sf2 jcl9 (lk1 (r := 225) rfl)
theorem sw308 : SEM (308, 2, 0, 76, 9, 11) := sf2 jcl9 (lk1 (r := 226) rfl)
theorem sw338 : SEM (338, 0, 0, 80, 81, 0) := sm0 mt81 arq81 (lk2 (r := 16) rfl)
theorem sw342 : SEM (342, 0, 0, 84, 77, 1) := sm0 mt77 arq77 (lk2 (r := 20) rfl)
theorem sw346 : SEM (346, 0, 9, 31, 222, 2) := sm0 mt222 arq222 (lk2 (r := 24) rfl)
theorem sw349 : SEM (349, 0, 0, 88, 134, 0) := sm0 mt134 arq134 (lk2 (r := 27) rfl)
theorem sw353 : SEM (353, 0, 0, 338, 222, 2) := sm0 mt222 arq222 (lk2 (r := 31) rfl)
theorem sw354 : SEM (354, 0, 0, 347, 27, 0) := sm0 mt27 arq27 (lk2 (r := 32) rfl)
theorem sw358 : SEM (358, 0, 0, 139, 43, 0) := sm0 mt43 arq43 (lk2 (r := 36) rfl)
theorem sw362 : SEM (362, 0, 7, 25, 12, 3) := sm0 mt12 arq12 (lk2 (r := 40) rfl)
theorem sw371 : SEM (371, 0, 0, 91, 78, 1) := sm0 mt78 arq78 (lk2 (r := 49) rfl)
theorem sw375 : SEM (375, 0, 0, 95, 139, 3) := sm0 mt139 arq139 (lk2 (r := 53) rfl)
theorem sw378 : SEM (378, 0, 0, 110, 135, 2) := sm0 mt135 arq135 (lk2 (r := 56) rfl)
theorem sw381 : SEM (381, 0, 0, 127, 137, 1) := sm0 mt137 arq137 (lk2 (r := 59) rfl)
theorem sw386 : SEM (386, 0, 0, 133, 138, 1) := sm0 mt138 arq138 (lk2 (r := 64) rfl)
theorem sw391 : SEM (391, 0, 0, 99, 80, 1) := sm0 mt80 arq80 (lk2 (r := 69) rfl)
theorem sw395 : SEM (395, 0, 0, 103, 86, 4) := sm0 mt86 arq86 (lk2 (r := 73) rfl)
theorem sw399 : SEM (399, 0, 9, 37, 78, 1) := sm0 mt78 arq78 (lk2 (r := 77) rfl)
theorem sw404 : SEM (404, 0, 0, 107, 87, 1) := sm0 mt87 arq87 (lk2 (r := 82) rfl)
theorem sw416 : SEM (416, 0, 0, 117, 79, 2) := sm0 mt79 arq79 (lk2 (r := 94) rfl)
theorem sw420 : SEM (420, 0, 0, 120, 82, 2) := sm0 mt82 arq82 (lk2 (r := 98) rfl)
theorem sw424 : SEM (424, 0, 0, 124, 83, 1) := sm0 mt83 arq83 (lk2 (r := 102) rfl)
theorem sw428 : SEM (428, 0, 0, 130, 84, 1) := sm0 mt84 arq84 (lk2 (r := 106) rfl)
theorem sw432 : SEM (432, 0, 0, 136, 85, 1) := sm0 mt85 arq85 (lk2 (r := 110) rfl)
theorem sw440 : SEM (440, 0, 0, 143, 104, 1) := sm0 mt104 arq104 (lk2 (r := 118) rfl)
theorem sw448 : SEM (448, 0, 0, 147, 101, 1) := sm0 mt101 arq101 (lk2 (r := 126) rfl)
theorem sw452 : SEM (452, 0, 0, 175, 44, 1) := sm0 mt44 arq44 (lk2 (r := 130) rfl)
theorem sw456 : SEM (456, 0, 7, 31, 45, 1) := sm0 mt45 arq45 (lk2 (r := 134) rfl)
theorem sw460 : SEM (460, 0, 7, 42, 0, 2) := sm0 mt0 arq0 (lk2 (r := 138) rfl)
theorem sw463 : SEM (463, 0, 7, 46, 82, 2) := sm0 mt82 arq82 (lk2 (r := 141) rfl)
theorem sw464 : SEM (464, 0, 7, 50, 83, 1) := sm0 mt83 arq83 (lk2 (r := 142) rfl)
theorem sw465 : SEM (465, 0, 7, 38, 46, 3) := sm0 mt46 arq46 (lk2 (r := 143) rfl)
theorem sw469 : SEM (469, 0, 7, 54, 84, 1) := sm0 mt84 arq84 (lk2 (r := 147) rfl)
theorem sw470 : SEM (470, 0, 7, 57, 4, 2) := sm0 mt4 arq4 (lk2 (r := 148) rfl)
theorem sw473 : SEM (473, 0, 7, 60, 85, 1) := sm0 mt85 arq85 (lk2 (r := 151) rfl)
theorem sw474 : SEM (474, 0, 7, 63, 5, 2) := sm0 mt5 arq5 (lk2 (r := 152) rfl)
theorem sw477 : SEM (477, 0, 7, 66, 3, 2) := sm0 mt3 arq3 (lk2 (r := 155) rfl)
theorem sw480 : SEM (480, 0, 7, 69, 1, 2) := sm0 mt1 arq1 (lk2 (r := 158) rfl)
theorem sw483 : SEM (483, 0, 0, 150, 49, 2) := sm0 mt49 arq49 (lk2 (r := 161) rfl)
theorem sw487 : SEM (487, 0, 7, 76, 2, 2) := sm0 mt2 arq2 (lk2 (r := 165) rfl)
theorem sw490 : SEM (490, 0, 7, 79, 8, 2) := sm0 mt8 arq8 (lk2 (r := 168) rfl)
theorem sw494 : SEM (494, 0, 7, 82, 50, 3) := sm0 mt50 arq50 (lk2 (r := 172) rfl)
theorem sw497 : SEM (497, 0, 7, 114, 10, 3) := sm0 mt10 arq10 (lk2 (r := 175) rfl)
theorem sw500 : SEM (500, 0, 7, 85, 51, 3) := sm0 mt51 arq51 (lk2 (r := 178) rfl)
theorem sw503 : SEM (503, 0, 7, 88, 52, 3) := sm0 mt52 arq52 (lk2 (r := 181) rfl)
theorem sw507 : SEM (507, 0, 7, 117, 80, 1) := sm0 mt80 arq80 (lk2 (r := 185) rfl)
theorem sw511 : SEM (511, 0, 7, 125, 7, 3) := sm0 mt7 arq7 (lk2 (r := 189) rfl)
theorem sw515 : SEM (515, 0, 7, 91, 53, 4) := sm0 mt53 arq53 (lk2 (r := 193) rfl)
theorem sw518 : SEM (518, 0, 7, 95, 54, 4) := sm0 mt54 arq54 (lk2 (r := 196) rfl)
theorem sw521 : SEM (521, 0, 7, 128, 9, 3) := sm0 mt9 arq9 (lk2 (r := 199) rfl)
theorem sw525 : SEM (525, 0, 7, 98, 13, 3) := sm0 mt13 arq13 (lk2 (r := 203) rfl)
theorem sw528 : SEM (528, 0, 7, 101, 55, 3) := sm0 mt55 arq55 (lk2 (r := 206) rfl)
theorem sw531 : SEM (531, 0, 7, 104, 56, 3) := sm0 mt56 arq56 (lk2 (r := 209) rfl)
theorem sw534 : SEM (534, 0, 7, 131, 11, 3) := sm0 mt11 arq11 (lk2 (r := 212) rfl)
theorem sw537 : SEM (537, 0, 7, 107, 57, 2) := sm0 mt57 arq57 (lk2 (r := 215) rfl)
theorem sw541 : SEM (541, 0, 7, 110, 58, 1) := sm0 mt58 arq58 (lk2 (r := 219) rfl)
theorem sw549 : SEM (549, 0, 0, 154, 4, 2) := sm0 mt4 arq4 (lk2 (r := 227) rfl)
theorem sw550 : SEM (550, 0, 0, 160, 102, 1) := sm0 mt102 arq102 (lk2 (r := 228) rfl)
theorem sw554 : SEM (554, 0, 0, 178, 5, 2) := sm0 mt5 arq5 (lk2 (r := 232) rfl)
theorem sw555 : SEM (555, 0, 0, 163, 103, 1) := sm0 mt103 arq103 (lk2 (r := 233) rfl)
theorem sw559 : SEM (559, 0, 0, 181, 0, 2) := sm0 mt0 arq0 (lk2 (r := 237) rfl)
theorem sw560 : SEM (560, 0, 0, 166, 2, 2) := sm0 mt2 arq2 (lk2 (r := 238) rfl)
theorem sw561 : SEM (561, 0, 0, 169, 1, 2) := sm0 mt1 arq1 (lk2 (r := 239) rfl)
theorem sw562 : SEM (562, 0, 0, 172, 3, 2) := sm0 mt3 arq3 (lk3 (r := 0) rfl)
theorem sw567 : SEM (567, 0, 0, 184, 116, 1) := sm0 mt116 arq116 (lk3 (r := 5) rfl)
theorem sw571 : SEM (571, 0, 0, 228, 65, 2) := sm0 mt65 arq65 (lk3 (r := 9) rfl)
theorem sw575 : SEM (575, 0, 8, 49, 66, 0) := sm0 mt66 arq66 (lk3 (r := 13) rfl)
theorem sw579 : SEM (579, 0, 8, 52, 43, 0) := sm0 mt43 arq43 (lk3 (r := 17) rfl)
theorem sw580 : SEM (580, 0, 8, 58, 69, 3) := sm0 mt69 arq69 (lk3 (r := 18) rfl)
theorem sw585 : SEM (585, 0, 8, 103, 70, 4) := sm0 mt70 arq70 (lk3 (r := 23) rfl)
theorem sw589 : SEM (589, 0, 8, 62, 67, 2) := sm0 mt67 arq67 (lk3 (r := 27) rfl)
theorem sw593 : SEM (593, 0, 8, 66, 44, 1) := sm0 mt44 arq44 (lk3 (r := 31) rfl)
theorem sw594 : SEM (594, 0, 8, 70, 6, 1) := sm0 mt6 arq6 (lk3 (r := 32) rfl)
theorem sw597 : SEM (597, 0, 8, 75, 47, 2) := sm0 mt47 arq47 (lk3 (r := 35) rfl)
theorem sw601 : SEM (601, 0, 8, 79, 49, 2) := sm0 mt49 arq49 (lk3 (r := 39) rfl)
theorem sw602 : SEM (602, 0, 8, 83, 48, 2) := sm0 mt48 arq48 (lk3 (r := 40) rfl)
theorem sw606 : SEM (606, 0, 7, 72, 14, 2) := sm0 mt14 arq14 (lk3 (r := 44) rfl)
theorem sw610 : SEM (610, 0, 8, 86, 59, 1) := sm0 mt59 arq59 (lk3 (r := 48) rfl)
theorem sw614 : SEM (614, 0, 8, 90, 60, 1) := sm0 mt60 arq60 (lk3 (r := 52) rfl)
theorem sw618 : SEM (618, 0, 8, 93, 68, 1) := sm0 mt68 arq68 (lk3 (r := 56) rfl)
theorem sw622 : SEM (622, 0, 8, 97, 4, 2) := sm0 mt4 arq4 (lk3 (r := 60) rfl)
theorem sw627 : SEM (627, 0, 0, 191, 114, 2) := sm0 mt114 arq114 (lk3 (r := 65) rfl)
theorem sw631 : SEM (631, 0, 0, 215, 72, 1) := sm0 mt72 arq72 (lk3 (r := 69) rfl)
theorem sw635 : SEM (635, 1, 8, 107, 135, 2) := sm1 mt135 arq135 (lk3 (r := 73) rfl)
theorem sw636 : SEM (636, 0, 0, 218, 37, 1) := sm0 mt37 arq37 (lk3 (r := 74) rfl)
theorem sw640 : SEM (640, 0, 6, 48, 222, 2) := sm0 mt222 arq222 (lk3 (r := 78) rfl)
theorem sw641 : SEM (641, 0, 6, 54, 38, 1) := sm0 mt38 arq38 (lk3 (r := 79) rfl)
theorem sw645 : SEM (645, 0, 6, 58, 73, 2) := sm0 mt73 arq73 (lk3 (r := 83) rfl)
theorem sw649 : SEM (649, 0, 6, 64, 39, 2) := sm0 mt39 arq39 (lk3 (r := 87) rfl)
theorem sw653 : SEM (653, 1, 6, 44, 135, 2) := sm1 mt135 arq135 (lk3 (r := 91) rfl)
theorem sw655 : SEM (655, 0, 6, 68, 40, 1) := sm0 mt40 arq40 (lk3 (r := 93) rfl)
theorem sw659 : SEM (659, 0, 6, 76, 41, 1) := sm0 mt41 arq41 (lk3 (r := 97) rfl)
theorem sw663 : SEM (663, 0, 0, 222, 36, 1) := sm0 mt36 arq36 (lk3 (r := 101) rfl)
theorem sw675 : SEM (675, 0, 0, 194, 115, 1) := sm0 mt115 arq115 (lk3 (r := 113) rfl)
theorem sw679 : SEM (679, 0, 0, 197, 74, 1) := sm0 mt74 arq74 (lk3 (r := 117) rfl)
theorem sw687 : SEM (687, 0, 0, 200, 75, 2) := sm0 mt75 arq75 (lk3 (r := 125) rfl)
theorem sw691 : SEM (691, 0, 8, 111, 74, 1) := sm0 mt74 arq74 (lk3 (r := 129) rfl)
theorem sw696 : SEM (696, 0, 0, 203, 71, 1) := sm0 mt71 arq71 (lk3 (r := 134) rfl)
theorem sw704 : SEM (704, 0, 0, 207, 61, 3) := sm0 mt61 arq61 (lk3 (r := 142) rfl)
theorem sw708 : SEM (708, 0, 7, 134, 62, 2) := sm0 mt62 arq62 (lk3 (r := 146) rfl)
theorem sw712 : SEM (712, 1, 7, 145, 137, 1) := sm1 mt137 arq137 (lk3 (r := 150) rfl)
theorem sw713 : SEM (713, 0, 7, 137, 63, 2) := sm0 mt63 arq63 (lk3 (r := 151) rfl)
theorem sw717 : SEM (717, 0, 7, 141, 44, 1) := sm0 mt44 arq44 (lk3 (r := 155) rfl)
theorem sw726 : SEM (726, 0, 0, 211, 136, 2) := sm0 mt136 arq136 (lk3 (r := 164) rfl)
theorem sw733 : SEM (733, 0, 0, 237, 16, 0) := sm0 mt16 arq16 (lk3 (r := 171) rfl)
theorem sw737 : SEM (737, 0, 2, 53, 80, 1) := sm0 mt80 arq80 (lk3 (r := 175) rfl)
theorem sw738 : SEM (738, 0, 0, 241, 18, 3) := sm0 mt18 arq18 (lk3 (r := 176) rfl)
theorem sw742 : SEM (742, 0, 2, 67, 221, 2) := sm0 mt221 arq221 (lk3 (r := 180) rfl)
theorem sw745 : SEM (745, 0, 2, 73, 19, 2) := sm0 mt19 arq19 (lk3 (r := 183) rfl)
theorem sw753 : SEM (753, 0, 2, 76, 21, 2) := sm0 mt21 arq21 (lk3 (r := 191) rfl)
theorem sw757 : SEM (757, 0, 2, 93, 22, 2) := sm0 mt22 arq22 (lk3 (r := 195) rfl)
theorem sw761 : SEM (761, 0, 2, 115, 77, 1) := sm0 mt77 arq77 (lk3 (r := 199) rfl)
theorem sw762 : SEM (762, 0, 2, 122, 23, 3) := sm0 mt23 arq23 (lk3 (r := 200) rfl)
theorem sw768 : SEM (768, 0, 2, 126, 86, 4) := sm0 mt86 arq86 (lk3 (r := 206) rfl)
theorem sw769 : SEM (769, 0, 2, 130, 82, 2) := sm0 mt82 arq82 (lk3 (r := 207) rfl)
theorem sw770 : SEM (770, 0, 2, 134, 83, 1) := sm0 mt83 arq83 (lk3 (r := 208) rfl)
theorem sw771 : SEM (771, 0, 2, 137, 85, 1) := sm0 mt85 arq85 (lk3 (r := 209) rfl)
theorem sw772 : SEM (772, 0, 2, 140, 24, 2) := sm0 mt24 arq24 (lk3 (r := 210) rfl)
theorem sw775 : SEM (775, 0, 2, 143, 84, 1) := sm0 mt84 arq84 (lk3 (r := 213) rfl)
theorem sw776 : SEM (776, 0, 2, 97, 65, 2) := sm0 mt65 arq65 (lk3 (r := 214) rfl)
theorem sw779 : SEM (779, 0, 2, 80, 20, 3) := sm0 mt20 arq20 (lk3 (r := 217) rfl)
theorem sw788 : SEM (788, 0, 0, 248, 17, 2) := sm0 mt17 arq17 (lk3 (r := 226) rfl)
theorem sw792 : SEM (792, 1, 2, 57, 135, 2) := sm1 mt135 arq135 (lk3 (r := 230) rfl)
theorem sw797 : SEM (797, 0, 0, 251, 28, 2) := sm0 mt28 arq28 (lk3 (r := 235) rfl)
theorem sw802 : SEM (802, 0, 0, 255, 29, 0) := sm0 mt29 arq29 (lk4 (r := 0) rfl)
theorem sw806 : SEM (806, 0, 4, 20, 220, 1) := sm0 mt220 arq220 (lk4 (r := 4) rfl)
theorem sw816 : SEM (816, 0, 0, 258, 117, 0) := sm0 mt117 arq117 (lk4 (r := 14) rfl)
theorem sw820 : SEM (820, 0, 0, 261, 30, 1) := sm0 mt30 arq30 (lk4 (r := 18) rfl)
theorem sw828 : SEM (828, 0, 0, 264, 31, 1) := sm0 mt31 arq31 (lk4 (r := 26) rfl)
theorem sw832 : SEM (832, 0, 4, 26, 30, 1) := sm0 mt30 arq30 (lk4 (r := 30) rfl)
theorem sw837 : SEM (837, 0, 0, 268, 32, 1) := sm0 mt32 arq32 (lk4 (r := 35) rfl)
theorem sw841 : SEM (841, 0, 4, 29, 31, 1) := sm0 mt31 arq31 (lk4 (r := 39) rfl)
theorem sw842 : SEM (842, 0, 4, 33, 33, 3) := sm0 mt33 arq33 (lk4 (r := 40) rfl)
theorem sw845 : SEM (845, 1, 4, 37, 136, 2) := sm1 mt136 arq136 (lk4 (r := 43) rfl)
theorem sw846 : SEM (846, 0, 4, 41, 219, 1) := sm0 mt219 arq219 (lk4 (r := 44) rfl)
theorem sw859 : SEM (859, 0, 0, 271, 131, 2) := sm0 mt131 arq131 (lk4 (r := 57) rfl)
theorem sw865 : SEM (865, 0, 0, 332, 89, 2) := sm0 mt89 arq89 (lk4 (r := 63) rfl)
theorem sw868 : SEM (868, 1, 11, 3, 25, 0) := sm1 mt25 arq25 (lk4 (r := 66) rfl)
theorem sw872 : SEM (872, 2, 11, 15, 8, 0) := sf2 jcl8 (lk4 (r := 70) rfl)
theorem sw873 : SEM (873, 2, 0, 329, 8, 0) := sf2 jcl8 (lk4 (r := 71) rfl)
theorem sw874 : SEM (874, 2, 11, 9, 8, 1) := sf2 jcl8 (lk4 (r := 72) rfl)
theorem sw880 : SEM (880, 0, 0, 275, 132, 0) := sm0 mt132 arq132 (lk4 (r := 78) rfl)
theorem sw886 : SEM (886, 0, 0, 285, 34, 1) := sm0 mt34 arq34 (lk4 (r := 84) rfl)
theorem sw889 : SEM (889, 1, 5, 1, 25, 0) := sm1 mt25 arq25 (lk4 (r := 87) rfl)
theorem sw891 : SEM (891, 2, 5, 13, 2, 0) := sf2 jcl2 (lk4 (r := 89) rfl)
theorem sw892 : SEM (892, 2, 0, 297, 2, 0) := sf2 jcl2 (lk4 (r := 90) rfl)
theorem sw896 : SEM (896, 0, 0, 279, 133, 1) := sm0 mt133 arq133 (lk4 (r := 94) rfl)
theorem sw902 : SEM (902, 0, 0, 289, 88, 1) := sm0 mt88 arq88 (lk4 (r := 100) rfl)
theorem sw905 : SEM (905, 1, 10, 1, 25, 0) := sm1 mt25 arq25 (lk4 (r := 103) rfl)
theorem sw907 : SEM (907, 2, 10, 13, 7, 0) := sf2 jcl7 (lk4 (r := 105) rfl)
theorem sw908 : SEM (908, 2, 0, 300, 7, 0) := sf2 jcl7 (lk4 (r := 106) rfl)
theorem sw921 : SEM (921, 0, 0, 308, 128, 3) := sm0 mt128 arq128 (lk4 (r := 119) rfl)
theorem sw931 : SEM (931, 0, 0, 319, 90, 0) := sm0 mt90 arq90 (lk4 (r := 129) rfl)
theorem sw935 : SEM (935, 1, 11, 18, 137, 1) := sm1 mt137 arq137 (lk4 (r := 133) rfl)
theorem sw944 : SEM (944, 0, 0, 326, 91, 0) := sm0 mt91 arq91 (lk4 (r := 142) rfl)
theorem sw1053 : SEM (1053, 0, 12, 138, 148, 0) := sm0 mt148 arq148 (lk5 (r := 11) rfl)
theorem sw1057 : SEM (1057, 0, 12, 145, 147, 0) := sm0 mt147 arq147 (lk5 (r := 15) rfl)
theorem sw1061 : SEM (1061, 2, 12, 1, 10, 0) := sf2 jcl10 (lk5 (r := 19) rfl)
theorem sw1062 : SEM (1062, 2, 12, 13, 10, 1) := sf2 jcl10 (lk5 (r := 20) rfl)
theorem sw1063 : SEM (1063, 2, 12, 16, 10, 2) := sf2 jcl10 (lk5 (r := 21) rfl)
theorem sw1064 : SEM (1064, 2, 12, 20, 10, 3) := sf2 jcl10 (lk5 (r := 22) rfl)
theorem sw1065 : SEM (1065, 2, 12, 23, 10, 4) := sf2 jcl10 (lk5 (r := 23) rfl)
theorem sw1066 : SEM (1066, 2, 12, 26, 10, 5) := sf2 jcl10 (lk5 (r := 24) rfl)
theorem sw1067 : SEM (1067, 2, 12, 29, 10, 6) := sf2 jcl10 (lk5 (r := 25) rfl)
theorem sw1068 : SEM (1068, 2, 12, 32, 10, 7) := sf2 jcl10 (lk5 (r := 26) rfl)
theorem sw1069 : SEM (1069, 2, 12, 35, 10, 8) := sf2 jcl10 (lk5 (r := 27) rfl)
theorem sw1070 : SEM (1070, 2, 12, 38, 10, 9) := sf2 jcl10 (lk5 (r := 28) rfl)
theorem sw1071 : SEM (1071, 2, 12, 41, 10, 10) := sf2 jcl10 (lk5 (r := 29) rfl)
theorem sw1072 : SEM (1072, 2, 12, 45, 10, 11) := sf2 jcl10 (lk5 (r := 30) rfl)
theorem sw1073 : SEM (1073, 2, 12, 48, 10, 12) := sf2 jcl10 (lk5 (r := 31) rfl)
theorem sw1074 : SEM (1074, 2, 12, 51, 10, 13) := sf2 jcl10 (lk5 (r := 32) rfl)
theorem sw1075 : SEM (1075, 2, 12, 54, 10, 14) := sf2 jcl10 (lk5 (r := 33) rfl)
theorem sw1076 : SEM (1076, 2, 12, 57, 10, 15) := sf2 jcl10 (lk5 (r := 34) rfl)
theorem sw1077 : SEM (1077, 2, 12, 60, 10, 16) := sf2 jcl10 (lk5 (r := 35) rfl)
theorem sw1078 : SEM (1078, 2, 12, 63, 10, 17) := sf2 jcl10 (lk5 (r := 36) rfl)
theorem sw1079 : SEM (1079, 2, 12, 66, 10, 18) := sf2 jcl10 (lk5 (r := 37) rfl)
theorem sw1080 : SEM (1080, 2, 12, 70, 10, 19) := sf2 jcl10 (lk5 (r := 38) rfl)
theorem sw1081 : SEM (1081, 2, 12, 73, 10, 20) := sf2 jcl10 (lk5 (r := 39) rfl)
theorem sw1082 : SEM (1082, 2, 12, 76, 10, 21) := sf2 jcl10 (lk5 (r := 40) rfl)
theorem sw1083 : SEM (1083, 2, 12, 79, 10, 22) := sf2 jcl10 (lk5 (r := 41) rfl)
theorem sw1084 : SEM (1084, 2, 12, 83, 10, 23) := sf2 jcl10 (lk5 (r := 42) rfl)
theorem sw1085 : SEM (1085, 2, 12, 86, 10, 24) := sf2 jcl10 (lk5 (r := 43) rfl)
theorem sw1086 : SEM (1086, 2, 12, 89, 10, 25) := sf2 jcl10 (lk5 (r := 44) rfl)
theorem sw1087 : SEM (1087, 2, 12, 92, 10, 26) := sf2 jcl10 (lk5 (r := 45) rfl)
theorem sw1088 : SEM (1088, 2, 12, 95, 10, 27) := sf2 jcl10 (lk5 (r := 46) rfl)
theorem sw1089 : SEM (1089, 2, 12, 98, 10, 28) := sf2 jcl10 (lk5 (r := 47) rfl)
theorem sw1090 : SEM (1090, 2, 12, 101, 10, 29) := sf2 jcl10 (lk5 (r := 48) rfl)
theorem sw1091 : SEM (1091, 2, 12, 104, 10, 30) := sf2 jcl10 (lk5 (r := 49) rfl)
theorem sw1092 : SEM (1092, 2, 12, 107, 10, 31) := sf2 jcl10 (lk5 (r := 50) rfl)
theorem sw1093 : SEM (1093, 2, 12, 110, 10, 32) := sf2 jcl10 (lk5 (r := 51) rfl)
theorem sw1094 : SEM (1094, 2, 12, 113, 10, 33) := sf2 jcl10 (lk5 (r := 52) rfl)
theorem sw1095 : SEM (1095, 2, 12, 116, 10, 34) := sf2 jcl10 (lk5 (r := 53) rfl)
theorem sw1096 : SEM (1096, 2, 12, 119, 10, 35) := sf2 jcl10 (lk5 (r := 54) rfl)
theorem sw1097 : SEM (1097, 2, 12, 122, 10, 36) := sf2 jcl10 (lk5 (r := 55) rfl)
theorem sw1098 : SEM (1098, 2, 12, 125, 10, 37) := sf2 jcl10 (lk5 (r := 56) rfl)
theorem sw1099 : SEM (1099, 2, 12, 128, 10, 38) := sf2 jcl10 (lk5 (r := 57) rfl)
theorem sw1100 : SEM (1100, 2, 12, 131, 10, 39) := sf2 jcl10 (lk5 (r := 58) rfl)
theorem sw1101 : SEM (1101, 2, 12, 135, 10, 40) := sf2 jcl10 (lk5 (r := 59) rfl)
theorem sw1189 : SEM (1189, 0, 12, 141, 140, 3) := sm0 mt140 arq140 (lk5 (r := 147) rfl)
theorem sw1193 : SEM (1193, 0, 12, 148, 149, 0) := sm0 mt149 arq149 (lk5 (r := 151) rfl)
theorem sw1201 : SEM (1201, 0, 12, 151, 142, 1) := sm0 mt142 arq142 (lk5 (r := 159) rfl)
theorem sw1205 : SEM (1205, 0, 12, 155, 144, 1) := sm0 mt144 arq144 (lk5 (r := 163) rfl)
theorem sw1209 : SEM (1209, 0, 12, 158, 143, 1) := sm0 mt143 arq143 (lk5 (r := 167) rfl)
theorem sw1213 : SEM (1213, 0, 12, 161, 145, 1) := sm0 mt145 arq145 (lk5 (r := 171) rfl)
theorem sw1217 : SEM (1217, 0, 12, 164, 146, 1) := sm0 mt146 arq146 (lk5 (r := 175) rfl)
theorem sw1237 : SEM (1237, 0, 12, 206, 169, 0) := sm0 mt169 arq169 (lk5 (r := 195) rfl)
theorem sw1241 : SEM (1241, 0, 12, 203, 168, 0) := sm0 mt168 arq168 (lk5 (r := 199) rfl)
theorem sw1249 : SEM (1249, 0, 12, 210, 167, 0) := sm0 mt167 arq167 (lk5 (r := 207) rfl)
theorem sw1253 : SEM (1253, 0, 12, 181, 159, 2) := sm0 mt159 arq159 (lk5 (r := 211) rfl)
theorem sw1257 : SEM (1257, 0, 12, 167, 156, 1) := sm0 mt156 arq156 (lk5 (r := 215) rfl)
theorem sw1261 : SEM (1261, 0, 12, 170, 155, 1) := sm0 mt155 arq155 (lk5 (r := 219) rfl)
theorem sw1265 : SEM (1265, 0, 12, 174, 157, 1) := sm0 mt157 arq157 (lk5 (r := 223) rfl)
theorem sw1269 : SEM (1269, 0, 12, 177, 158, 0) := sm0 mt158 arq158 (lk5 (r := 227) rfl)
theorem sw1273 : SEM (1273, 0, 12, 213, 166, 2) := sm0 mt166 arq166 (lk5 (r := 231) rfl)
theorem sw1277 : SEM (1277, 0, 12, 189, 162, 1) := sm0 mt162 arq162 (lk5 (r := 235) rfl)
theorem sw1281 : SEM (1281, 0, 12, 193, 164, 1) := sm0 mt164 arq164 (lk5 (r := 239) rfl)
theorem sw1285 : SEM (1285, 0, 12, 196, 163, 3) := sm0 mt163 arq163 (lk6 (r := 3) rfl)
theorem sw1289 : SEM (1289, 0, 12, 185, 161, 2) := sm0 mt161 arq161 (lk6 (r := 7) rfl)
theorem sw1293 : SEM (1293, 0, 12, 200, 165, 2) := sm0 mt165 arq165 (lk6 (r := 11) rfl)
theorem sw1305 : SEM (1305, 0, 12, 238, 180, 1) := sm0 mt180 arq180 (lk6 (r := 23) rfl)
theorem sw1309 : SEM (1309, 0, 12, 235, 177, 2) := sm0 mt177 arq177 (lk6 (r := 27) rfl)
theorem sw1313 : SEM (1313, 0, 12, 219, 175, 3) := sm0 mt175 arq175 (lk6 (r := 31) rfl)
theorem sw1317 : SEM (1317, 0, 12, 216, 173, 1) := sm0 mt173 arq173 (lk6 (r := 35) rfl)
theorem sw1321 : SEM (1321, 0, 12, 223, 176, 2) := sm0 mt176 arq176 (lk6 (r := 39) rfl)
theorem sw1325 : SEM (1325, 0, 12, 226, 160, 2) := sm0 mt160 arq160 (lk6 (r := 43) rfl)
theorem sw1329 : SEM (1329, 0, 12, 229, 174, 1) := sm0 mt174 arq174 (lk6 (r := 47) rfl)
theorem sw1333 : SEM (1333, 0, 12, 232, 178, 0) := sm0 mt178 arq178 (lk6 (r := 51) rfl)
theorem sw1341 : SEM (1341, 0, 12, 244, 182, 0) := sm0 mt182 arq182 (lk6 (r := 59) rfl)
theorem sw1345 : SEM (1345, 0, 12, 247, 183, 2) := sm0 mt183 arq183 (lk6 (r := 63) rfl)
theorem sw1349 : SEM (1349, 0, 12, 241, 179, 2) := sm0 mt179 arq179 (lk6 (r := 67) rfl)
theorem sw1361 : SEM (1361, 0, 12, 250, 186, 1) := sm0 mt186 arq186 (lk6 (r := 79) rfl)
theorem sw1365 : SEM (1365, 0, 12, 253, 187, 1) := sm0 mt187 arq187 (lk6 (r := 83) rfl)
theorem sw1381 : SEM (1381, 0, 12, 256, 191, 1) := sm0 mt191 arq191 (lk6 (r := 99) rfl)
theorem sw1397 : SEM (1397, 0, 12, 269, 200, 1) := sm0 mt200 arq200 (lk6 (r := 115) rfl)
theorem sw1401 : SEM (1401, 0, 12, 263, 199, 1) := sm0 mt199 arq199 (lk6 (r := 119) rfl)
theorem sw1405 : SEM (1405, 0, 12, 266, 198, 1) := sm0 mt198 arq198 (lk6 (r := 123) rfl)
theorem sw1409 : SEM (1409, 0, 12, 272, 196, 4) := sm0 mt196 arq196 (lk6 (r := 127) rfl)
theorem sw1413 : SEM (1413, 0, 12, 259, 195, 4) := sm0 mt195 arq195 (lk6 (r := 131) rfl)
theorem sw1417 : SEM (1417, 0, 12, 275, 197, 2) := sm0 mt197 arq197 (lk6 (r := 135) rfl)
theorem sw1433 : SEM (1433, 0, 12, 278, 204, 0) := sm0 mt204 arq204 (lk6 (r := 151) rfl)
theorem sw1437 : SEM (1437, 0, 12, 281, 205, 1) := sm0 mt205 arq205 (lk6 (r := 155) rfl)
theorem sw1445 : SEM (1445, 0, 12, 284, 207, 0) := sm0 mt207 arq207 (lk6 (r := 163) rfl)
theorem sw1457 : SEM (1457, 0, 12, 287, 210, 1) := sm0 mt210 arq210 (lk6 (r := 175) rfl)
theorem sw1461 : SEM (1461, 0, 12, 290, 211, 1) := sm0 mt211 arq211 (lk6 (r := 179) rfl)
theorem sw1481 : SEM (1481, 0, 12, 293, 216, 1) := sm0 mt216 arq216 (lk6 (r := 199) rfl)
def cwb0 (i : Nat) : Option CO := cond (Nat.ble i 153) (cond (Nat.ble i 126) (cond (Nat.ble i 122) (cond (Nat.ble i 120) (cond (Nat.ble i 119) (some (116, 1, 0, 11, 76, 0)) (some (120, 2, 9, 9, 6, 0))) (cond (Nat.ble i 121) (some (121, 2, 2, 49, 6, 0)) (some (122, 2, 7, 35, 6, 0)))) (cond (Nat.ble i 124) (cond (Nat.ble i 123) (some (123, 2, 0, 335, 6, 0)) (some (124, 2, 9, 15, 6, 1))) (cond (Nat.ble i 125) (some (125, 2, 7, 19, 6, 1)) (some (126, 2, 0, 114, 6, 1))))) (cond (Nat.ble i 130) (cond (Nat.ble i 128) (cond (Nat.ble i 127) (some (127, 2, 2, 119, 6, 1)) (some (128, 2, 9, 19, 6, 2))) (cond (Nat.ble i 129) (some (129, 2, 9, 22, 6, 3)) (some (130, 2, 9, 25, 6, 4)))) (cond (Nat.ble i 151) (cond (Nat.ble i 147) (some (131, 2, 9, 28, 6, 5)) (some (148, 0, 0, 18, 42, 1))) (cond (Nat.ble i 152) (some (152, 2, 7, 15, 4, 0)) (some (153, 2, 7, 9, 4, 1)))))) (cond (Nat.ble i 171) (cond (Nat.ble i 167) (cond (Nat.ble i 165) (cond (Nat.ble i 161) (some (154, 2, 0, 225, 4, 1)) (some (162, 1, 0, 27, 64, 0))) (cond (Nat.ble i 166) (some (166, 2, 8, 9, 5, 0)) (some (167, 2, 0, 187, 5, 0)))) (cond (Nat.ble i 169) (cond (Nat.ble i 168) (some (168, 2, 8, 15, 5, 1)) (some (169, 2, 2, 103, 5, 1))) (cond (Nat.ble i 170) (some (170, 2, 0, 232, 5, 1)) (some (171, 2, 8, 19, 5, 2))))) (cond (Nat.ble i 175) (cond (Nat.ble i 173) (cond (Nat.ble i 172) (some (172, 2, 2, 106, 5, 2)) (some (173, 2, 8, 22, 5, 3))) (cond (Nat.ble i 174) (some (174, 2, 2, 111, 5, 3)) (some (175, 2, 0, 235, 5, 3)))) (cond (Nat.ble i 177) (cond (Nat.ble i 176) (some (176, 2, 8, 26, 5, 4)) (some (177, 2, 8, 30, 5, 5))) (cond (Nat.ble i 178) (some (178, 2, 8, 34, 5, 6)) (some (179, 2, 8, 37, 5, 7))))))
theorem cwk0 (i : Nat) : QS (cwb0 i) := (qs_c (qs_c (qs_c (qs_c (qs_c (qs_l sw116) (qs_l sw120)) (qs_c (qs_l sw121) (qs_l sw122))) (qs_c (qs_c (qs_l sw123) (qs_l sw124)) (qs_c (qs_l sw125) (qs_l sw126)))) (qs_c (qs_c (qs_c (qs_l sw127) (qs_l sw128)) (qs_c (qs_l sw129) (qs_l sw130))) (qs_c (qs_c (qs_l sw131) (qs_l sw148)) (qs_c (qs_l sw152) (qs_l sw153))))) (qs_c (qs_c (qs_c (qs_c (qs_l sw154) (qs_l sw162)) (qs_c (qs_l sw166) (qs_l sw167))) (qs_c (qs_c (qs_l sw168) (qs_l sw169)) (qs_c (qs_l sw170) (qs_l sw171)))) (qs_c (qs_c (qs_c (qs_l sw172) (qs_l sw173)) (qs_c (qs_l sw174) (qs_l sw175))) (qs_c (qs_c (qs_l sw176) (qs_l sw177)) (qs_c (qs_l sw178) (qs_l sw179))))))
def cwb1 (i : Nat) : Option CO := cond (Nat.ble i 253) (cond (Nat.ble i 216) (cond (Nat.ble i 212) (cond (Nat.ble i 181) (cond (Nat.ble i 180) (some (180, 2, 8, 40, 5, 8)) (some (181, 2, 8, 43, 5, 9))) (cond (Nat.ble i 208) (some (182, 2, 8, 46, 5, 10)) (some (209, 1, 0, 37, 35, 0)))) (cond (Nat.ble i 214) (cond (Nat.ble i 213) (some (213, 2, 6, 9, 3, 0)) (some (214, 2, 6, 15, 3, 1))) (cond (Nat.ble i 215) (some (215, 2, 6, 18, 3, 2)) (some (216, 2, 6, 21, 3, 3))))) (cond (Nat.ble i 220) (cond (Nat.ble i 218) (cond (Nat.ble i 217) (some (217, 2, 6, 24, 3, 4)) (some (218, 2, 6, 27, 3, 5))) (cond (Nat.ble i 219) (some (219, 2, 6, 31, 3, 6)) (some (220, 2, 6, 34, 3, 7)))) (cond (Nat.ble i 246) (cond (Nat.ble i 221) (some (221, 2, 6, 38, 3, 8)) (some (222, 2, 6, 41, 3, 9))) (cond (Nat.ble i 251) (some (247, 0, 0, 44, 15, 2)) (some (252, 1, 2, 20, 76, 0)))))) (cond (Nat.ble i 261) (cond (Nat.ble i 257) (cond (Nat.ble i 255) (cond (Nat.ble i 254) (some (254, 0, 2, 27, 42, 1)) (some (255, 2, 2, 9, 0, 0))) (cond (Nat.ble i 256) (some (256, 2, 0, 245, 0, 0)) (some (257, 2, 2, 15, 0, 1)))) (cond (Nat.ble i 259) (cond (Nat.ble i 258) (some (258, 2, 0, 344, 0, 1)) (some (259, 2, 2, 42, 0, 2))) (cond (Nat.ble i 260) (some (260, 2, 2, 45, 0, 3)) (some (261, 2, 2, 21, 0, 4))))) (cond (Nat.ble i 287) (cond (Nat.ble i 263) (cond (Nat.ble i 262) (some (262, 2, 2, 30, 0, 5)) (some (263, 2, 2, 34, 0, 6))) (cond (Nat.ble i 283) (some (264, 2, 2, 38, 0, 7)) (some (284, 1, 0, 53, 26, 0)))) (cond (Nat.ble i 296) (cond (Nat.ble i 288) (some (288, 2, 4, 9, 1, 0)) (some (289, 2, 4, 15, 1, 1))) (cond (Nat.ble i 297) (some (297, 2, 0, 12, 9, 0)) (some (298, 2, 0, 21, 9, 1))))))
theorem cwk1 (i : Nat) : QS (cwb1 i) := (qs_c (qs_c (qs_c (qs_c (qs_c (qs_l sw180) (qs_l sw181)) (qs_c (qs_l sw182) (qs_l sw209))) (qs_c (qs_c (qs_l sw213) (qs_l sw214)) (qs_c (qs_l sw215) (qs_l sw216)))) (qs_c (qs_c (qs_c (qs_l sw217) (qs_l sw218)) (qs_c (qs_l sw219) (qs_l sw220))) (qs_c (qs_c (qs_l sw221) (qs_l sw222)) (qs_c (qs_l sw247) (qs_l sw252))))) (qs_c (qs_c (qs_c (qs_c (qs_l sw254) (qs_l sw255)) (qs_c (qs_l sw256) (qs_l sw257))) (qs_c (qs_c (qs_l sw258) (qs_l sw259)) (qs_c (qs_l sw260) (qs_l sw261)))) (qs_c (qs_c (qs_c (qs_l sw262) (qs_l sw263)) (qs_c (qs_l sw264) (qs_l sw284))) (qs_c (qs_c (qs_l sw288) (qs_l sw289)) (qs_c (qs_l sw297) (qs_l sw298))))))
def cwb2 (i : Nat) : Option CO := cond (Nat.ble i 357) (cond (Nat.ble i 306) (cond (Nat.ble i 302) (cond (Nat.ble i 300) (cond (Nat.ble i 299) (some (299, 2, 0, 28, 9, 2)) (some (300, 2, 0, 32, 9, 3))) (cond (Nat.ble i 301) (some (301, 2, 0, 38, 9, 4)) (some (302, 2, 0, 47, 9, 5)))) (cond (Nat.ble i 304) (cond (Nat.ble i 303) (some (303, 2, 0, 54, 9, 6)) (some (304, 2, 0, 60, 9, 7))) (cond (Nat.ble i 305) (some (305, 2, 0, 64, 9, 8)) (some (306, 2, 0, 68, 9, 9))))) (cond (Nat.ble i 345) (cond (Nat.ble i 337) (cond (Nat.ble i 307) (some (307, 2, 0, 72, 9, 10)) (some (308, 2, 0, 76, 9, 11))) (cond (Nat.ble i 341) (some (338, 0, 0, 80, 81, 0)) (some (342, 0, 0, 84, 77, 1)))) (cond (Nat.ble i 352) (cond (Nat.ble i 348) (some (346, 0, 9, 31, 222, 2)) (some (349, 0, 0, 88, 134, 0))) (cond (Nat.ble i 353) (some (353, 0, 0, 338, 222, 2)) (some (354, 0, 0, 347, 27, 0)))))) (cond (Nat.ble i 394) (cond (Nat.ble i 377) (cond (Nat.ble i 370) (cond (Nat.ble i 361) (some (358, 0, 0, 139, 43, 0)) (some (362, 0, 7, 25, 12, 3))) (cond (Nat.ble i 374) (some (371, 0, 0, 91, 78, 1)) (some (375, 0, 0, 95, 139, 3)))) (cond (Nat.ble i 385) (cond (Nat.ble i 380) (some (378, 0, 0, 110, 135, 2)) (some (381, 0, 0, 127, 137, 1))) (cond (Nat.ble i 390) (some (386, 0, 0, 133, 138, 1)) (some (391, 0, 0, 99, 80, 1))))) (cond (Nat.ble i 419) (cond (Nat.ble i 403) (cond (Nat.ble i 398) (some (395, 0, 0, 103, 86, 4)) (some (399, 0, 9, 37, 78, 1))) (cond (Nat.ble i 415) (some (404, 0, 0, 107, 87, 1)) (some (416, 0, 0, 117, 79, 2)))) (cond (Nat.ble i 427) (cond (Nat.ble i 423) (some (420, 0, 0, 120, 82, 2)) (some (424, 0, 0, 124, 83, 1))) (cond (Nat.ble i 431) (some (428, 0, 0, 130, 84, 1)) (some (432, 0, 0, 136, 85, 1))))))
theorem cwk2 (i : Nat) : QS (cwb2 i) := (qs_c (qs_c (qs_c (qs_c (qs_c (qs_l sw299) (qs_l sw300)) (qs_c (qs_l sw301) (qs_l sw302))) (qs_c (qs_c (qs_l sw303) (qs_l sw304)) (qs_c (qs_l sw305) (qs_l sw306)))) (qs_c (qs_c (qs_c (qs_l sw307) (qs_l sw308)) (qs_c (qs_l sw338) (qs_l sw342))) (qs_c (qs_c (qs_l sw346) (qs_l sw349)) (qs_c (qs_l sw353) (qs_l sw354))))) (qs_c (qs_c (qs_c (qs_c (qs_l sw358) (qs_l sw362)) (qs_c (qs_l sw371) (qs_l sw375))) (qs_c (qs_c (qs_l sw378) (qs_l sw381)) (qs_c (qs_l sw386) (qs_l sw391)))) (qs_c (qs_c (qs_c (qs_l sw395) (qs_l sw399)) (qs_c (qs_l sw404) (qs_l sw416))) (qs_c (qs_c (qs_l sw420) (qs_l sw424)) (qs_c (qs_l sw428) (qs_l sw432))))))
def cwb3 (i : Nat) : Option CO := cond (Nat.ble i 489) (cond (Nat.ble i 468) (cond (Nat.ble i 459) (cond (Nat.ble i 451) (cond (Nat.ble i 447) (some (440, 0, 0, 143, 104, 1)) (some (448, 0, 0, 147, 101, 1))) (cond (Nat.ble i 455) (some (452, 0, 0, 175, 44, 1)) (some (456, 0, 7, 31, 45, 1)))) (cond (Nat.ble i 463) (cond (Nat.ble i 462) (some (460, 0, 7, 42, 0, 2)) (some (463, 0, 7, 46, 82, 2))) (cond (Nat.ble i 464) (some (464, 0, 7, 50, 83, 1)) (some (465, 0, 7, 38, 46, 3))))) (cond (Nat.ble i 476) (cond (Nat.ble i 472) (cond (Nat.ble i 469) (some (469, 0, 7, 54, 84, 1)) (some (470, 0, 7, 57, 4, 2))) (cond (Nat.ble i 473) (some (473, 0, 7, 60, 85, 1)) (some (474, 0, 7, 63, 5, 2)))) (cond (Nat.ble i 482) (cond (Nat.ble i 479) (some (477, 0, 7, 66, 3, 2)) (some (480, 0, 7, 69, 1, 2))) (cond (Nat.ble i 486) (some (483, 0, 0, 150, 49, 2)) (some (487, 0, 7, 76, 2, 2)))))) (cond (Nat.ble i 517) (cond (Nat.ble i 502) (cond (Nat.ble i 496) (cond (Nat.ble i 493) (some (490, 0, 7, 79, 8, 2)) (some (494, 0, 7, 82, 50, 3))) (cond (Nat.ble i 499) (some (497, 0, 7, 114, 10, 3)) (some (500, 0, 7, 85, 51, 3)))) (cond (Nat.ble i 510) (cond (Nat.ble i 506) (some (503, 0, 7, 88, 52, 3)) (some (507, 0, 7, 117, 80, 1))) (cond (Nat.ble i 514) (some (511, 0, 7, 125, 7, 3)) (some (515, 0, 7, 91, 53, 4))))) (cond (Nat.ble i 530) (cond (Nat.ble i 524) (cond (Nat.ble i 520) (some (518, 0, 7, 95, 54, 4)) (some (521, 0, 7, 128, 9, 3))) (cond (Nat.ble i 527) (some (525, 0, 7, 98, 13, 3)) (some (528, 0, 7, 101, 55, 3)))) (cond (Nat.ble i 536) (cond (Nat.ble i 533) (some (531, 0, 7, 104, 56, 3)) (some (534, 0, 7, 131, 11, 3))) (cond (Nat.ble i 540) (some (537, 0, 7, 107, 57, 2)) (some (541, 0, 7, 110, 58, 1))))))
theorem cwk3 (i : Nat) : QS (cwb3 i) := (qs_c (qs_c (qs_c (qs_c (qs_c (qs_l sw440) (qs_l sw448)) (qs_c (qs_l sw452) (qs_l sw456))) (qs_c (qs_c (qs_l sw460) (qs_l sw463)) (qs_c (qs_l sw464) (qs_l sw465)))) (qs_c (qs_c (qs_c (qs_l sw469) (qs_l sw470)) (qs_c (qs_l sw473) (qs_l sw474))) (qs_c (qs_c (qs_l sw477) (qs_l sw480)) (qs_c (qs_l sw483) (qs_l sw487))))) (qs_c (qs_c (qs_c (qs_c (qs_l sw490) (qs_l sw494)) (qs_c (qs_l sw497) (qs_l sw500))) (qs_c (qs_c (qs_l sw503) (qs_l sw507)) (qs_c (qs_l sw511) (qs_l sw515)))) (qs_c (qs_c (qs_c (qs_l sw518) (qs_l sw521)) (qs_c (qs_l sw525) (qs_l sw528))) (qs_c (qs_c (qs_l sw531) (qs_l sw534)) (qs_c (qs_l sw537) (qs_l sw541))))))
def cwb4 (i : Nat) : Option CO := cond (Nat.ble i 593) (cond (Nat.ble i 566) (cond (Nat.ble i 558) (cond (Nat.ble i 553) (cond (Nat.ble i 549) (some (549, 0, 0, 154, 4, 2)) (some (550, 0, 0, 160, 102, 1))) (cond (Nat.ble i 554) (some (554, 0, 0, 178, 5, 2)) (some (555, 0, 0, 163, 103, 1)))) (cond (Nat.ble i 560) (cond (Nat.ble i 559) (some (559, 0, 0, 181, 0, 2)) (some (560, 0, 0, 166, 2, 2))) (cond (Nat.ble i 561) (some (561, 0, 0, 169, 1, 2)) (some (562, 0, 0, 172, 3, 2))))) (cond (Nat.ble i 579) (cond (Nat.ble i 574) (cond (Nat.ble i 570) (some (567, 0, 0, 184, 116, 1)) (some (571, 0, 0, 228, 65, 2))) (cond (Nat.ble i 578) (some (575, 0, 8, 49, 66, 0)) (some (579, 0, 8, 52, 43, 0)))) (cond (Nat.ble i 588) (cond (Nat.ble i 584) (some (580, 0, 8, 58, 69, 3)) (some (585, 0, 8, 103, 70, 4))) (cond (Nat.ble i 592) (some (589, 0, 8, 62, 67, 2)) (some (593, 0, 8, 66, 44, 1)))))) (cond (Nat.ble i 621) (cond (Nat.ble i 605) (cond (Nat.ble i 600) (cond (Nat.ble i 596) (some (594, 0, 8, 70, 6, 1)) (some (597, 0, 8, 75, 47, 2))) (cond (Nat.ble i 601) (some (601, 0, 8, 79, 49, 2)) (some (602, 0, 8, 83, 48, 2)))) (cond (Nat.ble i 613) (cond (Nat.ble i 609) (some (606, 0, 7, 72, 14, 2)) (some (610, 0, 8, 86, 59, 1))) (cond (Nat.ble i 617) (some (614, 0, 8, 90, 60, 1)) (some (618, 0, 8, 93, 68, 1))))) (cond (Nat.ble i 635) (cond (Nat.ble i 630) (cond (Nat.ble i 626) (some (622, 0, 8, 97, 4, 2)) (some (627, 0, 0, 191, 114, 2))) (cond (Nat.ble i 634) (some (631, 0, 0, 215, 72, 1)) (some (635, 1, 8, 107, 135, 2)))) (cond (Nat.ble i 640) (cond (Nat.ble i 639) (some (636, 0, 0, 218, 37, 1)) (some (640, 0, 6, 48, 222, 2))) (cond (Nat.ble i 644) (some (641, 0, 6, 54, 38, 1)) (some (645, 0, 6, 58, 73, 2))))))
theorem cwk4 (i : Nat) : QS (cwb4 i) := (qs_c (qs_c (qs_c (qs_c (qs_c (qs_l sw549) (qs_l sw550)) (qs_c (qs_l sw554) (qs_l sw555))) (qs_c (qs_c (qs_l sw559) (qs_l sw560)) (qs_c (qs_l sw561) (qs_l sw562)))) (qs_c (qs_c (qs_c (qs_l sw567) (qs_l sw571)) (qs_c (qs_l sw575) (qs_l sw579))) (qs_c (qs_c (qs_l sw580) (qs_l sw585)) (qs_c (qs_l sw589) (qs_l sw593))))) (qs_c (qs_c (qs_c (qs_c (qs_l sw594) (qs_l sw597)) (qs_c (qs_l sw601) (qs_l sw602))) (qs_c (qs_c (qs_l sw606) (qs_l sw610)) (qs_c (qs_l sw614) (qs_l sw618)))) (qs_c (qs_c (qs_c (qs_l sw622) (qs_l sw627)) (qs_c (qs_l sw631) (qs_l sw635))) (qs_c (qs_c (qs_l sw636) (qs_l sw640)) (qs_c (qs_l sw641) (qs_l sw645))))))
def cwb5 (i : Nat) : Option CO := cond (Nat.ble i 732) (cond (Nat.ble i 690) (cond (Nat.ble i 662) (cond (Nat.ble i 654) (cond (Nat.ble i 652) (some (649, 0, 6, 64, 39, 2)) (some (653, 1, 6, 44, 135, 2))) (cond (Nat.ble i 658) (some (655, 0, 6, 68, 40, 1)) (some (659, 0, 6, 76, 41, 1)))) (cond (Nat.ble i 678) (cond (Nat.ble i 674) (some (663, 0, 0, 222, 36, 1)) (some (675, 0, 0, 194, 115, 1))) (cond (Nat.ble i 686) (some (679, 0, 0, 197, 74, 1)) (some (687, 0, 0, 200, 75, 2))))) (cond (Nat.ble i 711) (cond (Nat.ble i 703) (cond (Nat.ble i 695) (some (691, 0, 8, 111, 74, 1)) (some (696, 0, 0, 203, 71, 1))) (cond (Nat.ble i 707) (some (704, 0, 0, 207, 61, 3)) (some (708, 0, 7, 134, 62, 2)))) (cond (Nat.ble i 716) (cond (Nat.ble i 712) (some (712, 1, 7, 145, 137, 1)) (some (713, 0, 7, 137, 63, 2))) (cond (Nat.ble i 725) (some (717, 0, 7, 141, 44, 1)) (some (726, 0, 0, 211, 136, 2)))))) (cond (Nat.ble i 761) (cond (Nat.ble i 744) (cond (Nat.ble i 737) (cond (Nat.ble i 736) (some (733, 0, 0, 237, 16, 0)) (some (737, 0, 2, 53, 80, 1))) (cond (Nat.ble i 741) (some (738, 0, 0, 241, 18, 3)) (some (742, 0, 2, 67, 221, 2)))) (cond (Nat.ble i 756) (cond (Nat.ble i 752) (some (745, 0, 2, 73, 19, 2)) (some (753, 0, 2, 76, 21, 2))) (cond (Nat.ble i 760) (some (757, 0, 2, 93, 22, 2)) (some (761, 0, 2, 115, 77, 1))))) (cond (Nat.ble i 770) (cond (Nat.ble i 768) (cond (Nat.ble i 767) (some (762, 0, 2, 122, 23, 3)) (some (768, 0, 2, 126, 86, 4))) (cond (Nat.ble i 769) (some (769, 0, 2, 130, 82, 2)) (some (770, 0, 2, 134, 83, 1)))) (cond (Nat.ble i 774) (cond (Nat.ble i 771) (some (771, 0, 2, 137, 85, 1)) (some (772, 0, 2, 140, 24, 2))) (cond (Nat.ble i 775) (some (775, 0, 2, 143, 84, 1)) (some (776, 0, 2, 97, 65, 2))))))
theorem cwk5 (i : Nat) : QS (cwb5 i) := (qs_c (qs_c (qs_c (qs_c (qs_c (qs_l sw649) (qs_l sw653)) (qs_c (qs_l sw655) (qs_l sw659))) (qs_c (qs_c (qs_l sw663) (qs_l sw675)) (qs_c (qs_l sw679) (qs_l sw687)))) (qs_c (qs_c (qs_c (qs_l sw691) (qs_l sw696)) (qs_c (qs_l sw704) (qs_l sw708))) (qs_c (qs_c (qs_l sw712) (qs_l sw713)) (qs_c (qs_l sw717) (qs_l sw726))))) (qs_c (qs_c (qs_c (qs_c (qs_l sw733) (qs_l sw737)) (qs_c (qs_l sw738) (qs_l sw742))) (qs_c (qs_c (qs_l sw745) (qs_l sw753)) (qs_c (qs_l sw757) (qs_l sw761)))) (qs_c (qs_c (qs_c (qs_l sw762) (qs_l sw768)) (qs_c (qs_l sw769) (qs_l sw770))) (qs_c (qs_c (qs_l sw771) (qs_l sw772)) (qs_c (qs_l sw775) (qs_l sw776))))))
def cwb6 (i : Nat) : Option CO := cond (Nat.ble i 864) (cond (Nat.ble i 827) (cond (Nat.ble i 801) (cond (Nat.ble i 791) (cond (Nat.ble i 787) (some (779, 0, 2, 80, 20, 3)) (some (788, 0, 0, 248, 17, 2))) (cond (Nat.ble i 796) (some (792, 1, 2, 57, 135, 2)) (some (797, 0, 0, 251, 28, 2)))) (cond (Nat.ble i 815) (cond (Nat.ble i 805) (some (802, 0, 0, 255, 29, 0)) (some (806, 0, 4, 20, 220, 1))) (cond (Nat.ble i 819) (some (816, 0, 0, 258, 117, 0)) (some (820, 0, 0, 261, 30, 1))))) (cond (Nat.ble i 841) (cond (Nat.ble i 836) (cond (Nat.ble i 831) (some (828, 0, 0, 264, 31, 1)) (some (832, 0, 4, 26, 30, 1))) (cond (Nat.ble i 840) (some (837, 0, 0, 268, 32, 1)) (some (841, 0, 4, 29, 31, 1)))) (cond (Nat.ble i 845) (cond (Nat.ble i 844) (some (842, 0, 4, 33, 33, 3)) (some (845, 1, 4, 37, 136, 2))) (cond (Nat.ble i 858) (some (846, 0, 4, 41, 219, 1)) (some (859, 0, 0, 271, 131, 2)))))) (cond (Nat.ble i 890) (cond (Nat.ble i 873) (cond (Nat.ble i 871) (cond (Nat.ble i 867) (some (865, 0, 0, 332, 89, 2)) (some (868, 1, 11, 3, 25, 0))) (cond (Nat.ble i 872) (some (872, 2, 11, 15, 8, 0)) (some (873, 2, 0, 329, 8, 0)))) (cond (Nat.ble i 885) (cond (Nat.ble i 879) (some (874, 2, 11, 9, 8, 1)) (some (880, 0, 0, 275, 132, 0))) (cond (Nat.ble i 888) (some (886, 0, 0, 285, 34, 1)) (some (889, 1, 5, 1, 25, 0))))) (cond (Nat.ble i 904) (cond (Nat.ble i 895) (cond (Nat.ble i 891) (some (891, 2, 5, 13, 2, 0)) (some (892, 2, 0, 297, 2, 0))) (cond (Nat.ble i 901) (some (896, 0, 0, 279, 133, 1)) (some (902, 0, 0, 289, 88, 1)))) (cond (Nat.ble i 907) (cond (Nat.ble i 906) (some (905, 1, 10, 1, 25, 0)) (some (907, 2, 10, 13, 7, 0))) (cond (Nat.ble i 920) (some (908, 2, 0, 300, 7, 0)) (some (921, 0, 0, 308, 128, 3))))))
theorem cwk6 (i : Nat) : QS (cwb6 i) := (qs_c (qs_c (qs_c (qs_c (qs_c (qs_l sw779) (qs_l sw788)) (qs_c (qs_l sw792) (qs_l sw797))) (qs_c (qs_c (qs_l sw802) (qs_l sw806)) (qs_c (qs_l sw816) (qs_l sw820)))) (qs_c (qs_c (qs_c (qs_l sw828) (qs_l sw832)) (qs_c (qs_l sw837) (qs_l sw841))) (qs_c (qs_c (qs_l sw842) (qs_l sw845)) (qs_c (qs_l sw846) (qs_l sw859))))) (qs_c (qs_c (qs_c (qs_c (qs_l sw865) (qs_l sw868)) (qs_c (qs_l sw872) (qs_l sw873))) (qs_c (qs_c (qs_l sw874) (qs_l sw880)) (qs_c (qs_l sw886) (qs_l sw889)))) (qs_c (qs_c (qs_c (qs_l sw891) (qs_l sw892)) (qs_c (qs_l sw896) (qs_l sw902))) (qs_c (qs_c (qs_l sw905) (qs_l sw907)) (qs_c (qs_l sw908) (qs_l sw921))))))
def cwb7 (i : Nat) : Option CO := cond (Nat.ble i 1071) (cond (Nat.ble i 1063) (cond (Nat.ble i 1056) (cond (Nat.ble i 943) (cond (Nat.ble i 934) (some (931, 0, 0, 319, 90, 0)) (some (935, 1, 11, 18, 137, 1))) (cond (Nat.ble i 1052) (some (944, 0, 0, 326, 91, 0)) (some (1053, 0, 12, 138, 148, 0)))) (cond (Nat.ble i 1061) (cond (Nat.ble i 1060) (some (1057, 0, 12, 145, 147, 0)) (some (1061, 2, 12, 1, 10, 0))) (cond (Nat.ble i 1062) (some (1062, 2, 12, 13, 10, 1)) (some (1063, 2, 12, 16, 10, 2))))) (cond (Nat.ble i 1067) (cond (Nat.ble i 1065) (cond (Nat.ble i 1064) (some (1064, 2, 12, 20, 10, 3)) (some (1065, 2, 12, 23, 10, 4))) (cond (Nat.ble i 1066) (some (1066, 2, 12, 26, 10, 5)) (some (1067, 2, 12, 29, 10, 6)))) (cond (Nat.ble i 1069) (cond (Nat.ble i 1068) (some (1068, 2, 12, 32, 10, 7)) (some (1069, 2, 12, 35, 10, 8))) (cond (Nat.ble i 1070) (some (1070, 2, 12, 38, 10, 9)) (some (1071, 2, 12, 41, 10, 10)))))) (cond (Nat.ble i 1079) (cond (Nat.ble i 1075) (cond (Nat.ble i 1073) (cond (Nat.ble i 1072) (some (1072, 2, 12, 45, 10, 11)) (some (1073, 2, 12, 48, 10, 12))) (cond (Nat.ble i 1074) (some (1074, 2, 12, 51, 10, 13)) (some (1075, 2, 12, 54, 10, 14)))) (cond (Nat.ble i 1077) (cond (Nat.ble i 1076) (some (1076, 2, 12, 57, 10, 15)) (some (1077, 2, 12, 60, 10, 16))) (cond (Nat.ble i 1078) (some (1078, 2, 12, 63, 10, 17)) (some (1079, 2, 12, 66, 10, 18))))) (cond (Nat.ble i 1083) (cond (Nat.ble i 1081) (cond (Nat.ble i 1080) (some (1080, 2, 12, 70, 10, 19)) (some (1081, 2, 12, 73, 10, 20))) (cond (Nat.ble i 1082) (some (1082, 2, 12, 76, 10, 21)) (some (1083, 2, 12, 79, 10, 22)))) (cond (Nat.ble i 1085) (cond (Nat.ble i 1084) (some (1084, 2, 12, 83, 10, 23)) (some (1085, 2, 12, 86, 10, 24))) (cond (Nat.ble i 1086) (some (1086, 2, 12, 89, 10, 25)) (some (1087, 2, 12, 92, 10, 26))))))
theorem cwk7 (i : Nat) : QS (cwb7 i) := (qs_c (qs_c (qs_c (qs_c (qs_c (qs_l sw931) (qs_l sw935)) (qs_c (qs_l sw944) (qs_l sw1053))) (qs_c (qs_c (qs_l sw1057) (qs_l sw1061)) (qs_c (qs_l sw1062) (qs_l sw1063)))) (qs_c (qs_c (qs_c (qs_l sw1064) (qs_l sw1065)) (qs_c (qs_l sw1066) (qs_l sw1067))) (qs_c (qs_c (qs_l sw1068) (qs_l sw1069)) (qs_c (qs_l sw1070) (qs_l sw1071))))) (qs_c (qs_c (qs_c (qs_c (qs_l sw1072) (qs_l sw1073)) (qs_c (qs_l sw1074) (qs_l sw1075))) (qs_c (qs_c (qs_l sw1076) (qs_l sw1077)) (qs_c (qs_l sw1078) (qs_l sw1079)))) (qs_c (qs_c (qs_c (qs_l sw1080) (qs_l sw1081)) (qs_c (qs_l sw1082) (qs_l sw1083))) (qs_c (qs_c (qs_l sw1084) (qs_l sw1085)) (qs_c (qs_l sw1086) (qs_l sw1087))))))
def cwb8 (i : Nat) : Option CO := cond (Nat.ble i 1200) (cond (Nat.ble i 1095) (cond (Nat.ble i 1091) (cond (Nat.ble i 1089) (cond (Nat.ble i 1088) (some (1088, 2, 12, 95, 10, 27)) (some (1089, 2, 12, 98, 10, 28))) (cond (Nat.ble i 1090) (some (1090, 2, 12, 101, 10, 29)) (some (1091, 2, 12, 104, 10, 30)))) (cond (Nat.ble i 1093) (cond (Nat.ble i 1092) (some (1092, 2, 12, 107, 10, 31)) (some (1093, 2, 12, 110, 10, 32))) (cond (Nat.ble i 1094) (some (1094, 2, 12, 113, 10, 33)) (some (1095, 2, 12, 116, 10, 34))))) (cond (Nat.ble i 1099) (cond (Nat.ble i 1097) (cond (Nat.ble i 1096) (some (1096, 2, 12, 119, 10, 35)) (some (1097, 2, 12, 122, 10, 36))) (cond (Nat.ble i 1098) (some (1098, 2, 12, 125, 10, 37)) (some (1099, 2, 12, 128, 10, 38)))) (cond (Nat.ble i 1188) (cond (Nat.ble i 1100) (some (1100, 2, 12, 131, 10, 39)) (some (1101, 2, 12, 135, 10, 40))) (cond (Nat.ble i 1192) (some (1189, 0, 12, 141, 140, 3)) (some (1193, 0, 12, 148, 149, 0)))))) (cond (Nat.ble i 1252) (cond (Nat.ble i 1216) (cond (Nat.ble i 1208) (cond (Nat.ble i 1204) (some (1201, 0, 12, 151, 142, 1)) (some (1205, 0, 12, 155, 144, 1))) (cond (Nat.ble i 1212) (some (1209, 0, 12, 158, 143, 1)) (some (1213, 0, 12, 161, 145, 1)))) (cond (Nat.ble i 1240) (cond (Nat.ble i 1236) (some (1217, 0, 12, 164, 146, 1)) (some (1237, 0, 12, 206, 169, 0))) (cond (Nat.ble i 1248) (some (1241, 0, 12, 203, 168, 0)) (some (1249, 0, 12, 210, 167, 0))))) (cond (Nat.ble i 1268) (cond (Nat.ble i 1260) (cond (Nat.ble i 1256) (some (1253, 0, 12, 181, 159, 2)) (some (1257, 0, 12, 167, 156, 1))) (cond (Nat.ble i 1264) (some (1261, 0, 12, 170, 155, 1)) (some (1265, 0, 12, 174, 157, 1)))) (cond (Nat.ble i 1276) (cond (Nat.ble i 1272) (some (1269, 0, 12, 177, 158, 0)) (some (1273, 0, 12, 213, 166, 2))) (cond (Nat.ble i 1280) (some (1277, 0, 12, 189, 162, 1)) (some (1281, 0, 12, 193, 164, 1))))))
theorem cwk8 (i : Nat) : QS (cwb8 i) := (qs_c (qs_c (qs_c (qs_c (qs_c (qs_l sw1088) (qs_l sw1089)) (qs_c (qs_l sw1090) (qs_l sw1091))) (qs_c (qs_c (qs_l sw1092) (qs_l sw1093)) (qs_c (qs_l sw1094) (qs_l sw1095)))) (qs_c (qs_c (qs_c (qs_l sw1096) (qs_l sw1097)) (qs_c (qs_l sw1098) (qs_l sw1099))) (qs_c (qs_c (qs_l sw1100) (qs_l sw1101)) (qs_c (qs_l sw1189) (qs_l sw1193))))) (qs_c (qs_c (qs_c (qs_c (qs_l sw1201) (qs_l sw1205)) (qs_c (qs_l sw1209) (qs_l sw1213))) (qs_c (qs_c (qs_l sw1217) (qs_l sw1237)) (qs_c (qs_l sw1241) (qs_l sw1249)))) (qs_c (qs_c (qs_c (qs_l sw1253) (qs_l sw1257)) (qs_c (qs_l sw1261) (qs_l sw1265))) (qs_c (qs_c (qs_l sw1269) (qs_l sw1273)) (qs_c (qs_l sw1277) (qs_l sw1281))))))
def cwb9 (i : Nat) : Option CO := cond (Nat.ble i 1360) (cond (Nat.ble i 1320) (cond (Nat.ble i 1304) (cond (Nat.ble i 1288) (some (1285, 0, 12, 196, 163, 3)) (cond (Nat.ble i 1292) (some (1289, 0, 12, 185, 161, 2)) (some (1293, 0, 12, 200, 165, 2)))) (cond (Nat.ble i 1312) (cond (Nat.ble i 1308) (some (1305, 0, 12, 238, 180, 1)) (some (1309, 0, 12, 235, 177, 2))) (cond (Nat.ble i 1316) (some (1313, 0, 12, 219, 175, 3)) (some (1317, 0, 12, 216, 173, 1))))) (cond (Nat.ble i 1332) (cond (Nat.ble i 1324) (some (1321, 0, 12, 223, 176, 2)) (cond (Nat.ble i 1328) (some (1325, 0, 12, 226, 160, 2)) (some (1329, 0, 12, 229, 174, 1)))) (cond (Nat.ble i 1344) (cond (Nat.ble i 1340) (some (1333, 0, 12, 232, 178, 0)) (some (1341, 0, 12, 244, 182, 0))) (cond (Nat.ble i 1348) (some (1345, 0, 12, 247, 183, 2)) (some (1349, 0, 12, 241, 179, 2)))))) (cond (Nat.ble i 1412) (cond (Nat.ble i 1396) (cond (Nat.ble i 1364) (some (1361, 0, 12, 250, 186, 1)) (cond (Nat.ble i 1380) (some (1365, 0, 12, 253, 187, 1)) (some (1381, 0, 12, 256, 191, 1)))) (cond (Nat.ble i 1404) (cond (Nat.ble i 1400) (some (1397, 0, 12, 269, 200, 1)) (some (1401, 0, 12, 263, 199, 1))) (cond (Nat.ble i 1408) (some (1405, 0, 12, 266, 198, 1)) (some (1409, 0, 12, 272, 196, 4))))) (cond (Nat.ble i 1444) (cond (Nat.ble i 1432) (cond (Nat.ble i 1416) (some (1413, 0, 12, 259, 195, 4)) (some (1417, 0, 12, 275, 197, 2))) (cond (Nat.ble i 1436) (some (1433, 0, 12, 278, 204, 0)) (some (1437, 0, 12, 281, 205, 1)))) (cond (Nat.ble i 1460) (cond (Nat.ble i 1456) (some (1445, 0, 12, 284, 207, 0)) (some (1457, 0, 12, 287, 210, 1))) (cond (Nat.ble i 1480) (some (1461, 0, 12, 290, 211, 1)) (some (1481, 0, 12, 293, 216, 1))))))
theorem cwk9 (i : Nat) : QS (cwb9 i) := (qs_c (qs_c (qs_c (qs_c (qs_l sw1285) (qs_c (qs_l sw1289) (qs_l sw1293))) (qs_c (qs_c (qs_l sw1305) (qs_l sw1309)) (qs_c (qs_l sw1313) (qs_l sw1317)))) (qs_c (qs_c (qs_l sw1321) (qs_c (qs_l sw1325) (qs_l sw1329))) (qs_c (qs_c (qs_l sw1333) (qs_l sw1341)) (qs_c (qs_l sw1345) (qs_l sw1349))))) (qs_c (qs_c (qs_c (qs_l sw1361) (qs_c (qs_l sw1365) (qs_l sw1381))) (qs_c (qs_c (qs_l sw1397) (qs_l sw1401)) (qs_c (qs_l sw1405) (qs_l sw1409)))) (qs_c (qs_c (qs_c (qs_l sw1413) (qs_l sw1417)) (qs_c (qs_l sw1433) (qs_l sw1437))) (qs_c (qs_c (qs_l sw1445) (qs_l sw1457)) (qs_c (qs_l sw1461) (qs_l sw1481))))))
def cwt (i : Nat) : Option CO := cond (Nat.ble i 648) (cond (Nat.ble i 298) (cond (Nat.ble i 179) (cwb0 i) (cwb1 i)) (cond (Nat.ble i 439) (cwb2 i) (cond (Nat.ble i 548) (cwb3 i) (cwb4 i)))) (cond (Nat.ble i 930) (cond (Nat.ble i 778) (cwb5 i) (cwb6 i)) (cond (Nat.ble i 1087) (cwb7 i) (cond (Nat.ble i 1284) (cwb8 i) (cwb9 i))))
theorem cwt_ok (i : Nat) : QS (cwt i) := (qs_c (qs_c (qs_c (cwk0 i) (cwk1 i)) (qs_c (cwk2 i) (qs_c (cwk3 i) (cwk4 i)))) (qs_c (qs_c (cwk5 i) (cwk6 i)) (qs_c (cwk7 i) (qs_c (cwk8 i) (cwk9 i)))))
def cwe (i t c k a b : Nat) : Bool := match cwt i with
  | some q => Nat.beq q.1 i && (Nat.beq q.2.1 t && (Nat.beq q.2.2.1 c && (Nat.beq q.2.2.2.1 k && (Nat.beq q.2.2.2.2.1 a && Nat.beq q.2.2.2.2.2 b))))
  | none => false
theorem cwe_ok {i t c k a b : Nat} (h : cwe i t c k a b = true) : SEM (i, t, c, k, a, b) := by
  unfold cwe at h
  split at h
  · rename_i q hq
    obtain ⟨i', t', c', k', a', b'⟩ := q
    simp only [Bool.and_eq_true] at h
    obtain ⟨h1, h2, h3, h4, h5, h6⟩ := h
    have e1 := Nat.eq_of_beq_eq_true h1
    have e2 := Nat.eq_of_beq_eq_true h2
    have e3 := Nat.eq_of_beq_eq_true h3
    have e4 := Nat.eq_of_beq_eq_true h4
    have e5 := Nat.eq_of_beq_eq_true h5
    have e6 := Nat.eq_of_beq_eq_true h6
    subst e1 e2 e3 e4 e5 e6
    exact cwt_ok _ _ hq
  · cases h
def rC (c : Nat) (M : pm_M) (k a b n inv : Nat) : Bool := match j_MT a with
  | none => false
  | some Y => match b with
    | 0 => Nat.beq inv 0 && (Nat.beq (pm_kd Y) 0 && cwe (pm_hn M k) 0 c k a n)
    | 3 => Nat.beq inv 0 && (Nat.beq (pm_kd Y) 0 && cwe (pm_hn M k) 1 c k a n)
    | 1 => Nat.beq inv 1 && (Nat.beq (pm_kd Y) 1 && cwe (pm_hn M k) 0 c k a n)
    | 4 => Nat.beq inv 1 && (Nat.beq (pm_kd Y) 1 && cwe (pm_hn M k) 1 c k a n)
    | 2 => Nat.beq inv 2 && (Nat.beq (pm_kd Y) 2 && cwe (pm_hn M k) 0 c k a n)
    | 5 => Nat.beq inv 2 && (Nat.beq (pm_kd Y) 2 && cwe (pm_hn M k) 1 c k a n)
    | _ => false
theorem rC_ok {c : Nat} {M : pm_M} {k a b n inv : Nat} (hc : (pm_nm M).cls = jcn c) (h : rC c M k a b n inv = true) : pm_resC j_MT j_mem j_memN j_HO M k a b n inv = true := by
  unfold rC at h
  unfold pm_resC
  split at h
  · cases h
  · rename_i Y hY
    rw [hY]
    dsimp only
    split at h
    all_goals first
      | (have h3 := cwe_ok (dn2 (dn2 h))
         have h4 := h3 Y hY
         dsimp only at h4
         rw [decide_eq_true h4.2, hc]
         show (_ && (_ && _)) = true
         rw [dn1 h, dn1 (dn2 h), h4.1]
         rfl)
      | cases h
def r2 (c : Nat) (M : pm_M) (pc : Nat) (q : pm_I) : Bool := match q.1 with
  | .getfield k => Nat.beq q.2.1 3 && (match j_cl[q.2.2.1]? with
    | some r => Nat.ble (q.2.2.2.1 + 1) r.2.2 && (cwe (pm_hn M k) 2 c k q.2.2.1 q.2.2.2.1 || cwe (pm_hn M k) 3 c k q.2.2.1 q.2.2.2.1)
    | none => false)
  | .putfield k => (match j_cl[q.2.2.1]? with
    | some r => (match (r.2.1 q.2.2.2.1).2.2.2 with
      | false => Nat.beq q.2.1 3 && (Nat.ble (q.2.2.2.1 + 1) r.2.2 && (cwe (pm_hn M k) 2 c k q.2.2.1 q.2.2.2.1 || cwe (pm_hn M k) 3 c k q.2.2.1 q.2.2.2.1))
      | true => pm_res j_MT j_mem j_memN j_HO j_cl j_SN j_HN M pc q)
    | none => false)
  | .invokevirtual k => Nat.beq q.2.1 3 && (match q.2.2.2.2 with
    | .retAddr n => rC c M k q.2.2.1 q.2.2.2.1 n 0
    | _ => false)
  | .invokestatic k => Nat.beq q.2.1 3 && (match q.2.2.2.2 with
    | .retAddr n => rC c M k q.2.2.1 q.2.2.2.1 n 1
    | _ => false)
  | .invokespecial k => (match q.2.2.2.1 with
    | 6 => pm_res j_MT j_mem j_memN j_HO j_cl j_SN j_HN M pc q
    | _ => Nat.beq q.2.1 3 && (match q.2.2.2.2 with
      | .retAddr n => rC c M k q.2.2.1 q.2.2.2.1 n 2
      | _ => false))
  | _ => pm_res j_MT j_mem j_memN j_HO j_cl j_SN j_HN M pc q
theorem r2_f {c : Nat} {M : pm_M} {k a b : Nat} {r : vw_C} (hc : (pm_nm M).cls = jcn c) (hr : j_cl[a]? = some r) (h : (cwe (pm_hn M k) 2 c k a b || cwe (pm_hn M k) 3 c k a b) = true) : (j_mem (pm_hn M k) (Cond.fieldLink (pm_nm M).cls k (r.2.1 b).1 (r.2.1 b).2.1 (r.2.1 b).2.2.1) || j_memN (pm_hn M k) (Cond.fieldLinkNest (pm_nm M).cls k (r.2.1 b).1 (r.2.1 b).2.1 (r.2.1 b).2.2.1 j_HO)) = true := by
  rw [hc]
  rcases Bool.or_eq_true_iff.mp h with h | h
  · have h3 := cwe_ok h r hr
    exact Bool.or_eq_true_iff.mpr (Or.inl h3)
  · have h3 := cwe_ok h r hr
    exact Bool.or_eq_true_iff.mpr (Or.inr h3)
theorem r2_ok {c : Nat} {M : pm_M} {pc : Nat} {q : pm_I} (hc : (pm_nm M).cls = jcn c) (h : r2 c M pc q = true) : pm_res j_MT j_mem j_memN j_HO j_cl j_SN j_HN M pc q = true := by
  obtain ⟨i, len, a, b, v⟩ := q
  unfold r2 at h
  dsimp only at h
  split at h
  · rename_i k
    have h2 := dn2 h
    split at h2
    · rename_i r hr
      obtain ⟨C, T, N⟩ := r
      simp only [pm_res, hr]
      rw [dn1 h, dn1 h2, r2_f hc hr (dn2 h2)]
      rfl
    · cases h2
  · rename_i k
    split at h
    · rename_i r hr
      split at h
      · rename_i hf
        have h2 := dn2 h
        obtain ⟨C, T, N⟩ := r
        dsimp only at hf
        simp only [pm_res, hr, hf]
        rw [dn1 h, dn1 h2, r2_f hc hr (dn2 h2)]
        rfl
      · exact h
    · cases h
  · rename_i k
    have h2 := dn2 h
    split at h2
    · simp only [pm_res]
      rw [dn1 h, rC_ok hc h2]
      rfl
    · cases h2
  · rename_i k
    have h2 := dn2 h
    split at h2
    · simp only [pm_res]
      rw [dn1 h, rC_ok hc h2]
      rfl
    · cases h2
  · rename_i k
    split at h
    · exact h
    · rename_i hb
      have h2 := dn2 h
      split at h2
      · simp only [pm_res]
        rw [dn1 h, rC_ok hc h2]
        rfl
      · cases h2
  · exact h
theorem pm_wt_f2 {M : pm_M} (c : Nat) (hc : (pm_nm M).cls = jcn c) (h : (Nat.ble (pm_bd M) (pm_cd M).data.toList.length && fck (r2 c M) M (pm_cd M).data.toList 0) = true) : pm_wt j_MT j_mem j_memN j_HO j_cl j_SN j_HN M := by
  intro pc q hq
  obtain ⟨h1, h2⟩ := pm_wt_fc h pc q hq
  exact ⟨h1, r2_ok hc h2⟩
