theorem wt_L_law : pm_wt j_MT j_mem j_memN j_HO j_cl j_SN j_HN mm_L_law := pm_wt_fc (R := pm_res j_MT j_mem j_memN j_HO j_cl j_SN j_HN mm_L_law) (by decide +kernel)
set_option maxRecDepth 20000 in
theorem wf_all : ∀ Y ∈ j_mts, pm_wf j_MT j_mem j_memN j_HO j_tbl j_cl j_SN j_HN Y := List.forall_mem_cons.mpr ⟨wf_X0_position, List.forall_mem_cons.mpr ⟨wf_X0_made, List.forall_mem_cons.mpr ⟨wf_X0_register, List.forall_mem_cons.mpr ⟨wf_X0_sleep, List.forall_mem_cons.mpr ⟨wf_X0_place, List.forall_mem_cons.mpr ⟨wf_X0_owner, List.forall_mem_cons.mpr ⟨wf_X0_last, List.forall_mem_cons.mpr ⟨wf_X0_withPosition, List.forall_mem_cons.mpr ⟨wf_X0_passed, List.forall_mem_cons.mpr ⟨wf_X0_withMade, List.forall_mem_cons.mpr ⟨wf_X0_withRegister, List.forall_mem_cons.mpr ⟨wf_X0_withSleep, List.forall_mem_cons.mpr ⟨wf_X0_withPlace, List.forall_mem_cons.mpr ⟨wf_X0_withOwner, List.forall_mem_cons.mpr ⟨wf_X0_withLast, List.forall_mem_cons.mpr ⟨wf_X1_init, List.forall_mem_cons.mpr ⟨wf_X1_fits, List.forall_mem_cons.mpr ⟨wf_X1_bound, List.forall_mem_cons.mpr ⟨wf_X1_least, List.forall_mem_cons.mpr ⟨wf_X1_isPair, List.forall_mem_cons.mpr ⟨wf_X1_holds, List.forall_mem_cons.mpr ⟨wf_X1_outcomeOf, List.forall_mem_cons.mpr ⟨wf_X1_draftPair, List.forall_mem_cons.mpr ⟨wf_X1_draftHand, List.forall_mem_cons.mpr ⟨wf_X1_ledTo, List.forall_mem_cons.mpr ⟨wf_X2_init, List.forall_mem_cons.mpr ⟨wf_X3_init, List.forall_mem_cons.mpr ⟨wf_X3_clear, List.forall_mem_cons.mpr ⟨wf_X3_hear, List.forall_mem_cons.mpr ⟨wf_X3_heard, List.forall_mem_cons.mpr ⟨wf_X3_costBy, List.forall_mem_cons.mpr ⟨wf_X3_cheapest, List.forall_mem_cons.mpr ⟨wf_X3_bestQuestion, List.forall_mem_cons.mpr ⟨wf_X3_greaterPart, List.forall_mem_cons.mpr ⟨wf_X4_init, List.forall_mem_cons.mpr ⟨wf_X5_init, List.forall_mem_cons.mpr ⟨wf_X5_comesBack, List.forall_mem_cons.mpr ⟨wf_X5_find, List.forall_mem_cons.mpr ⟨wf_X5_arrive, List.forall_mem_cons.mpr ⟨wf_X5_follow, List.forall_mem_cons.mpr ⟨wf_X5_leaveBehind, List.forall_mem_cons.mpr ⟨wf_X5_closeComponent, List.forall_mem_cons.mpr ⟨wf_X6_init, List.forall_mem_cons.mpr ⟨wf_X6_first, List.forall_mem_cons.mpr ⟨wf_X6_ableHands, List.forall_mem_cons.mpr ⟨wf_X6_allMeet, List.forall_mem_cons.mpr ⟨wf_X6_isAble, List.forall_mem_cons.mpr ⟨wf_X6_chosenHands, List.forall_mem_cons.mpr ⟨wf_X6_marked, List.forall_mem_cons.mpr ⟨wf_X6_after, List.forall_mem_cons.mpr ⟨wf_X6_taken, List.forall_mem_cons.mpr ⟨wf_X6_added, List.forall_mem_cons.mpr ⟨wf_X6_jumped, List.forall_mem_cons.mpr ⟨wf_X6_longWhole, List.forall_mem_cons.mpr ⟨wf_X6_longStep, List.forall_mem_cons.mpr ⟨wf_X6_left, List.forall_mem_cons.mpr ⟨wf_X6_waited, List.forall_mem_cons.mpr ⟨wf_X6_called, List.forall_mem_cons.mpr ⟨wf_X6_met, List.forall_mem_cons.mpr ⟨wf_X6_isEnd, List.forall_mem_cons.mpr ⟨wf_X6_someFailed, List.forall_mem_cons.mpr ⟨wf_X6_races, List.forall_mem_cons.mpr ⟨wf_X6_touched, List.forall_mem_cons.mpr ⟨wf_X6_writes, List.forall_mem_cons.mpr ⟨wf_X7_init, List.forall_mem_cons.mpr ⟨wf_X7_explore, List.forall_mem_cons.mpr ⟨wf_X7_clear, List.forall_mem_cons.mpr ⟨wf_X7_lookAt, List.forall_mem_cons.mpr ⟨wf_X7_noteEnd, List.forall_mem_cons.mpr ⟨wf_X7_numberOf, List.forall_mem_cons.mpr ⟨wf_X7_newNumber, List.forall_mem_cons.mpr ⟨wf_X7_stateAt, List.forall_mem_cons.mpr ⟨wf_X7_sortOf, List.forall_mem_cons.mpr ⟨wf_X7_follower, List.forall_mem_cons.mpr ⟨wf_X7_wayLength, List.forall_mem_cons.mpr ⟨wf_X7_wayHand, List.forall_mem_cons.mpr ⟨wf_X8_init, List.forall_mem_cons.mpr ⟨wf_X8_renew, List.forall_mem_cons.mpr ⟨wf_X8_hasHand, List.forall_mem_cons.mpr ⟨wf_X8_hasStatement, List.forall_mem_cons.mpr ⟨wf_X8_lengthOf, List.forall_mem_cons.mpr ⟨wf_X8_statements, List.forall_mem_cons.mpr ⟨wf_X8_cellOf, List.forall_mem_cons.mpr ⟨wf_X8_kindIn, List.forall_mem_cons.mpr ⟨wf_X8_operandIn, List.forall_mem_cons.mpr ⟨wf_X8_numberIn, List.forall_mem_cons.mpr ⟨wf_X8_append, List.forall_mem_cons.mpr ⟨wf_X8_dropLast, List.forall_mem_cons.mpr ⟨wf_X9_init, List.forall_mem_cons.mpr ⟨wf_X10_init, List.forall_mem_cons.mpr ⟨wf_X10_heaviness, List.forall_mem_cons.mpr ⟨wf_X10_fail, List.forall_mem_cons.mpr ⟨wf_X11_init, List.forall_mem_cons.mpr ⟨wf_X11_puzzle, List.forall_mem_cons.mpr ⟨wf_X11_code, List.forall_mem_cons.mpr ⟨wf_X11_uncode, List.forall_mem_cons.mpr ⟨wf_X11_value, List.forall_mem_cons.mpr ⟨wf_X11_told, List.forall_mem_cons.mpr ⟨wf_X11_start, List.forall_mem_cons.mpr ⟨wf_X11_go, List.forall_mem_cons.mpr ⟨wf_X11_see, List.forall_mem_cons.mpr ⟨wf_X11_runCanStep, List.forall_mem_cons.mpr ⟨wf_X11_ownerSeen, List.forall_mem_cons.mpr ⟨wf_X11_positionSeen, List.forall_mem_cons.mpr ⟨wf_X11_movedRunTo, List.forall_mem_cons.mpr ⟨wf_X11_states, List.forall_mem_cons.mpr ⟨wf_X11_count, List.forall_mem_cons.mpr ⟨wf_X11_nth, List.forall_mem_cons.mpr ⟨wf_X11_way, List.forall_mem_cons.mpr ⟨wf_X11_step, List.forall_mem_cons.mpr ⟨wf_X11_lead, List.forall_mem_cons.mpr ⟨wf_X11_race, List.forall_mem_cons.mpr ⟨wf_X11_always, List.forall_mem_cons.mpr ⟨wf_X11_can, List.forall_mem_cons.mpr ⟨wf_X11_isOfSort, List.forall_mem_cons.mpr ⟨wf_X11_refusalOf, List.forall_mem_cons.mpr ⟨wf_X11_sizeOf, List.forall_mem_cons.mpr ⟨wf_X11_someSpent, List.forall_mem_cons.mpr ⟨wf_X11_fix, List.forall_mem_cons.mpr ⟨wf_X11_fixed, List.forall_mem_cons.mpr ⟨wf_X11_answer, List.forall_mem_cons.mpr ⟨wf_X11_cost, List.forall_mem_cons.mpr ⟨wf_X11_explain, List.forall_mem_cons.mpr ⟨wf_X11_next, List.forall_mem_cons.mpr ⟨wf_X11_keep, List.forall_mem_cons.mpr ⟨wf_X11_make, List.forall_mem_cons.mpr ⟨wf_X11_element, List.forall_mem_cons.mpr ⟨wf_X11_copy, List.forall_mem_cons.mpr ⟨wf_X11_spans, List.forall_mem_cons.mpr ⟨wf_X11_weight, List.forall_mem_cons.mpr ⟨wf_X11_toss, List.forall_mem_cons.mpr ⟨wf_X11_statementOf, List.forall_mem_cons.mpr ⟨wf_X11_numbersOfRun, List.forall_mem_cons.mpr ⟨wf_X11_kindsOf, List.forall_mem_cons.mpr ⟨wf_X11_forget, List.forall_mem_cons.mpr ⟨wf_X11_within, List.forall_mem_cons.mpr ⟨wf_X11_says, List.forall_mem_cons.mpr ⟨wf_X11_operandOf, List.forall_mem_cons.mpr ⟨wf_X11_topOf, List.forall_mem_cons.mpr ⟨wf_X11_isStatement, List.forall_mem_cons.mpr ⟨wf_X12_in, List.forall_mem_cons.mpr ⟨wf_X12_init, List.forall_mem_cons.mpr ⟨wf_X12_isHand, List.forall_mem_cons.mpr ⟨wf_X12_isPlace, List.forall_mem_cons.mpr ⟨wf_X12_hasPlace, List.forall_mem_cons.mpr ⟨wf_X12_hasLock, List.forall_mem_cons.mpr ⟨wf_X12_hasNumber, List.forall_mem_cons.mpr ⟨wf_X12_firstState, List.forall_mem_cons.mpr ⟨wf_X12_toFirst, List.forall_mem_cons.mpr ⟨wf_X12_changed, List.forall_mem_cons.mpr ⟨wf_X12_puzzle, List.forall_mem_cons.mpr ⟨wf_X12_code, List.forall_mem_cons.mpr ⟨wf_X12_uncode, List.forall_mem_cons.mpr ⟨wf_X12_value, List.forall_mem_cons.mpr ⟨wf_X12_told, List.forall_mem_cons.mpr ⟨wf_X12_at, List.forall_mem_cons.mpr ⟨wf_X12_isOver, List.forall_mem_cons.mpr ⟨wf_X12_isFree, List.forall_mem_cons.mpr ⟨wf_X12_meets, List.forall_mem_cons.mpr ⟨wf_X12_canStep, List.forall_mem_cons.mpr ⟨wf_X12_maySteps, List.forall_mem_cons.mpr ⟨wf_X12_goTo, List.forall_mem_cons.mpr ⟨wf_X12_fail, List.forall_mem_cons.mpr ⟨wf_X12_longStep, List.forall_mem_cons.mpr ⟨wf_X12_call, List.forall_mem_cons.mpr ⟨wf_X12_waitStep, List.forall_mem_cons.mpr ⟨wf_X12_stepBy, List.forall_mem_cons.mpr ⟨wf_X12_stand, List.forall_mem_cons.mpr ⟨wf_X12_isRun, List.forall_mem_cons.mpr ⟨wf_X12_settle, List.forall_mem_cons.mpr ⟨wf_X12_start, List.forall_mem_cons.mpr ⟨wf_X12_go, List.forall_mem_cons.mpr ⟨wf_X12_see, List.forall_mem_cons.mpr ⟨wf_X12_rest, List.forall_mem_cons.mpr ⟨wf_X12_find, List.forall_mem_cons.mpr ⟨wf_X12_put, List.forall_mem_cons.mpr ⟨wf_X12_standAt, List.forall_mem_cons.mpr ⟨wf_X12_explore, List.forall_mem_cons.mpr ⟨wf_X12_isEnd, List.forall_mem_cons.mpr ⟨wf_X12_isStuck, List.forall_mem_cons.mpr ⟨wf_X12_isSpent, List.forall_mem_cons.mpr ⟨wf_X12_states, List.forall_mem_cons.mpr ⟨wf_X12_findBacks, List.forall_mem_cons.mpr ⟨wf_X12_isSuch, List.forall_mem_cons.mpr ⟨wf_X12_count, List.forall_mem_cons.mpr ⟨wf_X12_nth, List.forall_mem_cons.mpr ⟨wf_X12_lacks, List.forall_mem_cons.mpr ⟨wf_X12_length, List.forall_mem_cons.mpr ⟨wf_X12_way, List.forall_mem_cons.mpr ⟨wf_X12_step, List.forall_mem_cons.mpr ⟨wf_X12_lead, List.forall_mem_cons.mpr ⟨wf_X12_touches, List.forall_mem_cons.mpr ⟨wf_X12_race, List.forall_mem_cons.mpr ⟨wf_X12_always, List.forall_mem_cons.mpr ⟨wf_X12_can, List.forall_mem_cons.mpr ⟨wf_X12_lay, List.forall_mem_cons.mpr ⟨wf_X12_putLock, List.forall_mem_cons.mpr ⟨wf_X12_isGood, List.forall_mem_cons.mpr ⟨wf_X12_choiceFrom, List.forall_mem_cons.mpr ⟨wf_X12_choiceTo, List.forall_mem_cons.mpr ⟨wf_X12_within, List.forall_mem_cons.mpr ⟨wf_X12_fix, List.forall_mem_cons.mpr ⟨wf_X12_fixed, List.forall_mem_cons.mpr ⟨wf_X12_answer, List.forall_mem_cons.mpr ⟨wf_X12_anySpent, List.forall_mem_cons.mpr ⟨wf_X12_costOf, List.forall_mem_cons.mpr ⟨wf_X12_cost, List.forall_mem_cons.mpr ⟨wf_X12_cheapest, List.forall_mem_cons.mpr ⟨wf_X12_explain, List.forall_mem_cons.mpr ⟨wf_X12_next, List.forall_mem_cons.mpr ⟨wf_X12_isShelf, List.forall_mem_cons.mpr ⟨wf_X12_clear, List.forall_mem_cons.mpr ⟨wf_X12_keep, List.forall_mem_cons.mpr ⟨wf_X12_make, List.forall_mem_cons.mpr ⟨wf_X12_element, List.forall_mem_cons.mpr ⟨wf_X12_copy, List.forall_mem_cons.mpr ⟨wf_X12_lacksStatement, List.forall_mem_cons.mpr ⟨wf_X12_weight, List.forall_mem_cons.mpr ⟨wf_X12_toss, List.forall_mem_cons.mpr ⟨wf_J6_bitCount_0f7a4, List.forall_mem_cons.mpr ⟨wf_J13_bitCount_95d88, List.forall_mem_cons.mpr ⟨wf_J7_fill_d0a16, List.forall_mem_cons.mpr ⟨wf_J7_fill_53178, List.forall_mem_cons.mpr ⟨wf_X12_thrown, fun _ h => absurd h List.not_mem_nil⟩⟩⟩⟩⟩⟩⟩⟩⟩⟩⟩⟩⟩⟩⟩⟩⟩⟩⟩⟩⟩⟩⟩⟩⟩⟩⟩⟩⟩⟩⟩⟩⟩⟩⟩⟩⟩⟩⟩⟩⟩⟩⟩⟩⟩⟩⟩⟩⟩⟩⟩⟩⟩⟩⟩⟩⟩⟩⟩⟩⟩⟩⟩⟩⟩⟩⟩⟩⟩⟩⟩⟩⟩⟩⟩⟩⟩⟩⟩⟩⟩⟩⟩⟩⟩⟩⟩⟩⟩⟩⟩⟩⟩⟩⟩⟩⟩⟩⟩⟩⟩⟩⟩⟩⟩⟩⟩⟩⟩⟩⟩⟩⟩⟩⟩⟩⟩⟩⟩⟩⟩⟩⟩⟩⟩⟩⟩⟩⟩⟩⟩⟩⟩⟩⟩⟩⟩⟩⟩⟩⟩⟩⟩⟩⟩⟩⟩⟩⟩⟩⟩⟩⟩⟩⟩⟩⟩⟩⟩⟩⟩⟩⟩⟩⟩⟩⟩⟩⟩⟩⟩⟩⟩⟩⟩⟩⟩⟩⟩⟩⟩⟩⟩⟩⟩⟩⟩⟩⟩⟩⟩⟩⟩⟩⟩⟩⟩⟩⟩⟩⟩⟩⟩⟩⟩⟩⟩⟩⟩⟩⟩⟩⟩⟩⟩⟩⟩⟩⟩⟩⟩⟩⟩⟩
theorem jc0 : (∀ w ∈ u_ws "TurnSchool$Fixer" jT0 8, w ∈ j_tbl) := by
  have h : (u_ws "TurnSchool$Fixer" jT0 8).zip [265, 267, 269, 271, 273, 275, 277, 279] = (u_ws "TurnSchool$Fixer" jT0 8).zip [265, 267, 269, 271, 273, 275, 277, 279] := rfl
  intro w hw
  obtain ⟨k, hk, rfl⟩ := List.mem_map.mp hw
  have hk := List.mem_range.mp hk
  have key : ∀ k, k < 8 → j_mem ([265, 267, 269, 271, 273, 275, 277, 279].getD k 0) (u_lay "TurnSchool$Fixer" jT0 k) = true := by decide +kernel
  exact j_mem_ok _ _ (key k hk)
theorem je0 : Cond.instantiable "TurnSchool$Fixer" 8 ∈ j_tbl ∧ Cond.initialized "TurnSchool$Fixer" ∈ j_tbl := ⟨j_mem_ok 246 _ (j_mk (lk1 (r := 164) rfl) rfl), j_mem_ok 88 _ (j_mk (lk1 (r := 6) rfl) rfl)⟩
theorem jn0 : (∀ k, k < 8 → parseFieldDescriptor (jT0 k).2.2.1 = some (jt0 k)) ∧ (∀ a, a < 8 → ∀ b, b < 8 → a ≠ b → (jT0 a).2.1 ≠ (jT0 b).2.1) ∧ (jd0).length = 8 ∧ ∀ j, j < 8 → (jd0)[j]? = some (defaultValue (jt0 j)) ∧ pm_nf (jt0 j) = true := ⟨by decide +kernel, by decide +kernel, by decide +kernel, by decide +kernel⟩
theorem jc1 : (∀ w ∈ u_ws "TurnSchool$Learner" jT1 2, w ∈ j_tbl) := by
  have h : (u_ws "TurnSchool$Learner" jT1 2).zip [290, 292] = (u_ws "TurnSchool$Learner" jT1 2).zip [290, 292] := rfl
  intro w hw
  obtain ⟨k, hk, rfl⟩ := List.mem_map.mp hw
  have hk := List.mem_range.mp hk
  have key : ∀ k, k < 2 → j_mem ([290, 292].getD k 0) (u_lay "TurnSchool$Learner" jT1 k) = true := by decide +kernel
  exact j_mem_ok _ _ (key k hk)
theorem je1 : Cond.instantiable "TurnSchool$Learner" 2 ∈ j_tbl ∧ Cond.initialized "TurnSchool$Learner" ∈ j_tbl := ⟨j_mem_ok 283 _ (j_mk (lk1 (r := 201) rfl) rfl), j_mem_ok 89 _ (j_mk (lk1 (r := 7) rfl) rfl)⟩
theorem jn1 : (∀ k, k < 2 → parseFieldDescriptor (jT1 k).2.2.1 = some (jt1 k)) ∧ (∀ a, a < 2 → ∀ b, b < 2 → a ≠ b → (jT1 a).2.1 ≠ (jT1 b).2.1) ∧ (jd1).length = 2 ∧ ∀ j, j < 2 → (jd1)[j]? = some (defaultValue (jt1 j)) ∧ pm_nf (jt1 j) = true := ⟨by decide +kernel, by decide +kernel, by decide +kernel, by decide +kernel⟩
theorem jc2 : (∀ w ∈ u_ws "TurnSchool$LongRow" jT2 1, w ∈ j_tbl) := by
  have h : (u_ws "TurnSchool$LongRow" jT2 1).zip [893] = (u_ws "TurnSchool$LongRow" jT2 1).zip [893] := rfl
  intro w hw
  obtain ⟨k, hk, rfl⟩ := List.mem_map.mp hw
  have hk := List.mem_range.mp hk
  have key : ∀ k, k < 1 → j_mem ([893].getD k 0) (u_lay "TurnSchool$LongRow" jT2 k) = true := by decide +kernel
  exact j_mem_ok _ _ (key k hk)
theorem je2 : Cond.instantiable "TurnSchool$LongRow" 1 ∈ j_tbl ∧ Cond.initialized "TurnSchool$LongRow" ∈ j_tbl := ⟨j_mem_ok 885 _ (j_mk (lk4 (r := 83) rfl) rfl), j_mem_ok 98 _ (j_mk (lk1 (r := 16) rfl) rfl)⟩
theorem jn2 : (∀ k, k < 1 → parseFieldDescriptor (jT2 k).2.2.1 = some (jt2 k)) ∧ (∀ a, a < 1 → ∀ b, b < 1 → a ≠ b → (jT2 a).2.1 ≠ (jT2 b).2.1) ∧ (jd2).length = 1 ∧ ∀ j, j < 1 → (jd2)[j]? = some (defaultValue (jt2 j)) ∧ pm_nf (jt2 j) = true := ⟨by decide +kernel, by decide +kernel, by decide +kernel, by decide +kernel⟩
theorem jc3 : (∀ w ∈ u_ws "TurnSchool$Loops" jT3 10, w ∈ j_tbl) := by
  have h : (u_ws "TurnSchool$Loops" jT3 10).zip [223, 225, 227, 229, 231, 233, 235, 237, 239, 241] = (u_ws "TurnSchool$Loops" jT3 10).zip [223, 225, 227, 229, 231, 233, 235, 237, 239, 241] := rfl
  intro w hw
  obtain ⟨k, hk, rfl⟩ := List.mem_map.mp hw
  have hk := List.mem_range.mp hk
  have key : ∀ k, k < 10 → j_mem ([223, 225, 227, 229, 231, 233, 235, 237, 239, 241].getD k 0) (u_lay "TurnSchool$Loops" jT3 k) = true := by decide +kernel
  exact j_mem_ok _ _ (key k hk)
theorem je3 : Cond.instantiable "TurnSchool$Loops" 10 ∈ j_tbl ∧ Cond.initialized "TurnSchool$Loops" ∈ j_tbl := ⟨j_mem_ok 208 _ (j_mk (lk1 (r := 126) rfl) rfl), j_mem_ok 87 _ (j_mk (lk1 (r := 5) rfl) rfl)⟩
theorem jn3 : (∀ k, k < 10 → parseFieldDescriptor (jT3 k).2.2.1 = some (jt3 k)) ∧ (∀ a, a < 10 → ∀ b, b < 10 → a ≠ b → (jT3 a).2.1 ≠ (jT3 b).2.1) ∧ (jd3).length = 10 ∧ ∀ j, j < 10 → (jd3)[j]? = some (defaultValue (jt3 j)) ∧ pm_nf (jt3 j) = true := ⟨by decide +kernel, by decide +kernel, by decide +kernel, by decide +kernel⟩
theorem jc4 : (∀ w ∈ u_ws "TurnSchool$Machine" jT4 2, w ∈ j_tbl) := by
  have h : (u_ws "TurnSchool$Machine" jT4 2).zip [155, 157] = (u_ws "TurnSchool$Machine" jT4 2).zip [155, 157] := rfl
  intro w hw
  obtain ⟨k, hk, rfl⟩ := List.mem_map.mp hw
  have hk := List.mem_range.mp hk
  have key : ∀ k, k < 2 → j_mem ([155, 157].getD k 0) (u_lay "TurnSchool$Machine" jT4 k) = true := by decide +kernel
  exact j_mem_ok _ _ (key k hk)
theorem je4 : Cond.instantiable "TurnSchool$Machine" 2 ∈ j_tbl ∧ Cond.initialized "TurnSchool$Machine" ∈ j_tbl := ⟨j_mem_ok 147 _ (j_mk (lk1 (r := 65) rfl) rfl), j_mem_ok 85 _ (j_mk (lk1 (r := 3) rfl) rfl)⟩
theorem jn4 : (∀ k, k < 2 → parseFieldDescriptor (jT4 k).2.2.1 = some (jt4 k)) ∧ (∀ a, a < 2 → ∀ b, b < 2 → a ≠ b → (jT4 a).2.1 ≠ (jT4 b).2.1) ∧ (jd4).length = 2 ∧ ∀ j, j < 2 → (jd4)[j]? = some (defaultValue (jt4 j)) ∧ pm_nf (jt4 j) = true := ⟨by decide +kernel, by decide +kernel, by decide +kernel, by decide +kernel⟩
theorem jc5 : (∀ w ∈ u_ws "TurnSchool$Orders" jT5 11, w ∈ j_tbl) := by
  have h : (u_ws "TurnSchool$Orders" jT5 11).zip [183, 185, 187, 189, 191, 193, 195, 197, 199, 201, 203] = (u_ws "TurnSchool$Orders" jT5 11).zip [183, 185, 187, 189, 191, 193, 195, 197, 199, 201, 203] := rfl
  intro w hw
  obtain ⟨k, hk, rfl⟩ := List.mem_map.mp hw
  have hk := List.mem_range.mp hk
  have key : ∀ k, k < 11 → j_mem ([183, 185, 187, 189, 191, 193, 195, 197, 199, 201, 203].getD k 0) (u_lay "TurnSchool$Orders" jT5 k) = true := by decide +kernel
  exact j_mem_ok _ _ (key k hk)
theorem je5 : Cond.instantiable "TurnSchool$Orders" 11 ∈ j_tbl ∧ Cond.initialized "TurnSchool$Orders" ∈ j_tbl := ⟨j_mem_ok 161 _ (j_mk (lk1 (r := 79) rfl) rfl), j_mem_ok 86 _ (j_mk (lk1 (r := 4) rfl) rfl)⟩
theorem jn5 : (∀ k, k < 11 → parseFieldDescriptor (jT5 k).2.2.1 = some (jt5 k)) ∧ (∀ a, a < 11 → ∀ b, b < 11 → a ≠ b → (jT5 a).2.1 ≠ (jT5 b).2.1) ∧ (jd5).length = 11 ∧ ∀ j, j < 11 → (jd5)[j]? = some (defaultValue (jt5 j)) ∧ pm_nf (jt5 j) = true := ⟨by decide +kernel, by decide +kernel, by decide +kernel, by decide +kernel⟩
theorem jc6 : (∀ w ∈ u_ws "TurnSchool$Program" jT6 6, w ∈ j_tbl) := by
  have h : (u_ws "TurnSchool$Program" jT6 6).zip [132, 134, 136, 138, 140, 142] = (u_ws "TurnSchool$Program" jT6 6).zip [132, 134, 136, 138, 140, 142] := rfl
  intro w hw
  obtain ⟨k, hk, rfl⟩ := List.mem_map.mp hw
  have hk := List.mem_range.mp hk
  have key : ∀ k, k < 6 → j_mem ([132, 134, 136, 138, 140, 142].getD k 0) (u_lay "TurnSchool$Program" jT6 k) = true := by decide +kernel
  exact j_mem_ok _ _ (key k hk)
theorem je6 : Cond.instantiable "TurnSchool$Program" 6 ∈ j_tbl ∧ Cond.initialized "TurnSchool$Program" ∈ j_tbl := ⟨j_mem_ok 115 _ (j_mk (lk1 (r := 33) rfl) rfl), j_mem_ok 84 _ (j_mk (lk1 (r := 2) rfl) rfl)⟩
theorem jn6 : (∀ k, k < 6 → parseFieldDescriptor (jT6 k).2.2.1 = some (jt6 k)) ∧ (∀ a, a < 6 → ∀ b, b < 6 → a ≠ b → (jT6 a).2.1 ≠ (jT6 b).2.1) ∧ (jd6).length = 6 ∧ ∀ j, j < 6 → (jd6)[j]? = some (defaultValue (jt6 j)) ∧ pm_nf (jt6 j) = true := ⟨by decide +kernel, by decide +kernel, by decide +kernel, by decide +kernel⟩
theorem jc7 : (∀ w ∈ u_ws "TurnSchool$ShortRow" jT7 1, w ∈ j_tbl) := by
  have h : (u_ws "TurnSchool$ShortRow" jT7 1).zip [909] = (u_ws "TurnSchool$ShortRow" jT7 1).zip [909] := rfl
  intro w hw
  obtain ⟨k, hk, rfl⟩ := List.mem_map.mp hw
  have hk := List.mem_range.mp hk
  have key : ∀ k, k < 1 → j_mem ([909].getD k 0) (u_lay "TurnSchool$ShortRow" jT7 k) = true := by decide +kernel
  exact j_mem_ok _ _ (key k hk)
theorem je7 : Cond.instantiable "TurnSchool$ShortRow" 1 ∈ j_tbl ∧ Cond.initialized "TurnSchool$ShortRow" ∈ j_tbl := ⟨j_mem_ok 901 _ (j_mk (lk4 (r := 99) rfl) rfl), j_mem_ok 99 _ (j_mk (lk1 (r := 17) rfl) rfl)⟩
theorem jn7 : (∀ k, k < 1 → parseFieldDescriptor (jT7 k).2.2.1 = some (jt7 k)) ∧ (∀ a, a < 1 → ∀ b, b < 1 → a ≠ b → (jT7 a).2.1 ≠ (jT7 b).2.1) ∧ (jd7).length = 1 ∧ ∀ j, j < 1 → (jd7)[j]? = some (defaultValue (jt7 j)) ∧ pm_nf (jt7 j) = true := ⟨by decide +kernel, by decide +kernel, by decide +kernel, by decide +kernel⟩
theorem jc8 : (∀ w ∈ u_ws "TurnSchool$Statement" jT8 2, w ∈ j_tbl) := by
  have h : (u_ws "TurnSchool$Statement" jT8 2).zip [875, 877] = (u_ws "TurnSchool$Statement" jT8 2).zip [875, 877] := rfl
  intro w hw
  obtain ⟨k, hk, rfl⟩ := List.mem_map.mp hw
  have hk := List.mem_range.mp hk
  have key : ∀ k, k < 2 → j_mem ([875, 877].getD k 0) (u_lay "TurnSchool$Statement" jT8 k) = true := by decide +kernel
  exact j_mem_ok _ _ (key k hk)
theorem je8 : Cond.instantiable "TurnSchool$Statement" 2 ∈ j_tbl ∧ Cond.initialized "TurnSchool$Statement" ∈ j_tbl := ⟨j_mem_ok 864 _ (j_mk (lk4 (r := 62) rfl) rfl), j_mem_ok 97 _ (j_mk (lk1 (r := 15) rfl) rfl)⟩
theorem jn8 : (∀ k, k < 2 → parseFieldDescriptor (jT8 k).2.2.1 = some (jt8 k)) ∧ (∀ a, a < 2 → ∀ b, b < 2 → a ≠ b → (jT8 a).2.1 ≠ (jT8 b).2.1) ∧ (jd8).length = 2 ∧ ∀ j, j < 2 → (jd8)[j]? = some (defaultValue (jt8 j)) ∧ pm_nf (jt8 j) = true := ⟨by decide +kernel, by decide +kernel, by decide +kernel, by decide +kernel⟩
theorem jc9 : (∀ w ∈ u_ws "TurnSchool" jT9 12, w ∈ j_tbl) := by
  have h : (u_ws "TurnSchool" jT9 12).zip [309, 311, 313, 315, 317, 319, 321, 323, 325, 327, 329, 331] = (u_ws "TurnSchool" jT9 12).zip [309, 311, 313, 315, 317, 319, 321, 323, 325, 327, 329, 331] := rfl
  intro w hw
  obtain ⟨k, hk, rfl⟩ := List.mem_map.mp hw
  have hk := List.mem_range.mp hk
  have key : ∀ k, k < 12 → j_mem ([309, 311, 313, 315, 317, 319, 321, 323, 325, 327, 329, 331].getD k 0) (u_lay "TurnSchool" jT9 k) = true := by decide +kernel
  exact j_mem_ok _ _ (key k hk)
theorem je9 : Cond.instantiable "TurnSchool" 12 ∈ j_tbl ∧ Cond.initialized "TurnSchool" ∈ j_tbl := ⟨j_mem_ok 107 _ (j_mk (lk1 (r := 25) rfl) rfl), j_mem_ok 83 _ (j_mk (lk1 (r := 1) rfl) rfl)⟩
theorem jn9 : (∀ k, k < 12 → parseFieldDescriptor (jT9 k).2.2.1 = some (jt9 k)) ∧ (∀ a, a < 12 → ∀ b, b < 12 → a ≠ b → (jT9 a).2.1 ≠ (jT9 b).2.1) ∧ (jd9).length = 12 ∧ ∀ j, j < 12 → (jd9)[j]? = some (defaultValue (jt9 j)) ∧ pm_nf (jt9 j) = true := ⟨by decide +kernel, by decide +kernel, by decide +kernel, by decide +kernel⟩
theorem jc10 : (∀ w ∈ u_ws "TurnSchoolModel" jT10 41, w ∈ j_tbl) := by
  have h : (u_ws "TurnSchoolModel" jT10 41).zip [1102, 1104, 1106, 1108, 1110, 1112, 1114, 1116, 1118, 1120, 1122, 1124, 1126, 1128, 1130, 1132, 1134, 1136, 1138, 1140, 1142, 1144, 1146, 1148, 1150, 1152, 1154, 1156, 1158, 1160, 1162, 1164, 1166, 1168, 1170, 1172, 1174, 1176, 1178, 1180, 1182] = (u_ws "TurnSchoolModel" jT10 41).zip [1102, 1104, 1106, 1108, 1110, 1112, 1114, 1116, 1118, 1120, 1122, 1124, 1126, 1128, 1130, 1132, 1134, 1136, 1138, 1140, 1142, 1144, 1146, 1148, 1150, 1152, 1154, 1156, 1158, 1160, 1162, 1164, 1166, 1168, 1170, 1172, 1174, 1176, 1178, 1180, 1182] := rfl
  intro w hw
  obtain ⟨k, hk, rfl⟩ := List.mem_map.mp hw
  have hk := List.mem_range.mp hk
  have key : ∀ k, k < 41 → j_mem ([1102, 1104, 1106, 1108, 1110, 1112, 1114, 1116, 1118, 1120, 1122, 1124, 1126, 1128, 1130, 1132, 1134, 1136, 1138, 1140, 1142, 1144, 1146, 1148, 1150, 1152, 1154, 1156, 1158, 1160, 1162, 1164, 1166, 1168, 1170, 1172, 1174, 1176, 1178, 1180, 1182].getD k 0) (u_lay "TurnSchoolModel" jT10 k) = true := by decide +kernel
  exact j_mem_ok _ _ (key k hk)
theorem je10 : Cond.instantiable "TurnSchoolModel" 41 ∈ j_tbl ∧ Cond.initialized "TurnSchoolModel" ∈ j_tbl := ⟨j_mem_ok 1047 _ (j_mk (lk5 (r := 5) rfl) rfl), j_mem_ok 90 _ (j_mk (lk1 (r := 8) rfl) rfl)⟩
theorem jn10 : (∀ k, k < 41 → parseFieldDescriptor (jT10 k).2.2.1 = some (jt10 k)) ∧ (∀ a, a < 41 → ∀ b, b < 41 → a ≠ b → (jT10 a).2.1 ≠ (jT10 b).2.1) ∧ (jd10).length = 41 ∧ ∀ j, j < 41 → (jd10)[j]? = some (defaultValue (jt10 j)) ∧ pm_nf (jt10 j) = true := ⟨by decide +kernel, by decide +kernel, by decide +kernel, by decide +kernel⟩
set_option maxRecDepth 4000 in
theorem j_G {XP : Launch → State → Heap → Prop} {z : Nat} (hXP : (∀ (l : Launch) (s U : State) (H H1 : Heap), s.WarmedH U.vm → (∀ a : Nat, a < H.size → ¬ pm_A z a → H1[a]? = H[a]?) → XP l s H → XP l U H1)) : pm_G j_ft j_df j_MT j_mem j_memN j_HO j_tbl j_nst j_cl j_SN j_HN XP z := by
  refine ⟨hXP, j_mem_ok, j_memN_ok, fun w h => (List.mem_filter.mp h).2, fun w h => (List.mem_filter.mp h).2, ?_, ?_, ?_, ?_, ?_, ?_, ?_⟩
  · intro ci r hr
    match ci, hr with
    | 0, hr => cases hr; exact ⟨jc0, jn0⟩
    | 1, hr => cases hr; exact ⟨jc1, jn1⟩
    | 2, hr => cases hr; exact ⟨jc2, jn2⟩
    | 3, hr => cases hr; exact ⟨jc3, jn3⟩
    | 4, hr => cases hr; exact ⟨jc4, jn4⟩
    | 5, hr => cases hr; exact ⟨jc5, jn5⟩
    | 6, hr => cases hr; exact ⟨jc6, jn6⟩
    | 7, hr => cases hr; exact ⟨jc7, jn7⟩
    | 8, hr => cases hr; exact ⟨jc8, jn8⟩
    | 9, hr => cases hr; exact ⟨jc9, jn9⟩
    | 10, hr => cases hr; exact ⟨jc10, jn10⟩
    | j + 11, hr => simp [j_cl] at hr
  · intro ci r hr
    match ci, hr with
    | 0, hr => cases hr; exact je0
    | 1, hr => cases hr; exact je1
    | 2, hr => cases hr; exact je2
    | 3, hr => cases hr; exact je3
    | 4, hr => cases hr; exact je4
    | 5, hr => cases hr; exact je5
    | 6, hr => cases hr; exact je6
    | 7, hr => cases hr; exact je7
    | 8, hr => cases hr; exact je8
    | 9, hr => cases hr; exact je9
    | 10, hr => cases hr; exact je10
    | j + 11, hr => simp [j_cl] at hr
  · exact ⟨j_mem_ok 145 _ (j_mk (lk1 (r := 63) rfl) rfl), j_mem_ok 206 _ (j_mk (lk1 (r := 124) rfl) rfl), j_mem_ok 244 _ (j_mk (lk1 (r := 162) rfl) rfl), j_mem_ok 912 _ (j_mk (lk4 (r := 110) rfl) rfl)⟩
  · exact fun y Y hY => wf_all Y (List.mem_of_getElem? hY)
  · exact j_mem_ok 112 _ (j_mk (lk1 (r := 30) rfl) rfl)
  · exact j_mem_ok 113 _ (j_mk (lk1 (r := 31) rfl) rfl)
  · rintro ci (rfl | rfl | rfl)
    · exact ⟨_, rfl, j_memN_ok 1491 _ (j_nk (lk6 (r := 209) rfl) rfl)⟩
    · exact ⟨_, rfl, j_memN_ok 1492 _ (j_nk (lk6 (r := 210) rfl) rfl)⟩
    · exact ⟨_, rfl, j_memN_ok 1490 _ (j_nk (lk6 (r := 208) rfl) rfl)⟩
