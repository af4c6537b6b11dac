def kc0 : ck_Ct := ([(1, 1, 0, 0)], [], [], [([], (0, (-2147483648), 2147483647), [])], [])
def kq0 : List ck_Q := [((4, [(1, 1, 0, 0), (0, 0, 1, 0), (0, 1, 1, 0)], [], [], [((-2147483648), 2147483647), (0, 3)]), 3, [0, (-1)])]
theorem kt0 : ck_meth jga jrl j_ft jfa j_MT mm_X8_statements [] [] kc0 kq0 4000 4 = true := by decide +kernel
def kc1 : ck_Ct := ([(1, 3, 0, 0), (0, 0, 0, 0)], [], [], [([], (9, 0, 0), [])], [3])
def kq1 : List ck_Q := [((5, [(1, 3, 0, 0), (0, 0, 0, 0), (0, 0, 1, 0), (0, 0, 0, 3)], [], [], [(0, 3)]), 3, [(-1)])]
theorem kt1 : ck_meth jga jrl j_ft jfa j_MT mm_J7_fill_53178 [] [] kc1 kq1 4000 4 = true := by decide +kernel
def kc2 : ck_Ct := ([(1, 2, 0, 0), (0, 0, 0, 0)], [], [], [([], (9, 0, 0), [])], [2])
def kq2 : List ck_Q := [((5, [(1, 2, 0, 0), (0, 0, 0, 0), (0, 0, 1, 0), (0, 0, 0, 4)], [], [], [(0, 4)]), 4, [(-1)])]
theorem kt2 : ck_meth jga jrl j_ft jfa j_MT mm_J7_fill_53178 [] [] kc2 kq2 4000 5 = true := by decide +kernel
def kc3 : ck_Ct := ([(1, 1, 0, 0), (0, 0, 1, 0)], [], [(1, 3)], [([(1, 3)], (9, 0, 0), [])], [1, 2, 3])
def kq3 : List ck_Q := []
theorem kt3 : ck_meth jga jrl j_ft jfa j_MT mm_X8_renew [] [(222, kc1), (222, kc2)] kc3 kq3 4000 1 = true := by decide +kernel
def kc4 : ck_Ct := ([(1, 44, 0, 0), (0, 0, 0, 0)], [], [], [([], (9, 0, 0), [])], [44])
def kq4 : List ck_Q := [((5, [(1, 44, 0, 0), (0, 0, 0, 0), (0, 0, 1, 0), (0, 0, 0, 5)], [], [], [(0, 5)]), 5, [(-1)])]
theorem kt4 : ck_meth jga jrl j_ft jfa j_MT mm_J7_fill_53178 [] [] kc4 kq4 4000 6 = true := by decide +kernel
def kc5 : ck_Ct := ([(1, 42, 0, 0)], [], [], [([], (9, 0, 0), [])], [42])
def kq5 : List ck_Q := []
theorem kt5 : ck_meth jga jrl j_ft jfa j_MT mm_X3_clear [] [] kc5 kq5 4000 1 = true := by decide +kernel
def kc6 : ck_Ct := ([(3, 0, 0, 0), (0, 0, 1, 0), (0, 1, 1, 0)], [], [((-2147483648), 2147483647), ((-2147483648), 2147483647)], [([((-2147483648), 2147483647), ((-2147483648), 2147483647)], (3, 0, 0), [])], [])
def kq6 : List ck_Q := []
theorem kt6 : ck_meth jga jrl j_ft jfa j_MT mm_X0_withPlace [] [] kc6 kq6 4000 1 = true := by decide +kernel
def kc7 : ck_Ct := ([(1, 7, 0, 0)], [], [], [([], (3, 0, 0), [])], [])
def kq7 : List ck_Q := [((4, [(1, 7, 0, 0), (3, 0, 0, 0), (5, 0, 0, 0), (0, 0, 1, 0)], [], [], [(0, 4)]), 4, [(-1)])]
theorem kt7 : ck_meth jga jrl j_ft jfa j_MT mm_X6_first [] [(12, kc6)] kc7 kq7 4000 5 = true := by decide +kernel
def kc8 : ck_Ct := ([(1, 0, 0, 0)], [], [], [([], (9, 0, 0), [])], [0, 32, 42, 44])
def kq8 : List ck_Q := []
theorem kt8 : ck_meth jga jrl j_ft jfa j_MT mm_X11_forget [] [(222, kc1), (222, kc2), (222, kc4), (27, kc5), (43, kc7)] kc8 kq8 4000 1 = true := by decide +kernel
def kc9 : ck_Ct := ([(1, 0, 0, 0), (0, 0, 1, 0)], [], [((-2147483648), 2147483647)], [([((-2147483648), 2147483647)], (0, (-2147483648), 2147483647), [])], [0, 1, 2, 3, 32, 42, 44])
def kq9 : List ck_Q := []
theorem kt9 : ck_meth jga jrl j_ft jfa j_MT mm_X11_puzzle [] [(81, kc0), (77, kc3), (134, kc8)] kc9 kq9 4000 1 = true := by decide +kernel
def kc10 : ck_Ct := ([(1, 1, 0, 0), (0, 0, 1, 0)], [], [((-2147483648), 2147483647)], [([((-2147483648), 2147483647)], (0, 0, 0), []), ([(0, 2)], (0, 1, 1), [])], [])
def kq10 : List ck_Q := []
theorem kt10 : ck_meth jga jrl j_ft jfa j_MT mm_X8_hasHand [] [] kc10 kq10 4000 1 = true := by decide +kernel
def kc11 : ck_Ct := ([(0, 0, 1, 0), (0, 0, 0, 13)], [], [((-2147483648), 2147483647)], [([((-2147483648), 2147483647)], (0, 0, 0), []), ([(0, 12)], (0, 1, 1), [])], [])
def kq11 : List ck_Q := []
theorem kt11 : ck_meth jga jrl j_ft jfa j_MT mm_X11_within [] [] kc11 kq11 4000 1 = true := by decide +kernel
def kc12 : ck_Ct := ([(0, 0, 1, 0)], [], [((-2147483648), 2147483647)], [([((-2147483648), 2147483647)], (0, 0, 2), [])], [])
def kq12 : List ck_Q := []
theorem kt12 : ck_meth jga jrl j_ft jfa j_MT mm_X11_operandOf [] [(135, kc11)] kc12 kq12 4000 1 = true := by decide +kernel
def kc13 : ck_Ct := ([(0, 0, 1, 0), (0, 0, 0, 4)], [], [((-2147483648), 2147483647)], [([((-2147483648), 2147483647)], (0, 0, 0), []), ([(0, 3)], (0, 1, 1), [])], [])
def kq13 : List ck_Q := []
theorem kt13 : ck_meth jga jrl j_ft jfa j_MT mm_X11_within [] [] kc13 kq13 4000 1 = true := by decide +kernel
def kc14 : ck_Ct := ([(0, 0, 1, 0)], [], [((-2147483648), 2147483647)], [([((-2147483648), 2147483647)], (0, (-1), 9), [])], [])
def kq14 : List ck_Q := []
theorem kt14 : ck_meth jga jrl j_ft jfa j_MT mm_X11_topOf [] [(135, kc11), (135, kc13)] kc14 kq14 4000 1 = true := by decide +kernel
def kc15 : ck_Ct := ([(0, 0, 1, 0), (0, 0, 0, 3)], [], [((-2147483648), 2147483647)], [([((-2147483648), 2147483647)], (0, 0, 0), []), ([(0, 2)], (0, 1, 1), [])], [])
def kq15 : List ck_Q := []
theorem kt15 : ck_meth jga jrl j_ft jfa j_MT mm_X11_within [] [] kc15 kq15 4000 1 = true := by decide +kernel
def kc16 : ck_Ct := ([(0, 0, 1, 0), (0, 1, 1, 0), (0, 2, 1, 0)], [], [((-2147483648), 2147483647), ((-2147483648), 2147483647), ((-2147483648), 2147483647)], [([((-2147483648), 2147483647), ((-2147483648), 2147483647), ((-2147483648), 2147483647)], (0, 0, 0), []), ([(0, 12), ((-2147483648), 2147483647), ((-2147483648), 2147483647)], (0, 1, 1), [])], [])
def kq16 : List ck_Q := []
theorem kt16 : ck_meth jga jrl j_ft jfa j_MT mm_X11_isStatement [] [(135, kc11), (135, kc13), (135, kc15), (137, kc12), (138, kc14)] kc16 kq16 4000 1 = true := by decide +kernel
def kc17 : ck_Ct := ([(1, 1, 0, 0), (0, 0, 1, 0)], [], [((-2147483648), 2147483647)], [([((-2147483648), 2147483647)], (0, 0, 8), [])], [])
def kq17 : List ck_Q := []
theorem kt17 : ck_meth jga jrl j_ft jfa j_MT mm_X8_lengthOf [] [] kc17 kq17 4000 1 = true := by decide +kernel
def kc18 : ck_Ct := ([(1, 1, 0, 0), (0, 0, 1, 0), (0, 1, 1, 0), (0, 2, 1, 0), (0, 3, 1, 0)], [], [((-2147483648), 2147483647), ((-2147483648), 2147483647), ((-2147483648), 2147483647), ((-2147483648), 2147483647)], [([((-2147483648), 2147483647), ((-2147483648), 2147483647), ((-2147483648), 2147483647), ((-2147483648), 2147483647)], (9, 0, 0), [])], [3, 4, 5, 6])
def kq18 : List ck_Q := []
theorem kt18 : ck_meth jga jrl j_ft jfa j_MT mm_X8_append [] [(78, kc10)] kc18 kq18 4000 1 = true := by decide +kernel
def kc19 : ck_Ct := ([(1, 0, 0, 0), (0, 0, 1, 0), (0, 1, 1, 0), (0, 2, 1, 0), (0, 3, 1, 0)], [], [((-2147483648), 2147483647), ((-2147483648), 2147483647), ((-2147483648), 2147483647), ((-2147483648), 2147483647)], [([((-2147483648), 2147483647), ((-2147483648), 2147483647), ((-2147483648), 2147483647), ((-2147483648), 2147483647)], (0, (-2), 7), [])], [0, 3, 4, 5, 6, 32, 42, 44])
def kq19 : List ck_Q := []
theorem kt19 : ck_meth jga jrl j_ft jfa j_MT mm_X11_code [] [(78, kc10), (139, kc16), (80, kc17), (86, kc18), (134, kc8)] kc19 kq19 4000 1 = true := by decide +kernel
def kc20 : ck_Ct := ([(1, 1, 0, 0), (0, 0, 1, 0)], [], [((-2147483648), 2147483647)], [([((-2147483648), 2147483647)], (9, 0, 0), [])], [3])
def kq20 : List ck_Q := []
theorem kt20 : ck_meth jga jrl j_ft jfa j_MT mm_X8_dropLast [] [(78, kc10)] kc20 kq20 4000 1 = true := by decide +kernel
def kc21 : ck_Ct := ([(1, 0, 0, 0), (0, 0, 1, 0)], [], [((-2147483648), 2147483647)], [([((-2147483648), 2147483647)], (0, (-3), 8), [])], [0, 3, 32, 42, 44])
def kq21 : List ck_Q := []
theorem kt21 : ck_meth jga jrl j_ft jfa j_MT mm_X11_uncode [] [(78, kc10), (80, kc17), (87, kc20), (134, kc8)] kc21 kq21 4000 1 = true := by decide +kernel
def kc22 : ck_Ct := ([(0, 0, 1, 0), (0, 0, 0, 10)], [], [((-2147483648), 2147483647)], [([((-2147483648), 2147483647)], (0, 0, 0), []), ([(0, 9)], (0, 1, 1), [])], [])
def kq22 : List ck_Q := []
theorem kt22 : ck_meth jga jrl j_ft jfa j_MT mm_X11_within [] [] kc22 kq22 4000 1 = true := by decide +kernel
def kc23 : ck_Ct := ([(1, 0, 0, 0), (0, 0, 1, 0), (0, 1, 1, 0)], [], [((-2147483648), 2147483647), ((-2147483648), 2147483647)], [([((-2147483648), 2147483647), ((-2147483648), 2147483647)], (0, (-2147483648), 2147483647), [])], [0, 2, 32, 42, 44])
def kq23 : List ck_Q := []
theorem kt23 : ck_meth jga jrl j_ft jfa j_MT mm_X11_value [] [(135, kc11), (135, kc13), (135, kc15), (135, kc22), (134, kc8)] kc23 kq23 4000 1 = true := by decide +kernel
def kc24 : ck_Ct := ([(1, 1, 0, 0), (0, 0, 1, 0), (0, 1, 1, 0)], [], [((-2147483648), 2147483647), ((-2147483648), 2147483647)], [([((-2147483648), 2147483647), ((-2147483648), 2147483647)], (0, 0, 0), []), ([(0, 2), (0, 7)], (0, 1, 1), [])], [])
def kq24 : List ck_Q := []
theorem kt24 : ck_meth jga jrl j_ft jfa j_MT mm_X8_hasStatement [] [] kc24 kq24 4000 1 = true := by decide +kernel
def kc25 : ck_Ct := ([(1, 1, 0, 0), (0, 0, 1, 0), (0, 1, 1, 0)], [], [((-2147483648), 2147483647), ((-2147483648), 2147483647)], [([((-2147483648), 2147483647), ((-2147483648), 2147483647)], (0, (-1), 23), [])], [])
def kq25 : List ck_Q := []
theorem kt25 : ck_meth jga jrl j_ft jfa j_MT mm_X8_cellOf [] [] kc25 kq25 4000 1 = true := by decide +kernel
def kc26 : ck_Ct := ([(1, 1, 0, 0), (0, 0, 1, 0)], [], [((-2147483648), 2147483647)], [([((-2147483648), 2147483647)], (0, (-2147483648), 2147483647), [])], [])
def kq26 : List ck_Q := []
theorem kt26 : ck_meth jga jrl j_ft jfa j_MT mm_X8_kindIn [] [] kc26 kq26 4000 1 = true := by decide +kernel
def kc27 : ck_Ct := ([(1, 1, 0, 0), (0, 0, 1, 0)], [], [((-2147483648), 2147483647)], [([((-2147483648), 2147483647)], (0, (-2147483648), 2147483647), [])], [])
def kq27 : List ck_Q := []
theorem kt27 : ck_meth jga jrl j_ft jfa j_MT mm_X8_operandIn [] [] kc27 kq27 4000 1 = true := by decide +kernel
def kc28 : ck_Ct := ([(1, 1, 0, 0), (0, 0, 1, 0)], [], [((-2147483648), 2147483647)], [([((-2147483648), 2147483647)], (0, (-2147483648), 2147483647), [])], [])
def kq28 : List ck_Q := []
theorem kt28 : ck_meth jga jrl j_ft jfa j_MT mm_X8_numberIn [] [] kc28 kq28 4000 1 = true := by decide +kernel
def kc29 : ck_Ct := ([(1, 0, 0, 0), (0, 0, 1, 0), (0, 1, 1, 0), (0, 2, 1, 0)], [], [((-2147483648), 2147483647), ((-2147483648), 2147483647), ((-2147483648), 2147483647)], [([((-2147483648), 2147483647), ((-2147483648), 2147483647), ((-2147483648), 2147483647)], (0, (-2147483648), 2147483647), [])], [])
def kq29 : List ck_Q := []
theorem kt29 : ck_meth jga jrl j_ft jfa j_MT mm_X11_told [] [(79, kc24), (135, kc11), (135, kc13), (135, kc15), (135, kc22), (82, kc25), (83, kc26), (137, kc12), (84, kc27), (138, kc14), (85, kc28)] kc29 kq29 4000 1 = true := by decide +kernel
def kc30 : ck_Ct := ([(1, 0, 0, 0), (3, 0, 0, 0)], [], [], [([], (0, 0, 1), [])], [0])
def kq30 : List ck_Q := []
theorem kt30 : ck_meth jga jrl j_ft jfa j_MT mm_X11_movedRunTo [] [] kc30 kq30 4000 1 = true := by decide +kernel
def kc31 : ck_Ct := ([(1, 0, 0, 0)], [], [], [([], (0, 0, 1), [])], [0])
def kq31 : List ck_Q := []
theorem kt31 : ck_meth jga jrl j_ft jfa j_MT mm_X11_start [] [(43, kc7), (104, kc30)] kc31 kq31 4000 1 = true := by decide +kernel
def kc32 : ck_Ct := ([(3, 0, 0, 0), (0, 0, 1, 0)], [], [((-2147483648), 2147483647)], [([((-2147483648), 2147483647)], (0, 0, 15), [])], [])
def kq32 : List ck_Q := []
theorem kt32 : ck_meth jga jrl j_ft jfa j_MT mm_X0_position [] [] kc32 kq32 4000 1 = true := by decide +kernel
def kc33 : ck_Ct := ([(1, 7, 0, 0), (3, 0, 0, 0)], [], [], [([], (0, 1, 1), []), ([], (0, 0, 0), [])], [])
def kq33 : List ck_Q := [((2, [(1, 7, 0, 0), (3, 0, 0, 0), (5, 0, 0, 0), (0, 0, 1, 0), (5, 0, 0, 0)], [], [], [(0, 3)]), 3, [(-1)])]
theorem kt33 : ck_meth jga jrl j_ft jfa j_MT mm_X6_allMeet [] [(0, kc32), (82, kc25), (83, kc26)] kc33 kq33 4000 4 = true := by decide +kernel
def kc34 : ck_Ct := ([(3, 0, 0, 0), (0, 0, 1, 0)], [], [((-2147483648), 2147483647)], [([((-2147483648), 2147483647)], (0, 0, 15), [])], [])
def kq34 : List ck_Q := []
theorem kt34 : ck_meth jga jrl j_ft jfa j_MT mm_X0_place [] [] kc34 kq34 4000 1 = true := by decide +kernel
def kc35 : ck_Ct := ([(3, 0, 0, 0), (0, 0, 1, 0)], [], [((-2147483648), 2147483647)], [([((-2147483648), 2147483647)], (0, (-1), 2), [])], [])
def kq35 : List ck_Q := []
theorem kt35 : ck_meth jga jrl j_ft jfa j_MT mm_X0_owner [] [] kc35 kq35 4000 1 = true := by decide +kernel
def kc36 : ck_Ct := ([(3, 0, 0, 0), (0, 0, 1, 0)], [], [((-2147483648), 2147483647)], [([((-2147483648), 2147483647)], (0, 0, 3), [])], [])
def kq36 : List ck_Q := []
theorem kt36 : ck_meth jga jrl j_ft jfa j_MT mm_X0_sleep [] [] kc36 kq36 4000 1 = true := by decide +kernel
def kc37 : ck_Ct := ([(3, 0, 0, 0), (0, 0, 1, 0)], [], [((-2147483648), 2147483647)], [([((-2147483648), 2147483647)], (0, 0, 3), [])], [])
def kq37 : List ck_Q := []
theorem kt37 : ck_meth jga jrl j_ft jfa j_MT mm_X0_made [] [] kc37 kq37 4000 1 = true := by decide +kernel
def kc38 : ck_Ct := ([(1, 7, 0, 0), (3, 0, 0, 0), (0, 0, 1, 0), (0, 1, 1, 0)], [], [((-2147483648), 2147483647), (0, 1)], [([((-2147483648), 2147483647), (0, 1)], (0, 1, 1), []), ([((-2147483648), 2147483647), (0, 1)], (0, 0, 0), []), ([((-2147483648), 2147483647), (0, 1)], (0, 0, 1), [])], [])
def kq38 : List ck_Q := []
theorem kt38 : ck_meth jga jrl j_ft jfa j_MT mm_X6_isAble [] [(0, kc32), (82, kc25), (84, kc27), (83, kc26), (4, kc34), (85, kc28), (5, kc35), (3, kc36), (1, kc37)] kc38 kq38 4000 1 = true := by decide +kernel
def kc39 : ck_Ct := ([(1, 7, 0, 0), (3, 0, 0, 0)], [], [], [([], (0, (-2147483648), 2147483647), [])], [])
def kq39 : List ck_Q := [((12, [(1, 7, 0, 0), (3, 0, 0, 0), (5, 0, 0, 0), (0, 0, 1, 0), (0, 1, 1, 0), (0, 2, 1, 0)], [], [], [(0, 1), ((-2147483648), 2147483647), (0, 3)]), 3, [0, 0, (-1)])]
theorem kt39 : ck_meth jga jrl j_ft jfa j_MT mm_X6_ableHands [] [(45, kc33), (46, kc38)] kc39 kq39 4000 4 = true := by decide +kernel
def kc40 : ck_Ct := ([(1, 0, 0, 0), (0, 0, 1, 0)], [], [((-2147483648), 2147483647)], [([((-2147483648), 2147483647)], (0, 0, 0), []), ([((-2147483648), 2147483647)], (0, 1, 1), [])], [])
def kq40 : List ck_Q := []
theorem kt40 : ck_meth jga jrl j_ft jfa j_MT mm_X11_runCanStep [] [(44, kc39)] kc40 kq40 4000 1 = true := by decide +kernel
def kc41 : ck_Ct := ([(3, 0, 0, 0), (0, 0, 1, 0)], [], [((-2147483648), 2147483647)], [([((-2147483648), 2147483647)], (0, 0, 15), [])], [])
def kq41 : List ck_Q := []
theorem kt41 : ck_meth jga jrl j_ft jfa j_MT mm_X0_register [] [] kc41 kq41 4000 1 = true := by decide +kernel
def kc42 : ck_Ct := ([(3, 0, 0, 0), (0, 0, 1, 0)], [], [((-2147483648), 2147483647)], [([((-2147483648), 2147483647)], (3, 0, 0), [])], [])
def kq42 : List ck_Q := []
theorem kt42 : ck_meth jga jrl j_ft jfa j_MT mm_X0_passed [] [] kc42 kq42 4000 1 = true := by decide +kernel
def kc43 : ck_Ct := ([(3, 0, 0, 0), (0, 0, 1, 0), (0, 1, 1, 0)], [], [((-2147483648), 2147483647), ((-2147483648), 2147483647)], [([((-2147483648), 2147483647), ((-2147483648), 2147483647)], (3, 0, 0), [])], [])
def kq43 : List ck_Q := []
theorem kt43 : ck_meth jga jrl j_ft jfa j_MT mm_X0_withRegister [] [] kc43 kq43 4000 1 = true := by decide +kernel
def kc44 : ck_Ct := ([(3, 0, 0, 0), (0, 0, 1, 0), (0, 1, 1, 0)], [], [((-2147483648), 2147483647), ((-2147483648), 2147483647)], [([((-2147483648), 2147483647), ((-2147483648), 2147483647)], (3, 0, 0), [])], [])
def kq44 : List ck_Q := []
theorem kt44 : ck_meth jga jrl j_ft jfa j_MT mm_X6_taken [] [(4, kc34), (10, kc43)] kc44 kq44 4000 1 = true := by decide +kernel
def kc45 : ck_Ct := ([(3, 0, 0, 0), (0, 0, 1, 0), (0, 1, 1, 0)], [], [((-2147483648), 2147483647), ((-2147483648), 2147483647)], [([((-2147483648), 2147483647), ((-2147483648), 2147483647)], (3, 0, 0), [])], [])
def kq45 : List ck_Q := []
theorem kt45 : ck_meth jga jrl j_ft jfa j_MT mm_X6_added [] [(2, kc41), (10, kc43)] kc45 kq45 4000 1 = true := by decide +kernel
def kc46 : ck_Ct := ([(3, 0, 0, 0), (0, 0, 1, 0), (0, 1, 1, 0)], [], [((-2147483648), 2147483647), ((-2147483648), 2147483647)], [([((-2147483648), 2147483647), ((-2147483648), 2147483647)], (3, 0, 0), [])], [])
def kq46 : List ck_Q := []
theorem kt46 : ck_meth jga jrl j_ft jfa j_MT mm_X0_withPosition [] [] kc46 kq46 4000 1 = true := by decide +kernel
def kc47 : ck_Ct := ([(1, 7, 0, 0), (3, 0, 0, 0), (0, 0, 1, 0), (0, 1, 1, 0)], [], [((-2147483648), 2147483647), ((-2147483648), 2147483647)], [([((-2147483648), 2147483647), ((-2147483648), 2147483647)], (3, 0, 0), [])], [])
def kq47 : List ck_Q := []
theorem kt47 : ck_meth jga jrl j_ft jfa j_MT mm_X6_jumped [12] [(80, kc17), (7, kc46)] kc47 kq47 4000 1 = true := by decide +kernel
def kc48 : ck_Ct := ([(3, 0, 0, 0), (0, 0, 1, 0), (0, 1, 1, 0), (0, 2, 1, 0)], [], [((-2147483648), 2147483647), ((-2147483648), 2147483647), ((-2147483648), 2147483647)], [([((-2147483648), 2147483647), ((-2147483648), 2147483647), ((-2147483648), 2147483647)], (3, 0, 0), [])], [])
def kq48 : List ck_Q := []
theorem kt48 : ck_meth jga jrl j_ft jfa j_MT mm_X6_longWhole [] [(4, kc34), (10, kc43), (12, kc6), (8, kc42)] kc48 kq48 4000 1 = true := by decide +kernel
def kc49 : ck_Ct := ([(3, 0, 0, 0), (0, 0, 1, 0), (0, 1, 1, 0)], [], [((-2147483648), 2147483647), ((-2147483648), 2147483647)], [([((-2147483648), 2147483647), ((-2147483648), 2147483647)], (3, 0, 0), [])], [])
def kq49 : List ck_Q := []
theorem kt49 : ck_meth jga jrl j_ft jfa j_MT mm_X0_withMade [] [] kc49 kq49 4000 1 = true := by decide +kernel
def kc50 : ck_Ct := ([(3, 0, 0, 0), (0, 0, 1, 0), (0, 1, 1, 0), (0, 2, 1, 0)], [], [((-2147483648), 2147483647), ((-2147483648), 2147483647), ((-2147483648), 2147483647)], [([((-2147483648), 2147483647), ((-2147483648), 2147483647), ((-2147483648), 2147483647)], (3, 0, 0), [])], [])
def kq50 : List ck_Q := []
theorem kt50 : ck_meth jga jrl j_ft jfa j_MT mm_X6_longStep [] [(1, kc37), (2, kc41), (4, kc34), (10, kc43), (9, kc49), (12, kc6), (8, kc42)] kc50 kq50 4000 1 = true := by decide +kernel
def kc51 : ck_Ct := ([(3, 0, 0, 0), (0, 0, 1, 0), (0, 1, 1, 0)], [], [((-2147483648), 2147483647), ((-2147483648), 2147483647)], [([((-2147483648), 2147483647), ((-2147483648), 2147483647)], (3, 0, 0), [])], [])
def kq51 : List ck_Q := []
theorem kt51 : ck_meth jga jrl j_ft jfa j_MT mm_X0_withOwner [] [] kc51 kq51 4000 1 = true := by decide +kernel
def kc52 : ck_Ct := ([(3, 0, 0, 0), (0, 0, 1, 0), (0, 1, 1, 0)], [], [((-2147483648), 2147483647), ((-2147483648), 2147483647)], [([((-2147483648), 2147483647), ((-2147483648), 2147483647)], (3, 0, 0), [])], [])
def kq52 : List ck_Q := []
theorem kt52 : ck_meth jga jrl j_ft jfa j_MT mm_X6_left [] [(5, kc35), (7, kc46), (13, kc51), (8, kc42)] kc52 kq52 4000 1 = true := by decide +kernel
def kc53 : ck_Ct := ([(3, 0, 0, 0), (0, 0, 1, 0), (0, 1, 1, 0)], [], [((-2147483648), 2147483647), ((-2147483648), 2147483647)], [([((-2147483648), 2147483647), ((-2147483648), 2147483647)], (3, 0, 0), [])], [])
def kq53 : List ck_Q := []
theorem kt53 : ck_meth jga jrl j_ft jfa j_MT mm_X0_withSleep [] [] kc53 kq53 4000 1 = true := by decide +kernel
def kc54 : ck_Ct := ([(3, 0, 0, 0), (0, 0, 1, 0), (0, 1, 1, 0)], [], [((-2147483648), 2147483647), ((-2147483648), 2147483647)], [([((-2147483648), 2147483647), ((-2147483648), 2147483647)], (3, 0, 0), [])], [])
def kq54 : List ck_Q := []
theorem kt54 : ck_meth jga jrl j_ft jfa j_MT mm_X6_waited [] [(1, kc37), (13, kc51), (8, kc42), (5, kc35), (7, kc46), (9, kc49), (11, kc53)] kc54 kq54 4000 1 = true := by decide +kernel
def kc55 : ck_Ct := ([(1, 7, 0, 0), (3, 0, 0, 0), (0, 0, 1, 0)], [], [((-2147483648), 2147483647)], [([((-2147483648), 2147483647)], (3, 0, 0), [])], [])
def kq55 : List ck_Q := [((3, [(1, 7, 0, 0), (3, 0, 0, 0), (5, 0, 0, 0), (0, 0, 1, 0), (0, 1, 1, 0), (5, 0, 0, 0)], [], [], [((-2147483648), 2147483647), (0, 3)]), 3, [0, (-1)])]
theorem kt55 : ck_meth jga jrl j_ft jfa j_MT mm_X6_called [] [(0, kc32), (82, kc25), (3, kc36), (84, kc27), (11, kc53)] kc55 kq55 4000 4 = true := by decide +kernel
def kc56 : ck_Ct := ([(1, 7, 0, 0), (3, 0, 0, 0)], [], [], [([], (3, 0, 0), [])], [])
def kq56 : List ck_Q := [((5, [(1, 7, 0, 0), (3, 0, 0, 0), (5, 0, 0, 0), (3, 0, 0, 0), (5, 0, 0, 0), (0, 0, 1, 0), (5, 0, 0, 0)], [], [], [(0, 3)]), 3, [(-1)])]
theorem kt56 : ck_meth jga jrl j_ft jfa j_MT mm_X6_met [] [(0, kc32), (82, kc25), (83, kc26), (8, kc42)] kc56 kq56 4000 4 = true := by decide +kernel
def kc57 : ck_Ct := ([(1, 7, 0, 0), (3, 0, 0, 0), (0, 0, 1, 0)], [], [((-2147483648), 2147483647)], [([((-2147483648), 2147483647)], (3, 0, 0), [])], [])
def kq57 : List ck_Q := []
theorem kt57 : ck_meth jga jrl j_ft jfa j_MT mm_X6_after [] [(0, kc32), (82, kc25), (84, kc27), (85, kc28), (2, kc41), (83, kc26), (12, kc6), (8, kc42), (50, kc44), (51, kc45), (52, kc47), (53, kc48), (54, kc50), (13, kc51), (55, kc52), (56, kc54), (57, kc55), (58, kc56)] kc57 kq57 4000 1 = true := by decide +kernel
def kc58 : ck_Ct := ([(1, 0, 0, 0), (0, 0, 1, 0)], [], [((-2147483648), 2147483647)], [([((-2147483648), 2147483647)], (0, (-1), 1), [])], [0])
def kq58 : List ck_Q := []
theorem kt58 : ck_meth jga jrl j_ft jfa j_MT mm_X11_go [] [(78, kc10), (101, kc40), (49, kc57)] kc58 kq58 4000 1 = true := by decide +kernel
def kc59 : ck_Ct := ([(1, 0, 0, 0), (0, 0, 1, 0)], [], [((-2147483648), 2147483647)], [([((-2147483648), 2147483647)], (0, (-2), 2), [])], [])
def kq59 : List ck_Q := []
theorem kt59 : ck_meth jga jrl j_ft jfa j_MT mm_X11_ownerSeen [] [(5, kc35)] kc59 kq59 4000 1 = true := by decide +kernel
