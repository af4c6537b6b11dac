/-! the classes, their fields, what is read only -/
def jT0 : u_T := fun k => match k with
  | 0 => ("TurnSchool$Fixer", "succeeded", "Z", false)
  | 1 => ("TurnSchool$Fixer", "stale", "Z", false)
  | 2 => ("TurnSchool$Fixer", "program", "LTurnSchool$Program;", true)
  | 3 => ("TurnSchool$Fixer", "orders", "LTurnSchool$Orders;", true)
  | 4 => ("TurnSchool$Fixer", "draft", "LTurnSchool$Program;", true)
  | 5 => ("TurnSchool$Fixer", "machine", "LTurnSchool$Machine;", true)
  | 6 => ("TurnSchool$Fixer", "chosen", "[I", true)
  | _ => ("TurnSchool$Fixer", "outcomes", "[J", true)
def jt0 : Nat → FieldType := fun k => match k with
  | 0 => .boolean
  | 1 => .boolean
  | 2 => .object "TurnSchool$Program"
  | 3 => .object "TurnSchool$Orders"
  | 4 => .object "TurnSchool$Program"
  | 5 => .object "TurnSchool$Machine"
  | 6 => .array .int
  | _ => .array .long
def jd0 : List Value := [.int 0, .int 0, .null, .null, .null, .null, .null, .null]
def jT1 : u_T := fun k => match k with
  | 0 => ("TurnSchool$Learner", "asked", "J", false)
  | _ => ("TurnSchool$Learner", "agreed", "J", false)
def jt1 : Nat → FieldType := fun k => match k with
  | 0 => .long
  | _ => .long
def jd1 : List Value := [.long 0, .long 0]
def jT2 : u_T := fun k => match k with
  | _ => ("TurnSchool$LongRow", "cells", "[J", true)
def jt2 : Nat → FieldType := fun k => match k with
  | _ => .array .long
def jd2 : List Value := [.null]
def jT3 : u_T := fun k => match k with
  | 0 => ("TurnSchool$Loops", "came", "[I", true)
  | 1 => ("TurnSchool$Loops", "lowest", "[I", true)
  | 2 => ("TurnSchool$Loops", "tried", "[I", true)
  | 3 => ("TurnSchool$Loops", "path", "[I", true)
  | 4 => ("TurnSchool$Loops", "open", "[I", true)
  | 5 => ("TurnSchool$Loops", "isOpen", "[Z", true)
  | 6 => ("TurnSchool$Loops", "back", "[Z", true)
  | 7 => ("TurnSchool$Loops", "depth", "I", false)
  | 8 => ("TurnSchool$Loops", "opened", "I", false)
  | _ => ("TurnSchool$Loops", "arrivals", "I", false)
def jt3 : Nat → FieldType := fun k => match k with
  | 0 => .array .int
  | 1 => .array .int
  | 2 => .array .int
  | 3 => .array .int
  | 4 => .array .int
  | 5 => .array .boolean
  | 6 => .array .boolean
  | 7 => .int
  | 8 => .int
  | _ => .int
def jd3 : List Value := [.null, .null, .null, .null, .null, .null, .null, .int 0, .int 0, .int 0]
def jT4 : u_T := fun k => match k with
  | 0 => ("TurnSchool$Machine", "program", "LTurnSchool$Program;", true)
  | _ => ("TurnSchool$Machine", "picture", "I", false)
def jt4 : Nat → FieldType := fun k => match k with
  | 0 => .object "TurnSchool$Program"
  | _ => .int
def jd4 : List Value := [.null, .int 0]
def jT5 : u_T := fun k => match k with
  | 0 => ("TurnSchool$Orders", "total", "I", false)
  | 1 => ("TurnSchool$Orders", "spent", "Z", false)
  | 2 => ("TurnSchool$Orders", "spoiled", "Z", false)
  | 3 => ("TurnSchool$Orders", "ends", "J", false)
  | 4 => ("TurnSchool$Orders", "found", "[J", true)
  | 5 => ("TurnSchool$Orders", "origins", "[I", true)
  | 6 => ("TurnSchool$Orders", "movers", "[I", true)
  | 7 => ("TurnSchool$Orders", "sorts", "[I", true)
  | 8 => ("TurnSchool$Orders", "followers", "[I", true)
  | 9 => ("TurnSchool$Orders", "table", "[I", true)
  | _ => ("TurnSchool$Orders", "cells", "[I", true)
def jt5 : Nat → FieldType := fun k => match k with
  | 0 => .int
  | 1 => .boolean
  | 2 => .boolean
  | 3 => .long
  | 4 => .array .long
  | 5 => .array .int
  | 6 => .array .int
  | 7 => .array .int
  | 8 => .array .int
  | 9 => .array .int
  | _ => .array .int
def jd5 : List Value := [.int 0, .int 0, .int 0, .long 0, .null, .null, .null, .null, .null, .null, .null]
def jT6 : u_T := fun k => match k with
  | 0 => ("TurnSchool$Program", "hands", "I", false)
  | 1 => ("TurnSchool$Program", "atFirst", "[I", true)
  | 2 => ("TurnSchool$Program", "lengths", "[I", true)
  | 3 => ("TurnSchool$Program", "kinds", "[I", true)
  | 4 => ("TurnSchool$Program", "operands", "[I", true)
  | _ => ("TurnSchool$Program", "numbers", "[I", true)
def jt6 : Nat → FieldType := fun k => match k with
  | 0 => .int
  | 1 => .array .int
  | 2 => .array .int
  | 3 => .array .int
  | 4 => .array .int
  | _ => .array .int
def jd6 : List Value := [.int 0, .null, .null, .null, .null, .null]
def jT7 : u_T := fun k => match k with
  | _ => ("TurnSchool$ShortRow", "cells", "[S", true)
def jt7 : Nat → FieldType := fun k => match k with
  | _ => .array .short
def jd7 : List Value := [.null]
def jT8 : u_T := fun k => match k with
  | 0 => ("TurnSchool$Statement", "a", "I", true)
  | _ => ("TurnSchool$Statement", "kind", "I", true)
def jt8 : Nat → FieldType := fun k => match k with
  | 0 => .int
  | _ => .int
def jd8 : List Value := [.int 0, .int 0]
def jT9 : u_T := fun k => match k with
  | 0 => ("TurnSchool", "program", "LTurnSchool$Program;", true)
  | 1 => ("TurnSchool", "machine", "LTurnSchool$Machine;", true)
  | 2 => ("TurnSchool", "truth", "LTurnSchool$Orders;", true)
  | 3 => ("TurnSchool", "scratch", "LTurnSchool$Orders;", true)
  | 4 => ("TurnSchool", "loops", "LTurnSchool$Loops;", true)
  | 5 => ("TurnSchool", "fixer", "LTurnSchool$Fixer;", true)
  | 6 => ("TurnSchool", "learner", "LTurnSchool$Learner;", true)
  | 7 => ("TurnSchool", "shelves", "[LTurnSchool$Held;", true)
  | 8 => ("TurnSchool", "sizes", "[I", true)
  | 9 => ("TurnSchool", "ends", "[J", true)
  | 10 => ("TurnSchool", "loopsKnown", "Z", false)
  | _ => ("TurnSchool", "run", "J", false)
def jt9 : Nat → FieldType := fun k => match k with
  | 0 => .object "TurnSchool$Program"
  | 1 => .object "TurnSchool$Machine"
  | 2 => .object "TurnSchool$Orders"
  | 3 => .object "TurnSchool$Orders"
  | 4 => .object "TurnSchool$Loops"
  | 5 => .object "TurnSchool$Fixer"
  | 6 => .object "TurnSchool$Learner"
  | 7 => .array (.object "TurnSchool$Held")
  | 8 => .array .int
  | 9 => .array .long
  | 10 => .boolean
  | _ => .long
def jd9 : List Value := [.null, .null, .null, .null, .null, .null, .null, .null, .null, .null, .int 0, .long 0]
def jT10 : u_T := fun k => match k with
  | 0 => ("TurnSchoolModel", "thrown", "I", false)
  | 1 => ("TurnSchoolModel", "hands", "I", false)
  | 2 => ("TurnSchoolModel", "many", "[I", true)
  | 3 => ("TurnSchoolModel", "kind", "[I", true)
  | 4 => ("TurnSchoolModel", "a", "[I", true)
  | 5 => ("TurnSchoolModel", "n", "[I", true)
  | 6 => ("TurnSchoolModel", "value", "[I", true)
  | 7 => ("TurnSchoolModel", "base", "I", false)
  | 8 => ("TurnSchoolModel", "now", "[I", true)
  | 9 => ("TurnSchoolModel", "next", "[I", true)
  | 10 => ("TurnSchoolModel", "run", "[I", true)
  | 11 => ("TurnSchoolModel", "state", "[I", true)
  | 12 => ("TurnSchoolModel", "cameFrom", "[I", true)
  | 13 => ("TurnSchoolModel", "cameBy", "[I", true)
  | 14 => ("TurnSchoolModel", "chain", "[I", true)
  | 15 => ("TurnSchoolModel", "steps", "[I", true)
  | 16 => ("TurnSchoolModel", "count", "[I", true)
  | 17 => ("TurnSchoolModel", "net", "[I", true)
  | 18 => ("TurnSchoolModel", "isTrueThere", "Z", false)
  | 19 => ("TurnSchoolModel", "known", "[I", true)
  | 20 => ("TurnSchoolModel", "statesOf", "[I", true)
  | 21 => ("TurnSchoolModel", "ends", "[I", true)
  | 22 => ("TurnSchoolModel", "isBack", "[Z", true)
  | 23 => ("TurnSchoolModel", "seenAt", "[I", true)
  | 24 => ("TurnSchoolModel", "lowest", "[I", true)
  | 25 => ("TurnSchoolModel", "path", "[I", true)
  | 26 => ("TurnSchoolModel", "stack", "[I", true)
  | 27 => ("TurnSchoolModel", "tried", "[I", true)
  | 28 => ("TurnSchoolModel", "isOn", "[Z", true)
  | 29 => ("TurnSchoolModel", "touched", "I", false)
  | 30 => ("TurnSchoolModel", "fixFrom", "[I", true)
  | 31 => ("TurnSchoolModel", "fixTo", "[I", true)
  | 32 => ("TurnSchoolModel", "isFixed", "Z", false)
  | 33 => ("TurnSchoolModel", "told", "[I", true)
  | 34 => ("TurnSchoolModel", "answers", "I", false)
  | 35 => ("TurnSchoolModel", "held", "[I", true)
  | 36 => ("TurnSchoolModel", "heldKind", "[I", true)
  | 37 => ("TurnSchoolModel", "heldLock", "[I", true)
  | 38 => ("TurnSchoolModel", "size", "[I", true)
  | 39 => ("TurnSchoolModel", "item", "[J", true)
  | _ => ("TurnSchoolModel", "aside", "[J", true)
def jt10 : Nat → FieldType := fun k => match k with
  | 0 => .int
  | 1 => .int
  | 2 => .array .int
  | 3 => .array .int
  | 4 => .array .int
  | 5 => .array .int
  | 6 => .array .int
  | 7 => .int
  | 8 => .array .int
  | 9 => .array .int
  | 10 => .array .int
  | 11 => .array .int
  | 12 => .array .int
  | 13 => .array .int
  | 14 => .array .int
  | 15 => .array .int
  | 16 => .array .int
  | 17 => .array .int
  | 18 => .boolean
  | 19 => .array .int
  | 20 => .array .int
  | 21 => .array .int
  | 22 => .array .boolean
  | 23 => .array .int
  | 24 => .array .int
  | 25 => .array .int
  | 26 => .array .int
  | 27 => .array .int
  | 28 => .array .boolean
  | 29 => .int
  | 30 => .array .int
  | 31 => .array .int
  | 32 => .boolean
  | 33 => .array .int
  | 34 => .int
  | 35 => .array .int
  | 36 => .array .int
  | 37 => .array .int
  | 38 => .array .int
  | 39 => .array .long
  | _ => .array .long
def jd10 : List Value := [.int 0, .int 0, .null, .null, .null, .null, .null, .int 0, .null, .null, .null, .null, .null, .null, .null, .null, .null, .null, .int 0, .null, .null, .null, .null, .null, .null, .null, .null, .null, .null, .int 0, .null, .null, .int 0, .null, .int 0, .null, .null, .null, .null, .null, .null]
def j_cl : List vw_C := [("TurnSchool$Fixer", jT0, 8), ("TurnSchool$Learner", jT1, 2), ("TurnSchool$LongRow", jT2, 1), ("TurnSchool$Loops", jT3, 10), ("TurnSchool$Machine", jT4, 2), ("TurnSchool$Orders", jT5, 11), ("TurnSchool$Program", jT6, 6), ("TurnSchool$ShortRow", jT7, 1), ("TurnSchool$Statement", jT8, 2), ("TurnSchool", jT9, 12), ("TurnSchoolModel", jT10, 41)]
def j_ft (ci k : Nat) : FieldType := match ci with
  | 0 => jt0 k
  | 1 => jt1 k
  | 2 => jt2 k
  | 3 => jt3 k
  | 4 => jt4 k
  | 5 => jt5 k
  | 6 => jt6 k
  | 7 => jt7 k
  | 8 => jt8 k
  | 9 => jt9 k
  | _ => jt10 k
def j_df (ci : Nat) : List Value := match ci with
  | 0 => jd0
  | 1 => jd1
  | 2 => jd2
  | 3 => jd3
  | 4 => jd4
  | 5 => jd5
  | 6 => jd6
  | 7 => jd7
  | 8 => jd8
  | 9 => jd9
  | 10 => jd10
  | _ => []
def j_SN : List (String × String) := [("TurnSchool", "OPERAND"), ("TurnSchool", "TOP"), ("TurnSchool$Fixer", "FROM"), ("TurnSchool$Fixer", "TO"), ("TurnSchool$Fixer", "WITHIN")]
def j_HN : String := "TurnSchool$Held"
def j_tbl : List Cond := lw_tbl.filter goodWord
def j_nst : List Cond := lw_tbl.filter pm_isN
def j_mem (i : Nat) (w : Cond) : Bool := decide (lw_tbl[i]? = some w) && goodWord w
def j_memN (i : Nat) (w : Cond) : Bool := decide (lw_tbl[i]? = some w) && pm_isN w
def j_HO : String := "TurnSchool"
theorem j_mem_ok (i : Nat) (w : Cond) (h : j_mem i w = true) : w ∈ j_tbl := by
  simp only [j_mem, Bool.and_eq_true, decide_eq_true_eq] at h
  exact List.mem_filter.mpr ⟨List.mem_of_getElem? h.1, h.2⟩
theorem j_memN_ok (i : Nat) (w : Cond) (h : j_memN i w = true) : w ∈ j_nst := by
  simp only [j_memN, Bool.and_eq_true, decide_eq_true_eq] at h
  exact List.mem_filter.mpr ⟨List.mem_of_getElem? h.1, h.2⟩
def jh0 : Nat → Nat := fun k => cond (Nat.ble k 177) (cond (Nat.ble k 83) (cond (Nat.ble k 37) (cond (Nat.ble k 20) (cond (Nat.ble k 11) (cond (Nat.ble k 8) (111) (cond (Nat.ble k 10) (114) (116))) (cond (Nat.ble k 15) (297) (cond (Nat.ble k 17) (146) (148)))) (cond (Nat.ble k 27) (cond (Nat.ble k 24) (298) (cond (Nat.ble k 26) (160) (162))) (cond (Nat.ble k 34) (cond (Nat.ble k 31) (299) (300)) (cond (Nat.ble k 36) (207) (209))))) (cond (Nat.ble k 57) (cond (Nat.ble k 46) (cond (Nat.ble k 41) (301) (cond (Nat.ble k 43) (245) (247))) (cond (Nat.ble k 52) (cond (Nat.ble k 50) (302) (282)) (cond (Nat.ble k 53) (284) (303)))) (cond (Nat.ble k 67) (cond (Nat.ble k 59) (295) (cond (Nat.ble k 63) (304) (305))) (cond (Nat.ble k 75) (cond (Nat.ble k 71) (306) (307)) (cond (Nat.ble k 79) (308) (338)))))) (cond (Nat.ble k 129) (cond (Nat.ble k 106) (cond (Nat.ble k 94) (cond (Nat.ble k 87) (342) (cond (Nat.ble k 90) (349) (371))) (cond (Nat.ble k 98) (375) (cond (Nat.ble k 102) (391) (395)))) (cond (Nat.ble k 116) (cond (Nat.ble k 109) (404) (cond (Nat.ble k 113) (378) (126))) (cond (Nat.ble k 123) (cond (Nat.ble k 119) (416) (420)) (cond (Nat.ble k 126) (424) (381))))) (cond (Nat.ble k 153) (cond (Nat.ble k 138) (cond (Nat.ble k 132) (428) (cond (Nat.ble k 135) (386) (432))) (cond (Nat.ble k 146) (cond (Nat.ble k 142) (358) (440)) (cond (Nat.ble k 149) (448) (483)))) (cond (Nat.ble k 165) (cond (Nat.ble k 159) (549) (cond (Nat.ble k 162) (550) (555))) (cond (Nat.ble k 171) (cond (Nat.ble k 168) (560) (561)) (cond (Nat.ble k 174) (562) (452))))))) (cond (Nat.ble k 267) (cond (Nat.ble k 221) (cond (Nat.ble k 196) (cond (Nat.ble k 186) (cond (Nat.ble k 180) (554) (cond (Nat.ble k 183) (559) (567))) (cond (Nat.ble k 190) (167) (cond (Nat.ble k 193) (627) (675)))) (cond (Nat.ble k 206) (cond (Nat.ble k 199) (679) (cond (Nat.ble k 202) (687) (696))) (cond (Nat.ble k 214) (cond (Nat.ble k 210) (704) (726)) (cond (Nat.ble k 217) (631) (636))))) (cond (Nat.ble k 244) (cond (Nat.ble k 231) (cond (Nat.ble k 224) (663) (cond (Nat.ble k 227) (154) (571))) (cond (Nat.ble k 236) (cond (Nat.ble k 234) (170) (175)) (cond (Nat.ble k 240) (733) (738)))) (cond (Nat.ble k 254) (cond (Nat.ble k 247) (256) (cond (Nat.ble k 250) (788) (797))) (cond (Nat.ble k 260) (cond (Nat.ble k 257) (802) (816)) (cond (Nat.ble k 263) (820) (828)))))) (cond (Nat.ble k 307) (cond (Nat.ble k 288) (cond (Nat.ble k 278) (cond (Nat.ble k 270) (837) (cond (Nat.ble k 274) (859) (880))) (cond (Nat.ble k 284) (cond (Nat.ble k 282) (896) (884)) (cond (Nat.ble k 286) (886) (900)))) (cond (Nat.ble k 296) (cond (Nat.ble k 289) (902) (cond (Nat.ble k 293) (1024) (1034))) (cond (Nat.ble k 302) (cond (Nat.ble k 299) (892) (908)) (cond (Nat.ble k 306) (943) (1041))))) (cond (Nat.ble k 331) (cond (Nat.ble k 318) (cond (Nat.ble k 310) (921) (cond (Nat.ble k 316) (924) (863))) (cond (Nat.ble k 325) (cond (Nat.ble k 321) (931) (940)) (cond (Nat.ble k 328) (944) (873)))) (cond (Nat.ble k 343) (cond (Nat.ble k 334) (865) (cond (Nat.ble k 337) (123) (353))) (cond (Nat.ble k 349) (cond (Nat.ble k 346) (258) (354)) (cond (Nat.ble k 352) (384) (389)))))))
def jh1 : Nat → Nat := fun k => cond (Nat.ble k 16) (cond (Nat.ble k 12) (514) (cond (Nat.ble k 14) (366) (493))) (cond (Nat.ble k 18) (524) (cond (Nat.ble k 20) (365) (609)))
def jh2 : Nat → Nat := fun k => cond (Nat.ble k 75) (cond (Nat.ble k 37) (cond (Nat.ble k 20) (cond (Nat.ble k 14) (cond (Nat.ble k 8) (250) (255)) (cond (Nat.ble k 17) (257) (cond (Nat.ble k 19) (251) (252)))) (cond (Nat.ble k 26) (cond (Nat.ble k 24) (261) (253)) (cond (Nat.ble k 29) (254) (cond (Nat.ble k 33) (262) (263))))) (cond (Nat.ble k 56) (cond (Nat.ble k 44) (cond (Nat.ble k 41) (264) (259)) (cond (Nat.ble k 48) (260) (cond (Nat.ble k 52) (121) (737)))) (cond (Nat.ble k 63) (cond (Nat.ble k 60) (792) (766)) (cond (Nat.ble k 66) (751) (cond (Nat.ble k 72) (742) (745)))))) (cond (Nat.ble k 108) (cond (Nat.ble k 90) (cond (Nat.ble k 83) (cond (Nat.ble k 79) (753) (779)) (cond (Nat.ble k 86) (749) (cond (Nat.ble k 88) (778) (782)))) (cond (Nat.ble k 96) (cond (Nat.ble k 92) (783) (757)) (cond (Nat.ble k 102) (776) (cond (Nat.ble k 105) (169) (172))))) (cond (Nat.ble k 125) (cond (Nat.ble k 114) (cond (Nat.ble k 110) (777) (174)) (cond (Nat.ble k 118) (761) (cond (Nat.ble k 121) (127) (762)))) (cond (Nat.ble k 136) (cond (Nat.ble k 129) (768) (cond (Nat.ble k 133) (769) (770))) (cond (Nat.ble k 139) (771) (cond (Nat.ble k 142) (772) (775))))))
def jh3 : Nat → Nat := fun k => 871
def jh4 : Nat → Nat := fun k => cond (Nat.ble k 25) (cond (Nat.ble k 14) (cond (Nat.ble k 8) (287) (288)) (cond (Nat.ble k 17) (289) (cond (Nat.ble k 19) (801) (806)))) (cond (Nat.ble k 36) (cond (Nat.ble k 28) (832) (cond (Nat.ble k 32) (841) (842))) (cond (Nat.ble k 40) (845) (cond (Nat.ble k 45) (846) (852))))
def jh5 : Nat → Nat := fun k => cond (Nat.ble k 6) (889) (cond (Nat.ble k 12) (890) (891))
def jh6 : Nat → Nat := fun k => cond (Nat.ble k 37) (cond (Nat.ble k 20) (cond (Nat.ble k 14) (cond (Nat.ble k 8) (212) (213)) (cond (Nat.ble k 17) (214) (215))) (cond (Nat.ble k 26) (cond (Nat.ble k 23) (216) (217)) (cond (Nat.ble k 30) (218) (cond (Nat.ble k 33) (219) (220))))) (cond (Nat.ble k 57) (cond (Nat.ble k 43) (cond (Nat.ble k 40) (221) (222)) (cond (Nat.ble k 47) (653) (cond (Nat.ble k 53) (640) (641)))) (cond (Nat.ble k 67) (cond (Nat.ble k 63) (645) (649)) (cond (Nat.ble k 70) (655) (cond (Nat.ble k 75) (654) (659)))))
def jh7 : Nat → Nat := fun k => cond (Nat.ble k 81) (cond (Nat.ble k 49) (cond (Nat.ble k 30) (cond (Nat.ble k 14) (cond (Nat.ble k 8) (151) (153)) (cond (Nat.ble k 18) (152) (cond (Nat.ble k 24) (125) (362)))) (cond (Nat.ble k 37) (cond (Nat.ble k 34) (456) (122)) (cond (Nat.ble k 41) (465) (cond (Nat.ble k 45) (460) (463))))) (cond (Nat.ble k 65) (cond (Nat.ble k 56) (cond (Nat.ble k 53) (464) (469)) (cond (Nat.ble k 59) (470) (cond (Nat.ble k 62) (473) (474)))) (cond (Nat.ble k 71) (cond (Nat.ble k 68) (477) (480)) (cond (Nat.ble k 75) (606) (cond (Nat.ble k 78) (487) (490)))))) (cond (Nat.ble k 113) (cond (Nat.ble k 97) (cond (Nat.ble k 87) (cond (Nat.ble k 84) (494) (500)) (cond (Nat.ble k 90) (503) (cond (Nat.ble k 94) (515) (518)))) (cond (Nat.ble k 103) (cond (Nat.ble k 100) (525) (528)) (cond (Nat.ble k 106) (531) (cond (Nat.ble k 109) (537) (541))))) (cond (Nat.ble k 130) (cond (Nat.ble k 119) (cond (Nat.ble k 116) (497) (507)) (cond (Nat.ble k 124) (508) (cond (Nat.ble k 127) (511) (521)))) (cond (Nat.ble k 136) (cond (Nat.ble k 133) (534) (708)) (cond (Nat.ble k 140) (713) (cond (Nat.ble k 144) (717) (712))))))
def jh8 : Nat → Nat := fun k => cond (Nat.ble k 57) (cond (Nat.ble k 33) (cond (Nat.ble k 18) (cond (Nat.ble k 8) (165) (cond (Nat.ble k 14) (166) (168))) (cond (Nat.ble k 25) (cond (Nat.ble k 21) (171) (173)) (cond (Nat.ble k 29) (176) (177)))) (cond (Nat.ble k 42) (cond (Nat.ble k 36) (178) (cond (Nat.ble k 39) (179) (180))) (cond (Nat.ble k 48) (cond (Nat.ble k 45) (181) (182)) (cond (Nat.ble k 51) (575) (579))))) (cond (Nat.ble k 85) (cond (Nat.ble k 69) (cond (Nat.ble k 61) (580) (cond (Nat.ble k 65) (589) (593))) (cond (Nat.ble k 78) (cond (Nat.ble k 74) (594) (597)) (cond (Nat.ble k 82) (601) (602)))) (cond (Nat.ble k 100) (cond (Nat.ble k 92) (cond (Nat.ble k 89) (610) (614)) (cond (Nat.ble k 96) (618) (622))) (cond (Nat.ble k 106) (cond (Nat.ble k 102) (584) (585)) (cond (Nat.ble k 110) (635) (691)))))
def jh9 : Nat → Nat := fun k => cond (Nat.ble k 21) (cond (Nat.ble k 14) (cond (Nat.ble k 8) (119) (120)) (cond (Nat.ble k 18) (124) (128))) (cond (Nat.ble k 27) (cond (Nat.ble k 24) (129) (130)) (cond (Nat.ble k 30) (131) (cond (Nat.ble k 36) (346) (399))))
def jh10 : Nat → Nat := fun k => cond (Nat.ble k 6) (905) (cond (Nat.ble k 12) (906) (907))
def jh11 : Nat → Nat := fun k => cond (Nat.ble k 17) (cond (Nat.ble k 8) (868) (cond (Nat.ble k 14) (874) (872))) (cond (Nat.ble k 21) (935) (cond (Nat.ble k 25) (948) (989)))
def jh12 : Nat → Nat := fun k => cond (Nat.ble k 77) (cond (Nat.ble k 43) (cond (Nat.ble k 24) (cond (Nat.ble k 16) (cond (Nat.ble k 12) (cond (Nat.ble k 7) (1020) (106)) (cond (Nat.ble k 14) (1018) (1019))) (cond (Nat.ble k 19) (cond (Nat.ble k 17) (108) (1046)) (cond (Nat.ble k 20) (1048) (334)))) (cond (Nat.ble k 33) (cond (Nat.ble k 29) (cond (Nat.ble k 25) (1185) (367)) (cond (Nat.ble k 30) (1197) (400))) (cond (Nat.ble k 38) (cond (Nat.ble k 34) (1221) (408)) (cond (Nat.ble k 39) (1225) (412))))) (cond (Nat.ble k 60) (cond (Nat.ble k 52) (cond (Nat.ble k 48) (cond (Nat.ble k 44) (1229) (436)) (cond (Nat.ble k 49) (1233) (444))) (cond (Nat.ble k 56) (cond (Nat.ble k 53) (1245) (545)) (cond (Nat.ble k 57) (1297) (563)))) (cond (Nat.ble k 68) (cond (Nat.ble k 64) (cond (Nat.ble k 61) (1301) (623)) (cond (Nat.ble k 65) (1337) (667))) (cond (Nat.ble k 72) (cond (Nat.ble k 69) (1353) (671)) (cond (Nat.ble k 73) (1357) (cond (Nat.ble k 76) (683) (1369))))))) (cond (Nat.ble k 110) (cond (Nat.ble k 93) (cond (Nat.ble k 85) (cond (Nat.ble k 81) (cond (Nat.ble k 80) (692) (1373)) (cond (Nat.ble k 84) (700) (1377))) (cond (Nat.ble k 89) (cond (Nat.ble k 88) (718) (1385)) (cond (Nat.ble k 92) (722) (1389)))) (cond (Nat.ble k 101) (cond (Nat.ble k 97) (cond (Nat.ble k 96) (729) (1393)) (cond (Nat.ble k 100) (784) (1421))) (cond (Nat.ble k 106) (cond (Nat.ble k 105) (793) (1425)) (cond (Nat.ble k 109) (812) (1429))))) (cond (Nat.ble k 126) (cond (Nat.ble k 118) (cond (Nat.ble k 114) (cond (Nat.ble k 113) (824) (1441)) (cond (Nat.ble k 117) (833) (1449))) (cond (Nat.ble k 122) (cond (Nat.ble k 121) (855) (1453)) (cond (Nat.ble k 125) (913) (1465)))) (cond (Nat.ble k 139) (cond (Nat.ble k 132) (cond (Nat.ble k 131) (1015) (1469)) (cond (Nat.ble k 135) (1042) (917))) (cond (Nat.ble k 143) (cond (Nat.ble k 140) (1473) (927)) (cond (Nat.ble k 144) (1477) (cond (Nat.ble k 147) (936) (1485)))))))
def jh13 : Nat → Nat := fun k => cond (Nat.ble k 147) (cond (Nat.ble k 75) (cond (Nat.ble k 40) (cond (Nat.ble k 22) (cond (Nat.ble k 12) (cond (Nat.ble k 6) (1061) (1051)) (cond (Nat.ble k 15) (1062) (cond (Nat.ble k 19) (1063) (1064)))) (cond (Nat.ble k 31) (cond (Nat.ble k 25) (1065) (cond (Nat.ble k 28) (1066) (1067))) (cond (Nat.ble k 34) (1068) (cond (Nat.ble k 37) (1069) (1070))))) (cond (Nat.ble k 56) (cond (Nat.ble k 47) (cond (Nat.ble k 43) (1071) (cond (Nat.ble k 44) (1052) (1072))) (cond (Nat.ble k 50) (1073) (cond (Nat.ble k 53) (1074) (1075)))) (cond (Nat.ble k 65) (cond (Nat.ble k 59) (1076) (cond (Nat.ble k 62) (1077) (1078))) (cond (Nat.ble k 69) (1079) (cond (Nat.ble k 72) (1080) (1081)))))) (cond (Nat.ble k 109) (cond (Nat.ble k 91) (cond (Nat.ble k 82) (cond (Nat.ble k 78) (1082) (1083)) (cond (Nat.ble k 85) (1084) (cond (Nat.ble k 88) (1085) (1086)))) (cond (Nat.ble k 100) (cond (Nat.ble k 94) (1087) (cond (Nat.ble k 97) (1088) (1089))) (cond (Nat.ble k 103) (1090) (cond (Nat.ble k 106) (1091) (1092))))) (cond (Nat.ble k 127) (cond (Nat.ble k 118) (cond (Nat.ble k 112) (1093) (cond (Nat.ble k 115) (1094) (1095))) (cond (Nat.ble k 121) (1096) (cond (Nat.ble k 124) (1097) (1098)))) (cond (Nat.ble k 137) (cond (Nat.ble k 130) (1099) (cond (Nat.ble k 134) (1100) (1101))) (cond (Nat.ble k 140) (1053) (cond (Nat.ble k 144) (1189) (1057))))))) (cond (Nat.ble k 225) (cond (Nat.ble k 184) (cond (Nat.ble k 163) (cond (Nat.ble k 154) (cond (Nat.ble k 150) (1193) (1201)) (cond (Nat.ble k 157) (1205) (cond (Nat.ble k 160) (1209) (1213)))) (cond (Nat.ble k 173) (cond (Nat.ble k 166) (1217) (cond (Nat.ble k 169) (1257) (1261))) (cond (Nat.ble k 176) (1265) (cond (Nat.ble k 180) (1269) (1253))))) (cond (Nat.ble k 205) (cond (Nat.ble k 195) (cond (Nat.ble k 188) (1289) (cond (Nat.ble k 192) (1277) (1281))) (cond (Nat.ble k 199) (1285) (cond (Nat.ble k 202) (1293) (1241)))) (cond (Nat.ble k 215) (cond (Nat.ble k 209) (1237) (cond (Nat.ble k 212) (1249) (1273))) (cond (Nat.ble k 218) (1317) (cond (Nat.ble k 222) (1313) (1321)))))) (cond (Nat.ble k 258) (cond (Nat.ble k 240) (cond (Nat.ble k 231) (cond (Nat.ble k 228) (1325) (1329)) (cond (Nat.ble k 234) (1333) (cond (Nat.ble k 237) (1309) (1305)))) (cond (Nat.ble k 249) (cond (Nat.ble k 243) (1349) (cond (Nat.ble k 246) (1341) (1345))) (cond (Nat.ble k 252) (1361) (cond (Nat.ble k 255) (1365) (1381))))) (cond (Nat.ble k 277) (cond (Nat.ble k 268) (cond (Nat.ble k 262) (1413) (cond (Nat.ble k 265) (1401) (1405))) (cond (Nat.ble k 271) (1397) (cond (Nat.ble k 274) (1409) (1417)))) (cond (Nat.ble k 286) (cond (Nat.ble k 280) (1433) (cond (Nat.ble k 283) (1437) (1445))) (cond (Nat.ble k 289) (1457) (cond (Nat.ble k 292) (1461) (1481)))))))
def jh14 : Nat → Nat := fun k => 998
def jh15 : Nat → Nat := fun k => 1037
def jh16 : Nat → Nat := fun k => 992
def jh17 : Nat → Nat := fun k => cond (Nat.ble k 265) (849) (cond (Nat.ble k 266) (850) (851))
def jh18 : Nat → Nat := fun k => cond (Nat.ble k 315) (809) (cond (Nat.ble k 317) (810) (811))
def jh19 : Nat → Nat := fun k => 995
def jh20 : Nat → Nat := fun k => cond (Nat.ble k 23) (cond (Nat.ble k 12) (cond (Nat.ble k 6) (973) (1003)) (cond (Nat.ble k 16) (974) (cond (Nat.ble k 19) (1004) (976)))) (cond (Nat.ble k 30) (cond (Nat.ble k 26) (1005) (978)) (cond (Nat.ble k 197) (1002) (cond (Nat.ble k 201) (969) (983))))
def jhN : Nat → Nat := fun _ => 0
