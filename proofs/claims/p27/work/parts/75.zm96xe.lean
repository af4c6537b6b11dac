/-! all orders of a program, by a picture: the states in the order they come -/
section XE
variable {P : PG} {pic : Nat}
theorem e_D_hi (s : Int64) (i : Nat) (hi : 21 ≤ i) : e_D s i = 0 := by
  have h1 : e_wid i = 0 := by
    unfold e_wid
    rw [List.getD_eq_getElem?_getD, List.getElem?_eq_none (by show 21 ≤ i; exact hi)]
    rfl
  unfold e_D e_fld
  rw [h1, Nat.pow_zero, Nat.mod_one]
def nrm (D : Nat → Nat) : Nat → Nat := fun i => if i < 21 then D i else 0
theorem is_nrm {t : Int64} {D : Nat → Nat} (h : e_is t D) : e_D t = nrm D := by
  funext i
  unfold nrm
  split
  · exact h i (by assumption)
  · exact e_D_hi t i (by omega)
/-- number of states, states, where each came from, by which hand, its followers, spent -/
abbrev XT : Type := Nat × (Nat → Nat → Nat) × (Nat → Int32) × (Nat → Int32) × (Nat → Int32) × Bool
def xN (X : XT) : Nat := X.1
def xS (X : XT) : Nat → Nat → Nat := X.2.1
def xF (X : XT) : Nat → Int32 := X.2.2.1
def xB (X : XT) : Nat → Int32 := X.2.2.2.1
def xL (X : XT) : Nat → Int32 := X.2.2.2.2.1
def xP (X : XT) : Bool := X.2.2.2.2.2
def nxD (P : PG) (pic : Nat) (D : Nat → Nat) (x : Nat) : Nat → Nat := nrm (mkD pic (aftD P pic D x) x)
def upS (st : Nat → Nat → Nat) (k : Nat) (D : Nat → Nat) : Nat → Nat → Nat := fun j => if j = k then D else st j
/-- what the new state is: one that is there, a new one, or one too many -/
noncomputable def xPut (X : XT) (i x : Nat) (D' : Nat → Nat) : XT :=
  @dite _ (∃ j, j < xN X ∧ xS X j = D') (Classical.propDecidable _) (fun h => (xN X, xS X, xF X, xB X, upd (xL X) (3 * i + x) (nI (Classical.choose h)), false))
    (fun _ => if xN X = 2000 then (xN X, xS X, xF X, xB X, xL X, true) else (xN X + 1, upS (xS X) (xN X) D', upd (xF X) (xN X) (nI i), upd (xB X) (xN X) (nI x), upd (xL X) (3 * i + x) (nI (xN X)), false))
noncomputable def xStep (P : PG) (pic : Nat) (X : XT) (i x : Nat) : XT := match xP X with
  | true => X
  | false => @ite _ (x < pH P ∧ mayP P pic (xS X i) x) (Classical.propDecidable _) (xPut X i x (nxD P pic (xS X i) x)) (xN X, xS X, xF X, xB X, upd (xL X) (3 * i + x) (-1), false)
noncomputable def xRow (P : PG) (pic : Nat) (X : XT) (i : Nat) : XT := xStep P pic (xStep P pic (xStep P pic X i 0) i 1) i 2
def x0 (P : PG) : XT := (1, fun _ => nrm (firD P), fun _ => -1, fun _ => -1, fun _ => -1, false)
noncomputable def xAll (P : PG) (pic : Nat) : Nat → XT
  | 0 => x0 P
  | i + 1 => if xN (xAll P pic i) ≤ i ∨ xP (xAll P pic i) = true then xAll P pic i else xRow P pic (xAll P pic i) i
theorem xS_t {X : XT} {i x : Nat} (h : xP X = true) : xStep P pic X i x = X := by
  unfold xStep
  rw [h]
theorem xS_n {X : XT} {i x : Nat} (h : xP X = false) (hm : ¬ (x < pH P ∧ mayP P pic (xS X i) x)) : xStep P pic X i x = (xN X, xS X, xF X, xB X, upd (xL X) (3 * i + x) (-1), false) := by
  unfold xStep
  rw [h]
  exact if_neg hm
theorem xS_y {X : XT} {i x : Nat} (h : xP X = false) (hm : x < pH P ∧ mayP P pic (xS X i) x) : xStep P pic X i x = xPut X i x (nxD P pic (xS X i) x) := by
  unfold xStep
  rw [h]
  exact if_pos hm
theorem xP_o {X : XT} {i x j : Nat} {D' : Nat → Nat} (hd : ∀ a b, a < xN X → b < xN X → xS X a = xS X b → a = b) (hj : j < xN X) (e : xS X j = D') : xPut X i x D' = (xN X, xS X, xF X, xB X, upd (xL X) (3 * i + x) (nI j), false) := by
  have h : ∃ j, j < xN X ∧ xS X j = D' := ⟨j, hj, e⟩
  have hc := Classical.choose_spec h
  have e2 : Classical.choose h = j := hd _ _ hc.1 hj (hc.2.trans e.symm)
  unfold xPut
  refine (dif_pos h).trans ?_
  rw [e2]
theorem xP_n {X : XT} {i x : Nat} {D' : Nat → Nat} (hn : ∀ j, j < xN X → xS X j ≠ D') (hN : xN X < 2000) : xPut X i x D' = (xN X + 1, upS (xS X) (xN X) D', upd (xF X) (xN X) (nI i), upd (xB X) (xN X) (nI x), upd (xL X) (3 * i + x) (nI (xN X)), false) := by
  unfold xPut
  exact (dif_neg (fun ⟨j, h1, h2⟩ => hn j h1 h2)).trans (if_neg (by omega))
theorem xP_f {X : XT} {i x : Nat} {D' : Nat → Nat} (hn : ∀ j, j < xN X → xS X j ≠ D') (hN : xN X = 2000) : xPut X i x D' = (xN X, xS X, xF X, xB X, xL X, true) := by
  unfold xPut
  exact (dif_neg (fun ⟨j, h1, h2⟩ => hn j h1 h2)).trans (if_pos hN)
theorem wfd_nrm {D : Nat → Nat} (hP : pH P ≤ 3) (h : WFD P pic D) : WFD P pic (nrm D) := by
  have e : ∀ i, i < 21 → nrm D i = D i := fun i hi => if_pos hi
  obtain ⟨a, b, c, d, f, g, k⟩ := h
  refine ⟨fun x hx => wfh_same (a x hx) (fun j hj => e _ (by omega)), fun j h1 h2 => by rw [e j (by omega)]; exact b j h1 h2, fun p hp => by rw [e _ (by omega)]; exact c p hp, fun l hl => by rw [e _ (by omega)]; exact d l hl, by rw [e _ (by omega)]; exact f, by rw [e _ (by omega)]; exact g, by rw [e _ (by omega)]; exact k⟩
/-- what holds of it all the way -/
def WX (P : PG) (pic : Nat) (X : XT) : Prop := 1 ≤ xN X ∧ xN X ≤ 2000 ∧ (∀ j, j < xN X → WFD P pic (xS X j)) ∧ ∀ a b, a < xN X → b < xN X → xS X a = xS X b → a = b
theorem wx_0 (hW : WFP P) : WX P pic (x0 P) := ⟨Nat.le_refl 1, by show 1 ≤ 2000; decide, fun j _ => wfd_nrm hW.2.1 (wf_fir hW), fun a b ha hb _ => by
  have ha' : a < 1 := ha
  have hb' : b < 1 := hb
  omega⟩
theorem wx_nx (hW : WFP P) {D : Nat → Nat} {x : Nat} (h : WFD P pic D) (hx : x < pH P) (ha : ableP P pic D x) : WFD P pic (nxD P pic D x) := wfd_nrm hW.2.1 (wf_mk hW.2.1 (wf_aft hW h hx ha) hx)
theorem wx_st (hW : WFP P) {X : XT} {i x : Nat} (h : WX P pic X) (hi : i < xN X) : WX P pic (xStep P pic X i x) ∧ xN X ≤ xN (xStep P pic X i x) ∧ ∀ j, j < xN X → xS (xStep P pic X i x) j = xS X j := by
  cases hp : xP X
  rotate_left
  · rw [xS_t hp]
    exact ⟨h, Nat.le_refl _, fun _ _ => rfl⟩
  by_cases hm : x < pH P ∧ mayP P pic (xS X i) x
  rotate_left
  · rw [xS_n hp hm]
    exact ⟨h, Nat.le_refl _, fun _ _ => rfl⟩
  rw [xS_y hp hm]
  by_cases hj : ∃ j, j < xN X ∧ xS X j = nxD P pic (xS X i) x
  · obtain ⟨j, h1, h2⟩ := hj
    rw [xP_o h.2.2.2 h1 h2]
    exact ⟨h, Nat.le_refl _, fun _ _ => rfl⟩
  · have hn : ∀ j, j < xN X → xS X j ≠ nxD P pic (xS X i) x := fun j h1 h2 => hj ⟨j, h1, h2⟩
    by_cases hN : xN X < 2000
    · rw [xP_n hn hN]
      have ot : ∀ j, j < xN X → upS (xS X) (xN X) (nxD P pic (xS X i) x) j = xS X j := fun j hj => if_neg (by omega)
      have at' : upS (xS X) (xN X) (nxD P pic (xS X i) x) (xN X) = nxD P pic (xS X i) x := if_pos rfl
      refine ⟨⟨by show 1 ≤ xN X + 1; omega, by show xN X + 1 ≤ 2000; omega, fun j hj => ?_, fun a b ha hb e => ?_⟩, by show xN X ≤ xN X + 1; omega, ot⟩
      · have hj' : j < xN X + 1 := hj
        show WFD P pic (upS (xS X) (xN X) (nxD P pic (xS X i) x) j)
        by_cases e : j = xN X
        · rw [e, at']
          exact wx_nx hW (h.2.2.1 i hi) hm.1 hm.2.1
        · rw [ot j (by omega)]
          exact h.2.2.1 j (by omega)
      · have ha' : a < xN X + 1 := ha
        have hb' : b < xN X + 1 := hb
        have e' : upS (xS X) (xN X) (nxD P pic (xS X i) x) a = upS (xS X) (xN X) (nxD P pic (xS X i) x) b := e
        by_cases ea : a = xN X
        · by_cases eb : b = xN X
          · omega
          · rw [ea, at', ot b (by omega)] at e'
            exact absurd e'.symm (hn b (by omega))
        · by_cases eb : b = xN X
          · rw [eb, at', ot a (by omega)] at e'
            exact absurd e' (hn a (by omega))
          · rw [ot a (by omega), ot b (by omega)] at e'
            exact h.2.2.2 a b (by omega) (by omega) e'
    · have h2000 : xN X = 2000 := by have := h.2.1; omega
      rw [xP_f hn h2000]
      exact ⟨h, Nat.le_refl _, fun _ _ => rfl⟩
end XE
