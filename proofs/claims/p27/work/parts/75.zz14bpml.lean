/-! THE PURE MACHINE: lemmas on locals, stacks, heaps -/
theorem pm_tr_cat (z : Nat) (sa : Nat → Nat) (v : Value) : (pm_tr z sa v).category = v.category := by cases v <;> rfl
theorem pm_c2_cat {v : Value} (h : pm_c2 v = false) : v.category = 1 := by cases v <;> first | rfl | cases h
theorem pm_c2_ne {v : Value} (h : pm_c2 v = false) : ¬ v.category = 2 := by rw [pm_c2_cat h]; decide
theorem pm_c2_t {v : Value} (h : pm_c2 v = true) : v.category = 2 := by cases v <;> first | rfl | cases h
theorem pm_cat_tr (z : Nat) (sa : Nat → Nat) (st : List Value) : ((st.map (pm_tr z sa)).map fun v => v.category).sum = pm_cat st := by
  unfold pm_cat
  induction st with
  | nil => rfl
  | cons v t ih => simp only [List.map_cons, List.sum_cons, pm_tr_cat, ih]
theorem pm_bk_get {L : List Value} {k i : Nat} {v : Value} (h : (pm_bk L k)[i]? = some v) (hv : pm_isun v = false) : L[i]? = some v ∧ (i + 1 = k → pm_c2 v = false) := by
  cases k with
  | zero => exact ⟨h, fun e => by omega⟩
  | succ j =>
    unfold pm_bk at h
    cases hj : L[j]? with
    | none =>
      simp only [hj] at h
      exact ⟨h, fun e => by have e2 : i = j := by omega
                            subst e2
                            rw [hj] at h; cases h⟩
    | some w =>
      simp only [hj] at h
      cases hw : pm_c2 w with
      | false =>
        simp only [hw] at h
        exact ⟨h, fun e => by have e2 : i = j := by omega
                              subst e2
                              rw [hj] at h; cases h; exact hw⟩
      | true =>
        simp only [hw] at h
        rw [List.getElem?_set] at h
        by_cases hij : j = i
        · rw [if_pos hij] at h
          split at h
          · cases h; cases hv
          · cases h
        · rw [if_neg hij] at h
          exact ⟨h, fun e => absurd (by omega) hij⟩
section PML
variable {z : Nat} {sa : Nat → Nat} {ls : Array Slot} {nL : Nat} {L : List Value}
theorem pm_Lv_at (hL : pm_Lv z sa ls nL L) {i : Nat} {v : Value} (h : L[i]? = some v) (hv : pm_isun v = false) : ls[i]? = some (.val (pm_tr z sa v)) := by
  obtain ⟨lv, h1, h2⟩ := hL
  exact h1.2.2 _ (h2 i v h hv)
theorem pm_Lv_size (hL : pm_Lv z sa ls nL L) : ls.size = nL := by
  obtain ⟨lv, h1, -⟩ := hL
  exact h1.1
theorem pm_Lv_s1 {lv : List (Nat × Value)} (hm : ∀ (i : Nat) (v : Value), L[i]? = some v → pm_isun v = false → (i, pm_tr z sa v) ∈ lv) {ls' : Array Slot} {k : Nat} {w : Value}
    (h' : lv_has ls' nL ((k, pm_tr z sa w) :: lv.filter (fun q => !(q.1 == k) && !(q.1 + 1 == k && q.2.category == 2)))) : pm_Lv z sa ls' nL (pm_s1 L k w) := by
  refine ⟨_, h', fun i v hi hv => ?_⟩
  unfold pm_s1 at hi
  rw [List.getElem?_set] at hi
  by_cases hik : k = i
  · rw [if_pos hik] at hi
    split at hi
    · cases hi; subst hik; exact List.mem_cons_self
    · cases hi
  · rw [if_neg hik] at hi
    obtain ⟨h1, h2⟩ := pm_bk_get hi hv
    refine List.mem_cons_of_mem _ (List.mem_filter.mpr ⟨hm i v h1 hv, ?_⟩)
    have e1 : (i == k) = false := by rw [beq_eq_false_iff_ne]; exact fun e => hik e.symm
    by_cases hk : i + 1 = k
    · have e2 : ((pm_tr z sa v).category == 2) = false := by rw [beq_eq_false_iff_ne, pm_tr_cat]; exact pm_c2_ne (h2 hk)
      simp only [e1, e2, Bool.and_false, Bool.not_false, Bool.and_self]
    · have e2 : (i + 1 == k) = false := by rw [beq_eq_false_iff_ne]; exact hk
      simp only [e1, e2, Bool.false_and, Bool.not_false, Bool.and_self]
theorem pm_Lv_s2 {lv : List (Nat × Value)} (hm : ∀ (i : Nat) (v : Value), L[i]? = some v → pm_isun v = false → (i, pm_tr z sa v) ∈ lv) {ls' : Array Slot} {k : Nat} {w : Value}
    (h' : lv_has ls' nL ((k, pm_tr z sa w) :: lv.filter (fun q => !(q.1 == k) && (!(q.1 == k + 1) && !(q.1 + 1 == k && q.2.category == 2))))) : pm_Lv z sa ls' nL (pm_s2 L k w) := by
  refine ⟨_, h', fun i v hi hv => ?_⟩
  unfold pm_s2 at hi
  rw [List.getElem?_set] at hi
  by_cases hik1 : k + 1 = i
  · rw [if_pos hik1] at hi
    split at hi
    · cases hi; cases hv
    · cases hi
  · rw [if_neg hik1, List.getElem?_set] at hi
    by_cases hik : k = i
    · rw [if_pos hik] at hi
      split at hi
      · cases hi; subst hik; exact List.mem_cons_self
      · cases hi
    · rw [if_neg hik] at hi
      obtain ⟨h1, h2⟩ := pm_bk_get hi hv
      refine List.mem_cons_of_mem _ (List.mem_filter.mpr ⟨hm i v h1 hv, ?_⟩)
      have e1 : (i == k) = false := by rw [beq_eq_false_iff_ne]; exact fun e => hik e.symm
      have e3 : (i == k + 1) = false := by rw [beq_eq_false_iff_ne]; exact fun e => hik1 e.symm
      by_cases hk : i + 1 = k
      · have e2 : ((pm_tr z sa v).category == 2) = false := by rw [beq_eq_false_iff_ne, pm_tr_cat]; exact pm_c2_ne (h2 hk)
        simp only [e1, e2, e3, Bool.and_false, Bool.not_false, Bool.and_self]
      · have e2 : (i + 1 == k) = false := by rw [beq_eq_false_iff_ne]; exact hk
        simp only [e1, e2, e3, Bool.false_and, Bool.not_false, Bool.and_self]
end PML
def pm_fl (as : List Value) : List Value := as.flatMap (fun v => match pm_c2 v with
    | true => [v, pm_un]
    | false => [v])
theorem pm_en_eq (n : Nat) (as : List Value) : pm_en n as = pm_fl as ++ List.replicate (n - (pm_fl as).length) pm_un := rfl
theorem pm_fl_cons (v : Value) (as : List Value) : pm_fl (v :: as) = (match pm_c2 v with
    | true => [v, pm_un]
    | false => [v]) ++ pm_fl as := rfl
theorem pm_fl_in (z : Nat) (sa : Nat → Nat) : ∀ (as : List Value) (off i : Nat) (v : Value), (pm_fl as)[i]? = some v → pm_isun v = false → (off + i, pm_tr z sa v) ∈ lv_args off (as.map (pm_tr z sa))
  | [], off, i, v, h, _ => by cases h
  | a :: as, off, i, v, h, hv => by
    rw [pm_fl_cons] at h
    simp only [List.map_cons, lv_args, pm_tr_cat]
    cases ha : pm_c2 a with
    | true =>
      rw [ha] at h
      rw [if_pos (pm_c2_t ha)]
      match i, h with
      | 0, h => cases h; exact List.mem_cons_self
      | 1, h => cases h; cases hv
      | j + 2, h =>
        have := pm_fl_in z sa as (off + 2) j v h hv
        rw [show off + (j + 2) = off + 2 + j by omega]
        exact List.mem_cons_of_mem _ this
    | false =>
      rw [ha] at h
      rw [if_neg (pm_c2_ne ha)]
      match i, h with
      | 0, h => cases h; exact List.mem_cons_self
      | j + 1, h =>
        have := pm_fl_in z sa as (off + 1) j v h hv
        rw [show off + (j + 1) = off + 1 + j by omega]
        exact List.mem_cons_of_mem _ this
theorem pm_sl_len (z : Nat) (sa : Nat → Nat) : ∀ as : List Value, (lg_sl (as.map (pm_tr z sa))).length = pm_cat as
  | [] => rfl
  | a :: as => by
    have ih := pm_sl_len z sa as
    have e1 : lg_sl ((a :: as).map (pm_tr z sa)) = (if (pm_tr z sa a).category = 2 then [Slot.val (pm_tr z sa a), .second] else [.val (pm_tr z sa a)]) ++ lg_sl (as.map (pm_tr z sa)) := rfl
    have e2 : pm_cat (a :: as) = a.category + pm_cat as := by simp [pm_cat]
    rw [e1, e2, List.length_append, ih, pm_tr_cat]
    cases ha : pm_c2 a with
    | true => rw [if_pos (pm_c2_t ha), pm_c2_t ha]; rfl
    | false => rw [if_neg (pm_c2_ne ha), pm_c2_cat ha]; rfl
theorem pm_Lv_en (z : Nat) (sa : Nat → Nat) (as : List Value) {n : Nat} (h : pm_cat as ≤ n) : pm_Lv z sa ((lg_sl (as.map (pm_tr z sa)) ++ List.replicate (n - (lg_sl (as.map (pm_tr z sa))).length) Slot.unset).toArray) n (pm_en n as) := by
  refine ⟨_, lv_entry (as.map (pm_tr z sa)) (by rw [pm_sl_len]; exact h), fun i v hi hv => ?_⟩
  rw [pm_en_eq] at hi
  rcases Nat.lt_or_ge i (pm_fl as).length with hl | hl
  · rw [List.getElem?_append_left hl] at hi
    have := pm_fl_in z sa as 0 i v hi hv
    rwa [Nat.zero_add] at this
  · rw [List.getElem?_append_right hl] at hi
    have h2 := List.mem_of_getElem? hi
    rw [(List.mem_replicate.mp h2).2] at hv
    cases hv
theorem pm_take (z : Nat) (sa : Nat → Nat) {st : List Value} {n : Nat} {w : Value} (h : st[n]? = some w) : st.map (pm_tr z sa) = (((st.take n).reverse).map (pm_tr z sa)).reverse ++ pm_tr z sa w :: (st.drop (n + 1)).map (pm_tr z sa) := by
  have hl := (List.getElem?_eq_some_iff.mp h).1
  have e : st = st.take n ++ w :: st.drop (n + 1) := by
    have h2 : st.drop n = w :: st.drop (n + 1) := by
      rw [List.drop_eq_getElem_cons hl]
      congr 1
      exact (List.getElem?_eq_some_iff.mp h).2
    rw [← h2, List.take_append_drop]
  conv => lhs; rw [e]
  simp [List.map_reverse]
theorem pm_takeS (z : Nat) (sa : Nat → Nat) (st : List Value) (n : Nat) : st.map (pm_tr z sa) = (((st.take n).reverse).map (pm_tr z sa)).reverse ++ (st.drop n).map (pm_tr z sa) := by
  conv => lhs; rw [← List.take_append_drop n st]
  simp [List.map_reverse]
theorem pm_V_tr (z : Nat) (sa : Nat → Nat) (fs : List Value) {k : Nat} {v : Value} (h : fs[k]? = some v) : (fs.map (pm_tr z sa))[k]? = some (pm_tr z sa v) := by rw [List.getElem?_map, h]; rfl
theorem pm_nx_some {pc len : Nat} {L : List Value} {h : pm_H} {c s : Nat} {o' : Option (List Value)} {o : pm_O} (e : pm_nx pc len L h c s o' = some o) : ∃ st', o' = some st' ∧ o = .inl ([], (pc + len, L, st', h, c, s)) := by
  cases o' with
  | none => cases e
  | some st' => cases e; exact ⟨st', rfl, rfl⟩
theorem pm_i2_some {st st' : List Value} {f : Int32 → Int32 → Int32} (e : pm_i2 st f = some st') : ∃ x y r, st = .int y :: .int x :: r ∧ st' = .int (f x y) :: r := by
  unfold pm_i2 at e
  split at e
  · cases e; exact ⟨_, _, _, rfl, rfl⟩
  · cases e
theorem pm_i1_some {st st' : List Value} {f : Int32 → Value} (e : pm_i1 st f = some st') : ∃ x r, st = .int x :: r ∧ st' = f x :: r := by
  unfold pm_i1 at e
  split at e
  · cases e; exact ⟨_, _, rfl, rfl⟩
  · cases e
theorem pm_l2_some {st st' : List Value} {f : Int64 → Int64 → Value} (e : pm_l2 st f = some st') : ∃ x y r, st = .long y :: .long x :: r ∧ st' = f x y :: r := by
  unfold pm_l2 at e
  split at e
  · cases e; exact ⟨_, _, _, rfl, rfl⟩
  · cases e
theorem pm_li_some {st st' : List Value} {f : Int64 → Int32 → Int64} (e : pm_li st f = some st') : ∃ x y r, st = .int y :: .long x :: r ∧ st' = .long (f x y) :: r := by
  unfold pm_li at e
  split at e
  · cases e; exact ⟨_, _, _, rfl, rfl⟩
  · cases e
theorem pm_ar_some {h : pm_H} {t k : Nat} {a : vp_A} (e : pm_ar h t k = some a) : h[k]? = some (.inl (t, a)) := by
  unfold pm_ar at e
  split at e
  · rename_i t' a' hk
    split at e
    · rename_i hb
      cases e
      rw [hk, Nat.eq_of_beq_eq_true hb]
    · cases e
  · cases e
theorem pm_ob_some {h : pm_H} {ci k : Nat} {fs : List Value} (e : pm_ob h ci k = some fs) : h[k]? = some (.inr (ci, fs)) := by
  unfold pm_ob at e
  split at e
  · rename_i t' a' hk
    split at e
    · rename_i hb
      cases e
      rw [hk, Nat.eq_of_beq_eq_true hb]
    · cases e
  · cases e
section PMJ
variable {cl : List vw_C} {D : va_G} {tc : Nat → ClassId} {z : Nat} {sa : Nat → Nat}
theorem pm_at_kept {k : Nat} {x : pm_E} {H H1 : Heap} (h : pm_at cl D tc z sa k x H) (e : H1[z + k]? = H[z + k]?) : pm_at cl D tc z sa k x H1 := by
  cases x with
  | inl a => exact e.trans h
  | inr o => exact fun r hr => (h r hr).kept e
theorem pm_J_lt {h : pm_H} {H : Heap} (hJ : pm_J cl D tc z sa h H) {k : Nat} {x : pm_E} (hk : h[k]? = some x) : z + k < H.size := by
  have := (List.getElem?_eq_some_iff.mp hk).1
  rw [hJ.1]; omega
theorem pm_J_set {h : pm_H} {H H1 : Heap} (hJ : pm_J cl D tc z sa h H) {k : Nat} {x x0 : pm_E} (hk : h[k]? = some x0) (hz : H1.size = H.size) (ho : ∀ q : Nat, q ≠ z + k → H1[q]? = H[q]?) (hx : pm_at cl D tc z sa k x H1) : pm_J cl D tc z sa (h.set k x) H1 := by
  refine ⟨by rw [hz, hJ.1, List.length_set], fun j y hj => ?_⟩
  rw [List.getElem?_set] at hj
  by_cases hjk : k = j
  · rw [if_pos hjk] at hj
    split at hj
    · cases hj; subst hjk; exact hx
    · cases hj
  · rw [if_neg hjk] at hj
    exact pm_at_kept (hJ.2 j y hj) (ho _ (by omega))
theorem pm_J_push {h : pm_H} {H H1 : Heap} (hJ : pm_J cl D tc z sa h H) {x : pm_E} (hz : H1.size = H.size + 1) (ho : ∀ q : Nat, q < H.size → H1[q]? = H[q]?) (hx : pm_at cl D tc z sa h.length x H1) : pm_J cl D tc z sa (h ++ [x]) H1 := by
  refine ⟨by rw [hz, hJ.1, List.length_append]; simp; omega, fun j y hj => ?_⟩
  rcases Nat.lt_or_ge j h.length with hl | hl
  · rw [List.getElem?_append_left hl] at hj
    exact pm_at_kept (hJ.2 j y hj) (ho _ (pm_J_lt hJ hj))
  · rw [List.getElem?_append_right hl] at hj
    have h0 : j - h.length < 1 := (List.getElem?_eq_some_iff.mp hj).1
    have e : j = h.length := by omega
    subst e
    rw [Nat.sub_self] at hj
    cases hj
    exact hx
theorem pm_P1 {k : Nat} {t : Nat} {a : vp_A} {H : Heap} (h : pm_at cl D tc z sa k (.inl (t, a)) H) : va_P D cl [(z + k, .inl (tc t, a.1, pm_ta z a.2))] H := by
  intro i q hi
  match i, hi with
  | 0, hi => cases hi; exact h
  | i + 1, hi => simp at hi
theorem pm_P1o {k : Nat} {ci : Nat} {fs : List Value} {H : Heap} {r : vw_C} (hr : cl[ci]? = some r) (h : pm_at cl D tc z sa k (.inr (ci, fs)) H) : va_P D cl [(z + k, .inr (ci, fs.map (pm_tr z sa)))] H := by
  intro i q hi
  match i, hi with
  | 0, hi => cases hi; exact ⟨r, hr, h r hr⟩
  | i + 1, hi => simp at hi
theorem pm_S_new {s : State} {H H1 : Heap} {locs : List Loc} (hS : va_S (pm_A z) s.heap H locs) (hz : H1.size = H.size + 1) (ho : ∀ q : Nat, q < H.size → H1[q]? = H[q]?) : va_S (pm_A z) s.heap H1 locs :=
  ⟨by rw [hz]; exact Nat.le_succ_of_le hS.1, fun q h1 h2 => (ho q (Nat.lt_of_lt_of_le h1 hS.1)).trans (hS.2.1 q h1 h2), hS.2.2⟩
end PMJ
