section XR
variable {p : Program} {l : Launch} {e : Env} {R : Room} {s : State} {m : MethodId} {args : Array Value} {below : List Frame} {meth : Method} {c : Code} {H : Heap} {locs : List Loc} {cells slots : Nat} {Q : State → Prop}
variable {cc : ByteArray} {pc : Nat} {ls : Array Slot} {rest : List Value} {D : va_G} {cl : List vw_C} {tc : Nat → ClassId} {HN : String} {z : Nat} {sa : Nat → Nat}
theorem x_nn {y : Int32} (hy : ¬ y < 0) : y.toInt = (y.toNatClampNeg : Int) := by
  have h0 : (0 : Int) ≤ y.toInt := by
    have := Int32.not_lt.mp hy
    simpa using Int32.le_iff_toInt_le.mp this
  show y.toInt = ((y.toInt.toNat : Nat) : Int)
  omega
theorem pm_cpl (hexec : p.tables.exec = Jvm.exec) (hb : c.code = cc) (hml : c.maxLocals = ls.size) {own : String} {index : Nat} (hown : s.vm.findClass own = some m.cls) (hlink : (Cond.methodLink own index arraycopyName).before args s = true) (hnat : (Cond.native arraycopyName).before args s = true) (hstat : (Cond.static arraycopyName).before args s = true) (hini : (Cond.initialized "java/lang/System").before args s = true)
    (hK : va_K D cl (pm_tys HN tc) s) {h : pm_H} (hJ : pm_J cl D tc z sa h H) (hS : va_S (pm_A z) s.heap H locs) {k0 k1 n0 n1 : Nat} {f g : Nat → Int64} (hk0 : h[k0]? = some (.inl (1, n0, .inr (.inl f)))) (hk1 : h[k1]? = some (.inl (1, n1, .inr (.inl g)))) {sp dp n : Int32} (hin : o_in sp dp n n0 n1)
    (hframes : 1 ≤ R.frames) (hlocals : (rest.map fun v => v.category).sum + 18 ≤ R.locals) (hdg : decode cc pc = .ok (.invokestatic index, 3))
    (kk : ∀ (H1 : Heap) (locs1 : List Loc), pm_J cl D tc z sa (h.set k1 (.inl (1, n1, .inr (.inl (va_cpy f g sp.toNatClampNeg dp.toNatClampNeg n.toNatClampNeg))))) H1 → va_S (pm_A z) s.heap H1 locs1 → W p l e R s m args below meth c H1 locs1 cells slots Q (F0 m (pc + 3) ls rest)) : W p l e R s m args below meth c H locs cells slots Q (F0 m pc ls (.int n :: .int dp :: .ref (z + k1) :: .int sp :: .ref (z + k0) :: rest)) := by
  obtain ⟨h1, h2, h3, h4, h5⟩ := hin
  intro T hT X
  have hc0 : H[z + k0]? = some (vp_cell (tc 1) (n0, .inr (.inl f))) := hJ.2 k0 _ hk0
  have hc1 : H[z + k1]? = some (vp_cell (tc 1) (n1, .inr (.inl g))) := hJ.2 k1 _ hk1
  obtain ⟨-, q0, hq0, cm0, hqk0⟩ := (hK.2 1 _ rfl).1 n0 (fun j => .long (f j))
  obtain ⟨-, q1, hq1, cm1, hqk1⟩ := (hK.2 1 _ rfl).1 n1 (fun j => .long (g j))
  have e7 : nativeFrameWords "java/lang/System" "arraycopy" 5 = 7 := by decide +kernel
  obtain ⟨vm', X', step⟩ := X.arraycopy hexec hown hlink hnat hstat hini (src := z + k0) (dst := z + k1) (cs := vp_cell (tc 1) (n0, .inr (.inl f))) (cd := vp_cell (tc 1) (n1, .inr (.inl g))) (srcPos := sp) (destPos := dp) (n := n) (by rw [hT]; exact hc0) (by rw [hT]; exact hc1)
    (fun _ h => by cases h) (fun _ h => by cases h) (fun h => by cases h) (fun h => by cases h) hq0 hq1 hqk0 hqk1 (by simp [refKind]) h1 h2 h3
    (by rw [x_nn h1, x_nn h3]; show ¬ _ > ((arrV (tc 1) n0 (fun j => .long (f j))).slots.size : Int); rw [arrV_size]; omega)
    (by rw [x_nn h2, x_nn h3]; show ¬ _ > ((arrV (tc 1) n1 (fun j => .long (g j))).slots.size : Int); rw [arrV_size]; omega)
    (fun vm₁ _ i hi => by
      have e : (vp_cell (tc 1) (n0, .inr (.inl f))).slots.getD (sp.toNatClampNeg + i) .null = .long (f (sp.toNatClampNeg + i)) := by
        show (arrV (tc 1) n0 (fun j => .long (f j))).slots.getD _ _ = _
        rw [Array.getD_eq_getD_getElem?, arrV_read _ _ (by omega)]
        rfl
      rw [e]
      exact ⟨rfl, trivial⟩)
    (g := F0 m pc ls (.int n :: .int dp :: .ref (z + k1) :: .int sp :: .ref (z + k0) :: rest)) rfl (by rw [hml]) (rest := rest) rfl (by rw [hb]; exact hdg) hframes (by show 2 * 0 + _ + (nativeFrameWords "java/lang/System" "arraycopy" 5 + 11) ≤ _; rw [e7]; omega)
  have e1 : copied (vp_cell (tc 1) (n0, .inr (.inl f))) (vp_cell (tc 1) (n1, .inr (.inl g))) sp dp n = vp_cell (tc 1) (n1, .inr (.inl (va_cpy f g sp.toNatClampNeg dp.toNatClampNeg n.toNatClampNeg))) := va_copied (fun z => .long z) (tc 1) (tc 1) f g h4
  rw [e1] at X' step
  have hl : z + k1 < H.size := (Array.getElem?_eq_some_iff.mp hc1).1
  have hheap : ((T.setVm vm').setCell (z + k1) (vp_cell (tc 1) (n1, .inr (.inl (va_cpy f g sp.toNatClampNeg dp.toNatClampNeg n.toNatClampNeg))))).heap = H.setIfInBounds (z + k1) (vp_cell (tc 1) (n1, .inr (.inl (va_cpy f g sp.toNatClampNeg dp.toNatClampNeg n.toNatClampNeg)))) := by rw [← hT]; rfl
  have oq : ∀ q : Nat, q ≠ z + k1 → (H.setIfInBounds (z + k1) (vp_cell (tc 1) (n1, .inr (.inl (va_cpy f g sp.toNatClampNeg dp.toNatClampNeg n.toNatClampNeg)))))[q]? = H[q]? := fun q hq => by simp [Array.getElem?_setIfInBounds, Ne.symm hq]
  obtain ⟨t, a1, b1⟩ := kk _ _ (pm_J_set hJ hk1 (by simp) oq (show (H.setIfInBounds (z + k1) _)[z + k1]? = some _ by simp [Array.getElem?_setIfInBounds, hl]; rfl)) ⟨by simp; exact hS.1, fun q g1 g2 => by
      rw [oq q (fun e => g2 (by rw [e]; exact Nat.le_add_right z k1))]
      exact hS.2.1 q g1 g2, fun q hq => by
      rcases List.mem_append.mp hq with h | h
      · exact hS.2.2 q h
      · obtain ⟨w, -, hw⟩ := List.mem_map.mp h
        rw [← hw]
        exact Nat.le_add_right z k1⟩ _ hheap X'
  exact ⟨t, step t a1, b1⟩
theorem pm_cps (hexec : p.tables.exec = Jvm.exec) (hb : c.code = cc) (hml : c.maxLocals = ls.size) {own : String} {index : Nat} (hown : s.vm.findClass own = some m.cls) (hlink : (Cond.methodLink own index arraycopyName).before args s = true) (hnat : (Cond.native arraycopyName).before args s = true) (hstat : (Cond.static arraycopyName).before args s = true) (hini : (Cond.initialized "java/lang/System").before args s = true)
    (hK : va_K D cl (pm_tys HN tc) s) {h : pm_H} (hJ : pm_J cl D tc z sa h H) (hS : va_S (pm_A z) s.heap H locs) {k0 k1 n0 n1 : Nat} {f g : Nat → Int32} (hk0 : h[k0]? = some (.inl (3, n0, .inl f))) (hk1 : h[k1]? = some (.inl (3, n1, .inl g))) {sp dp n : Int32} (hin : o_in sp dp n n0 n1) (hfit : ∀ j, j < n0 → fits .short (.int (f j)) = true)
    (hframes : 1 ≤ R.frames) (hlocals : (rest.map fun v => v.category).sum + 18 ≤ R.locals) (hdg : decode cc pc = .ok (.invokestatic index, 3))
    (kk : ∀ (H1 : Heap) (locs1 : List Loc), pm_J cl D tc z sa (h.set k1 (.inl (3, n1, .inl (va_cpy f g sp.toNatClampNeg dp.toNatClampNeg n.toNatClampNeg)))) H1 → va_S (pm_A z) s.heap H1 locs1 → W p l e R s m args below meth c H1 locs1 cells slots Q (F0 m (pc + 3) ls rest)) : W p l e R s m args below meth c H locs cells slots Q (F0 m pc ls (.int n :: .int dp :: .ref (z + k1) :: .int sp :: .ref (z + k0) :: rest)) := by
  obtain ⟨h1, h2, h3, h4, h5⟩ := hin
  intro T hT X
  have hc0 : H[z + k0]? = some (vp_cell (tc 3) (n0, .inl f)) := hJ.2 k0 _ hk0
  have hc1 : H[z + k1]? = some (vp_cell (tc 3) (n1, .inl g)) := hJ.2 k1 _ hk1
  obtain ⟨-, q0, hq0, cm0, hqk0⟩ := (hK.2 3 _ rfl).1 n0 (fun j => .int (f j))
  obtain ⟨-, q1, hq1, cm1, hqk1⟩ := (hK.2 3 _ rfl).1 n1 (fun j => .int (g j))
  have e7 : nativeFrameWords "java/lang/System" "arraycopy" 5 = 7 := by decide +kernel
  obtain ⟨vm', X', step⟩ := X.arraycopy hexec hown hlink hnat hstat hini (src := z + k0) (dst := z + k1) (cs := vp_cell (tc 3) (n0, .inl f)) (cd := vp_cell (tc 3) (n1, .inl g)) (srcPos := sp) (destPos := dp) (n := n) (by rw [hT]; exact hc0) (by rw [hT]; exact hc1)
    (fun _ h => by cases h) (fun _ h => by cases h) (fun h => by cases h) (fun h => by cases h) hq0 hq1 hqk0 hqk1 (by simp [refKind]) h1 h2 h3
    (by rw [x_nn h1, x_nn h3]; show ¬ _ > ((arrV (tc 3) n0 (fun j => .int (f j))).slots.size : Int); rw [arrV_size]; omega)
    (by rw [x_nn h2, x_nn h3]; show ¬ _ > ((arrV (tc 3) n1 (fun j => .int (g j))).slots.size : Int); rw [arrV_size]; omega)
    (fun vm₁ _ i hi => by
      have e : (vp_cell (tc 3) (n0, .inl f)).slots.getD (sp.toNatClampNeg + i) .null = .int (f (sp.toNatClampNeg + i)) := by
        show (arrV (tc 3) n0 (fun j => .int (f j))).slots.getD _ _ = _
        rw [Array.getD_eq_getD_getElem?, arrV_read _ _ (by omega)]
        rfl
      rw [e]
      exact ⟨hfit _ (by omega), trivial⟩)
    (g := F0 m pc ls (.int n :: .int dp :: .ref (z + k1) :: .int sp :: .ref (z + k0) :: rest)) rfl (by rw [hml]) (rest := rest) rfl (by rw [hb]; exact hdg) hframes (by show 2 * 0 + _ + (nativeFrameWords "java/lang/System" "arraycopy" 5 + 11) ≤ _; rw [e7]; omega)
  have e1 : copied (vp_cell (tc 3) (n0, .inl f)) (vp_cell (tc 3) (n1, .inl g)) sp dp n = vp_cell (tc 3) (n1, .inl (va_cpy f g sp.toNatClampNeg dp.toNatClampNeg n.toNatClampNeg)) := va_copied (fun z => .int z) (tc 3) (tc 3) f g h4
  rw [e1] at X' step
  have hl : z + k1 < H.size := (Array.getElem?_eq_some_iff.mp hc1).1
  have hheap : ((T.setVm vm').setCell (z + k1) (vp_cell (tc 3) (n1, .inl (va_cpy f g sp.toNatClampNeg dp.toNatClampNeg n.toNatClampNeg)))).heap = H.setIfInBounds (z + k1) (vp_cell (tc 3) (n1, .inl (va_cpy f g sp.toNatClampNeg dp.toNatClampNeg n.toNatClampNeg))) := by rw [← hT]; rfl
  have oq : ∀ q : Nat, q ≠ z + k1 → (H.setIfInBounds (z + k1) (vp_cell (tc 3) (n1, .inl (va_cpy f g sp.toNatClampNeg dp.toNatClampNeg n.toNatClampNeg))))[q]? = H[q]? := fun q hq => by simp [Array.getElem?_setIfInBounds, Ne.symm hq]
  obtain ⟨t, a1, b1⟩ := kk _ _ (pm_J_set hJ hk1 (by simp) oq (show (H.setIfInBounds (z + k1) _)[z + k1]? = some _ by simp [Array.getElem?_setIfInBounds, hl]; rfl)) ⟨by simp; exact hS.1, fun q g1 g2 => by
      rw [oq q (fun e => g2 (by rw [e]; exact Nat.le_add_right z k1))]
      exact hS.2.1 q g1 g2, fun q hq => by
      rcases List.mem_append.mp hq with h | h
      · exact hS.2.2 q h
      · obtain ⟨w, -, hw⟩ := List.mem_map.mp h
        rw [← hw]
        exact Nat.le_add_right z k1⟩ _ hheap X'
  exact ⟨t, step t a1, b1⟩
end XR
