/-! THE PURE MACHINE AND THE REAL ONE: heap rows -/
theorem pm_b01 {x : Int32} (h : pm_all [decide (x = 0) || decide (x = 1)]) : x = 0 ∨ x = 1 := by
  have h : (decide (x = 0) || decide (x = 1)) = true := h
  simpa only [Bool.or_eq_true, decide_eq_true_eq] using h
theorem pm_in_ok {i : Int32} {n : Nat} (h : pm_inb i n = true) : vp_in i n := by
  unfold pm_inb at h
  rw [Bool.and_eq_true] at h
  have h1 : ¬ i < 0 := fun q => by rw [decide_eq_true q] at h; exact absurd h.1 (by decide)
  have h2 := Nat.le_of_ble_eq_true h.2
  exact fun q => q.elim h1 (fun q => by omega)
theorem pm_n0 {p : Prop} [Decidable p] (h : (!(decide p)) = true) : ¬ p := fun q => by rw [decide_eq_true q] at h; exact absurd h (by decide)
section PMH
variable {p : Program} {l : Launch} {e : Env} {R : Room} {s : State} {m : MethodId} {args : Array Value} {below : List Frame} {meth : Method} {c : Code} {H : Heap} {locs : List Loc} {cells slots : Nat} {Q : State → Prop}
variable {cc : ByteArray} {pc : Nat} {ls : Array Slot} {rest : List Value}
variable {cl : List vw_C} {D : va_G} {tc : Nat → ClassId} {z : Nat} {sa : Nat → Nat} {HN : String}
theorem pm_iast (hexec : p.tables.exec = Jvm.exec) (hb : c.code = cc) (hK : va_K D cl (pm_tys HN tc) s) {h : pm_H} (hJ : pm_J cl D tc z sa h H) (hS : va_S (pm_A z) s.heap H locs) {k n : Nat} {f : Nat → Int32} (hk : h[k]? = some (.inl (0, n, .inl f))) {i x : Int32} (hin : vp_in i n) (hdg : decode cc pc = .ok (.iastore, 1))
    (kk : ∀ (H1 : Heap) (locs1 : List Loc), pm_J cl D tc z sa (h.set k (.inl (0, n, .inl (upd f i.toNatClampNeg x)))) H1 → va_S (pm_A z) s.heap H1 locs1 → W p l e R s m args below meth c H1 locs1 cells slots Q (F0 m (pc + 1) ls rest)) : W p l e R s m args below meth c H locs cells slots Q (F0 m pc ls (.int x :: .int i :: .ref (z + k) :: rest)) := by
  have ha : H[z + k]? = some (vp_cell (tc 0) (n, .inl f)) := hJ.2 k _ hk
  refine W.iast hexec hb ha ((hK.2 0 _ rfl).1 n (fun j => .int (f j))) (fun q => by cases q) (by show ¬ (i < 0 ∨ (arrV _ _ _).slots.size ≤ _); rw [arrV_size]; exact hin) rfl rfl hdg fun H1 e z1 oq => ?_
  refine kk H1 _ (pm_J_set hJ hk z1 oq ?_) (hS.put z1 oq (Nat.le_add_right z k))
  show H1[z + k]? = some (vp_cell _ _)
  rw [e]
  show some (Cell.setSlot (vp_cell (tc 0) (n, .inl f)) _ _) = some (vp_cell (tc 0) (n, .inl _))
  rw [vp_cell_i, vp_cell_i, arrV_store]
  congr 2
  funext q
  by_cases hq : q = i.toNatClampNeg
  · subst hq
    simp [updV, upd]
  · simp [updV, upd, hq]
theorem pm_zast (hexec : p.tables.exec = Jvm.exec) (hb : c.code = cc) (hK : va_K D cl (pm_tys HN tc) s) {h : pm_H} (hJ : pm_J cl D tc z sa h H) (hS : va_S (pm_A z) s.heap H locs) {k n : Nat} {f : Nat → Int32} (hk : h[k]? = some (.inl (2, n, .inl f))) {i x : Int32} (hin : vp_in i n) (hdg : decode cc pc = .ok (.bastore, 1))
    (kk : ∀ (H1 : Heap) (locs1 : List Loc), pm_J cl D tc z sa (h.set k (.inl (2, n, .inl (upd f i.toNatClampNeg (vp_nar .boolean x))))) H1 → va_S (pm_A z) s.heap H1 locs1 → W p l e R s m args below meth c H1 locs1 cells slots Q (F0 m (pc + 1) ls rest)) : W p l e R s m args below meth c H locs cells slots Q (F0 m pc ls (.int x :: .int i :: .ref (z + k) :: rest)) := by
  have ha : H[z + k]? = some (vp_cell (tc 2) (n, .inl f)) := hJ.2 k _ hk
  refine W.zast hexec hb ha ((hK.2 2 _ rfl).1 n (fun j => .int (f j))) (fun q => by cases q) (by show ¬ (i < 0 ∨ (arrV _ _ _).slots.size ≤ _); rw [arrV_size]; exact hin) rfl rfl hdg fun H1 e z1 oq => ?_
  refine kk H1 _ (pm_J_set hJ hk z1 oq ?_) (hS.put z1 oq (Nat.le_add_right z k))
  show H1[z + k]? = some (vp_cell _ _)
  rw [e]
  show some (Cell.setSlot (vp_cell (tc 2) (n, .inl f)) _ _) = some (vp_cell (tc 2) (n, .inl _))
  rw [vp_cell_i, vp_cell_i, arrV_store]
  congr 2
  funext q
  by_cases hq : q = i.toNatClampNeg
  · subst hq
    simp [updV, upd, vp_nar]
    try rfl
  · simp [updV, upd, hq]
theorem pm_sast (hexec : p.tables.exec = Jvm.exec) (hb : c.code = cc) (hK : va_K D cl (pm_tys HN tc) s) {h : pm_H} (hJ : pm_J cl D tc z sa h H) (hS : va_S (pm_A z) s.heap H locs) {k n : Nat} {f : Nat → Int32} (hk : h[k]? = some (.inl (3, n, .inl f))) {i x : Int32} (hin : vp_in i n) (hdg : decode cc pc = .ok (.sastore, 1))
    (kk : ∀ (H1 : Heap) (locs1 : List Loc), pm_J cl D tc z sa (h.set k (.inl (3, n, .inl (upd f i.toNatClampNeg (vp_nar .short x))))) H1 → va_S (pm_A z) s.heap H1 locs1 → W p l e R s m args below meth c H1 locs1 cells slots Q (F0 m (pc + 1) ls rest)) : W p l e R s m args below meth c H locs cells slots Q (F0 m pc ls (.int x :: .int i :: .ref (z + k) :: rest)) := by
  have ha : H[z + k]? = some (vp_cell (tc 3) (n, .inl f)) := hJ.2 k _ hk
  refine W.sast hexec hb ha ((hK.2 3 _ rfl).1 n (fun j => .int (f j))) (fun q => by cases q) (by show ¬ (i < 0 ∨ (arrV _ _ _).slots.size ≤ _); rw [arrV_size]; exact hin) rfl rfl hdg fun H1 e z1 oq => ?_
  refine kk H1 _ (pm_J_set hJ hk z1 oq ?_) (hS.put z1 oq (Nat.le_add_right z k))
  show H1[z + k]? = some (vp_cell _ _)
  rw [e]
  show some (Cell.setSlot (vp_cell (tc 3) (n, .inl f)) _ _) = some (vp_cell (tc 3) (n, .inl _))
  rw [vp_cell_i, vp_cell_i, arrV_store]
  congr 2
  funext q
  by_cases hq : q = i.toNatClampNeg
  · subst hq
    simp [updV, upd, vp_nar]
    try rfl
  · simp [updV, upd, hq]
theorem pm_last (hexec : p.tables.exec = Jvm.exec) (hb : c.code = cc) (hK : va_K D cl (pm_tys HN tc) s) {h : pm_H} (hJ : pm_J cl D tc z sa h H) (hS : va_S (pm_A z) s.heap H locs) {k n : Nat} {f : Nat → Int64} (hk : h[k]? = some (.inl (1, n, .inr (.inl f)))) {i : Int32} {x : Int64} (hin : vp_in i n) (hdg : decode cc pc = .ok (.lastore, 1))
    (kk : ∀ (H1 : Heap) (locs1 : List Loc), pm_J cl D tc z sa (h.set k (.inl (1, n, .inr (.inl (vp_updL f i.toNatClampNeg x))))) H1 → va_S (pm_A z) s.heap H1 locs1 → W p l e R s m args below meth c H1 locs1 cells slots Q (F0 m (pc + 1) ls rest)) : W p l e R s m args below meth c H locs cells slots Q (F0 m pc ls (.long x :: .int i :: .ref (z + k) :: rest)) := by
  have ha : H[z + k]? = some (vp_cell (tc 1) (n, .inr (.inl f))) := hJ.2 k _ hk
  refine W.last hexec hb ha ((hK.2 1 _ rfl).1 n (fun j => .long (f j))) (fun q => by cases q) (by show ¬ (i < 0 ∨ (arrV _ _ _).slots.size ≤ _); rw [arrV_size]; exact hin) rfl rfl hdg fun H1 e z1 oq => ?_
  refine kk H1 _ (pm_J_set hJ hk z1 oq ?_) (hS.put z1 oq (Nat.le_add_right z k))
  show H1[z + k]? = some (vp_cell _ _)
  rw [e]
  show some (Cell.setSlot (vp_cell (tc 1) (n, .inr (.inl f))) _ _) = some (vp_cell (tc 1) (n, .inr (.inl _)))
  rw [vp_cell_l, vp_cell_l, arrV_store]
  congr 2
  funext q
  by_cases hq : q = i.toNatClampNeg
  · subst hq
    simp [updV, vp_updL]
  · simp [updV, vp_updL, hq]
theorem pm_aastN (hexec : p.tables.exec = Jvm.exec) (hb : c.code = cc) (hK : va_K D cl (pm_tys HN tc) s) {h : pm_H} (hJ : pm_J cl D tc z sa h H) (hS : va_S (pm_A z) s.heap H locs) {k n : Nat} {f : Nat → Option Nat} (hk : h[k]? = some (.inl (4, n, .inr (.inr (.inr (.inr f)))))) {i : Int32} (hin : vp_in i n) (hdg : decode cc pc = .ok (.aastore, 1))
    (kk : ∀ (H1 : Heap) (locs1 : List Loc), pm_J cl D tc z sa (h.set k (.inl (4, n, .inr (.inr (.inr (.inr (va_up f i.toNatClampNeg none))))))) H1 → va_S (pm_A z) s.heap H1 locs1 → W p l e R s m args below meth c H1 locs1 cells slots Q (F0 m (pc + 1) ls rest)) : W p l e R s m args below meth c H locs cells slots Q (F0 m pc ls (.null :: .int i :: .ref (z + k) :: rest)) := by
  have ha : H[z + k]? = some (vp_cell (tc 4) (n, .inr (.inr (.inr (.inr (fun j => (f j).map (fun k => z + k))))))) := hJ.2 k _ hk
  refine va_WaastN (C := HN) hexec hb ha ((hK.2 4 _ rfl).1 n (fun j => va_rf ((f j).map (fun k => z + k)))) (fun h => by cases h) (by show ¬ (i < 0 ∨ (arrV _ _ _).slots.size ≤ _); rw [arrV_size]; exact hin) rfl rfl hdg fun H1 e z1 oq => ?_
  refine kk H1 _ (pm_J_set hJ hk z1 oq ?_) (hS.put z1 oq (Nat.le_add_right z k))
  show H1[z + k]? = some (vp_cell _ _)
  rw [e]
  show some (Cell.setSlot (vp_cell (tc 4) (n, .inr (.inr (.inr (.inr _))))) _ _) = some (vp_cell (tc 4) (n, .inr (.inr (.inr (.inr _)))))
  rw [vp_cell_q, vp_cell_q, arrV_store]
  congr 2
  funext q
  by_cases hq : q = i.toNatClampNeg
  · subst hq
    simp [updV, va_up, va_rf]
  · simp [updV, va_up, hq]
theorem pm_aast (hexec : p.tables.exec = Jvm.exec) (hb : c.code = cc) (hK : va_K D cl (pm_tys HN tc) s) {h : pm_H} (hJ : pm_J cl D tc z sa h H) (hS : va_S (pm_A z) s.heap H locs) {k n y ci : Nat} {f : Nat → Option Nat} {fs : List Value} {r : vw_C} (hk : h[k]? = some (.inl (4, n, .inr (.inr (.inr (.inr f)))))) (hy : h[y]? = some (.inr (ci, fs))) (hr : cl[ci]? = some r) (hcast : va_Nw (.castable r.1 HN) s) {i : Int32} (hin : vp_in i n) (hdg : decode cc pc = .ok (.aastore, 1))
    (kk : ∀ (H1 : Heap) (locs1 : List Loc), pm_J cl D tc z sa (h.set k (.inl (4, n, .inr (.inr (.inr (.inr (va_up f i.toNatClampNeg (some y)))))))) H1 → va_S (pm_A z) s.heap H1 locs1 → W p l e R s m args below meth c H1 locs1 cells slots Q (F0 m (pc + 1) ls rest)) : W p l e R s m args below meth c H locs cells slots Q (F0 m pc ls (.ref (z + y) :: .int i :: .ref (z + k) :: rest)) := by
  have ha : H[z + k]? = some (vp_cell (tc 4) (n, .inr (.inr (.inr (.inr (fun j => (f j).map (fun k => z + k))))))) := hJ.2 k _ hk
  have hlt : i.toNatClampNeg < n := Nat.not_le.mp fun q => hin (Or.inr q)
  have h0 : ¬ i < 0 := fun q => hin (Or.inl q)
  obtain ⟨cellV, g1, g2, g3, -⟩ := hJ.2 y _ hy r hr
  obtain ⟨kA, comp, k1, k2, k3, -⟩ := (hK.2 4 _ rfl).2
  have hcls := (hK.1 ci r hr).2
  obtain ⟨kC, hkC, -⟩ := hcls.2
  obtain ⟨c3, c4, hc3, hc4, hasg⟩ := Cond.castable_spec (args := args) (va_Nw.use rfl hcast)
  have e3 : c3 = D.1 ci := Option.some.inj (hc3.symm.trans hcls.1)
  have e4 : c4 = comp := Option.some.inj (hc4.symm.trans k3)
  subst e3 e4
  obtain ⟨kD, hkD, -⟩ := Vm.findClass_spec hc4
  refine W.aast hexec hb ha (fun q h => by cases h) (fun h => by cases h) k1 k2 rfl hkD ⟨h0, by show _ < (arrV _ _ _).slots.size; rw [arrV_size]; exact hlt⟩ g1 (fun q h => by rw [g3] at h; cases h) (by rw [g2]; exact hkC) (by rw [g2]; exact hasg) rfl rfl hdg fun H1 e z1 oq => ?_
  refine kk H1 _ (pm_J_set hJ hk z1 oq ?_) (hS.put z1 oq (Nat.le_add_right z k))
  show H1[z + k]? = some (vp_cell _ _)
  rw [e]
  show some (Cell.setSlot (vp_cell (tc 4) (n, .inr (.inr (.inr (.inr _))))) _ _) = some (vp_cell (tc 4) (n, .inr (.inr (.inr (.inr _)))))
  rw [vp_cell_q, vp_cell_q, arrV_store]
  congr 2
  funext q
  by_cases hq : q = i.toNatClampNeg
  · subst hq
    simp [updV, va_up, va_rf]
  · simp [updV, va_up, hq]
/-- what a field's cell is behind a store -/
theorem pm_put_at {ci k b : Nat} {fs : List Value} {w : Value} {C : String} {T : u_T} {N : Nat} {H1 : Heap} {cell : Cell} (hr : cl[ci]? = some (C, T, N)) (q2 : cell.cls = D.1 ci) (q3 : cell.vm = .none) (q4 : ∀ k, k < N → cell.slots[D.2 ci k]? = some (vp_V (fs.map (pm_tr z sa)) k)) (hap : ∀ x y, x < N → y < N → x ≠ y → D.2 ci x ≠ D.2 ci y) (hbN : b < N) (hl : b < fs.length) (e1 : H1[z + k]? = some (cell.setSlot (D.2 ci b) (pm_tr z sa w))) : pm_at cl D tc z sa k (.inr (ci, fs.set b w)) H1 := by
  intro r hr2
  have er : r = (C, T, N) := Option.some.inj (hr2.symm.trans hr)
  subst er
  refine t_OB.to (V := updV (vp_V (fs.map (pm_tr z sa))) b (pm_tr z sa w)) ⟨_, e1, q2, q3, t_set q4 hap hbN _⟩ (fun j _ => ?_)
  have e2 := vp_updV_set (fs := fs.map (pm_tr z sa)) (k := b) (by rw [List.length_map]; exact hl) (pm_tr z sa w) j
  rw [e2]
  show vp_V _ j = vp_V ((fs.set b w).map (pm_tr z sa)) j
  rw [List.map_set]
theorem pm_fit_ok {ty : FieldType} {w : Value} {ps : List Bool} (h : pm_fit ty w = some ps) (hp : pm_all ps) : narrow ty (pm_tr z sa w) = pm_tr z sa w ∧ fits ty (pm_tr z sa w) = true := by
  unfold pm_fit at h
  split at h
  · exact ⟨rfl, rfl⟩
  · exact ⟨rfl, rfl⟩
  · cases h
    rcases pm_b01 hp with rfl | rfl
    · exact ⟨rfl, rfl⟩
    · exact ⟨rfl, rfl⟩
  · exact ⟨rfl, rfl⟩
  · exact ⟨rfl, rfl⟩
  · exact ⟨rfl, rfl⟩
  · exact ⟨rfl, rfl⟩
  · cases h
theorem pm_put (hexec : p.tables.exec = Jvm.exec) (hb : c.code = cc) {own C : String} {T : u_T} {N ci index b k : Nat} {Ts : List Cond} (hts : ∀ w ∈ Ts, w.before args s = true) (hin : ∀ w ∈ u_ws C T N, w ∈ Ts) (ty0 : Nat → FieldType) (hty : ∀ k, k < N → parseFieldDescriptor (T k).2.2.1 = some (ty0 k)) (hnm : ∀ a, a < N → ∀ b, b < N → a ≠ b → (T a).2.1 ≠ (T b).2.1) (hown : s.vm.findClass own = some m.cls) (hK : va_K D cl (pm_tys HN tc) s) {h : pm_H} (hJ : pm_J cl D tc z sa h H) (hS0 : va_S (pm_A z) s.heap H locs) {fs : List Value} (he : h[k]? = some (.inr (ci, fs))) (hc : cl[ci]? = some (C, T, N)) (hk : b < N)
    (hlink : ((T b).2.2.2 = false ∧ (Cond.fieldLink own index (T b).1 (T b).2.1 (T b).2.2.1).before args s = true) ∨ ((T b).2.2.2 = false ∧ ∃ host, (Cond.fieldLinkNest own index (T b).1 (T b).2.1 (T b).2.2.1 host).before args s = true) ∨ ((T b).2.2.2 = true ∧ meth.name = "<init>" ∧ (T b).1 = own ∧ (Cond.fieldLink own index (T b).1 (T b).2.1 (T b).2.2.1).before args s = true))
    {w : Value} (hn : narrow (ty0 b) (pm_tr z sa w) = pm_tr z sa w ∧ fits (ty0 b) (pm_tr z sa w) = true) (hl : b < fs.length)
    (hdg : decode cc pc = .ok (.putfield index, 3)) (kk : ∀ (H1 : Heap) (locs1 : List Loc), pm_J cl D tc z sa (h.set k (.inr (ci, fs.set b w))) H1 → va_S (pm_A z) s.heap H1 locs1 → W p l e R s m args below meth c H1 locs1 cells slots Q (F0 m (pc + 3) ls rest)) : W p l e R s m args below meth c H locs cells slots Q (F0 m pc ls (pm_tr z sa w :: .ref (z + k) :: rest)) := by
  have hap := va_apart (own := own) hts hin ty0 hty hnm hK hc
  obtain ⟨cell, q1, q2, q3, q4⟩ := hJ.2 k _ he _ hc
  obtain ⟨hS, hfc, kC, hkC, hkind⟩ := hK.1 ci _ hc
  obtain ⟨cf, kf, fi, f, hi, hsl⟩ := hS b hk
  have hlay := hts _ (hin _ (u_in_lay hk))
  unfold u_lay at hlay
  have hst := (u_facts hfc hkC (u_lays hts hin hk) hi).1
  have hd := hty b hk
  rcases hlink with ⟨hfin, hlk⟩ | ⟨hfin, host, hlk⟩ | ⟨hfin, hin2, hdecl, hlk⟩
  · rw [if_neg (by rw [hfin]; decide)] at hlay
    have h6 := u_store hfc hkC hkind hlay hi hd hn.1 hn.2
    refine W.putK hexec hb (f := f) ⟨hown, hlk, ⟨_, _, _, hi⟩, hst⟩ (by rw [q2]; exact h6) q1 q3 (by rw [hsl]; exact k2_hasslot (q4 b hk)) rfl rfl hdg fun H' e1 e2 e3 => ?_
    rw [hsl] at e1 ⊢
    exact kk H' _ (pm_J_set hJ he e2 e3 (pm_put_at hc q2 q3 q4 hap hk hl e1)) (hS0.put e2 e3 (Nat.le_add_right z k))
  · rw [if_neg (by rw [hfin]; decide)] at hlay
    have h6 := u_store hfc hkC hkind hlay hi hd hn.1 hn.2
    refine va_WputK hexec hb (f := f) hown hlk hi hst (by rw [q2]; exact h6) q1 q3 (by rw [hsl]; exact k2_hasslot (q4 b hk)) rfl rfl hdg fun H' e1 e2 e3 => ?_
    rw [hsl] at e1 ⊢
    exact kk H' _ (pm_J_set hJ he e2 e3 (pm_put_at hc q2 q3 q4 hap hk hl e1)) (hS0.put e2 e3 (Nat.le_add_right z k))
  · rw [if_pos hfin] at hlay
    have hcf : m.cls = cf := by
      obtain ⟨_, _, c', _, _, _, -, -, hf', -, -, -, hown2, -⟩ := Cond.laysFinal_spec hlay
      have e1 : c' = cf := by have := hi.symm.trans hf'; simp at this; exact this.1.symm
      rw [hdecl] at hown2
      rw [← e1]; exact Option.some.inj (hown.symm.trans hown2)
    have h6 := u_fits hfc hkC hkind (Or.inr hlay) hi hd hn.1 hn.2
    refine W.putFinK hexec hb hown hlk hi hst hcf hin2 (by rw [q2]; exact h6) q1 q3 (by rw [hsl]; exact k2_hasslot (q4 b hk)) rfl rfl hdg fun H' e1 e2 e3 => ?_
    rw [hsl] at e1 ⊢
    exact kk H' _ (pm_J_set hJ he e2 e3 (pm_put_at hc q2 q3 q4 hap hk hl e1)) (hS0.put e2 e3 (Nat.le_add_right z k))
theorem pm_new {c0 : Code} (hexec : p.tables.exec = Jvm.exec) (hb : c0.code = cc) {own C : String} {T : u_T} {N ci index : Nat} {Ts : List Cond} (hts : ∀ w ∈ Ts, w.before args s = true) (hin : ∀ w ∈ u_ws C T N, w ∈ Ts) (ty : Nat → FieldType) (hty : ∀ k, k < N → parseFieldDescriptor (T k).2.2.1 = some (ty k)) (hown : s.vm.findClass own = some m.cls) (hcl : (Cond.classLink own index C).before args s = true) (hinst : (Cond.instantiable C N).before args s = true) (hini : (Cond.initialized C).before args s = true)
    (hK : va_K D cl (pm_tys HN tc) s) {h : pm_H} (hJ : pm_J cl D tc z sa h H) (hS : va_S (pm_A z) s.heap H locs) (hc : cl[ci]? = some (C, T, N)) {fs : List Value} (hfl : fs.length = N) (hfs : ∀ j, j < N → fs[j]? = some (defaultValue (ty j)) ∧ pm_nf (ty j) = true) (hcells : cells + 1 ≤ R.cells) (hslots : slots + N ≤ R.slots) (hdg : decode cc pc = .ok (.new index, 3))
    (kk : ∀ (H1 : Heap), pm_J cl D tc z sa (h ++ [.inr (ci, fs)]) H1 → va_S (pm_A z) s.heap H1 locs → W p l e R s m args below meth c0 H1 locs (cells + 1) (slots + N) Q (F0 m (pc + 3) ls (.ref (z + h.length) :: rest))) : W p l e R s m args below meth c0 H locs cells slots Q (F0 m pc ls rest) := by
  have hKn := hK.1 ci _ hc
  refine W.newcK hexec hb hown hcl hinst hini rfl hdg hcells hslots hKn.2.1 hJ.1 fun H1 kC hkC e1 z1 o1 => ?_
  refine kk H1 (pm_J_push hJ (by rw [z1, hJ.1]) (fun q hq => o1 q (by rw [← hJ.1]; exact hq)) ?_) (pm_S_new hS (by rw [z1, hJ.1]) (fun q hq => o1 q (by rw [← hJ.1]; exact hq)))
  intro r hr
  have er : r = (C, T, N) := Option.some.inj (hr.symm.trans hc)
  subst er
  refine (u_born ty hts hin hKn hkC e1 hty).to (fun j hj => ?_)
  obtain ⟨h1, h3⟩ := hfs j hj
  have h2 : defaultValue (ty j) = pm_tr z sa (defaultValue (ty j)) := by cases hq : ty j <;> first | rfl | (rw [hq] at h3; cases h3)
  show _ = (fs.map (pm_tr z sa)).getD j .null
  rw [List.getD_eq_getElem?_getD, pm_V_tr z sa fs h1]
  exact h2
theorem pm_newa (hexec : p.tables.exec = Jvm.exec) (hb : c.code = cc) {atype : ArrayType} (harr : (Cond.arrayClass (newarray.typeOf atype)).before args s = true) {t : Nat} {ty : FieldType} (hty : newarray.typeOf atype = ty) (htt : (pm_tys HN tc)[t]? = some (tc t, ty)) (hz : ∀ (cA : ClassId) (N : Nat), vp_cell cA (N, pm_ta z (pm_zero t)) = arrV cA N (fun _ => defaultValue ty)) (hkind : ∀ cA, va_RA s cA ty → s.vm.findClass ("[" ++ ty.toString) = some cA)
    (hK : va_K D cl (pm_tys HN tc) s) {h : pm_H} (hJ : pm_J cl D tc z sa h H) (hS : va_S (pm_A z) s.heap H locs) {n : Int32} (hn : ¬ n < 0) (hbytes : n.toNatClampNeg * componentBytes ty ≤ 536870912) (hcells : cells + 1 ≤ R.cells) (hslots : slots + n.toNatClampNeg ≤ R.slots) (hdg : decode cc pc = .ok (.newarray atype, 2))
    (kk : ∀ (H1 : Heap), pm_J cl D tc z sa (h ++ [.inl (t, n.toNatClampNeg, pm_zero t)]) H1 → va_S (pm_A z) s.heap H1 locs → W p l e R s m args below meth c H1 locs (cells + 1) (slots + n.toNatClampNeg) Q (F0 m (pc + 2) ls (.ref (z + h.length) :: rest))) : W p l e R s m args below meth c H locs cells slots Q (F0 m pc ls (.int n :: rest)) := by
  subst hty
  refine va_newaK hexec hb harr rfl hdg rfl hn rfl hbytes hcells hslots hJ.1 fun H1 cA e1 z1 o1 hAr hNm => ?_
  have ecA : cA = tc t := Option.some.inj (hNm.symm.trans (hkind _ (hK.2 t _ htt).2))
  subst ecA
  refine kk H1 (pm_J_push hJ (by rw [z1, hJ.1]) (fun q hq => o1 q (by rw [← hJ.1]; exact hq)) ?_) (pm_S_new hS (by rw [z1, hJ.1]) (fun q hq => o1 q (by rw [← hJ.1]; exact hq)))
  show H1[z + h.length]? = some (vp_cell (tc t) (n.toNatClampNeg, pm_ta z (pm_zero t)))
  rw [hz]
  exact e1
theorem pm_newq (hexec : p.tables.exec = Jvm.exec) (hb : c.code = cc) {own : String} {index : Nat} (hown : s.vm.findClass own = some m.cls) (hclink : (Cond.classLink own index HN).before args s = true) (hover : va_AO HN s)
    (hK : va_K D cl (pm_tys HN tc) s) {h : pm_H} (hJ : pm_J cl D tc z sa h H) (hS : va_S (pm_A z) s.heap H locs) {n : Int32} (hn : ¬ n < 0) (hbytes : n.toNatClampNeg * 4 ≤ 536870912) (hcells : cells + 1 ≤ R.cells) (hslots : slots + n.toNatClampNeg ≤ R.slots) (hdg : decode cc pc = .ok (.anewarray index, 3))
    (kk : ∀ (H1 : Heap), pm_J cl D tc z sa (h ++ [.inl (4, n.toNatClampNeg, pm_zero 4)]) H1 → va_S (pm_A z) s.heap H1 locs → W p l e R s m args below meth c H1 locs (cells + 1) (slots + n.toNatClampNeg) Q (F0 m (pc + 3) ls (.ref (z + h.length) :: rest))) : W p l e R s m args below meth c H locs cells slots Q (F0 m pc ls (.int n :: rest)) := by
  refine W.anew hexec hb hown hclink (va_AO.use hover) rfl hdg rfl hn hbytes hcells hslots fun cA kA comp f1 f2 f3 f4 => ?_
  generalize hH1 : H.push ({ cls := cA, slots := Array.replicate n.toNatClampNeg .null, vm := .none } : Cell) = H1
  have z1 : H1.size = H.size + 1 := by rw [← hH1, Array.size_push]
  have e1 : H1[H.size]? = some (arrV cA n.toNatClampNeg (fun _ => .null)) := by rw [← hH1, Array.getElem?_push_size, ← arrV_new]
  have o1 : ∀ q : Nat, q < H.size → H1[q]? = H[q]? := fun q hq => by rw [← hH1, Array.getElem?_push, if_neg (Nat.ne_of_lt hq)]
  obtain ⟨kA2, comp2, k1, k2, k3, k4⟩ := (hK.2 4 _ rfl).2
  have ecA : cA = tc 4 := Option.some.inj (f1.symm.trans k4)
  subst ecA
  rw [show H.size = z + h.length from hJ.1] at e1
  refine W.eq (g2 := F0 m (pc + 3) ls (.ref (z + h.length) :: rest)) (by rw [← hJ.1]) (kk H1 (pm_J_push hJ z1 o1 e1) (pm_S_new hS z1 o1))
end PMH
