/-! a throw meets a table's rows: one row that covers the place (its pool entry cold or warm), the rows ahead that don't take it, the step to the handler -/
section VXF
theorem vf_row {e : Env} {s0 S : State} {f : JFrame} {a : Addr} {cell : Cell} {x : ExceptionTableEntry} {t : List ExceptionTableEntry} {k : ClassId}
    (hW : s0.WarmedH S.vm) (hx : covers x f.pc = true) (h0 : x.catchType ≠ 0) (hl : s0.vm.ClassLinks e.platform f.method.cls x.catchType k) (hcell : S.heap[a]? = some cell) (hobj : cell.vm = .none) (hk : ∃ q, s0.vm.classes[cell.cls]? = some q) :
    s0.WarmedH (S.vm.noted f.method.cls x.catchType (.cls k)) ∧ ∀ (Q : Handler → Pre) (E : CtlPost) (d : Bool) (acts : List Action), wp (findHandler.go f a (x :: t)) Q E e d acts S ↔
      if s0.vm.assignable cell.cls k = true then Q (.found x.handlerPc) d acts (S.setVm (S.vm.noted f.method.cls x.catchType (.cls k))) else wp (findHandler.go f a t) Q E e d acts (S.setVm (S.vm.noted f.method.cls x.catchType (.cls k))) := by
  obtain ⟨dk, _, _, kt, hd, _, _, _, _, hkt, _, hopn⟩ := hl.here
  refine ⟨hW.noted hd hopn (State.rightAt_cls hl), fun Q E d acts => ?_⟩
  obtain ⟨ha, ht⟩ := (resolveClass_links e.toSetting (hW.classLinks hl)).op (op := VmOp.resolveClass f.method.cls x.catchType) rfl
  have hn : S.vm.Alike (S.vm.noted f.method.cls x.catchType (.cls k)) := (Vm.Alike.refl S.vm).noted _ _ _
  obtain ⟨q, hq⟩ := hk
  obtain ⟨q1, hq1, -⟩ := hW.alike.2.2 _ _ hq
  obtain ⟨q2, hq2, -⟩ := hn.2.2 _ _ hq1
  obtain ⟨r1, hr1, -⟩ := hW.alike.2.2 _ _ hkt
  obtain ⟨r2, hr2, -⟩ := hn.2.2 _ _ hr1
  have he : (S.vm.noted f.method.cls x.catchType (.cls k)).assignable cell.cls k = s0.vm.assignable cell.cls k := by rw [hn.assignable, hW.alike.assignable]
  have hst : ∀ k, cell.vm ≠ .statics k := fun k h => by rw [hobj] at h; cases h
  simp only [covers] at hx
  cases hb : s0.vm.assignable cell.cls k
  · rw [hb] at he
    simp [findHandler.go, hx, h0, ha, ht, hcell, hst, hq2, hr2, he, VmOp.dirties, VmOp.acts]
  · rw [hb] at he
    simp [findHandler.go, hx, h0, ha, ht, hcell, hst, hq2, hr2, he, VmOp.dirties, VmOp.acts]
theorem vf_rows {e : Env} {s0 : State} {f : JFrame} {a : Addr} {cell : Cell} {x : ExceptionTableEntry} {t : List ExceptionTableEntry} {k : ClassId}
    (hx : covers x f.pc = true) (h0 : x.catchType ≠ 0) (hl : s0.vm.ClassLinks e.platform f.method.cls x.catchType k) (hfit : s0.vm.assignable cell.cls k = true) (hobj : cell.vm = .none) (hk : ∃ q, s0.vm.classes[cell.cls]? = some q) (pre : List ExceptionTableEntry) :
    ∀ S : State, s0.WarmedH S.vm → S.heap[a]? = some cell → (∀ y ∈ pre, covers y f.pc = false ∨ (y.catchType ≠ 0 ∧ ∃ c, s0.vm.ClassLinks e.platform f.method.cls y.catchType c ∧ s0.vm.assignable cell.cls c = false)) →
      ∃ vm' : Vm, s0.WarmedH vm' ∧ ∀ (Q : Handler → Pre) (E : CtlPost) (d : Bool) (acts : List Action), wp (findHandler.go f a (pre ++ x :: t)) Q E e d acts S ↔ Q (.found x.handlerPc) d acts (S.setVm vm') := by
  induction pre with
  | nil =>
    intro S hW hc _
    obtain ⟨h1, h2⟩ := vf_row (t := t) hW hx h0 hl hc hobj hk
    exact ⟨_, h1, fun Q E d acts => (h2 Q E d acts).trans (by rw [if_pos hfit])⟩
  | cons y ys ih =>
    intro S hW hc hp
    have hp' := fun z hz => hp z (List.mem_cons_of_mem y hz)
    cases hcov : covers y f.pc
    · obtain ⟨vm', h1, h2⟩ := ih S hW hc hp'
      exact ⟨vm', h1, fun Q E d acts => (Jvm.W.findHandler_go_skip hcov).trans (h2 Q E d acts)⟩
    · rcases hp y List.mem_cons_self with h | ⟨g0, c, gl, gn⟩
      · rw [hcov] at h; cases h
      · obtain ⟨g1, g2⟩ := vf_row (t := ys ++ x :: t) hW hcov g0 gl hc hobj hk
        obtain ⟨vm', h1, h2⟩ := ih (S.setVm (S.vm.noted f.method.cls y.catchType (.cls c))) g1 hc hp'
        exact ⟨vm', h1, fun Q E d acts => (g2 Q E d acts).trans (by rw [if_neg (by rw [gn]; decide)]; exact h2 Q E d acts)⟩
theorem vf_step {tb : Tables} {e : Env} {s target : State} {g : JFrame} {c : Code} {below : List Frame} {a : Addr} (h : At s g.method c below) {pc : Nat} {vm' : Vm}
    (hf : ∀ (Q : Handler → Pre) (E : CtlPost) (d : Bool) (acts : List Action), wp (findHandler g a) Q E e d acts ((s.setTop g).pushFrame (.throwing a)) ↔ Q (.found pc) d acts (((s.setTop g).pushFrame (.throwing a)).setVm vm'))
    (hr : Steps tb e below ((s.setVm vm').setTop { g with pc := pc, stack := [.ref a] }) target) : Steps tb e below ((s.setTop g).pushFrame (.throwing a)) target := by
  obtain ⟨hgo, hw⟩ := h.throwing a
  have hI : ∀ r : List Frame, (stepThrowing e ((s.setTop g).pushFrame (.throwing a)) a (.java g :: r)).1 = (((s.setTop g).pushFrame (.throwing a)).setVm vm').setFrames (.java { g with pc := pc, stack := [.ref a] } :: r) := by
    intro r
    simp only [stepThrowing, searchFrame, vmDo]
    generalize hz : Sem.go _ e false [] ((s.setTop g).pushFrame (.throwing a)) = res
    obtain ⟨as, rfl, -⟩ := Sem.eq_ok_of hz (a := Handler.found pc) (s' := ((s.setTop g).pushFrame (.throwing a)).setVm vm') (acts' := []) (by simp [hf _ _ _ _])
    rfl
  refine Steps.head hgo hw ?_
  rw [stepThread_throwing (frames_entered h.top _), hI]
  obtain ⟨g0, hg⟩ := Option.isSome_iff_exists.mp h.top
  obtain ⟨r, hrr⟩ := State.topJava?_eq_some.mp hg
  have hr' : (s.setVm vm').frames = .java g0 :: r := hrr
  have hsw : ∀ (u : State) (F G : List Frame), ((u.setFrames F).setVm vm').setFrames G = (u.setVm vm').setFrames G := fun u F G => by
    rw [show (u.setFrames F).setVm vm' = (u.setVm vm').setFrames F from rfl, State.setFrames_setFrames]
  rw [State.setTop_of_frames _ hr'] at hr
  rw [hrr, List.tail_cons, State.pushFrame, hsw, State.setTop_of_frames _ hrr, hsw]
  exact hr
end VXF
