def R_law : String := "TurnSchoolLaw"
def lw_P (b : Addr) (xs : List Int32) (args : Array Value) (s : State) : Prop := args = #[.ref b] ∧ s.IntsAt b xs ∧ xs.length ≤ 3072 ∧ (Jvm.Cond.and given_1 narrow_1).before args s = true
def lw_Q (_ : Array Value) (s : State) (o : Outcome) (t : State) : Prop := o = .returned (some (.int 1)) ∧ Framed s o t [] 601024 7293033
def lw_Z (below : List Frame) (a : Array Value) (s : State) : State → Prop := fun t => ∃ o, t.status = .running ∧ Ended t below o ∧ lw_Q a s o t
/-- the law's own end, with 1 on the stack, nothing written that was there before, its room as the claim has it -/
theorem lw_ret {p : Program} {l : Launch} {e : Env} {s : State} {m : MethodId} {below : List Frame} {meth : Method} {c : Code} {b : Nat} (hx : p.tables.exec = Jvm.exec) (hb : c.code = code) (hr : meth.sig.returnType = ret) (hlocks : meth.locks = false) {pc : Nat} {H : Heap} {ls : Array Slot} (hdg : decode code pc = .ok (.ireturn, 1)) : W p l e room_1 s m #[Value.ref b] below meth c H [] 601024 7293033 (lw_Z below #[Value.ref b] s) (F0 m pc ls [.int 1]) := by
  intro T hT X
  obtain ⟨fs, hret, hrun, hended, hW, hframe⟩ := X.leave (v := some (.int 1)) (hlocks := hlocks) (fun h => by rw [hr] at h; cases h)
  have hmeth' : T.vm.method? m = some meth := X.method'
  refine ⟨T.setFrames fs, ?_, .returned (some (.int 1)), hrun, hended, rfl, ⟨_, rfl⟩, hW, hframe⟩
  jvm_step X.here [X.here.top, hx, hb, hdg, hmeth', hr, ret, narrow_b1]
  (try refine ⟨rfl, ?_⟩); (try refine ⟨rfl, ?_⟩)
  first | (intro acts; rw [hret _ acts rfl rfl rfl]) | rw [hret _ _ rfl rfl rfl]
  exact Steps.refl _
/-- what holds at the law's entry: the machine, the code, the tables' words (any of lw_tbl by 'hts w (by decide +kernel)'), the script of L ints xs at the cell b, what the Statement gives of the start (any of its parts by flat_of_before) -/
def lw_At (p : Program) (s : State) (m : MethodId) (meth : Method) (c : Code) (b L : Nat) (xs : Nat → Int32) : Prop :=
  p.tables.exec = Jvm.exec ∧ c.code = code ∧ meth.sig.returnType = ret ∧ c.maxLocals = 8 ∧ s.vm.findClass R_law = some m.cls ∧ (∀ w ∈ lw_tbl, w.before #[Value.ref b] s = true) ∧ va_X b L xs s s.heap ∧ b < s.heap.size ∧ meth.locks = false ∧ (Jvm.Cond.and given_1 narrow_1).before #[Value.ref b] s = true
def j_F : List Cond := flatC (Jvm.Cond.and given_1 narrow_1)
def j_sck (C n : String) (vals : List Int32) : Bool := decide (Cond.arrayOf (.static C n "[I") .int ∈ j_F) && (decide (Cond.eq (.length (.static C n "[I")) (.int (Int32.ofNat vals.length)) ∈ j_F) && (List.range vals.length).all (fun j => decide (Cond.eq (.elem (.static C n "[I") (.int (Int32.ofNat j))) (.int (vals.getD j 0)) ∈ j_F)))
theorem j_stat {args : Array Value} {s : State} {A : Nat → Prop} {C n : String} {vals : List Int32} (hs : ∀ c ∈ j_F, c.before args s = true) (hk : j_sck C n vals = true) (hlen : vals.length < 2 ^ 31) (hl : (Cond.laysStatic C n "[I").before args s = true) (hini : (Cond.initialized C).before args s = true) (hA : ∀ a : Nat, a < s.heap.size → ¬ A a) :
    ∃ t : Nat, va_Z C n "[I" (.ref t) A s s.heap ∧ va_T .int t vals.length (fun i => .int (vals.getD i 0)) A s s.heap := by
  simp only [j_sck, Bool.and_eq_true, decide_eq_true_eq, List.all_eq_true] at hk
  obtain ⟨h1, h2, h3⟩ := hk
  obtain ⟨t, e1, e2⟩ := va_Tof (tm := .static C n "[I") (ty := .int) (N := vals.length) (f := fun i => .int (vals.getD i 0)) (A := A) hlen (hs _ h1) (va_eqt (hs _ h2)) (fun j hj => va_eqt (hs _ (h3 j (List.mem_range.mpr hj)))) hA
  exact ⟨t, va_Zof hl hini e1 hA, e2⟩
theorem j_arr {args : Array Value} {s : State} {ty : FieldType} (h : (Cond.arrayClass ty).before args s = true) (hk : ∀ cA, s.vm.findClass ("[" ++ ty.toString) = some cA → va_RA s cA ty) : ∃ cA : ClassId, ArrOfT s cA ty ∧ va_RA s cA ty := by
  obtain ⟨cA, kA, comp, h1, h2, h3⟩ := Cond.arrayClass_spec h
  exact ⟨cA, fun n z => ⟨fun k h => (by cases h), kA, h2, comp, h3⟩, hk cA h1⟩
theorem j_arrO {s : State} {C : String} (h : va_AO C s) : ∃ cA : ClassId, ArrOfT s cA (.object C) ∧ va_RA s cA (.object C) := by
  obtain ⟨comp, c, k, h1, h2, h3, h4, h5⟩ := Cond.arrayOver_spec h
  exact ⟨c, fun n z => ⟨fun k h => (by cases h), k, h3, comp, h4⟩, k, comp, h3, h4, h1, h5⟩
theorem jsc0 : j_sck "TurnSchool" "OPERAND" jv0 = true := by decide +kernel
theorem jsc1 : j_sck "TurnSchool" "TOP" jv1 = true := by decide +kernel
theorem jsc2 : j_sck "TurnSchool$Fixer" "FROM" jv2 = true := by decide +kernel
theorem jsc3 : j_sck "TurnSchool$Fixer" "TO" jv3 = true := by decide +kernel
theorem jsc4 : j_sck "TurnSchool$Fixer" "WITHIN" jv4 = true := by decide +kernel
set_option maxHeartbeats 4000000 in
set_option maxRecDepth 100000 in
/-- the law, out of a run of the pure machine -/
theorem j_root {p : Program} {e : Env} {s : State} {m : MethodId} {below : List Frame} {meth : Method} {c : Code} (l : Launch) {b L : Nat} {xs : Nat → Int32} (hL31 : L < 2 ^ 31) (C0 : lw_At p s m meth c b L xs) {EX : pm_M → pm_C → (pm_C → Prop) → Prop} (hXl : x_F s.heap.size l s s.heap)
    (hX : ∀ (D : va_G) (tc : Nat → ClassId) (sa : Nat → Nat), pm_XO (j_SL L) (j_SV xs) j_MT EX j_mem j_memN j_HO j_tbl j_nst j_cl j_SN j_HN (x_F s.heap.size) D tc s.heap.size sa)
    (hw : pm_W j_ft j_df (j_SL L) (j_SV xs) j_MT EX mm_L_law (0, pm_en 8 [.float 5], [], [], 0, 0) (fun r _ => r = some (.int 1))) :
    W p l e room_1 s m #[Value.ref b] below meth c s.heap [] 0 0 (lw_Z below #[Value.ref b] s) (entryFrame m ([Value.ref b] : List Value).toArray 8) := by
  obtain ⟨hx, hb, hr, hml, hown, hts, hXs, hbl, hlocks, hgv⟩ := id C0
  have hfl : ∀ w ∈ j_F, w.before #[Value.ref b] s = true := flat_of_before _ hgv
  have htb : ∀ w ∈ j_tbl, w.before #[Value.ref b] s = true := fun w h => hts w (List.mem_filter.mp h).1
  have hAz : ∀ a : Nat, a < s.heap.size → ¬ pm_A s.heap.size a := fun a h1 h2 => absurd h2 (Nat.not_le.mpr h1)
  obtain ⟨t0, hz0, ht0⟩ := j_stat (A := pm_A s.heap.size) hfl jsc0 (by decide) (hts (Cond.laysStatic "TurnSchool" "OPERAND" "[I") (List.mem_of_getElem? (i := 385) (by decide +kernel))) (htb _ (j_mem_ok 83 _ (by decide +kernel))) hAz
  obtain ⟨t1, hz1, ht1⟩ := j_stat (A := pm_A s.heap.size) hfl jsc1 (by decide) (hts (Cond.laysStatic "TurnSchool" "TOP" "[I") (List.mem_of_getElem? (i := 390) (by decide +kernel))) (htb _ (j_mem_ok 83 _ (by decide +kernel))) hAz
  obtain ⟨t2, hz2, ht2⟩ := j_stat (A := pm_A s.heap.size) hfl jsc2 (by decide) (hts (Cond.laysStatic "TurnSchool$Fixer" "FROM" "[I") (List.mem_of_getElem? (i := 767) (by decide +kernel))) (htb _ (j_mem_ok 88 _ (by decide +kernel))) hAz
  obtain ⟨t3, hz3, ht3⟩ := j_stat (A := pm_A s.heap.size) hfl jsc3 (by decide) (hts (Cond.laysStatic "TurnSchool$Fixer" "TO" "[I") (List.mem_of_getElem? (i := 752) (by decide +kernel))) (htb _ (j_mem_ok 88 _ (by decide +kernel))) hAz
  obtain ⟨t4, hz4, ht4⟩ := j_stat (A := pm_A s.heap.size) hfl jsc4 (by decide) (hts (Cond.laysStatic "TurnSchool$Fixer" "WITHIN" "[I") (List.mem_of_getElem? (i := 750) (by decide +kernel))) (htb _ (j_mem_ok 88 _ (by decide +kernel))) hAz
  obtain ⟨c0, iS0, hKn0⟩ := u_known (C := "TurnSchool$Fixer") (T := jT0) (N := 8) (n := 8) htb jc0 (htb _ je0.1)
  obtain ⟨c1, iS1, hKn1⟩ := u_known (C := "TurnSchool$Learner") (T := jT1) (N := 2) (n := 2) htb jc1 (htb _ je1.1)
  obtain ⟨c2, iS2, hKn2⟩ := u_known (C := "TurnSchool$LongRow") (T := jT2) (N := 1) (n := 1) htb jc2 (htb _ je2.1)
  obtain ⟨c3, iS3, hKn3⟩ := u_known (C := "TurnSchool$Loops") (T := jT3) (N := 10) (n := 10) htb jc3 (htb _ je3.1)
  obtain ⟨c4, iS4, hKn4⟩ := u_known (C := "TurnSchool$Machine") (T := jT4) (N := 2) (n := 2) htb jc4 (htb _ je4.1)
  obtain ⟨c5, iS5, hKn5⟩ := u_known (C := "TurnSchool$Orders") (T := jT5) (N := 11) (n := 11) htb jc5 (htb _ je5.1)
  obtain ⟨c6, iS6, hKn6⟩ := u_known (C := "TurnSchool$Program") (T := jT6) (N := 6) (n := 6) htb jc6 (htb _ je6.1)
  obtain ⟨c7, iS7, hKn7⟩ := u_known (C := "TurnSchool$ShortRow") (T := jT7) (N := 1) (n := 1) htb jc7 (htb _ je7.1)
  obtain ⟨c8, iS8, hKn8⟩ := u_known (C := "TurnSchool$Statement") (T := jT8) (N := 2) (n := 2) htb jc8 (htb _ je8.1)
  obtain ⟨c9, iS9, hKn9⟩ := u_known (C := "TurnSchool") (T := jT9) (N := 12) (n := 12) htb jc9 (htb _ je9.1)
  obtain ⟨c10, iS10, hKn10⟩ := u_known (C := "TurnSchoolModel") (T := jT10) (N := 41) (n := 41) htb jc10 (htb _ je10.1)
  have hgA := j_G (XP := x_F s.heap.size) (z := s.heap.size) x_mv
  obtain ⟨-, -, -, -, -, -, -, harr, -⟩ := hgA
  obtain ⟨a0, ha0, hb0⟩ := j_arr (ty := .int) (htb _ harr.1) (fun cA h => h)
  obtain ⟨a1, ha1, hb1⟩ := j_arr (ty := .long) (htb _ harr.2.1) (fun cA h => h)
  obtain ⟨a2, ha2, hb2⟩ := j_arr (ty := .boolean) (htb _ harr.2.2.1) (fun cA h => h)
  obtain ⟨a3, ha3, hb3⟩ := j_arr (ty := .short) (htb _ harr.2.2.2) (fun cA h => h)
  have hAO : va_AO j_HN s := va_AO.of (hts (Cond.arrayOver (.object "TurnSchool$Held")) (List.mem_of_getElem? (i := 296) (by decide +kernel)))
  obtain ⟨a4, ha4, hb4⟩ := j_arrO hAO
  obtain ⟨D, hDK⟩ : ∃ D : va_G, ∀ (k : Nat) (q : vw_C), j_cl[k]? = some q → u_Kn s q.1 q.2.1 q.2.2 (D.1 k) (D.2 k) := by
    refine ⟨(fun k => match k with | 0 => c0 | 1 => c1 | 2 => c2 | 3 => c3 | 4 => c4 | 5 => c5 | 6 => c6 | 7 => c7 | 8 => c8 | 9 => c9 | _ => c10, fun k => match k with | 0 => iS0 | 1 => iS1 | 2 => iS2 | 3 => iS3 | 4 => iS4 | 5 => iS5 | 6 => iS6 | 7 => iS7 | 8 => iS8 | 9 => iS9 | _ => iS10), ?_⟩
    intro k q hq
    match k, hq with
    | 0, hq => cases hq; exact hKn0
    | 1, hq => cases hq; exact hKn1
    | 2, hq => cases hq; exact hKn2
    | 3, hq => cases hq; exact hKn3
    | 4, hq => cases hq; exact hKn4
    | 5, hq => cases hq; exact hKn5
    | 6, hq => cases hq; exact hKn6
    | 7, hq => cases hq; exact hKn7
    | 8, hq => cases hq; exact hKn8
    | 9, hq => cases hq; exact hKn9
    | 10, hq => cases hq; exact hKn10
    | k + 11, hq => simp [j_cl] at hq
  obtain ⟨tc, hTC⟩ : ∃ tc : Nat → ClassId, ∀ (k : Nat) (q : ClassId × FieldType), (pm_tys j_HN tc)[k]? = some q → ArrOfT s q.1 q.2 ∧ va_RA s q.1 q.2 := by
    refine ⟨fun k => match k with | 0 => a0 | 1 => a1 | 2 => a2 | 3 => a3 | _ => a4, ?_⟩
    intro k q hq
    match k, hq with
    | 0, hq => cases hq; exact ⟨ha0, hb0⟩
    | 1, hq => cases hq; exact ⟨ha1, hb1⟩
    | 2, hq => cases hq; exact ⟨ha2, hb2⟩
    | 3, hq => cases hq; exact ⟨ha3, hb3⟩
    | 4, hq => cases hq; exact ⟨ha4, hb4⟩
    | k + 5, hq => simp [pm_tys] at hq
  have hK : va_K D j_cl (pm_tys j_HN tc) s := ⟨hDK, hTC⟩
  have hN : pm_N j_nst j_HN s := by
    refine ⟨fun w hw => va_Nw.of ?_ (hts w (List.mem_filter.mp hw).1), hAO⟩
    have h2 := (List.mem_filter.mp hw).2
    unfold pm_isN at h2
    split at h2
    · rfl
    · rfl
    · rfl
    · cases h2
  obtain ⟨sa, hsa⟩ : ∃ sa : Nat → Nat, sa = (fun j => match j with | 0 => t0 | 1 => t1 | 2 => t2 | 3 => t3 | 4 => t4 | 5 => b | _ => t0) := ⟨_, rfl⟩
  have hT5 : va_T .int b L (fun i => .int (xs i)) (pm_A s.heap.size) s s.heap := by
    obtain ⟨scr, h1, h2, h3, h4, h5⟩ := hXs
    exact ⟨scr, h1, h2, h3, by rw [h4]; exact Nat.le_refl _, by rw [h4], fun j hj => h5 j hj, hAz b hbl⟩
  have hSt : pm_St (j_SL L) (j_SV xs) j_SN s.heap.size sa s s.heap := by
    subst hsa
    refine ⟨fun j q hj => ?_, fun j => ?_⟩
    · match j, hj with
      | 0, hj => cases hj; exact hz0
      | 1, hj => cases hj; exact hz1
      | 2, hj => cases hj; exact hz2
      | 3, hj => cases hj; exact hz3
      | 4, hj => cases hj; exact hz4
      | j + 5, hj => simp [j_SN] at hj
    · match j with
      | 0 => exact ht0
      | 1 => exact ht1
      | 2 => exact ht2
      | 3 => exact ht3
      | 4 => exact ht4
      | 5 => exact hT5
      | j + 6 => exact ht0
  have hC : pm_Ctx (j_SL L) (j_SV xs) j_tbl j_nst j_cl j_SN j_HN (x_F s.heap.size) D tc s.heap.size sa mm_L_law p l s m #[Value.ref b] meth c := ⟨hx, hb, hr, hml, hown, htb, hlocks, fun h => absurd h (by decide), hK, hSt, hN, Nat.le_refl _, hXl⟩
  have hsnd := pm_sound (SL := j_SL L) (SV := j_SV xs) (EX := EX) (D := D) (tc := tc) (z := s.heap.size) (sa := sa) (XP := x_F s.heap.size) (j_G x_mv) (hX D tc sa) hw
  have hlv := pm_Lv_en s.heap.size sa [.float 5] (n := 8) (by decide)
  have e5 : [Value.float 5].map (pm_tr s.heap.size sa) = [Value.ref b] := by subst hsa; rfl
  rw [e5] at hlv
  rw [lg_entry_eq]
  refine hsnd p l e s m #[Value.ref b] below meth c s.heap [] _ (lw_Z below #[Value.ref b] s) hC wt_L_law hlv ⟨rfl, fun k x hk => by simp at hk⟩ va_S.rf (Nat.zero_le _) (Nat.zero_le _) ?_
  intro v h' H' locs' pc' ls' hv hJ' hS' hend
  subst hv
  exact va_forget hS'.2.2 (lw_ret hx hb hr hlocks hend.1)
