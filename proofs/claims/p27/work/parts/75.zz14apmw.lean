/-! THE PURE MACHINE AND THE REAL ONE: the words -/
def pm_tys (HN : String) (tc : Nat → ClassId) : List (ClassId × FieldType) := [(tc 0, .int), (tc 1, .long), (tc 2, .boolean), (tc 3, .short), (tc 4, .object HN)]
section PMW
variable (ft : Nat → Nat → FieldType) (df : Nat → List Value) (SL : Nat → Nat) (SV : Nat → Nat → Int32) (MT : Nat → Option pm_M) (EX : pm_M → pm_C → (pm_C → Prop) → Prop)
variable (mem memN : Nat → Cond → Bool) (HO : String) (tbl nst : List Cond) (cl : List vw_C) (SN : List (String × String)) (HN : String) (XP : Launch → State → Heap → Prop)
variable (D : va_G) (tc : Nat → ClassId) (z : Nat) (sa : Nat → Nat)
def pm_at (k : Nat) (x : pm_E) (H : Heap) : Prop := match x with
  | .inl a => H[z + k]? = some (vp_cell (tc a.1) (a.2.1, pm_ta z a.2.2))
  | .inr o => ∀ r : vw_C, cl[o.1]? = some r → t_OB (z + k) (D.1 o.1) r.2.2 (D.2 o.1) H (vp_V (o.2.map (pm_tr z sa)))
def pm_J (h : pm_H) (H : Heap) : Prop := H.size = z + h.length ∧ ∀ (k : Nat) (x : pm_E), h[k]? = some x → pm_at cl D tc z sa k x H
def pm_A : Nat → Prop := fun q => z ≤ q
def pm_Lv (ls : Array Slot) (nL : Nat) (L : List Value) : Prop := ∃ lv : List (Nat × Value), lv_has ls nL lv ∧ ∀ (i : Nat) (v : Value), L[i]? = some v → pm_isun v = false → (i, pm_tr z sa v) ∈ lv
def pm_St (U : State) (H : Heap) : Prop := (∀ (j : Nat) (q : String × String), SN[j]? = some q → va_Z q.1 q.2 "[I" (.ref (sa (UInt32.ofNat j).toNat)) (pm_A z) U H) ∧ ∀ j : Nat, va_T .int (sa j) (SL j) (fun i => .int (SV j i)) (pm_A z) U H
def pm_N (U : State) : Prop := (∀ w ∈ nst, va_Nw w U) ∧ va_AO HN U
def pm_Ctx (M : pm_M) (p : Program) (l : Launch) (s : State) (m : MethodId) (args : Array Value) (meth : Method) (cd : Code) : Prop :=
  p.tables.exec = Jvm.exec ∧ cd.code = pm_cd M ∧ meth.sig.returnType = pm_rt M ∧ cd.maxLocals = pm_nl M ∧ s.vm.findClass (pm_nm M).cls = some m.cls ∧ (∀ w ∈ tbl, w.before args s = true) ∧ meth.locks = false ∧ ((pm_nm M).name = "<init>" → meth.name = "<init>") ∧ va_K D cl (pm_tys HN tc) s ∧ pm_St SL SV SN z sa s s.heap ∧ pm_N nst HN s ∧ z ≤ s.heap.size ∧ XP l s s.heap
def pm_resC (M : pm_M) (idx a b n : Nat) (inv : Nat) : Bool := match MT a with
  | none => false
  | some Y => decide ((parseMethodDescriptor (pm_nm Y).desc).map (fun d => d.parameters.length) = some n) && match b with
    | 0 => Nat.beq inv 0 && (Nat.beq (pm_kd Y) 0 && mem (pm_hn M idx) (Cond.methodLink (pm_nm M).cls idx (pm_nm Y)))
    | 3 => Nat.beq inv 0 && (Nat.beq (pm_kd Y) 0 && memN (pm_hn M idx) (Cond.methodLinkNest (pm_nm M).cls idx (pm_nm Y) HO))
    | 1 => Nat.beq inv 1 && (Nat.beq (pm_kd Y) 1 && mem (pm_hn M idx) (Cond.methodLink (pm_nm M).cls idx (pm_nm Y)))
    | 4 => Nat.beq inv 1 && (Nat.beq (pm_kd Y) 1 && memN (pm_hn M idx) (Cond.methodLinkNest (pm_nm M).cls idx (pm_nm Y) HO))
    | 2 => Nat.beq inv 2 && (Nat.beq (pm_kd Y) 2 && mem (pm_hn M idx) (Cond.methodLink (pm_nm M).cls idx (pm_nm Y)))
    | 5 => Nat.beq inv 2 && (Nat.beq (pm_kd Y) 2 && memN (pm_hn M idx) (Cond.methodLinkNest (pm_nm M).cls idx (pm_nm Y) HO))
    | _ => false
def pm_res (M : pm_M) (pc : Nat) (q : pm_I) : Bool :=
  let own := (pm_nm M).cls
  let len := q.2.1
  let a := q.2.2.1
  let b := q.2.2.2.1
  let v := q.2.2.2.2
  match q.1 with
  | .iconst n => Nat.beq len 1 && decide (v = .int (Int32.ofInt n))
  | .bipush n => Nat.beq len 2 && decide (v = .int (Int8.ofInt n).toInt32)
  | .sipush n => Nat.beq len 3 && decide (v = .int (Int16.ofInt n).toInt32)
  | .lconst n => Nat.beq len 1 && decide (v = .long (Int64.ofNat (n : Nat)))
  | .ldc k => Nat.beq len 2 && match v with
    | .int x => mem (pm_hn M k) (Cond.constant own k x)
    | _ => false
  | .ldc_w k => Nat.beq len 3 && match v with
    | .int x => mem (pm_hn M k) (Cond.constant own k x)
    | _ => false
  | .ldc2_w k => Nat.beq len 3 && match v with
    | .long x => mem (pm_hn M k) (Cond.constantLong own k x)
    | _ => false
  | .iload _ => Nat.beq len 2
  | .lload _ => Nat.beq len 2
  | .aload _ => Nat.beq len 2
  | .istore _ => Nat.beq len 2
  | .lstore _ => Nat.beq len 2
  | .astore _ => Nat.beq len 2
  | .iinc _ n => (Nat.beq len 3 || Nat.beq len 6) && decide (v = .int (Int32.ofInt n))
  | .goto off => Nat.beq len 3 && decide ((pc : Int) + off = (a : Int))
  | .ifCond _ off => Nat.beq len 3 && decide ((pc : Int) + off = (a : Int))
  | .if_icmp _ off => Nat.beq len 3 && decide ((pc : Int) + off = (a : Int))
  | .ifnull off => Nat.beq len 3 && decide ((pc : Int) + off = (a : Int))
  | .ifnonnull off => Nat.beq len 3 && decide ((pc : Int) + off = (a : Int))
  | .tableswitch dflt lo hi offs => decide (0 ≤ (pc : Int) + dflt) && (offs.toList.all (fun o => decide (0 ≤ (pc : Int) + o)) && decide ((offs.size : Int) = hi - lo + 1))
  | .instanceof _ => Nat.beq len 3
  | .getstatic k => Nat.beq len 3 && match SN[a]? with
    | some (C, n) => mem (pm_hn M k) (Cond.fieldLink own k C n "[I") || memN (pm_hn M k) (Cond.fieldLinkNest own k C n "[I" HO)
    | none => false
  | .getfield k => Nat.beq len 3 && match cl[a]? with
    | some (_, T, N) => Nat.ble (b + 1) N && (mem (pm_hn M k) (Cond.fieldLink own k (T b).1 (T b).2.1 (T b).2.2.1) || memN (pm_hn M k) (Cond.fieldLinkNest own k (T b).1 (T b).2.1 (T b).2.2.1 HO))
    | none => false
  | .putfield k => Nat.beq len 3 && match cl[a]? with
    | some (_, T, N) => Nat.ble (b + 1) N && match (T b).2.2.2 with
      | false => mem (pm_hn M k) (Cond.fieldLink own k (T b).1 (T b).2.1 (T b).2.2.1) || memN (pm_hn M k) (Cond.fieldLinkNest own k (T b).1 (T b).2.1 (T b).2.2.1 HO)
      | true => mem (pm_hn M k) (Cond.fieldLink own k (T b).1 (T b).2.1 (T b).2.2.1) && (decide ((pm_nm M).name = "<init>") && decide ((T b).1 = own))
    | none => false
  | .new k => Nat.beq len 3 && match cl[a]? with
    | some (C, _, N) => Nat.beq b N && mem (pm_hn M k) (Cond.classLink own k C)
    | none => false
  | .newarray t => Nat.beq len 2 && match a with
    | 0 => decide (t = .int)
    | 1 => decide (t = .long)
    | 2 => decide (t = .boolean)
    | 3 => decide (t = .short)
    | _ => false
  | .anewarray k => Nat.beq len 3 && mem (pm_hn M k) (Cond.classLink own k HN)
  | .invokevirtual k => Nat.beq len 3 && match v with
    | .retAddr n => pm_resC MT mem memN HO M k a b n 0
    | _ => false
  | .invokestatic k => Nat.beq len 3 && match v with
    | .retAddr n => pm_resC MT mem memN HO M k a b n 1
    | _ => false
  | .invokespecial k => Nat.beq len 3 && match b with
    | 6 => mem (pm_hn M k) (Cond.methodLink own k objectInit)
    | _ => match v with
      | .retAddr n => pm_resC MT mem memN HO M k a b n 2
      | _ => false
  | _ => Nat.beq len 1
/-- a method's table is what its code is, and its words are there -/
def pm_wt (M : pm_M) : Prop := ∀ (pc : Nat) (q : pm_I), pm_look M pc = some q → decode (pm_cd M) pc = .ok (q.1, q.2.1) ∧ pm_res MT mem memN HO cl SN HN M pc q = true
def pm_wf (M : pm_M) : Prop := (plainName (pm_nm M).cls = true ∧ pm_kd M ≠ 7) ∧ ((pm_nm M).cls ≠ "java/lang/invoke/MethodHandle" ∧ (pm_nm M).cls ≠ "java/lang/invoke/VarHandle") ∧ Cond.code (pm_nm M) (pm_cd M) (pm_nl M) (pm_rt M) ∈ tbl ∧ Cond.initialized (pm_nm M).cls ∈ tbl ∧ (pm_kd M = 0 → Cond.instanceMethod (pm_nm M) ∈ tbl ∧ Cond.selects (pm_nm M).cls (pm_nm M) (pm_nm M) ∈ tbl ∧ (cl[pm_ci M]?).map (·.1) = some (pm_nm M).cls) ∧ (pm_kd M = 1 → Cond.static (pm_nm M) ∈ tbl) ∧ (pm_kd M = 2 → Cond.instanceMethod (pm_nm M) ∈ tbl ∧ (pm_nm M).name = "<init>" ∧ pm_rt M = none) ∧
  pm_wt MT mem memN HO cl SN HN M
def pm_wtb (M : pm_M) : Bool := (List.range (pm_bd M)).all (fun pc => match pm_look M pc with
  | none => true
  | some q => decide (decode (pm_cd M) pc = .ok (q.1, q.2.1)) && pm_res MT mem memN HO cl SN HN M pc q)
/-- what is known of the tables, once and for all -/
def pm_G : Prop := (∀ (l : Launch) (s U : State) (H H1 : Heap), s.WarmedH U.vm → (∀ a : Nat, a < H.size → ¬ pm_A z a → H1[a]? = H[a]?) → XP l s H → XP l U H1) ∧ (∀ i w, mem i w = true → w ∈ tbl) ∧ (∀ i w, memN i w = true → w ∈ nst) ∧ (∀ w ∈ tbl, goodWord w = true) ∧ (∀ w ∈ nst, pm_isN w = true) ∧ (∀ (ci : Nat) (r : vw_C), cl[ci]? = some r → (∀ w ∈ u_ws r.1 r.2.1 r.2.2, w ∈ tbl) ∧ (∀ k, k < r.2.2 → parseFieldDescriptor (r.2.1 k).2.2.1 = some (ft ci k)) ∧ (∀ a, a < r.2.2 → ∀ b, b < r.2.2 → a ≠ b → (r.2.1 a).2.1 ≠ (r.2.1 b).2.1) ∧ (df ci).length = r.2.2 ∧ ∀ j, j < r.2.2 → (df ci)[j]? = some (defaultValue (ft ci j)) ∧ pm_nf (ft ci j) = true) ∧ (∀ (ci : Nat) (r : vw_C), cl[ci]? = some r → Cond.instantiable r.1 r.2.2 ∈ tbl ∧ Cond.initialized r.1 ∈ tbl) ∧ (Cond.arrayClass .int ∈ tbl ∧ Cond.arrayClass .long ∈ tbl ∧ Cond.arrayClass .boolean ∈ tbl ∧ Cond.arrayClass .short ∈ tbl) ∧
  (∀ (y : Nat) (Y : pm_M), MT y = some Y → pm_wf MT mem memN HO tbl cl SN HN Y) ∧ Cond.instanceMethod objectInit ∈ tbl ∧ Cond.code objectInit ⟨#[0xb1]⟩ 1 none ∈ tbl ∧
  (∀ ci, ci = 2 ∨ ci = 7 ∨ ci = 8 → ∃ r : vw_C, cl[ci]? = some r ∧ Cond.castable r.1 HN ∈ nst)
/-- at an end: the instruction that ends the method -/
def pm_end (M : pm_M) (pc : Nat) (v : Option Value) : Prop := match v with
  | none => decode (pm_cd M) pc = .ok (.return_, 1) ∧ pm_rt M = none
  | some (.int x) => decode (pm_cd M) pc = .ok (.ireturn, 1) ∧ ∃ ty, pm_rt M = some ty ∧ narrow ty (.int x) = .int x
  | some (.long _) => decode (pm_cd M) pc = .ok (.lreturn, 1) ∧ pm_rt M = some .long
  | some .null => decode (pm_cd M) pc = .ok (.areturn, 1) ∧ ∃ n, pm_rt M = some (.object n)
  | some (.ref _) => decode (pm_cd M) pc = .ok (.areturn, 1) ∧ ∃ n, pm_rt M = some (.object n)
  | _ => False
def pm_Snd (M : pm_M) (c : pm_C) (K : pm_K) : Prop := ∀ (p : Program) (l : Launch) (e : Env) (s : State) (m : MethodId) (args : Array Value) (below : List Frame) (meth : Method) (cd : Code) (H : Heap) (locs : List Loc) (ls : Array Slot) (Q : State → Prop),
  pm_Ctx SL SV tbl nst cl SN HN XP D tc z sa M p l s m args meth cd → pm_wt MT mem memN HO cl SN HN M → pm_Lv z sa ls (pm_nl M) c.2.1 → pm_J cl D tc z sa c.2.2.2.1 H → va_S (pm_A z) s.heap H locs → c.2.2.2.2.1 ≤ (pm_rm M).cells → c.2.2.2.2.2 ≤ (pm_rm M).slots →
  (∀ (v : Option Value) (h' : pm_H) (H' : Heap) (locs' : List Loc) (pc' : Nat) (ls' : Array Slot), K v h' → pm_J cl D tc z sa h' H' → va_S (pm_A z) s.heap H' locs' → pm_end M pc' v → W p l e (pm_rm M) s m args below meth cd H' locs' (pm_rm M).cells (pm_rm M).slots Q (F0 m pc' ls' (v.toList.map (pm_tr z sa)))) →
  W p l e (pm_rm M) s m args below meth cd H locs c.2.2.2.2.1 c.2.2.2.2.2 Q (F0 m c.1 ls (c.2.2.1.map (pm_tr z sa)))
def pm_U (l : Launch) (h : pm_H) (U : State) : Prop := pm_J cl D tc z sa h U.heap ∧ va_K D cl (pm_tys HN tc) U ∧ pm_St SL SV SN z sa U U.heap ∧ pm_N nst HN U ∧ z ≤ U.heap.size ∧ XP l U U.heap
def pm_Qc (K : pm_K) : Array Value → State → Outcome → State → Prop := fun _ st oc t => (∃ (r : Option Value) (h' : pm_H), oc = .returned (r.map (pm_tr z sa)) ∧ K r h' ∧ pm_J cl D tc z sa h' t.heap) ∧ va_F (pm_A z) st t
/-- a method's contract, as a call needs it -/
def pm_Met (l : Launch) (Y : pm_M) (as : List Value) (h : pm_H) (K : pm_K) : Prop := Met l (pm_nm Y) (Cond.code (pm_nm Y) (pm_cd Y) (pm_nl Y) (pm_rt Y) :: tbl) (pm_rm Y) (va_Pc (as.map (pm_tr z sa)) (pm_U SL SV nst cl SN HN XP D tc z sa l h)) (pm_Qc cl D tc z sa K) (pm_rm Y).cells (pm_rm Y).slots (pm_A z)
end PMW
