/-! THE PURE MACHINE, its words: a heap is a list of cells, a reference is a place in that list (its cell lies at z + place), '.float j' stands for the j-th array that is only read (a static one, or the script); a method is a table of its instructions. -/
abbrev pm_E : Type := (Nat × vp_A) ⊕ (Nat × List Value)
abbrev pm_H : Type := List pm_E
abbrev pm_I : Type := Instr × Nat × Nat × Nat × Value
/-- name, code, locals, answer's type, class's place, room, length, kind, hints, table -/
abbrev pm_M : Type := MethodName × ByteArray × Nat × Option FieldType × Nat × Room × Nat × Nat × (Nat → Nat) × (Nat → Option pm_I)
abbrev pm_C : Type := Nat × List Value × List Value × pm_H × Nat × Nat
abbrev pm_O : Type := (List Bool × pm_C) ⊕ (Bool × pm_C × pm_C) ⊕ (List Bool × Option Value) ⊕ (List Bool × Nat × List Value × List Value)
abbrev pm_K : Type := Option Value → pm_H → Prop
def pm_nm (M : pm_M) : MethodName := M.1
def pm_cd (M : pm_M) : ByteArray := M.2.1
def pm_nl (M : pm_M) : Nat := M.2.2.1
def pm_rt (M : pm_M) : Option FieldType := M.2.2.2.1
def pm_ci (M : pm_M) : Nat := M.2.2.2.2.1
def pm_rm (M : pm_M) : Room := M.2.2.2.2.2.1
def pm_bd (M : pm_M) : Nat := M.2.2.2.2.2.2.1
/-- virtual 0, static 1, constructor 2 -/
def pm_kd (M : pm_M) : Nat := M.2.2.2.2.2.2.2.1
/-- where the tables have a word on an entry of the method's pool -/
def pm_hn (M : pm_M) : Nat → Nat := M.2.2.2.2.2.2.2.2.1
def pm_look (M : pm_M) (pc : Nat) : Option pm_I := cond (Nat.ble (pc + 1) (pm_bd M)) (M.2.2.2.2.2.2.2.2.2 pc) none
def pm_un : Value := .retAddr 0
def pm_nf : FieldType → Bool
  | .float => false
  | _ => true
def pm_isun : Value → Bool
  | .retAddr _ => true
  | _ => false
def pm_c2 : Value → Bool
  | .long _ => true
  | .double _ => true
  | _ => false
def pm_tr (z : Nat) (sa : Nat → Nat) : Value → Value
  | .ref k => .ref (z + k)
  | .float j => .ref (sa j.toNat)
  | v => v
def pm_ta (z : Nat) : ((Nat → Int32) ⊕ (Nat → Int64) ⊕ (Nat → UInt32) ⊕ (Nat → UInt64) ⊕ (Nat → Option Nat)) → ((Nat → Int32) ⊕ (Nat → Int64) ⊕ (Nat → UInt32) ⊕ (Nat → UInt64) ⊕ (Nat → Option Nat))
  | .inr (.inr (.inr (.inr f))) => .inr (.inr (.inr (.inr (fun j => (f j).map (fun k => z + k)))))
  | .inr (.inr (.inr (.inl f))) => .inr (.inr (.inr (.inl f)))
  | .inr (.inr (.inl f)) => .inr (.inr (.inl f))
  | .inr (.inl f) => .inr (.inl f)
  | .inl f => .inl f
def pm_all : List Bool → Prop
  | [] => True
  | p :: ps => match ps with
    | [] => p = true
    | _ :: _ => p = true ∧ pm_all ps
def pm_inb (i : Int32) (n : Nat) : Bool := !(decide (i < 0)) && Nat.ble (i.toNatClampNeg + 1) n
/-- a local is written: what a long had there is gone -/
def pm_bk (L : List Value) (i : Nat) : List Value := match i with
  | 0 => L
  | j + 1 => match L[j]? with
    | some w => match pm_c2 w with
      | true => L.set j pm_un
      | false => L
    | none => L
def pm_s1 (L : List Value) (i : Nat) (v : Value) : List Value := (pm_bk L i).set i v
def pm_s2 (L : List Value) (i : Nat) (v : Value) : List Value := ((pm_bk L i).set i v).set (i + 1) pm_un
def pm_en (n : Nat) (as : List Value) : List Value :=
  let l := as.flatMap (fun v => match pm_c2 v with
    | true => [v, pm_un]
    | false => [v])
  l ++ List.replicate (n - l.length) pm_un
def pm_cat (st : List Value) : Nat := (st.map fun v => v.category).sum
def pm_i1 (st : List Value) (f : Int32 → Value) : Option (List Value) := match st with
  | .int x :: r => some (f x :: r)
  | _ => none
def pm_i2 (st : List Value) (f : Int32 → Int32 → Int32) : Option (List Value) := match st with
  | .int y :: .int x :: r => some (.int (f x y) :: r)
  | _ => none
def pm_l2 (st : List Value) (f : Int64 → Int64 → Value) : Option (List Value) := match st with
  | .long y :: .long x :: r => some (f x y :: r)
  | _ => none
def pm_li (st : List Value) (f : Int64 → Int32 → Int64) : Option (List Value) := match st with
  | .int y :: .long x :: r => some (.long (f x y) :: r)
  | _ => none
def pm_fit (ty : FieldType) (v : Value) : Option (List Bool) := match ty, v with
  | .int, .int _ => some []
  | .long, .long _ => some []
  | .boolean, .int x => some [decide (x = 0) || decide (x = 1)]
  | .object _, .ref _ => some []
  | .object _, .null => some []
  | .array _, .ref _ => some []
  | .array _, .null => some []
  | _, _ => none
def pm_fitR (ty : Option FieldType) (v : Value) : Option (List Bool) := match ty, v with
  | some .int, .int _ => some []
  | some .boolean, .int x => some [decide (x = 0) || decide (x = 1)]
  | some .short, .int x => some [decide (narrow .short (.int x) = .int x)]
  | some .long, .long _ => some []
  | some (.object _), .ref _ => some []
  | some (.object _), .null => some []
  | _, _ => none
def pm_swpc (pc : Nat) (dflt lo hi : Int) (offs : Array Int) (x : Int32) : Nat :=
  if x.toInt < lo ∨ hi < x.toInt then ((pc : Int) + dflt).toNat else ((pc : Int) + (offs[(x.toInt - lo).toNat]?).getD dflt).toNat
/-- how many bytes an element has, by the kind of array: int, long, boolean, short, Held -/
def pm_zero (t : Nat) : (Nat → Int32) ⊕ (Nat → Int64) ⊕ (Nat → UInt32) ⊕ (Nat → UInt64) ⊕ (Nat → Option Nat) := match t with
  | 1 => .inr (.inl (fun _ => 0))
  | 4 => .inr (.inr (.inr (.inr (fun _ => none))))
  | _ => .inl (fun _ => 0)
section PM
variable (ft : Nat → Nat → FieldType) (df : Nat → List Value) (SL : Nat → Nat) (SV : Nat → Nat → Int32) (MT : Nat → Option pm_M) (NC : Nat)
def pm_ar (h : pm_H) (t : Nat) (k : Nat) : Option vp_A := match h[k]? with
  | some (.inl (t', a)) => match Nat.beq t' t with
    | true => some a
    | false => none
  | _ => none
def pm_ob (h : pm_H) (ci : Nat) (k : Nat) : Option (List Value) := match h[k]? with
  | some (.inr (ci', fs)) => match Nat.beq ci' ci with
    | true => some fs
    | false => none
  | _ => none
def pm_cs (M Y : pm_M) (cells slots : Nat) : List Bool := match Nat.beq (pm_rm Y).cells 0 && Nat.beq (pm_rm Y).slots 0 with
  | true => []
  | false => [Nat.ble (cells + (pm_rm Y).cells) (pm_rm M).cells, Nat.ble (slots + (pm_rm Y).slots) (pm_rm M).slots]
def pm_call (M : pm_M) (y kind nargs : Nat) (st : List Value) (h : pm_H) (cells slots : Nat) : Option pm_O := match MT y with
  | none => none
  | some Y => match Nat.ble ((pm_rm Y).frames + 1) (pm_rm M).frames && Nat.ble (8 + (pm_nl Y + 11) + (pm_rm Y).locals) (pm_rm M).locals with
    | false => none
    | true => match kind with
      | 1 => match Nat.ble (pm_cat (st.drop nargs)) 8 && (Nat.ble nargs st.length && Nat.ble (pm_cat (st.take nargs)) (pm_nl Y)) with
        | true => some (.inr (.inr (.inr (pm_cs M Y cells slots, y, (st.take nargs).reverse, st.drop nargs))))
        | false => none
      | 4 => match Nat.ble (pm_cat (st.drop nargs)) 8 && (Nat.ble nargs st.length && Nat.ble (pm_cat (st.take nargs)) (pm_nl Y)) with
        | true => some (.inr (.inr (.inr (pm_cs M Y cells slots, y, (st.take nargs).reverse, st.drop nargs))))
        | false => none
      | k => match st[nargs]? with
        | some (.ref o) => match Nat.ble (pm_cat (st.drop (nargs + 1))) 8 && Nat.ble (pm_cat (st.take nargs) + 1) (pm_nl Y) with
          | false => none
          | true => match k with
            | 2 => some (.inr (.inr (.inr (pm_cs M Y cells slots, y, .ref o :: (st.take nargs).reverse, st.drop (nargs + 1)))))
            | 5 => some (.inr (.inr (.inr (pm_cs M Y cells slots, y, .ref o :: (st.take nargs).reverse, st.drop (nargs + 1)))))
            | _ => match pm_ob h (pm_ci Y) o with
              | some _ => some (.inr (.inr (.inr (pm_cs M Y cells slots, y, .ref o :: (st.take nargs).reverse, st.drop (nargs + 1)))))
              | none => none
        | _ => none
def pm_br (p : Bool) (sw : Bool) (t : Nat) (pc : Nat) (L st : List Value) (h : pm_H) (c s : Nat) : Option pm_O := match sw with
  | false => some (.inr (.inl (p, (t, L, st, h, c, s), (pc + 3, L, st, h, c, s))))
  | true => some (.inr (.inl (p, (pc + 3, L, st, h, c, s), (t, L, st, h, c, s))))
def pm_cnd (cond : Jvm.ClassFile.Cond) (x y : Int32) : Bool := match cond with
  | .eq => decide (x = y)
  | .ne => decide (x = y)
  | .lt => decide (x < y)
  | .ge => decide (y ≤ x)
  | .gt => decide (y < x)
  | .le => decide (x ≤ y)
def pm_sw (cond : Jvm.ClassFile.Cond) : Bool := match cond with
  | .ne => true
  | _ => false
def pm_nx (pc len : Nat) (L : List Value) (h : pm_H) (c s : Nat) (o : Option (List Value)) : Option pm_O := match o with
  | some st' => some (.inl ([], (pc + len, L, st', h, c, s)))
  | none => none
def pm_sto (M : pm_M) (pc len : Nat) (L st : List Value) (h : pm_H) (c s k : Nat) : Option pm_O := match st with
  | w :: r => match Nat.ble (k + 1) (pm_nl M) with
    | true => some (.inl ([], (pc + len, pm_s1 L k w, r, h, c, s)))
    | false => none
  | [] => none
def pm_stl (M : pm_M) (pc len : Nat) (L st : List Value) (h : pm_H) (c s k : Nat) : Option pm_O := match st with
  | .long x :: r => match Nat.ble (k + 2) (pm_nl M) with
    | true => some (.inl ([], (pc + len, pm_s2 L k (.long x), r, h, c, s)))
    | false => none
  | _ => none
def pm_lda (pc len : Nat) (L st : List Value) (h : pm_H) (c s k : Nat) : Option pm_O := match L[k]? with
  | some (.ref x) => some (.inl ([], (pc + len, L, .ref x :: st, h, c, s)))
  | some (.float x) => some (.inl ([], (pc + len, L, .float x :: st, h, c, s)))
  | some .null => some (.inl ([], (pc + len, L, .null :: st, h, c, s)))
  | _ => none
def pm_ldi (pc len : Nat) (L st : List Value) (h : pm_H) (c s k : Nat) : Option pm_O := match L[k]? with
  | some (.int x) => some (.inl ([], (pc + len, L, .int x :: st, h, c, s)))
  | _ => none
def pm_ldl (pc len : Nat) (L st : List Value) (h : pm_H) (c s k : Nat) : Option pm_O := match L[k]? with
  | some (.long x) => some (.inl ([], (pc + len, L, .long x :: st, h, c, s)))
  | _ => none
def pm_sti (M : pm_M) (pc len : Nat) (L st : List Value) (h : pm_H) (c s k : Nat) : Option pm_O := match st with
  | .int _ :: _ => pm_sto M pc len L st h c s k
  | _ => none
def pm_sta (M : pm_M) (pc len : Nat) (L st : List Value) (h : pm_H) (c s k : Nat) : Option pm_O := match st with
  | .ref _ :: _ => pm_sto M pc len L st h c s k
  | .null :: _ => pm_sto M pc len L st h c s k
  | .float _ :: _ => pm_sto M pc len L st h c s k
  | _ => none
def pm_ex (M : pm_M) (i : Instr) (len a b : Nat) (v : Value) (pc : Nat) (L st : List Value) (h : pm_H) (c s : Nat) : Option pm_O :=
  match i with
  | .aconst_null => pm_nx pc len L h c s (some (.null :: st))
  | .iconst _ => pm_nx pc len L h c s (some (v :: st))
  | .bipush _ => pm_nx pc len L h c s (some (v :: st))
  | .sipush _ => pm_nx pc len L h c s (some (v :: st))
  | .lconst _ => pm_nx pc len L h c s (some (v :: st))
  | .ldc_w _ => pm_nx pc len L h c s (some (v :: st))
  | .ldc _ => pm_nx pc len L h c s (some (v :: st))
  | .ldc2_w _ => pm_nx pc len L h c s (some (v :: st))
  | .iload_n k => pm_ldi pc len L st h c s k
  | .iload k => pm_ldi pc len L st h c s k
  | .lload_n k => pm_ldl pc len L st h c s k
  | .lload k => pm_ldl pc len L st h c s k
  | .aload_n k => pm_lda pc len L st h c s k
  | .aload k => pm_lda pc len L st h c s k
  | .istore_n k => pm_sti M pc len L st h c s k
  | .istore k => pm_sti M pc len L st h c s k
  | .astore_n k => pm_sta M pc len L st h c s k
  | .astore k => pm_sta M pc len L st h c s k
  | .lstore_n k => pm_stl M pc len L st h c s k
  | .lstore k => pm_stl M pc len L st h c s k
  | .iinc k _ => match L[k]?, v with
    | some (.int x), .int d => match Nat.ble (k + 1) (pm_nl M) with
      | true => some (.inl ([], (pc + len, pm_s1 L k (.int (x + d)), st, h, c, s)))
      | false => none
    | _, _ => none
  | .iadd => pm_nx pc len L h c s (pm_i2 st (fun x y => x + y))
  | .isub => pm_nx pc len L h c s (pm_i2 st (fun x y => x - y))
  | .imul => pm_nx pc len L h c s (pm_i2 st (fun x y => x * y))
  | .iand => pm_nx pc len L h c s (pm_i2 st (fun x y => x &&& y))
  | .ior => pm_nx pc len L h c s (pm_i2 st (fun x y => x ||| y))
  | .ixor => pm_nx pc len L h c s (pm_i2 st (fun x y => x ^^^ y))
  | .ishl => pm_nx pc len L h c s (pm_i2 st (fun x y => x <<< (y &&& 31)))
  | .ishr => pm_nx pc len L h c s (pm_i2 st (fun x y => x >>> (y &&& 31)))
  | .iushr => pm_nx pc len L h c s (pm_i2 st (fun x y => (x.toUInt32 >>> (y.toUInt32 &&& Int32.toUInt32 31)).toInt32))
  | .idiv => match st with
    | .int y :: .int x :: r => some (.inl ([!(decide (y = 0))], (pc + len, L, .int (x / y) :: r, h, c, s)))
    | _ => none
  | .irem => match st with
    | .int y :: .int x :: r => some (.inl ([!(decide (y = 0))], (pc + len, L, .int (x - x / y * y) :: r, h, c, s)))
    | _ => none
  | .ladd => pm_nx pc len L h c s (pm_l2 st (fun x y => .long (x + y)))
  | .lmul => pm_nx pc len L h c s (pm_l2 st (fun x y => .long (x * y)))
  | .land => pm_nx pc len L h c s (pm_l2 st (fun x y => .long (x &&& y)))
  | .lor => pm_nx pc len L h c s (pm_l2 st (fun x y => .long (x ||| y)))
  | .lxor => pm_nx pc len L h c s (pm_l2 st (fun x y => .long (x ^^^ y)))
  | .lsub => pm_nx pc len L h c s (pm_l2 st (fun x y => .long (x - y)))
  | .lcmp => pm_nx pc len L h c s (pm_l2 st (fun x y => .int (lg_cmp x y)))
  | .lshl => pm_nx pc len L h c s (pm_li st (fun x y => x <<< (y.toInt64 &&& 63)))
  | .lushr => pm_nx pc len L h c s (pm_li st (fun x y => (x.toUInt64 >>> (y.toInt64.toUInt64 &&& Int64.toUInt64 63)).toInt64))
  | .i2l => pm_nx pc len L h c s (pm_i1 st (fun x => .long x.toInt64))
  | .i2s => pm_nx pc len L h c s (pm_i1 st (fun x => .int x.toInt16.toInt32))
  | .l2i => match st with
    | .long x :: r => pm_nx pc len L h c s (some (.int x.toInt32 :: r))
    | _ => none
  | .dup => match st with
    | w :: r => match pm_c2 w with
      | false => pm_nx pc len L h c s (some (w :: w :: r))
      | true => none
    | _ => none
  | .dup_x1 => match st with
    | w :: u :: r => match pm_c2 w || pm_c2 u with
      | false => pm_nx pc len L h c s (some (w :: u :: w :: r))
      | true => none
    | _ => none
  | .dup_x2 => match st with
    | w :: u :: t :: r => match pm_c2 w || (pm_c2 u || pm_c2 t) with
      | false => pm_nx pc len L h c s (some (w :: u :: t :: w :: r))
      | true => none
    | _ => none
  | .dup2 => match st with
    | w :: u :: r => match pm_c2 w || pm_c2 u with
      | false => pm_nx pc len L h c s (some (w :: u :: w :: u :: r))
      | true => none
    | _ => none
  | .pop => match st with
    | w :: r => match pm_c2 w with
      | false => pm_nx pc len L h c s (some r)
      | true => none
    | _ => none
  | .goto _ => some (.inl ([], (a, L, st, h, c, s)))
  | .ifCond cond _ => match st with
    | .int x :: r => pm_br (pm_cnd cond x 0) (pm_sw cond) a pc L r h c s
    | _ => none
  | .if_icmp cond _ => match st with
    | .int y :: .int x :: r => pm_br (pm_cnd cond x y) (pm_sw cond) a pc L r h c s
    | _ => none
  | .ifnull _ => match st with
    | .null :: r => some (.inl ([], (a, L, r, h, c, s)))
    | .ref _ :: r => some (.inl ([], (pc + len, L, r, h, c, s)))
    | _ => none
  | .ifnonnull _ => match st with
    | .null :: r => some (.inl ([], (pc + len, L, r, h, c, s)))
    | .ref _ :: r => some (.inl ([], (a, L, r, h, c, s)))
    | _ => none
  | .tableswitch dflt lo hi offs => match st with
    | .int x :: r => some (.inl ([], (pm_swpc pc dflt lo hi offs x, L, r, h, c, s)))
    | _ => none
  | .instanceof _ => match st with
    | .null :: r => pm_nx pc len L h c s (some (.int 0 :: r))
    | _ => none
  | .getstatic _ => pm_nx pc len L h c s (some (.float (UInt32.ofNat a) :: st))
  | .getfield _ => match st with
    | .ref k :: r => match pm_ob h a k with
      | some fs => match fs[b]? with
        | some w => pm_nx pc len L h c s (some (w :: r))
        | none => none
      | none => none
    | _ => none
  | .putfield _ => match st with
    | w :: .ref k :: r => match pm_ob h a k with
      | some fs => match fs[b]?, pm_fit (ft a b) w with
        | some _, some ps => some (.inl (ps, (pc + len, L, r, h.set k (.inr (a, fs.set b w)), c, s)))
        | _, _ => none
      | none => none
    | _ => none
  | .arraylength => match st with
    | .ref k :: r => match h[k]? with
      | some (.inl (t, n, _)) => match Nat.ble t 4 with
        | true => pm_nx pc len L h c s (some (.int (Int32.ofNat n) :: r))
        | false => none
      | _ => none
    | .float j :: r => pm_nx pc len L h c s (some (.int (Int32.ofNat (SL j.toNat)) :: r))
    | _ => none
  | .iaload => match st with
    | .int i :: .ref k :: r => match pm_ar h 0 k with
      | some (n, .inl f) => some (.inl ([pm_inb i n], (pc + len, L, .int (f i.toNatClampNeg) :: r, h, c, s)))
      | _ => none
    | .int i :: .float j :: r => some (.inl ([pm_inb i (SL j.toNat)], (pc + len, L, .int (SV j.toNat i.toNatClampNeg) :: r, h, c, s)))
    | _ => none
  | .laload => match st with
    | .int i :: .ref k :: r => match pm_ar h 1 k with
      | some (n, .inr (.inl f)) => some (.inl ([pm_inb i n], (pc + len, L, .long (f i.toNatClampNeg) :: r, h, c, s)))
      | _ => none
    | _ => none
  | .baload => match st with
    | .int i :: .ref k :: r => match pm_ar h 2 k with
      | some (n, .inl f) => some (.inl ([pm_inb i n], (pc + len, L, .int (f i.toNatClampNeg) :: r, h, c, s)))
      | _ => none
    | _ => none
  | .saload => match st with
    | .int i :: .ref k :: r => match pm_ar h 3 k with
      | some (n, .inl f) => some (.inl ([pm_inb i n], (pc + len, L, .int (f i.toNatClampNeg) :: r, h, c, s)))
      | _ => none
    | _ => none
  | .aaload => match st with
    | .int i :: .ref k :: r => match pm_ar h 4 k with
      | some (n, .inr (.inr (.inr (.inr f)))) => some (.inl ([pm_inb i n], (pc + len, L, va_rf (f i.toNatClampNeg) :: r, h, c, s)))
      | _ => none
    | _ => none
  | .iastore => match st with
    | .int x :: .int i :: .ref k :: r => match pm_ar h 0 k with
      | some (n, .inl f) => some (.inl ([pm_inb i n], (pc + len, L, r, h.set k (.inl (0, n, .inl (upd f i.toNatClampNeg x))), c, s)))
      | _ => none
    | _ => none
  | .lastore => match st with
    | .long x :: .int i :: .ref k :: r => match pm_ar h 1 k with
      | some (n, .inr (.inl f)) => some (.inl ([pm_inb i n], (pc + len, L, r, h.set k (.inl (1, n, .inr (.inl (vp_updL f i.toNatClampNeg x)))), c, s)))
      | _ => none
    | _ => none
  | .bastore => match st with
    | .int x :: .int i :: .ref k :: r => match pm_ar h 2 k with
      | some (n, .inl f) => some (.inl ([pm_inb i n], (pc + len, L, r, h.set k (.inl (2, n, .inl (upd f i.toNatClampNeg (vp_nar .boolean x)))), c, s)))
      | _ => none
    | _ => none
  | .sastore => match st with
    | .int x :: .int i :: .ref k :: r => match pm_ar h 3 k with
      | some (n, .inl f) => some (.inl ([pm_inb i n], (pc + len, L, r, h.set k (.inl (3, n, .inl (upd f i.toNatClampNeg (vp_nar .short x)))), c, s)))
      | _ => none
    | _ => none
  | .aastore => match st with
    | .ref y :: .int i :: .ref k :: r => match pm_ar h 4 k, h[y]? with
      | some (n, .inr (.inr (.inr (.inr f)))), some (.inr (ci, _)) => match Nat.beq ci 2 || (Nat.beq ci 7 || Nat.beq ci 8) with
        | true => some (.inl ([pm_inb i n], (pc + len, L, r, h.set k (.inl (4, n, .inr (.inr (.inr (.inr (va_up f i.toNatClampNeg (some y))))))), c, s)))
        | false => none
      | _, _ => none
    | .null :: .int i :: .ref k :: r => match pm_ar h 4 k with
      | some (n, .inr (.inr (.inr (.inr f)))) => some (.inl ([pm_inb i n], (pc + len, L, r, h.set k (.inl (4, n, .inr (.inr (.inr (.inr (va_up f i.toNatClampNeg none)))))), c, s)))
      | _ => none
    | _ => none
  | .new _ => some (.inl ([Nat.ble (c + 1) (pm_rm M).cells, Nat.ble (s + b) (pm_rm M).slots], (pc + len, L, .ref h.length :: st, h ++ [.inr (a, df a)], c + 1, s + b)))
  | .newarray _ => match st with
    | .int n :: r => some (.inl ([!(decide (n < 0)), Nat.ble (n.toNatClampNeg * 8) 536870912, Nat.ble (c + 1) (pm_rm M).cells, Nat.ble (s + n.toNatClampNeg) (pm_rm M).slots], (pc + len, L, .ref h.length :: r, h ++ [.inl (a, n.toNatClampNeg, pm_zero a)], c + 1, s + n.toNatClampNeg)))
    | _ => none
  | .anewarray _ => match st with
    | .int n :: r => some (.inl ([!(decide (n < 0)), Nat.ble (n.toNatClampNeg * 8) 536870912, Nat.ble (c + 1) (pm_rm M).cells, Nat.ble (s + n.toNatClampNeg) (pm_rm M).slots], (pc + len, L, .ref h.length :: r, h ++ [.inl (4, n.toNatClampNeg, pm_zero 4)], c + 1, s + n.toNatClampNeg)))
    | _ => none
  | .invokevirtual _ => match v with
    | .retAddr n => pm_call MT M a b n st h c s
    | _ => none
  | .invokestatic _ => match v with
    | .retAddr n => pm_call MT M a b n st h c s
    | _ => none
  | .invokespecial _ => match b with
    | 6 => match st with
      | .ref _ :: r => match Nat.ble 1 (pm_rm M).frames && Nat.ble (pm_cat r + 12) (pm_rm M).locals with
        | true => pm_nx pc len L h c s (some r)
        | false => none
      | _ => none
    | _ => match v with
      | .retAddr n => pm_call MT M a b n st h c s
      | _ => none
  | .ireturn => match st with
    | [.int x] => match pm_fitR (pm_rt M) (.int x) with
      | some ps => some (.inr (.inr (.inl (ps, some (.int x)))))
      | none => none
    | _ => none
  | .lreturn => match st with
    | [.long x] => match pm_fitR (pm_rt M) (.long x) with
      | some ps => some (.inr (.inr (.inl (ps, some (.long x)))))
      | none => none
    | _ => none
  | .areturn => match st with
    | [.ref x] => match pm_fitR (pm_rt M) (.ref x) with
      | some ps => some (.inr (.inr (.inl (ps, some (.ref x)))))
      | none => none
    | [.null] => match pm_fitR (pm_rt M) .null with
      | some ps => some (.inr (.inr (.inl (ps, some .null))))
      | none => none
    | _ => none
  | .return_ => match st, pm_rt M with
    | [], none => some (.inr (.inr (.inl ([], none))))
    | _, _ => none
  | _ => none
def pm_step (M : pm_M) (c : pm_C) : Option pm_O := match pm_look M c.1 with
  | none => none
  | some q => pm_ex ft df SL SV MT M q.1 q.2.1 q.2.2.1 q.2.2.2.1 q.2.2.2.2 c.1 c.2.1 c.2.2.1 c.2.2.2.1 c.2.2.2.2.1 c.2.2.2.2.2
variable (EX : pm_M → pm_C → (pm_C → Prop) → Prop)
def pm_F (X : pm_M → pm_C → pm_K → Prop) (M : pm_M) (c : pm_C) (K : pm_K) : Prop := match pm_step ft df SL SV MT M c with
  | none => ∃ R : pm_C → Prop, EX M c R ∧ ∀ c', R c' → X M c' K
  | some (.inl q) => pm_all q.1 ∧ X M q.2 K
  | some (.inr (.inl q)) => (q.1 = true → X M q.2.1 K) ∧ (q.1 = false → X M q.2.2 K)
  | some (.inr (.inr (.inl q))) => pm_all q.1 ∧ K q.2 c.2.2.2.1
  | some (.inr (.inr (.inr q))) => pm_all q.1 ∧ ∃ (Y : pm_M) (K' : pm_K), MT q.2.1 = some Y ∧ X Y (0, pm_en (pm_nl Y) q.2.2.1, [], c.2.2.2.1, 0, 0) K' ∧
      ∀ r h', K' r h' → X M (c.1 + 3, c.2.1, r.toList ++ q.2.2.2, h', c.2.2.2.2.1 + (pm_rm Y).cells, c.2.2.2.2.2 + (pm_rm Y).slots) K
def pm_W (M : pm_M) (c : pm_C) (K : pm_K) : Prop := ∀ X : pm_M → pm_C → pm_K → Prop, (∀ M c K, pm_F ft df SL SV MT EX X M c K → X M c K) → X M c K
theorem pm_F_mono {X Y : pm_M → pm_C → pm_K → Prop} (hXY : ∀ M c K, X M c K → Y M c K) {M : pm_M} {c : pm_C} {K : pm_K} (h : pm_F ft df SL SV MT EX X M c K) : pm_F ft df SL SV MT EX Y M c K := by
  unfold pm_F at h ⊢
  cases hs : pm_step ft df SL SV MT M c with
  | none =>
    rw [hs] at h
    obtain ⟨R, h1, h2⟩ := h
    exact ⟨R, h1, fun c' hc' => hXY _ _ _ (h2 c' hc')⟩
  | some o =>
    rw [hs] at h
    rcases o with q | q | q | q
    · exact ⟨h.1, hXY _ _ _ h.2⟩
    · exact ⟨fun a => hXY _ _ _ (h.1 a), fun a => hXY _ _ _ (h.2 a)⟩
    · exact h
    · obtain ⟨h1, Z, K', h2, h3, h4⟩ := h
      exact ⟨h1, Z, K', h2, hXY _ _ _ h3, fun r h' hr => hXY _ _ _ (h4 r h' hr)⟩
theorem pm_in {M : pm_M} {c : pm_C} {K : pm_K} (h : pm_F ft df SL SV MT EX (pm_W ft df SL SV MT EX) M c K) : pm_W ft df SL SV MT EX M c K := fun X hX => hX M c K (pm_F_mono ft df SL SV MT EX (fun M c K hw => hw X hX) h)
theorem pm_W_mono {M : pm_M} {c : pm_C} {K K2 : pm_K} (h : pm_W ft df SL SV MT EX M c K) (hK : ∀ r h', K r h' → K2 r h') : pm_W ft df SL SV MT EX M c K2 := by
  refine h (fun M c K => ∀ K2, (∀ r h', K r h' → K2 r h') → pm_W ft df SL SV MT EX M c K2) ?_ K2 hK
  intro M c K hF K2 hK
  refine pm_in ft df SL SV MT EX ?_
  unfold pm_F at hF ⊢
  cases hs : pm_step ft df SL SV MT M c with
  | none =>
    rw [hs] at hF
    obtain ⟨R, h1, h2⟩ := hF
    exact ⟨R, h1, fun c' hc' => h2 c' hc' K2 hK⟩
  | some o =>
    rw [hs] at hF
    rcases o with q | q | q | q
    · exact ⟨hF.1, hF.2 K2 hK⟩
    · exact ⟨fun a => hF.1 a K2 hK, fun a => hF.2 a K2 hK⟩
    · exact ⟨hF.1, hK _ _ hF.2⟩
    · obtain ⟨h1, Z, K', h2, h3, h4⟩ := hF
      exact ⟨h1, Z, K', h2, h3 K' (fun _ _ x => x), fun r h' hr => h4 r h' hr K2 hK⟩
end PM
