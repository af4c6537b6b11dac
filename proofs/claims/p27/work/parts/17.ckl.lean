/-! THE CHECKER: cuts, calls, returns; the run -/
abbrev ck_Q : Type := ck_S × Int × List Int
/-- bounds of the entry's unknowns; the answer; fields -/
abbrev ck_P : Type := ck_N × (Nat × Int × Int) × List (Nat × Nat × Int × Int)
/-- a contract: arguments, fields, bounds; what may come of it; what may be written -/
abbrev ck_Ct : Type := List ck_V × List ck_D × ck_N × List ck_P × List Nat
def ck_s0 (p : Nat) : List ck_V := (List.range p).map (fun j => (0, j, 1, 0))
section CKL
variable (GA : Nat → ck_A) (XI : pm_H → Prop) (RL : Nat → List (Nat × Int × Int × Int))
def ck_frc (S : ck_S) (d : ck_D) : ck_S := match Nat.beq d.1 0 && Nat.beq (GA d.2.1).1 1, ck_fd S.2.2.2.1 d.2.1 d.2.2.1.2.1, (GA d.2.1).2.2.2[d.2.2.1.2.1]? with
  | true, none, some (0, q) => (S.1, S.2.1, S.2.2.1, (0, d.2.1, (0, d.2.2.1.2.1, 0, 0), (0, S.2.2.2.2.length, 1, 0)) :: S.2.2.2.1, S.2.2.2.2 ++ [q])
  | _, _, _ => S
def ck_sub (p : Nat) (c0 : Int) (w0 : List Int) (S : ck_S) (T : ck_Q) : Bool := match ck_ml (ck_sg (ck_sg (ck_s0 p) T.1.2.1 S.2.1) T.1.2.2.1 S.2.2.1) S.2.2.2.1 T.1.2.2.2.1 with
  | none => false
  | some ws =>
    let σ := ck_sg (ck_sg (ck_sg (ck_s0 p) T.1.2.1 S.2.1) T.1.2.2.1 S.2.2.1) (T.1.2.2.2.1.map (fun d => d.2.2.2)) ws
    let k := ck_cf T.2.2 σ
    (Nat.beq S.1 T.1.1 && (Nat.ble p S.2.2.2.2.length && (ck_mta σ T.1.2.1 S.2.1 && (ck_mta σ T.1.2.2.1 S.2.2.1 && (ck_mta σ (T.1.2.2.2.1.map (fun d => d.2.2.2)) ws && ck_ec S.2.2.2.2 σ T.1.2.2.2.2))))) &&
      (decide (0 ≤ T.2.1 + k.1 - ck_ub (ck_ng k.2) S.2.2.2.2) && decide (T.2.1 + k.1 - c0 + ck_ub (ck_va k.2 (ck_ng w0)) S.2.2.2.2 < 0))
def ck_rk (T : ck_Q) (r : List Int) : Int := T.2.1 + ck_dot T.2.2 r
def ck_rv (q : Nat × Int × Int) (r : Option Value) : Prop := match q.1 with
  | 0 => ∃ x : Int32, r = some (.int x) ∧ q.2.1 ≤ x.toInt ∧ x.toInt ≤ q.2.2
  | 3 => ∃ x : Int64, r = some (.long x)
  | _ => r = none
def ck_ff1 (h : pm_H) (x : Nat × Nat × Int × Int) : Prop := ∃ (ci : Nat) (fs : List Value) (z : Int32), h[x.1]? = some (.inr (ci, fs)) ∧ fs[x.2.1]? = some (.int z) ∧ x.2.2.1 ≤ z.toInt ∧ z.toInt ≤ x.2.2.2
def ck_post (r0 : List Int) (P : ck_P) (r : Option Value) (h : pm_H) : Prop := ck_en r0 P.1 ∧ ck_rv P.2.1 r ∧ ∀ x ∈ P.2.2, ck_ff1 h x
def ck_KC (C : ck_Ct) (r0 : List Int) (h0 : pm_H) : pm_K := fun r h => ck_gi GA XI h ∧ ck_fr C.2.2.2.2 h0 h ∧ ∃ P ∈ C.2.2.2.1, ck_post r0 P r h
def ck_Val (ft : Nat → Nat → FieldType) (df : Nat → List Value) (SL : Nat → Nat) (SV : Nat → Nat → Int32) (MT : Nat → Option pm_M) (EX : pm_M → pm_C → (pm_C → Prop) → Prop) (C : ck_Ct) (Y : pm_M) : Prop :=
  ∀ (r0 : List Int) (as : List Value) (h : pm_H), ck_al r0 C.1 as → ck_en r0 C.2.2.1 → (∀ d ∈ C.2.1, ck_mo r0 h d) → ck_gi GA XI h → pm_W ft df SL SV MT EX Y (0, pm_en (pm_nl Y) as, [], h, 0, 0) (ck_KC GA XI C r0 h)
/-- does a return's answer meet one of what may come? -/
def ck_pc (p : Nat) (m : List ck_D) (E : ck_N) (x : Option ck_V) (P : ck_P) : Bool := (match P.2.1.1, x with
  | 0, some w => Nat.beq w.1 0 && (decide (P.2.1.2.1 ≤ (ck_iv E w).1) && decide ((ck_iv E w).2 ≤ P.2.1.2.2))
  | 3, some w => Nat.beq w.1 3
  | 9, none => true
  | _, _ => false) && (Nat.ble p E.length && (ck_ec E (ck_s0 p) P.1 && P.2.2.all (fun y => match ck_fd m y.1 y.2.1 with
    | some w => Nat.beq w.1 0 && (decide (y.2.2.1 ≤ (ck_iv E w).1) && decide ((ck_iv E w).2 ≤ y.2.2.2))
    | none => false)))
def ck_rt (M : pm_M) (p : Nat) (Ps : List ck_P) (i : Instr) (S : ck_S) : Option Bool := match i with
  | .ireturn => some (match S.2.2.1 with
    | [x] => match Nat.beq x.1 0, pm_rt M with
      | true, some .int => Ps.any (ck_pc p S.2.2.2.1 S.2.2.2.2 (some x))
      | true, some .boolean => (decide (0 ≤ (ck_iv S.2.2.2.2 x).1) && decide ((ck_iv S.2.2.2.2 x).2 ≤ 1)) && Ps.any (ck_pc p S.2.2.2.1 S.2.2.2.2 (some x))
      | _, _ => false
    | _ => false)
  | .lreturn => some (match S.2.2.1 with
    | [x] => match Nat.beq x.1 3, pm_rt M with
      | true, some .long => Ps.any (ck_pc p S.2.2.2.1 S.2.2.2.2 (some x))
      | _, _ => false
    | _ => false)
  | .return_ => some (match S.2.2.1, pm_rt M with
    | [], none => Ps.any (ck_pc p S.2.2.2.1 S.2.2.2.2 none)
    | _, _ => false)
  | _ => none
def ck_cat (st : List ck_V) : Nat := (st.map (fun v => match v.1 with
  | 0 => 1
  | 1 => 1
  | 2 => 1
  | 3 => 2
  | 4 => 1
  | _ => 9)).sum
def ck_caps (E : ck_N) : List ck_V → ck_N → ck_N
  | w :: σ, q :: Q => ck_caps (ck_cap E w q.1 q.2) σ Q
  | _, _ => E
def ck_fcs : List (Nat × Nat × Int × Int) → List ck_D → ck_N → List ck_D × ck_N
  | [], m, E => (m, E)
  | x :: xs, m, E => ck_fcs xs ((0, x.1, (0, x.2.1, 0, 0), (0, E.length, 1, 0)) :: m) (E ++ [x.2.2])
/-- the states behind a call, for one of what may come -/
def ck_aft (pc : Nat) (L rest : List ck_V) (m : List ck_D) (E : ck_N) (md : List Nat) (σ : List ck_V) (P : ck_P) : ck_S :=
  let E1 := ck_caps E σ P.1
  let m1 := m.filter (fun d => !(md.contains d.2.1))
  match P.2.1.1 with
  | 0 => (pc, L, (0, E1.length, 1, 0) :: rest, (ck_fcs P.2.2 m1 (E1 ++ [P.2.1.2])).1, (ck_fcs P.2.2 m1 (E1 ++ [P.2.1.2])).2)
  | 3 => (pc, L, ck_lg :: rest, (ck_fcs P.2.2 m1 E1).1, (ck_fcs P.2.2 m1 E1).2)
  | _ => (pc, L, rest, (ck_fcs P.2.2 m1 E1).1, (ck_fcs P.2.2 m1 E1).2)
def ck_cm (mo : List Nat) (pc : Nat) (L as rest : List ck_V) (m : List ck_D) (E : ck_N) (C : ck_Ct) : Option (List ck_S) := match ck_ml (ck_sg [] C.1 as) m C.2.1 with
  | none => none
  | some ws =>
    let σ := ck_sg (ck_sg [] C.1 as) (C.2.1.map (fun d => d.2.2.2)) ws
    match ck_mta σ C.1 as && (ck_mta σ (C.2.1.map (fun d => d.2.2.2)) ws && (ck_ec E σ C.2.2.1 && C.2.2.2.2.all (fun k => mo.contains k))) with
    | true => some (C.2.2.2.1.map (ck_aft pc L rest m E C.2.2.2.2 σ))
    | false => none
def ck_fst (f : ck_Ct → Option (List ck_S)) (y : Nat) : List (Nat × ck_Ct) → Option (List ck_S)
  | [] => none
  | c :: cs => match Nat.beq c.1 y with
    | true => match f c.2 with
      | some Ss => some Ss
      | none => ck_fst f y cs
    | false => ck_fst f y cs
/-- the fields that the contracts of a method name -/
def ck_nm (y : Nat) (cs : List (Nat × ck_Ct)) : List ck_D := (cs.filter (fun c => Nat.beq c.1 y)).flatMap (fun c => c.2.2.1)
def ck_cl (MT : Nat → Option pm_M) (M : pm_M) (mo : List Nat) (cs : List (Nat × ck_Ct)) (y kind n : Nat) (S0 : ck_S) : Option (List ck_S) := match MT y with
  | none => none
  | some Y =>
    let S := (ck_nm y cs).foldl (ck_frc GA) S0
    match (Nat.ble ((pm_rm Y).frames + 1) (pm_rm M).frames && Nat.ble (8 + (pm_nl Y + 11) + (pm_rm Y).locals) (pm_rm M).locals) && (Nat.beq (pm_rm Y).cells 0 && Nat.beq (pm_rm Y).slots 0) with
    | false => none
    | true => match Nat.beq kind 1 || Nat.beq kind 4 with
      | true => match Nat.ble (ck_cat (S.2.2.1.drop n)) 8 && (Nat.ble n S.2.2.1.length && Nat.ble (ck_cat (S.2.2.1.take n)) (pm_nl Y)) with
        | true => ck_fst (ck_cm mo (S.1 + 3) S.2.1 (S.2.2.1.take n).reverse (S.2.2.1.drop n) S.2.2.2.1 S.2.2.2.2) y cs
        | false => none
      | false => match S.2.2.1[n]? with
        | none => none
        | some w => match Nat.beq w.1 1 && ((Nat.ble (ck_cat (S.2.2.1.drop (n + 1))) 8 && Nat.ble (ck_cat (S.2.2.1.take n) + 1) (pm_nl Y)) && (Nat.beq (GA w.2.1).1 1 && Nat.beq (GA w.2.1).2.1 (pm_ci Y))) with
          | true => ck_fst (ck_cm mo (S.1 + 3) S.2.1 (w :: (S.2.2.1.take n).reverse) (S.2.2.1.drop (n + 1)) S.2.2.2.1 S.2.2.2.2) y cs
          | false => none
def ck_suc (ft : Nat → Nat → FieldType) (FA : Nat → Option (Nat × Int × Int)) (MT : Nat → Option pm_M) (M : pm_M) (mo : List Nat) (cs : List (Nat × ck_Ct)) (i : Instr) (len a b : Nat) (v : Value) (S : ck_S) : Option (List ck_S) := match i with
  | .invokevirtual _ => match v with
    | .retAddr n => ck_cl GA MT M mo cs a b n S
    | _ => none
  | .invokestatic _ => match v with
    | .retAddr n => ck_cl GA MT M mo cs a b n S
    | _ => none
  | .invokespecial _ => match v, Nat.beq b 6 with
    | .retAddr n, false => ck_cl GA MT M mo cs a b n S
    | _, _ => none
  | i => ck_nx ft GA FA RL mo M i len a b v S.1 S.2.1 S.2.2.1 S.2.2.2.1 S.2.2.2.2
/-- Math.max, Math.min: holes of the tables -/
def ck_hol (M : pm_M) (hs : List Nat) (S : ck_S) : Option ck_S := match hs.contains S.1, S.2.2.1 with
  | true, y :: x :: r => match (Nat.beq y.1 0 && Nat.beq x.1 0) && (Nat.ble 1 (pm_rm M).frames && Nat.ble (ck_cat r + 13) (pm_rm M).locals) with
    | true => some (S.1 + 3, S.2.1, (0, S.2.2.2.2.length, 1, 0) :: r, S.2.2.2.1, S.2.2.2.2 ++ [(ck_lo, ck_hi)])
    | false => none
  | _, _ => none
def ck_go (ft : Nat → Nat → FieldType) (FA : Nat → Option (Nat × Int × Int)) (MT : Nat → Option pm_M) (M : pm_M) (hs : List Nat) (mo : List Nat) (cs : List (Nat × ck_Ct)) (Ps : List ck_P) (Ts : List ck_Q) (p : Nat) (c0 : Int) (w0 : List Int) : Nat → Bool → ck_S → Bool
  | 0, _, _ => false
  | n + 1, b, S => match b && Ts.any (fun T => Nat.beq T.1.1 S.1) with
    | true => Ts.any (fun T => ck_sub p c0 w0 (T.1.2.2.2.1.foldl (ck_frc GA) S) T)
    | false => match pm_look M S.1 with
      | none => match ck_hol M hs S with
        | none => false
        | some S' => ck_go ft FA MT M hs mo cs Ps Ts p c0 w0 n true S'
      | some q => match ck_rt M p Ps q.1 S with
        | some d => d
        | none => match ck_suc GA RL ft FA MT M mo cs q.1 q.2.1 q.2.2.1 q.2.2.2.1 q.2.2.2.2 S with
          | none => false
          | some Ss => Ss.all (fun S' => ck_bot S'.2.2.2.2 || ck_go ft FA MT M hs mo cs Ps Ts p c0 w0 n true S')
end CKL
