/-! THE PURE MACHINE, heaps as functions: 'hp S n' is the list of the cells S 0 .. S (n - 1); rows, an instruction each -/
def hp (S : Nat → pm_E) (n : Nat) : pm_H := (List.range n).map S
theorem hp_get {S : Nat → pm_E} {n k : Nat} (hk : k < n) : (hp S n)[k]? = some (S k) := by
  unfold hp
  rw [List.getElem?_map, List.getElem?_range hk]; rfl
theorem hp_len (S : Nat → pm_E) (n : Nat) : (hp S n).length = n := by simp [hp]
theorem hp_set {S : Nat → pm_E} {n k : Nat} {x : pm_E} (hk : k < n) : (hp S n).set k x = hp (va_up S k x) n := by
  apply List.ext_getElem?
  intro j
  rw [List.getElem?_set]
  by_cases hj : j < n
  · rw [hp_get hj, hp_get hj]
    by_cases hkj : k = j
    · subst hkj
      rw [if_pos rfl, if_pos (by rw [hp_len]; exact hk)]
      simp [va_up]
    · rw [if_neg hkj]
      simp [va_up, Ne.symm hkj]
  · have e1 : (hp S n)[j]? = none := List.getElem?_eq_none (by rw [hp_len]; omega)
    have e2 : (hp (va_up S k x) n)[j]? = none := List.getElem?_eq_none (by rw [hp_len]; omega)
    rw [e1, e2, if_neg (by omega)]
theorem hp_push {S : Nat → pm_E} {n : Nat} {x : pm_E} : hp S n ++ [x] = hp (va_up S n x) (n + 1) := by
  apply List.ext_getElem?
  intro j
  rcases Nat.lt_trichotomy j n with hj | hj | hj
  · rw [List.getElem?_append_left (by rw [hp_len]; exact hj), hp_get hj, hp_get (by omega)]
    simp [va_up, Nat.ne_of_lt hj]
  · subst hj
    rw [List.getElem?_append_right (by rw [hp_len]; exact Nat.le_refl _), hp_len, Nat.sub_self, hp_get (by omega)]
    simp [va_up]
  · rw [List.getElem?_eq_none (by simp [hp_len]; omega), List.getElem?_eq_none (by rw [hp_len]; omega)]
theorem hp_nil (S : Nat → pm_E) : hp S 0 = [] := rfl
abbrev q_K : Type := Option Value → (Nat → pm_E) → Nat → Prop
section QW
variable {SL : Nat → Nat} {SV : Nat → Nat → Int32} {EX : pm_M → pm_C → (pm_C → Prop) → Prop}
def PQ (SL : Nat → Nat) (SV : Nat → Nat → Int32) (EX : pm_M → pm_C → (pm_C → Prop) → Prop) (M : pm_M) (pc : Nat) (L st : List Value) (S : Nat → pm_E) (n c s : Nat) (K : q_K) : Prop :=
  pm_W j_ft j_df SL SV j_MT EX M (pc, L, st, hp S n, c, s) (fun r h => ∃ S' n', h = hp S' n' ∧ K r S' n')
variable {M : pm_M} {pc q len a b : Nat} {v : Value} {L st : List Value} {S : Nat → pm_E} {n c s : Nat} {K : q_K}
theorem q_in {o : pm_O} (hs : pm_step j_ft j_df SL SV j_MT M (pc, L, st, hp S n, c, s) = some o) (hF : match o with
    | .inl q => pm_all q.1 ∧ pm_W j_ft j_df SL SV j_MT EX M q.2 (fun r h => ∃ S' n', h = hp S' n' ∧ K r S' n')
    | .inr (.inl q) => (q.1 = true → pm_W j_ft j_df SL SV j_MT EX M q.2.1 (fun r h => ∃ S' n', h = hp S' n' ∧ K r S' n')) ∧ (q.1 = false → pm_W j_ft j_df SL SV j_MT EX M q.2.2 (fun r h => ∃ S' n', h = hp S' n' ∧ K r S' n'))
    | .inr (.inr (.inl q)) => pm_all q.1 ∧ ∃ S' n', hp S n = hp S' n' ∧ K q.2 S' n'
    | .inr (.inr (.inr q)) => pm_all q.1 ∧ ∃ (Y : pm_M) (K' : pm_K), j_MT q.2.1 = some Y ∧ pm_W j_ft j_df SL SV j_MT EX Y (0, pm_en (pm_nl Y) q.2.2.1, [], hp S n, 0, 0) K' ∧ ∀ r h', K' r h' → pm_W j_ft j_df SL SV j_MT EX M (pc + 3, L, r.toList ++ q.2.2.2, h', c + (pm_rm Y).cells, s + (pm_rm Y).slots) (fun r h => ∃ S' n', h = hp S' n' ∧ K r S' n')) : PQ SL SV EX M pc L st S n c s K := by
  unfold PQ
  refine pm_in _ _ _ _ _ _ ?_
  unfold pm_F
  rw [hs]
  rcases o with q | q | q | q
  · exact hF
  · exact hF
  · exact hF
  · exact hF
theorem q_step {i : Instr} (hl : pm_look M pc = some (i, len, a, b, v)) : pm_step j_ft j_df SL SV j_MT M (pc, L, st, hp S n, c, s) = pm_ex j_ft j_df SL SV j_MT M i len a b v pc L st (hp S n) c s := by
  unfold pm_step
  rw [hl]
theorem q_iconst {i0 : Int} (hl : pm_look M pc = some (.iconst i0, len, a, b, v)) (hq : pc + len = q)  (k : PQ SL SV EX M q L (v :: st) S n c s K) : PQ SL SV EX M pc L (st) S n c s K := by
  subst hq
  refine q_in (o := .inl ([], (pc + len, L, v :: st, hp S n, c, s))) ((q_step hl).trans rfl) ⟨trivial, k⟩
theorem q_bipush {i0 : Int} (hl : pm_look M pc = some (.bipush i0, len, a, b, v)) (hq : pc + len = q)  (k : PQ SL SV EX M q L (v :: st) S n c s K) : PQ SL SV EX M pc L (st) S n c s K := by
  subst hq
  refine q_in (o := .inl ([], (pc + len, L, v :: st, hp S n, c, s))) ((q_step hl).trans rfl) ⟨trivial, k⟩
theorem q_sipush {i0 : Int} (hl : pm_look M pc = some (.sipush i0, len, a, b, v)) (hq : pc + len = q)  (k : PQ SL SV EX M q L (v :: st) S n c s K) : PQ SL SV EX M pc L (st) S n c s K := by
  subst hq
  refine q_in (o := .inl ([], (pc + len, L, v :: st, hp S n, c, s))) ((q_step hl).trans rfl) ⟨trivial, k⟩
theorem q_lconst {i0 : Fin 2} (hl : pm_look M pc = some (.lconst i0, len, a, b, v)) (hq : pc + len = q)  (k : PQ SL SV EX M q L (v :: st) S n c s K) : PQ SL SV EX M pc L (st) S n c s K := by
  subst hq
  refine q_in (o := .inl ([], (pc + len, L, v :: st, hp S n, c, s))) ((q_step hl).trans rfl) ⟨trivial, k⟩
theorem q_ldc {i0 : Nat} (hl : pm_look M pc = some (.ldc i0, len, a, b, v)) (hq : pc + len = q)  (k : PQ SL SV EX M q L (v :: st) S n c s K) : PQ SL SV EX M pc L (st) S n c s K := by
  subst hq
  refine q_in (o := .inl ([], (pc + len, L, v :: st, hp S n, c, s))) ((q_step hl).trans rfl) ⟨trivial, k⟩
theorem q_ldcw {i0 : Nat} (hl : pm_look M pc = some (.ldc_w i0, len, a, b, v)) (hq : pc + len = q)  (k : PQ SL SV EX M q L (v :: st) S n c s K) : PQ SL SV EX M pc L (st) S n c s K := by
  subst hq
  refine q_in (o := .inl ([], (pc + len, L, v :: st, hp S n, c, s))) ((q_step hl).trans rfl) ⟨trivial, k⟩
theorem q_ldc2 {i0 : Nat} (hl : pm_look M pc = some (.ldc2_w i0, len, a, b, v)) (hq : pc + len = q)  (k : PQ SL SV EX M q L (v :: st) S n c s K) : PQ SL SV EX M pc L (st) S n c s K := by
  subst hq
  refine q_in (o := .inl ([], (pc + len, L, v :: st, hp S n, c, s))) ((q_step hl).trans rfl) ⟨trivial, k⟩
theorem q_null  (hl : pm_look M pc = some (.aconst_null, len, a, b, v)) (hq : pc + len = q)  (k : PQ SL SV EX M q L (.null :: st) S n c s K) : PQ SL SV EX M pc L (st) S n c s K := by
  subst hq
  refine q_in (o := .inl ([], (pc + len, L, .null :: st, hp S n, c, s))) ((q_step hl).trans rfl) ⟨trivial, k⟩
theorem q_iadd {x y : Int32} (hl : pm_look M pc = some (.iadd, len, a, b, v)) (hq : pc + len = q)  (k : PQ SL SV EX M q L (.int (x + y) :: st) S n c s K) : PQ SL SV EX M pc L (.int y :: .int x :: st) S n c s K := by
  subst hq
  refine q_in (o := .inl ([], (pc + len, L, .int (x + y) :: st, hp S n, c, s))) ((q_step hl).trans rfl) ⟨trivial, k⟩
theorem q_isub {x y : Int32} (hl : pm_look M pc = some (.isub, len, a, b, v)) (hq : pc + len = q)  (k : PQ SL SV EX M q L (.int (x - y) :: st) S n c s K) : PQ SL SV EX M pc L (.int y :: .int x :: st) S n c s K := by
  subst hq
  refine q_in (o := .inl ([], (pc + len, L, .int (x - y) :: st, hp S n, c, s))) ((q_step hl).trans rfl) ⟨trivial, k⟩
theorem q_imul {x y : Int32} (hl : pm_look M pc = some (.imul, len, a, b, v)) (hq : pc + len = q)  (k : PQ SL SV EX M q L (.int (x * y) :: st) S n c s K) : PQ SL SV EX M pc L (.int y :: .int x :: st) S n c s K := by
  subst hq
  refine q_in (o := .inl ([], (pc + len, L, .int (x * y) :: st, hp S n, c, s))) ((q_step hl).trans rfl) ⟨trivial, k⟩
theorem q_iand {x y : Int32} (hl : pm_look M pc = some (.iand, len, a, b, v)) (hq : pc + len = q)  (k : PQ SL SV EX M q L (.int (x &&& y) :: st) S n c s K) : PQ SL SV EX M pc L (.int y :: .int x :: st) S n c s K := by
  subst hq
  refine q_in (o := .inl ([], (pc + len, L, .int (x &&& y) :: st, hp S n, c, s))) ((q_step hl).trans rfl) ⟨trivial, k⟩
theorem q_ior {x y : Int32} (hl : pm_look M pc = some (.ior, len, a, b, v)) (hq : pc + len = q)  (k : PQ SL SV EX M q L (.int (x ||| y) :: st) S n c s K) : PQ SL SV EX M pc L (.int y :: .int x :: st) S n c s K := by
  subst hq
  refine q_in (o := .inl ([], (pc + len, L, .int (x ||| y) :: st, hp S n, c, s))) ((q_step hl).trans rfl) ⟨trivial, k⟩
theorem q_ixor {x y : Int32} (hl : pm_look M pc = some (.ixor, len, a, b, v)) (hq : pc + len = q)  (k : PQ SL SV EX M q L (.int (x ^^^ y) :: st) S n c s K) : PQ SL SV EX M pc L (.int y :: .int x :: st) S n c s K := by
  subst hq
  refine q_in (o := .inl ([], (pc + len, L, .int (x ^^^ y) :: st, hp S n, c, s))) ((q_step hl).trans rfl) ⟨trivial, k⟩
theorem q_ishl {x y : Int32} (hl : pm_look M pc = some (.ishl, len, a, b, v)) (hq : pc + len = q)  (k : PQ SL SV EX M q L (.int (x <<< (y &&& 31)) :: st) S n c s K) : PQ SL SV EX M pc L (.int y :: .int x :: st) S n c s K := by
  subst hq
  refine q_in (o := .inl ([], (pc + len, L, .int (x <<< (y &&& 31)) :: st, hp S n, c, s))) ((q_step hl).trans rfl) ⟨trivial, k⟩
theorem q_ishr {x y : Int32} (hl : pm_look M pc = some (.ishr, len, a, b, v)) (hq : pc + len = q)  (k : PQ SL SV EX M q L (.int (x >>> (y &&& 31)) :: st) S n c s K) : PQ SL SV EX M pc L (.int y :: .int x :: st) S n c s K := by
  subst hq
  refine q_in (o := .inl ([], (pc + len, L, .int (x >>> (y &&& 31)) :: st, hp S n, c, s))) ((q_step hl).trans rfl) ⟨trivial, k⟩
theorem q_iushr {x y : Int32} (hl : pm_look M pc = some (.iushr, len, a, b, v)) (hq : pc + len = q)  (k : PQ SL SV EX M q L (.int ((x.toUInt32 >>> (y.toUInt32 &&& Int32.toUInt32 31)).toInt32) :: st) S n c s K) : PQ SL SV EX M pc L (.int y :: .int x :: st) S n c s K := by
  subst hq
  refine q_in (o := .inl ([], (pc + len, L, .int ((x.toUInt32 >>> (y.toUInt32 &&& Int32.toUInt32 31)).toInt32) :: st, hp S n, c, s))) ((q_step hl).trans rfl) ⟨trivial, k⟩
theorem q_idiv {x y : Int32} (hl : pm_look M pc = some (.idiv, len, a, b, v)) (hq : pc + len = q) (hy : ¬ y = 0) (k : PQ SL SV EX M q L (.int (x / y) :: st) S n c s K) : PQ SL SV EX M pc L (.int y :: .int x :: st) S n c s K := by
  subst hq
  refine q_in (o := .inl ([!(decide (y = 0))], (pc + len, L, .int (x / y) :: st, hp S n, c, s))) ((q_step hl).trans rfl) ⟨(by rw [decide_eq_false hy]; rfl : (!(decide (y = 0))) = true), k⟩
theorem q_irem {x y : Int32} (hl : pm_look M pc = some (.irem, len, a, b, v)) (hq : pc + len = q) (hy : ¬ y = 0) (k : PQ SL SV EX M q L (.int (x - x / y * y) :: st) S n c s K) : PQ SL SV EX M pc L (.int y :: .int x :: st) S n c s K := by
  subst hq
  refine q_in (o := .inl ([!(decide (y = 0))], (pc + len, L, .int (x - x / y * y) :: st, hp S n, c, s))) ((q_step hl).trans rfl) ⟨(by rw [decide_eq_false hy]; rfl : (!(decide (y = 0))) = true), k⟩
theorem q_ladd {x y : Int64} (hl : pm_look M pc = some (.ladd, len, a, b, v)) (hq : pc + len = q)  (k : PQ SL SV EX M q L (.long (x + y) :: st) S n c s K) : PQ SL SV EX M pc L (.long y :: .long x :: st) S n c s K := by
  subst hq
  refine q_in (o := .inl ([], (pc + len, L, .long (x + y) :: st, hp S n, c, s))) ((q_step hl).trans rfl) ⟨trivial, k⟩
theorem q_lsub {x y : Int64} (hl : pm_look M pc = some (.lsub, len, a, b, v)) (hq : pc + len = q)  (k : PQ SL SV EX M q L (.long (x - y) :: st) S n c s K) : PQ SL SV EX M pc L (.long y :: .long x :: st) S n c s K := by
  subst hq
  refine q_in (o := .inl ([], (pc + len, L, .long (x - y) :: st, hp S n, c, s))) ((q_step hl).trans rfl) ⟨trivial, k⟩
theorem q_lmul {x y : Int64} (hl : pm_look M pc = some (.lmul, len, a, b, v)) (hq : pc + len = q)  (k : PQ SL SV EX M q L (.long (x * y) :: st) S n c s K) : PQ SL SV EX M pc L (.long y :: .long x :: st) S n c s K := by
  subst hq
  refine q_in (o := .inl ([], (pc + len, L, .long (x * y) :: st, hp S n, c, s))) ((q_step hl).trans rfl) ⟨trivial, k⟩
theorem q_land {x y : Int64} (hl : pm_look M pc = some (.land, len, a, b, v)) (hq : pc + len = q)  (k : PQ SL SV EX M q L (.long (x &&& y) :: st) S n c s K) : PQ SL SV EX M pc L (.long y :: .long x :: st) S n c s K := by
  subst hq
  refine q_in (o := .inl ([], (pc + len, L, .long (x &&& y) :: st, hp S n, c, s))) ((q_step hl).trans rfl) ⟨trivial, k⟩
theorem q_lor {x y : Int64} (hl : pm_look M pc = some (.lor, len, a, b, v)) (hq : pc + len = q)  (k : PQ SL SV EX M q L (.long (x ||| y) :: st) S n c s K) : PQ SL SV EX M pc L (.long y :: .long x :: st) S n c s K := by
  subst hq
  refine q_in (o := .inl ([], (pc + len, L, .long (x ||| y) :: st, hp S n, c, s))) ((q_step hl).trans rfl) ⟨trivial, k⟩
theorem q_lxor {x y : Int64} (hl : pm_look M pc = some (.lxor, len, a, b, v)) (hq : pc + len = q)  (k : PQ SL SV EX M q L (.long (x ^^^ y) :: st) S n c s K) : PQ SL SV EX M pc L (.long y :: .long x :: st) S n c s K := by
  subst hq
  refine q_in (o := .inl ([], (pc + len, L, .long (x ^^^ y) :: st, hp S n, c, s))) ((q_step hl).trans rfl) ⟨trivial, k⟩
theorem q_lcmp {x y : Int64} (hl : pm_look M pc = some (.lcmp, len, a, b, v)) (hq : pc + len = q)  (k : PQ SL SV EX M q L (.int (lg_cmp x y) :: st) S n c s K) : PQ SL SV EX M pc L (.long y :: .long x :: st) S n c s K := by
  subst hq
  refine q_in (o := .inl ([], (pc + len, L, .int (lg_cmp x y) :: st, hp S n, c, s))) ((q_step hl).trans rfl) ⟨trivial, k⟩
theorem q_lshl {x : Int64} {y : Int32} (hl : pm_look M pc = some (.lshl, len, a, b, v)) (hq : pc + len = q)  (k : PQ SL SV EX M q L (.long (x <<< (y.toInt64 &&& 63)) :: st) S n c s K) : PQ SL SV EX M pc L (.int y :: .long x :: st) S n c s K := by
  subst hq
  refine q_in (o := .inl ([], (pc + len, L, .long (x <<< (y.toInt64 &&& 63)) :: st, hp S n, c, s))) ((q_step hl).trans rfl) ⟨trivial, k⟩
theorem q_lushr {x : Int64} {y : Int32} (hl : pm_look M pc = some (.lushr, len, a, b, v)) (hq : pc + len = q)  (k : PQ SL SV EX M q L (.long ((x.toUInt64 >>> (y.toInt64.toUInt64 &&& Int64.toUInt64 63)).toInt64) :: st) S n c s K) : PQ SL SV EX M pc L (.int y :: .long x :: st) S n c s K := by
  subst hq
  refine q_in (o := .inl ([], (pc + len, L, .long ((x.toUInt64 >>> (y.toInt64.toUInt64 &&& Int64.toUInt64 63)).toInt64) :: st, hp S n, c, s))) ((q_step hl).trans rfl) ⟨trivial, k⟩
theorem q_i2l {x : Int32} (hl : pm_look M pc = some (.i2l, len, a, b, v)) (hq : pc + len = q)  (k : PQ SL SV EX M q L (.long x.toInt64 :: st) S n c s K) : PQ SL SV EX M pc L (.int x :: st) S n c s K := by
  subst hq
  refine q_in (o := .inl ([], (pc + len, L, .long x.toInt64 :: st, hp S n, c, s))) ((q_step hl).trans rfl) ⟨trivial, k⟩
theorem q_i2s {x : Int32} (hl : pm_look M pc = some (.i2s, len, a, b, v)) (hq : pc + len = q)  (k : PQ SL SV EX M q L (.int x.toInt16.toInt32 :: st) S n c s K) : PQ SL SV EX M pc L (.int x :: st) S n c s K := by
  subst hq
  refine q_in (o := .inl ([], (pc + len, L, .int x.toInt16.toInt32 :: st, hp S n, c, s))) ((q_step hl).trans rfl) ⟨trivial, k⟩
theorem q_l2i {x : Int64} (hl : pm_look M pc = some (.l2i, len, a, b, v)) (hq : pc + len = q)  (k : PQ SL SV EX M q L (.int x.toInt32 :: st) S n c s K) : PQ SL SV EX M pc L (.long x :: st) S n c s K := by
  subst hq
  refine q_in (o := .inl ([], (pc + len, L, .int x.toInt32 :: st, hp S n, c, s))) ((q_step hl).trans rfl) ⟨trivial, k⟩
theorem q_dupi {x : Int32} (hl : pm_look M pc = some (.dup, len, a, b, v)) (hq : pc + len = q)  (k : PQ SL SV EX M q L (.int x :: .int x :: st) S n c s K) : PQ SL SV EX M pc L (.int x :: st) S n c s K := by
  subst hq
  refine q_in (o := .inl ([], (pc + len, L, .int x :: .int x :: st, hp S n, c, s))) ((q_step hl).trans rfl) ⟨trivial, k⟩
theorem q_dupr {x : Nat} (hl : pm_look M pc = some (.dup, len, a, b, v)) (hq : pc + len = q)  (k : PQ SL SV EX M q L (.ref x :: .ref x :: st) S n c s K) : PQ SL SV EX M pc L (.ref x :: st) S n c s K := by
  subst hq
  refine q_in (o := .inl ([], (pc + len, L, .ref x :: .ref x :: st, hp S n, c, s))) ((q_step hl).trans rfl) ⟨trivial, k⟩
theorem q_dupn  (hl : pm_look M pc = some (.dup, len, a, b, v)) (hq : pc + len = q)  (k : PQ SL SV EX M q L (.null :: .null :: st) S n c s K) : PQ SL SV EX M pc L (.null :: st) S n c s K := by
  subst hq
  refine q_in (o := .inl ([], (pc + len, L, .null :: .null :: st, hp S n, c, s))) ((q_step hl).trans rfl) ⟨trivial, k⟩
theorem q_dupx1 {x : Int32} {o : Nat} (hl : pm_look M pc = some (.dup_x1, len, a, b, v)) (hq : pc + len = q)  (k : PQ SL SV EX M q L (.int x :: .ref o :: .int x :: st) S n c s K) : PQ SL SV EX M pc L (.int x :: .ref o :: st) S n c s K := by
  subst hq
  refine q_in (o := .inl ([], (pc + len, L, .int x :: .ref o :: .int x :: st, hp S n, c, s))) ((q_step hl).trans rfl) ⟨trivial, k⟩
theorem q_dupx2 {x y : Int32} {o : Nat} (hl : pm_look M pc = some (.dup_x2, len, a, b, v)) (hq : pc + len = q)  (k : PQ SL SV EX M q L (.int x :: .int y :: .ref o :: .int x :: st) S n c s K) : PQ SL SV EX M pc L (.int x :: .int y :: .ref o :: st) S n c s K := by
  subst hq
  refine q_in (o := .inl ([], (pc + len, L, .int x :: .int y :: .ref o :: .int x :: st, hp S n, c, s))) ((q_step hl).trans rfl) ⟨trivial, k⟩
theorem q_dup2 {x : Int32} {o : Nat} (hl : pm_look M pc = some (.dup2, len, a, b, v)) (hq : pc + len = q)  (k : PQ SL SV EX M q L (.int x :: .ref o :: .int x :: .ref o :: st) S n c s K) : PQ SL SV EX M pc L (.int x :: .ref o :: st) S n c s K := by
  subst hq
  refine q_in (o := .inl ([], (pc + len, L, .int x :: .ref o :: .int x :: .ref o :: st, hp S n, c, s))) ((q_step hl).trans rfl) ⟨trivial, k⟩
theorem q_pop {x : Int32} (hl : pm_look M pc = some (.pop, len, a, b, v)) (hq : pc + len = q)  (k : PQ SL SV EX M q L (st) S n c s K) : PQ SL SV EX M pc L (.int x :: st) S n c s K := by
  subst hq
  refine q_in (o := .inl ([], (pc + len, L, st, hp S n, c, s))) ((q_step hl).trans rfl) ⟨trivial, k⟩
theorem q_instN {i0 : Nat} (hl : pm_look M pc = some (.instanceof i0, len, a, b, v)) (hq : pc + len = q)  (k : PQ SL SV EX M q L (.int 0 :: st) S n c s K) : PQ SL SV EX M pc L (.null :: st) S n c s K := by
  subst hq
  refine q_in (o := .inl ([], (pc + len, L, .int 0 :: st, hp S n, c, s))) ((q_step hl).trans rfl) ⟨trivial, k⟩
theorem q_gets {i0 : Nat} (hl : pm_look M pc = some (.getstatic i0, len, a, b, v)) (hq : pc + len = q)  (k : PQ SL SV EX M q L (.float (UInt32.ofNat a) :: st) S n c s K) : PQ SL SV EX M pc L (st) S n c s K := by
  subst hq
  refine q_in (o := .inl ([], (pc + len, L, .float (UInt32.ofNat a) :: st, hp S n, c, s))) ((q_step hl).trans rfl) ⟨trivial, k⟩
theorem q_iload {k0 : Nat} {x : Int32} (hl : pm_look M pc = some (.iload k0, len, a, b, v)) (hq : pc + len = q) (hx : L[(k0 : Nat)]? = some (.int x)) (k : PQ SL SV EX M q L (.int x :: st) S n c s K) : PQ SL SV EX M pc L st S n c s K := by
  subst hq
  refine q_in (o := .inl ([], (pc + len, L, .int x :: st, hp S n, c, s))) ((q_step hl).trans ?_) ⟨trivial, k⟩
  show pm_ldi _ _ _ _ _ _ _ _ = _
  unfold pm_ldi
  rw [hx]
theorem q_iload_n {k0 : Fin 4} {x : Int32} (hl : pm_look M pc = some (.iload_n k0, len, a, b, v)) (hq : pc + len = q) (hx : L[(k0 : Nat)]? = some (.int x)) (k : PQ SL SV EX M q L (.int x :: st) S n c s K) : PQ SL SV EX M pc L st S n c s K := by
  subst hq
  refine q_in (o := .inl ([], (pc + len, L, .int x :: st, hp S n, c, s))) ((q_step hl).trans ?_) ⟨trivial, k⟩
  show pm_ldi _ _ _ _ _ _ _ _ = _
  unfold pm_ldi
  rw [hx]
theorem q_lload {k0 : Nat} {x : Int64} (hl : pm_look M pc = some (.lload k0, len, a, b, v)) (hq : pc + len = q) (hx : L[(k0 : Nat)]? = some (.long x)) (k : PQ SL SV EX M q L (.long x :: st) S n c s K) : PQ SL SV EX M pc L st S n c s K := by
  subst hq
  refine q_in (o := .inl ([], (pc + len, L, .long x :: st, hp S n, c, s))) ((q_step hl).trans ?_) ⟨trivial, k⟩
  show pm_ldl _ _ _ _ _ _ _ _ = _
  unfold pm_ldl
  rw [hx]
theorem q_lload_n {k0 : Fin 4} {x : Int64} (hl : pm_look M pc = some (.lload_n k0, len, a, b, v)) (hq : pc + len = q) (hx : L[(k0 : Nat)]? = some (.long x)) (k : PQ SL SV EX M q L (.long x :: st) S n c s K) : PQ SL SV EX M pc L st S n c s K := by
  subst hq
  refine q_in (o := .inl ([], (pc + len, L, .long x :: st, hp S n, c, s))) ((q_step hl).trans ?_) ⟨trivial, k⟩
  show pm_ldl _ _ _ _ _ _ _ _ = _
  unfold pm_ldl
  rw [hx]
theorem q_aload {k0 : Nat} {x : Nat} (hl : pm_look M pc = some (.aload k0, len, a, b, v)) (hq : pc + len = q) (hx : L[(k0 : Nat)]? = some (.ref x)) (k : PQ SL SV EX M q L (.ref x :: st) S n c s K) : PQ SL SV EX M pc L st S n c s K := by
  subst hq
  refine q_in (o := .inl ([], (pc + len, L, .ref x :: st, hp S n, c, s))) ((q_step hl).trans ?_) ⟨trivial, k⟩
  show pm_lda _ _ _ _ _ _ _ _ = _
  unfold pm_lda
  rw [hx]
theorem q_aloadF {k0 : Nat} {x : UInt32} (hl : pm_look M pc = some (.aload k0, len, a, b, v)) (hq : pc + len = q) (hx : L[(k0 : Nat)]? = some (.float x)) (k : PQ SL SV EX M q L (.float x :: st) S n c s K) : PQ SL SV EX M pc L st S n c s K := by
  subst hq
  refine q_in (o := .inl ([], (pc + len, L, .float x :: st, hp S n, c, s))) ((q_step hl).trans ?_) ⟨trivial, k⟩
  show pm_lda _ _ _ _ _ _ _ _ = _
  unfold pm_lda
  rw [hx]
theorem q_aloadN {k0 : Nat}  (hl : pm_look M pc = some (.aload k0, len, a, b, v)) (hq : pc + len = q) (hx : L[(k0 : Nat)]? = some (.null)) (k : PQ SL SV EX M q L (.null :: st) S n c s K) : PQ SL SV EX M pc L st S n c s K := by
  subst hq
  refine q_in (o := .inl ([], (pc + len, L, .null :: st, hp S n, c, s))) ((q_step hl).trans ?_) ⟨trivial, k⟩
  show pm_lda _ _ _ _ _ _ _ _ = _
  unfold pm_lda
  rw [hx]
theorem q_aload_n {k0 : Fin 4} {x : Nat} (hl : pm_look M pc = some (.aload_n k0, len, a, b, v)) (hq : pc + len = q) (hx : L[(k0 : Nat)]? = some (.ref x)) (k : PQ SL SV EX M q L (.ref x :: st) S n c s K) : PQ SL SV EX M pc L st S n c s K := by
  subst hq
  refine q_in (o := .inl ([], (pc + len, L, .ref x :: st, hp S n, c, s))) ((q_step hl).trans ?_) ⟨trivial, k⟩
  show pm_lda _ _ _ _ _ _ _ _ = _
  unfold pm_lda
  rw [hx]
theorem q_aload_nF {k0 : Fin 4} {x : UInt32} (hl : pm_look M pc = some (.aload_n k0, len, a, b, v)) (hq : pc + len = q) (hx : L[(k0 : Nat)]? = some (.float x)) (k : PQ SL SV EX M q L (.float x :: st) S n c s K) : PQ SL SV EX M pc L st S n c s K := by
  subst hq
  refine q_in (o := .inl ([], (pc + len, L, .float x :: st, hp S n, c, s))) ((q_step hl).trans ?_) ⟨trivial, k⟩
  show pm_lda _ _ _ _ _ _ _ _ = _
  unfold pm_lda
  rw [hx]
theorem q_aload_nN {k0 : Fin 4}  (hl : pm_look M pc = some (.aload_n k0, len, a, b, v)) (hq : pc + len = q) (hx : L[(k0 : Nat)]? = some (.null)) (k : PQ SL SV EX M q L (.null :: st) S n c s K) : PQ SL SV EX M pc L st S n c s K := by
  subst hq
  refine q_in (o := .inl ([], (pc + len, L, .null :: st, hp S n, c, s))) ((q_step hl).trans ?_) ⟨trivial, k⟩
  show pm_lda _ _ _ _ _ _ _ _ = _
  unfold pm_lda
  rw [hx]
theorem q_istore {k0 : Nat} {x : Int32} {L2 : List Value} (hl : pm_look M pc = some (.istore k0, len, a, b, v)) (hq : pc + len = q) (hk : Nat.ble ((k0 : Nat) + 1) (pm_nl M) = true) (hL : pm_s1 L k0 (.int x) = L2) (k : PQ SL SV EX M q L2 st S n c s K) : PQ SL SV EX M pc L (.int x :: st) S n c s K := by
  subst hq
  subst hL
  refine q_in (o := .inl ([], (pc + len, pm_s1 L k0 (.int x), st, hp S n, c, s))) ((q_step hl).trans ?_) ⟨trivial, k⟩
  simp only [pm_ex, pm_sti, pm_sta, pm_sto, hk]
theorem q_istore_n {k0 : Fin 4} {x : Int32} {L2 : List Value} (hl : pm_look M pc = some (.istore_n k0, len, a, b, v)) (hq : pc + len = q) (hk : Nat.ble ((k0 : Nat) + 1) (pm_nl M) = true) (hL : pm_s1 L k0 (.int x) = L2) (k : PQ SL SV EX M q L2 st S n c s K) : PQ SL SV EX M pc L (.int x :: st) S n c s K := by
  subst hq
  subst hL
  refine q_in (o := .inl ([], (pc + len, pm_s1 L k0 (.int x), st, hp S n, c, s))) ((q_step hl).trans ?_) ⟨trivial, k⟩
  simp only [pm_ex, pm_sti, pm_sta, pm_sto, hk]
theorem q_astore {k0 : Nat} {x : Nat} {L2 : List Value} (hl : pm_look M pc = some (.astore k0, len, a, b, v)) (hq : pc + len = q) (hk : Nat.ble ((k0 : Nat) + 1) (pm_nl M) = true) (hL : pm_s1 L k0 (.ref x) = L2) (k : PQ SL SV EX M q L2 st S n c s K) : PQ SL SV EX M pc L (.ref x :: st) S n c s K := by
  subst hq
  subst hL
  refine q_in (o := .inl ([], (pc + len, pm_s1 L k0 (.ref x), st, hp S n, c, s))) ((q_step hl).trans ?_) ⟨trivial, k⟩
  simp only [pm_ex, pm_sti, pm_sta, pm_sto, hk]
theorem q_astore_n {k0 : Fin 4} {x : Nat} {L2 : List Value} (hl : pm_look M pc = some (.astore_n k0, len, a, b, v)) (hq : pc + len = q) (hk : Nat.ble ((k0 : Nat) + 1) (pm_nl M) = true) (hL : pm_s1 L k0 (.ref x) = L2) (k : PQ SL SV EX M q L2 st S n c s K) : PQ SL SV EX M pc L (.ref x :: st) S n c s K := by
  subst hq
  subst hL
  refine q_in (o := .inl ([], (pc + len, pm_s1 L k0 (.ref x), st, hp S n, c, s))) ((q_step hl).trans ?_) ⟨trivial, k⟩
  simp only [pm_ex, pm_sti, pm_sta, pm_sto, hk]
theorem q_astoreN {k0 : Nat}  {L2 : List Value} (hl : pm_look M pc = some (.astore k0, len, a, b, v)) (hq : pc + len = q) (hk : Nat.ble ((k0 : Nat) + 1) (pm_nl M) = true) (hL : pm_s1 L k0 (.null) = L2) (k : PQ SL SV EX M q L2 st S n c s K) : PQ SL SV EX M pc L (.null :: st) S n c s K := by
  subst hq
  subst hL
  refine q_in (o := .inl ([], (pc + len, pm_s1 L k0 (.null), st, hp S n, c, s))) ((q_step hl).trans ?_) ⟨trivial, k⟩
  simp only [pm_ex, pm_sti, pm_sta, pm_sto, hk]
theorem q_astore_nN {k0 : Fin 4}  {L2 : List Value} (hl : pm_look M pc = some (.astore_n k0, len, a, b, v)) (hq : pc + len = q) (hk : Nat.ble ((k0 : Nat) + 1) (pm_nl M) = true) (hL : pm_s1 L k0 (.null) = L2) (k : PQ SL SV EX M q L2 st S n c s K) : PQ SL SV EX M pc L (.null :: st) S n c s K := by
  subst hq
  subst hL
  refine q_in (o := .inl ([], (pc + len, pm_s1 L k0 (.null), st, hp S n, c, s))) ((q_step hl).trans ?_) ⟨trivial, k⟩
  simp only [pm_ex, pm_sti, pm_sta, pm_sto, hk]
theorem q_lstore {k0 : Nat} {x : Int64} {L2 : List Value} (hl : pm_look M pc = some (.lstore k0, len, a, b, v)) (hq : pc + len = q) (hk : Nat.ble ((k0 : Nat) + 2) (pm_nl M) = true) (hL : pm_s2 L k0 (.long x) = L2) (k : PQ SL SV EX M q L2 st S n c s K) : PQ SL SV EX M pc L (.long x :: st) S n c s K := by
  subst hq
  subst hL
  refine q_in (o := .inl ([], (pc + len, pm_s2 L k0 (.long x), st, hp S n, c, s))) ((q_step hl).trans ?_) ⟨trivial, k⟩
  simp only [pm_ex, pm_stl, hk]
theorem q_lstore_n {k0 : Fin 4} {x : Int64} {L2 : List Value} (hl : pm_look M pc = some (.lstore_n k0, len, a, b, v)) (hq : pc + len = q) (hk : Nat.ble ((k0 : Nat) + 2) (pm_nl M) = true) (hL : pm_s2 L k0 (.long x) = L2) (k : PQ SL SV EX M q L2 st S n c s K) : PQ SL SV EX M pc L (.long x :: st) S n c s K := by
  subst hq
  subst hL
  refine q_in (o := .inl ([], (pc + len, pm_s2 L k0 (.long x), st, hp S n, c, s))) ((q_step hl).trans ?_) ⟨trivial, k⟩
  simp only [pm_ex, pm_stl, hk]
theorem q_iinc {k0 : Nat} {i0 : Int} {x d : Int32} {L2 : List Value} (hl : pm_look M pc = some (.iinc k0 i0, len, a, b, .int d)) (hq : pc + len = q) (hx : L[k0]? = some (.int x)) (hk : Nat.ble (k0 + 1) (pm_nl M) = true) (hL : pm_s1 L k0 (.int (x + d)) = L2) (k : PQ SL SV EX M q L2 st S n c s K) : PQ SL SV EX M pc L st S n c s K := by
  subst hq
  subst hL
  refine q_in (o := .inl ([], (pc + len, pm_s1 L k0 (.int (x + d)), st, hp S n, c, s))) ((q_step hl).trans ?_) ⟨trivial, k⟩
  simp only [pm_ex, hx, hk]
theorem q_goto {i0 : Int} (hl : pm_look M pc = some (.goto i0, len, a, b, v))  (k : PQ SL SV EX M a L st S n c s K) : PQ SL SV EX M pc L st S n c s K := by
  exact q_in (o := .inl ([], (a, L, st, hp S n, c, s))) ((q_step hl).trans rfl) ⟨trivial, k⟩
theorem q_ifeq {x : Int32} {i0 : Int} (hl : pm_look M pc = some (.ifCond .eq i0, len, a, b, v)) (hq : pc + 3 = q) (kt : x = (0 : Int32) → PQ SL SV EX M a L st S n c s K) (kf : ¬ (x = (0 : Int32)) → PQ SL SV EX M q L st S n c s K) : PQ SL SV EX M pc L (.int x :: st) S n c s K := by
  subst hq
  exact q_in (o := .inr (.inl (decide (x = (0 : Int32)), (a, L, st, hp S n, c, s), (pc + 3, L, st, hp S n, c, s)))) ((q_step hl).trans rfl) ⟨fun e => kt (of_decide_eq_true e), fun e => kf (of_decide_eq_false e)⟩
theorem q_iceq {x y : Int32} {i0 : Int} (hl : pm_look M pc = some (.if_icmp .eq i0, len, a, b, v)) (hq : pc + 3 = q) (kt : x = y → PQ SL SV EX M a L st S n c s K) (kf : ¬ (x = y) → PQ SL SV EX M q L st S n c s K) : PQ SL SV EX M pc L (.int y :: .int x :: st) S n c s K := by
  subst hq
  exact q_in (o := .inr (.inl (decide (x = y), (a, L, st, hp S n, c, s), (pc + 3, L, st, hp S n, c, s)))) ((q_step hl).trans rfl) ⟨fun e => kt (of_decide_eq_true e), fun e => kf (of_decide_eq_false e)⟩
theorem q_ifne {x : Int32} {i0 : Int} (hl : pm_look M pc = some (.ifCond .ne i0, len, a, b, v)) (hq : pc + 3 = q) (kt : x = (0 : Int32) → PQ SL SV EX M q L st S n c s K) (kf : ¬ (x = (0 : Int32)) → PQ SL SV EX M a L st S n c s K) : PQ SL SV EX M pc L (.int x :: st) S n c s K := by
  subst hq
  exact q_in (o := .inr (.inl (decide (x = (0 : Int32)), (pc + 3, L, st, hp S n, c, s), (a, L, st, hp S n, c, s)))) ((q_step hl).trans rfl) ⟨fun e => kt (of_decide_eq_true e), fun e => kf (of_decide_eq_false e)⟩
theorem q_icne {x y : Int32} {i0 : Int} (hl : pm_look M pc = some (.if_icmp .ne i0, len, a, b, v)) (hq : pc + 3 = q) (kt : x = y → PQ SL SV EX M q L st S n c s K) (kf : ¬ (x = y) → PQ SL SV EX M a L st S n c s K) : PQ SL SV EX M pc L (.int y :: .int x :: st) S n c s K := by
  subst hq
  exact q_in (o := .inr (.inl (decide (x = y), (pc + 3, L, st, hp S n, c, s), (a, L, st, hp S n, c, s)))) ((q_step hl).trans rfl) ⟨fun e => kt (of_decide_eq_true e), fun e => kf (of_decide_eq_false e)⟩
theorem q_iflt {x : Int32} {i0 : Int} (hl : pm_look M pc = some (.ifCond .lt i0, len, a, b, v)) (hq : pc + 3 = q) (kt : x < (0 : Int32) → PQ SL SV EX M a L st S n c s K) (kf : ¬ (x < (0 : Int32)) → PQ SL SV EX M q L st S n c s K) : PQ SL SV EX M pc L (.int x :: st) S n c s K := by
  subst hq
  exact q_in (o := .inr (.inl (decide (x < (0 : Int32)), (a, L, st, hp S n, c, s), (pc + 3, L, st, hp S n, c, s)))) ((q_step hl).trans rfl) ⟨fun e => kt (of_decide_eq_true e), fun e => kf (of_decide_eq_false e)⟩
theorem q_iclt {x y : Int32} {i0 : Int} (hl : pm_look M pc = some (.if_icmp .lt i0, len, a, b, v)) (hq : pc + 3 = q) (kt : x < y → PQ SL SV EX M a L st S n c s K) (kf : ¬ (x < y) → PQ SL SV EX M q L st S n c s K) : PQ SL SV EX M pc L (.int y :: .int x :: st) S n c s K := by
  subst hq
  exact q_in (o := .inr (.inl (decide (x < y), (a, L, st, hp S n, c, s), (pc + 3, L, st, hp S n, c, s)))) ((q_step hl).trans rfl) ⟨fun e => kt (of_decide_eq_true e), fun e => kf (of_decide_eq_false e)⟩
theorem q_ifge {x : Int32} {i0 : Int} (hl : pm_look M pc = some (.ifCond .ge i0, len, a, b, v)) (hq : pc + 3 = q) (kt : (0 : Int32) ≤ x → PQ SL SV EX M a L st S n c s K) (kf : ¬ ((0 : Int32) ≤ x) → PQ SL SV EX M q L st S n c s K) : PQ SL SV EX M pc L (.int x :: st) S n c s K := by
  subst hq
  exact q_in (o := .inr (.inl (decide ((0 : Int32) ≤ x), (a, L, st, hp S n, c, s), (pc + 3, L, st, hp S n, c, s)))) ((q_step hl).trans rfl) ⟨fun e => kt (of_decide_eq_true e), fun e => kf (of_decide_eq_false e)⟩
theorem q_icge {x y : Int32} {i0 : Int} (hl : pm_look M pc = some (.if_icmp .ge i0, len, a, b, v)) (hq : pc + 3 = q) (kt : y ≤ x → PQ SL SV EX M a L st S n c s K) (kf : ¬ (y ≤ x) → PQ SL SV EX M q L st S n c s K) : PQ SL SV EX M pc L (.int y :: .int x :: st) S n c s K := by
  subst hq
  exact q_in (o := .inr (.inl (decide (y ≤ x), (a, L, st, hp S n, c, s), (pc + 3, L, st, hp S n, c, s)))) ((q_step hl).trans rfl) ⟨fun e => kt (of_decide_eq_true e), fun e => kf (of_decide_eq_false e)⟩
theorem q_ifgt {x : Int32} {i0 : Int} (hl : pm_look M pc = some (.ifCond .gt i0, len, a, b, v)) (hq : pc + 3 = q) (kt : (0 : Int32) < x → PQ SL SV EX M a L st S n c s K) (kf : ¬ ((0 : Int32) < x) → PQ SL SV EX M q L st S n c s K) : PQ SL SV EX M pc L (.int x :: st) S n c s K := by
  subst hq
  exact q_in (o := .inr (.inl (decide ((0 : Int32) < x), (a, L, st, hp S n, c, s), (pc + 3, L, st, hp S n, c, s)))) ((q_step hl).trans rfl) ⟨fun e => kt (of_decide_eq_true e), fun e => kf (of_decide_eq_false e)⟩
theorem q_icgt {x y : Int32} {i0 : Int} (hl : pm_look M pc = some (.if_icmp .gt i0, len, a, b, v)) (hq : pc + 3 = q) (kt : y < x → PQ SL SV EX M a L st S n c s K) (kf : ¬ (y < x) → PQ SL SV EX M q L st S n c s K) : PQ SL SV EX M pc L (.int y :: .int x :: st) S n c s K := by
  subst hq
  exact q_in (o := .inr (.inl (decide (y < x), (a, L, st, hp S n, c, s), (pc + 3, L, st, hp S n, c, s)))) ((q_step hl).trans rfl) ⟨fun e => kt (of_decide_eq_true e), fun e => kf (of_decide_eq_false e)⟩
theorem q_ifle {x : Int32} {i0 : Int} (hl : pm_look M pc = some (.ifCond .le i0, len, a, b, v)) (hq : pc + 3 = q) (kt : x ≤ (0 : Int32) → PQ SL SV EX M a L st S n c s K) (kf : ¬ (x ≤ (0 : Int32)) → PQ SL SV EX M q L st S n c s K) : PQ SL SV EX M pc L (.int x :: st) S n c s K := by
  subst hq
  exact q_in (o := .inr (.inl (decide (x ≤ (0 : Int32)), (a, L, st, hp S n, c, s), (pc + 3, L, st, hp S n, c, s)))) ((q_step hl).trans rfl) ⟨fun e => kt (of_decide_eq_true e), fun e => kf (of_decide_eq_false e)⟩
theorem q_icle {x y : Int32} {i0 : Int} (hl : pm_look M pc = some (.if_icmp .le i0, len, a, b, v)) (hq : pc + 3 = q) (kt : x ≤ y → PQ SL SV EX M a L st S n c s K) (kf : ¬ (x ≤ y) → PQ SL SV EX M q L st S n c s K) : PQ SL SV EX M pc L (.int y :: .int x :: st) S n c s K := by
  subst hq
  exact q_in (o := .inr (.inl (decide (x ≤ y), (a, L, st, hp S n, c, s), (pc + 3, L, st, hp S n, c, s)))) ((q_step hl).trans rfl) ⟨fun e => kt (of_decide_eq_true e), fun e => kf (of_decide_eq_false e)⟩
theorem q_ifnull {i0 : Int} {x : Nat} (hl : pm_look M pc = some (.ifnull i0, len, a, b, v)) (hq : pc + len = q)  (k : PQ SL SV EX M q L (st) S n c s K) : PQ SL SV EX M pc L (.ref x :: st) S n c s K := by
  subst hq
  refine q_in (o := .inl ([], (pc + len, L, st, hp S n, c, s))) ((q_step hl).trans rfl) ⟨trivial, k⟩
theorem q_ifnullN {i0 : Int} (hl : pm_look M pc = some (.ifnull i0, len, a, b, v))  (k : PQ SL SV EX M a L st S n c s K) : PQ SL SV EX M pc L (.null :: st) S n c s K := by
  exact q_in (o := .inl ([], (a, L, st, hp S n, c, s))) ((q_step hl).trans rfl) ⟨trivial, k⟩
theorem q_ifnonnullN {i0 : Int} (hl : pm_look M pc = some (.ifnonnull i0, len, a, b, v)) (hq : pc + len = q)  (k : PQ SL SV EX M q L (st) S n c s K) : PQ SL SV EX M pc L (.null :: st) S n c s K := by
  subst hq
  refine q_in (o := .inl ([], (pc + len, L, st, hp S n, c, s))) ((q_step hl).trans rfl) ⟨trivial, k⟩
theorem q_ifnonnull {i0 : Int} {x : Nat} (hl : pm_look M pc = some (.ifnonnull i0, len, a, b, v))  (k : PQ SL SV EX M a L st S n c s K) : PQ SL SV EX M pc L (.ref x :: st) S n c s K := by
  exact q_in (o := .inl ([], (a, L, st, hp S n, c, s))) ((q_step hl).trans rfl) ⟨trivial, k⟩
theorem q_switch {dflt lo hi : Int} {offs : Array Int} {x : Int32} (hl : pm_look M pc = some (.tableswitch dflt lo hi offs, len, a, b, v)) (hq : pm_swpc pc dflt lo hi offs x = q) (k : PQ SL SV EX M q L st S n c s K) : PQ SL SV EX M pc L (.int x :: st) S n c s K := by
  subst hq
  exact q_in (o := .inl ([], (pm_swpc pc dflt lo hi offs x, L, st, hp S n, c, s))) ((q_step hl).trans rfl) ⟨trivial, k⟩
theorem q_ob {ci k : Nat} {fs : List Value} (hk : k < n) (hs : S k = .inr (ci, fs)) : pm_ob (hp S n) ci k = some fs := by
  unfold pm_ob
  rw [hp_get hk, hs]
  dsimp only
  rw [show Nat.beq ci ci = true from Nat.beq_refl ci]
theorem q_ar {t k : Nat} {x : vp_A} (hk : k < n) (hs : S k = .inl (t, x)) : pm_ar (hp S n) t k = some x := by
  unfold pm_ar
  rw [hp_get hk, hs]
  dsimp only
  rw [show Nat.beq t t = true from Nat.beq_refl t]
theorem q_getf {i0 k : Nat} {fs : List Value} {w : Value} (hl : pm_look M pc = some (.getfield i0, len, a, b, v)) (hq : pc + len = q) (hk : k < n) (hs : S k = .inr (a, fs)) (hw : fs[b]? = some w) (kk : PQ SL SV EX M q L (w :: st) S n c s K) : PQ SL SV EX M pc L (.ref k :: st) S n c s K := by
  subst hq
  refine q_in (o := .inl ([], (pc + len, L, w :: st, hp S n, c, s))) ((q_step hl).trans ?_) ⟨trivial, kk⟩
  simp only [pm_ex, q_ob hk hs, hw]
  rfl
theorem q_putf {i0 k : Nat} {fs : List Value} {w : Value} {ps : List Bool} (hl : pm_look M pc = some (.putfield i0, len, a, b, v)) (hq : pc + len = q) (hk : k < n) (hs : S k = .inr (a, fs)) (hb : b < fs.length) (hf : pm_fit (j_ft a b) w = some ps) (hp0 : pm_all ps) (kk : PQ SL SV EX M q L st (va_up S k (.inr (a, fs.set b w))) n c s K) : PQ SL SV EX M pc L (w :: .ref k :: st) S n c s K := by
  subst hq
  unfold PQ at kk
  rw [← hp_set hk] at kk
  refine q_in (o := .inl (ps, (pc + len, L, st, (hp S n).set k (.inr (a, fs.set b w)), c, s))) ((q_step hl).trans ?_) ⟨hp0, kk⟩
  simp only [pm_ex, q_ob hk hs, List.getElem?_eq_getElem hb, hf]
theorem q_alen {k t m0 : Nat} {f : (Nat → Int32) ⊕ (Nat → Int64) ⊕ (Nat → UInt32) ⊕ (Nat → UInt64) ⊕ (Nat → Option Nat)} (hl : pm_look M pc = some (.arraylength, len, a, b, v)) (hq : pc + len = q) (hk : k < n) (hs : S k = .inl (t, m0, f)) (ht : Nat.ble t 4 = true) (kk : PQ SL SV EX M q L (.int (Int32.ofNat m0) :: st) S n c s K) : PQ SL SV EX M pc L (.ref k :: st) S n c s K := by
  subst hq
  refine q_in (o := .inl ([], (pc + len, L, .int (Int32.ofNat m0) :: st, hp S n, c, s))) ((q_step hl).trans ?_) ⟨trivial, kk⟩
  simp only [pm_ex, hp_get hk, hs, ht]
  rfl
theorem q_alenF {j : UInt32} (hl : pm_look M pc = some (.arraylength, len, a, b, v)) (hq : pc + len = q) (kk : PQ SL SV EX M q L (.int (Int32.ofNat (SL j.toNat)) :: st) S n c s K) : PQ SL SV EX M pc L (.float j :: st) S n c s K := by
  subst hq
  exact q_in (o := .inl ([], (pc + len, L, .int (Int32.ofNat (SL j.toNat)) :: st, hp S n, c, s))) ((q_step hl).trans rfl) ⟨trivial, kk⟩
theorem q_iald {k m0 : Nat} {f : Nat → Int32} {i : Int32} (hl : pm_look M pc = some (.iaload, len, a, b, v)) (hq : pc + len = q) (hk : k < n) (hs : S k = .inl (0, m0, .inl f)) (hi : pm_inb i m0 = true) (kk : PQ SL SV EX M q L (.int (f i.toNatClampNeg) :: st) S n c s K) : PQ SL SV EX M pc L (.int i :: .ref k :: st) S n c s K := by
  subst hq
  refine q_in (o := .inl ([pm_inb i m0], (pc + len, L, .int (f i.toNatClampNeg) :: st, hp S n, c, s))) ((q_step hl).trans ?_) ⟨hi, kk⟩
  simp only [pm_ex, q_ar hk hs]
theorem q_lald {k m0 : Nat} {f : Nat → Int64} {i : Int32} (hl : pm_look M pc = some (.laload, len, a, b, v)) (hq : pc + len = q) (hk : k < n) (hs : S k = .inl (1, m0, .inr (.inl f))) (hi : pm_inb i m0 = true) (kk : PQ SL SV EX M q L (.long (f i.toNatClampNeg) :: st) S n c s K) : PQ SL SV EX M pc L (.int i :: .ref k :: st) S n c s K := by
  subst hq
  refine q_in (o := .inl ([pm_inb i m0], (pc + len, L, .long (f i.toNatClampNeg) :: st, hp S n, c, s))) ((q_step hl).trans ?_) ⟨hi, kk⟩
  simp only [pm_ex, q_ar hk hs]
theorem q_zald {k m0 : Nat} {f : Nat → Int32} {i : Int32} (hl : pm_look M pc = some (.baload, len, a, b, v)) (hq : pc + len = q) (hk : k < n) (hs : S k = .inl (2, m0, .inl f)) (hi : pm_inb i m0 = true) (kk : PQ SL SV EX M q L (.int (f i.toNatClampNeg) :: st) S n c s K) : PQ SL SV EX M pc L (.int i :: .ref k :: st) S n c s K := by
  subst hq
  refine q_in (o := .inl ([pm_inb i m0], (pc + len, L, .int (f i.toNatClampNeg) :: st, hp S n, c, s))) ((q_step hl).trans ?_) ⟨hi, kk⟩
  simp only [pm_ex, q_ar hk hs]
theorem q_sald {k m0 : Nat} {f : Nat → Int32} {i : Int32} (hl : pm_look M pc = some (.saload, len, a, b, v)) (hq : pc + len = q) (hk : k < n) (hs : S k = .inl (3, m0, .inl f)) (hi : pm_inb i m0 = true) (kk : PQ SL SV EX M q L (.int (f i.toNatClampNeg) :: st) S n c s K) : PQ SL SV EX M pc L (.int i :: .ref k :: st) S n c s K := by
  subst hq
  refine q_in (o := .inl ([pm_inb i m0], (pc + len, L, .int (f i.toNatClampNeg) :: st, hp S n, c, s))) ((q_step hl).trans ?_) ⟨hi, kk⟩
  simp only [pm_ex, q_ar hk hs]
theorem q_aald {k m0 : Nat} {f : Nat → Option Nat} {i : Int32} (hl : pm_look M pc = some (.aaload, len, a, b, v)) (hq : pc + len = q) (hk : k < n) (hs : S k = .inl (4, m0, .inr (.inr (.inr (.inr f))))) (hi : pm_inb i m0 = true) (kk : PQ SL SV EX M q L (va_rf (f i.toNatClampNeg) :: st) S n c s K) : PQ SL SV EX M pc L (.int i :: .ref k :: st) S n c s K := by
  subst hq
  refine q_in (o := .inl ([pm_inb i m0], (pc + len, L, va_rf (f i.toNatClampNeg) :: st, hp S n, c, s))) ((q_step hl).trans ?_) ⟨hi, kk⟩
  simp only [pm_ex, q_ar hk hs]
theorem q_ialdF {j : UInt32} {i : Int32} (hl : pm_look M pc = some (.iaload, len, a, b, v)) (hq : pc + len = q) (hi : pm_inb i (SL j.toNat) = true) (kk : PQ SL SV EX M q L (.int (SV j.toNat i.toNatClampNeg) :: st) S n c s K) : PQ SL SV EX M pc L (.int i :: .float j :: st) S n c s K := by
  subst hq
  exact q_in (o := .inl ([pm_inb i (SL j.toNat)], (pc + len, L, .int (SV j.toNat i.toNatClampNeg) :: st, hp S n, c, s))) ((q_step hl).trans rfl) ⟨hi, kk⟩
theorem q_iast {k m0 : Nat} {f : Nat → Int32} {i : Int32} {x : Int32} (hl : pm_look M pc = some (.iastore, len, a, b, v)) (hq : pc + len = q) (hk : k < n) (hs : S k = .inl (0, m0, .inl f)) (hi : pm_inb i m0 = true) (kk : PQ SL SV EX M q L st (va_up S k (.inl (0, m0, .inl (upd f i.toNatClampNeg x)))) n c s K) : PQ SL SV EX M pc L (.int x :: .int i :: .ref k :: st) S n c s K := by
  subst hq
  unfold PQ at kk
  rw [← hp_set hk] at kk
  refine q_in (o := .inl ([pm_inb i m0], (pc + len, L, st, (hp S n).set k (.inl (0, m0, .inl (upd f i.toNatClampNeg x))), c, s))) ((q_step hl).trans ?_) ⟨hi, kk⟩
  simp only [pm_ex, q_ar hk hs]
theorem q_last {k m0 : Nat} {f : Nat → Int64} {i : Int32} {x : Int64} (hl : pm_look M pc = some (.lastore, len, a, b, v)) (hq : pc + len = q) (hk : k < n) (hs : S k = .inl (1, m0, .inr (.inl f))) (hi : pm_inb i m0 = true) (kk : PQ SL SV EX M q L st (va_up S k (.inl (1, m0, .inr (.inl (vp_updL f i.toNatClampNeg x))))) n c s K) : PQ SL SV EX M pc L (.long x :: .int i :: .ref k :: st) S n c s K := by
  subst hq
  unfold PQ at kk
  rw [← hp_set hk] at kk
  refine q_in (o := .inl ([pm_inb i m0], (pc + len, L, st, (hp S n).set k (.inl (1, m0, .inr (.inl (vp_updL f i.toNatClampNeg x)))), c, s))) ((q_step hl).trans ?_) ⟨hi, kk⟩
  simp only [pm_ex, q_ar hk hs]
theorem q_zast {k m0 : Nat} {f : Nat → Int32} {i : Int32} {x : Int32} (hl : pm_look M pc = some (.bastore, len, a, b, v)) (hq : pc + len = q) (hk : k < n) (hs : S k = .inl (2, m0, .inl f)) (hi : pm_inb i m0 = true) (kk : PQ SL SV EX M q L st (va_up S k (.inl (2, m0, .inl (upd f i.toNatClampNeg (vp_nar .boolean x))))) n c s K) : PQ SL SV EX M pc L (.int x :: .int i :: .ref k :: st) S n c s K := by
  subst hq
  unfold PQ at kk
  rw [← hp_set hk] at kk
  refine q_in (o := .inl ([pm_inb i m0], (pc + len, L, st, (hp S n).set k (.inl (2, m0, .inl (upd f i.toNatClampNeg (vp_nar .boolean x)))), c, s))) ((q_step hl).trans ?_) ⟨hi, kk⟩
  simp only [pm_ex, q_ar hk hs]
theorem q_sast {k m0 : Nat} {f : Nat → Int32} {i : Int32} {x : Int32} (hl : pm_look M pc = some (.sastore, len, a, b, v)) (hq : pc + len = q) (hk : k < n) (hs : S k = .inl (3, m0, .inl f)) (hi : pm_inb i m0 = true) (kk : PQ SL SV EX M q L st (va_up S k (.inl (3, m0, .inl (upd f i.toNatClampNeg (vp_nar .short x))))) n c s K) : PQ SL SV EX M pc L (.int x :: .int i :: .ref k :: st) S n c s K := by
  subst hq
  unfold PQ at kk
  rw [← hp_set hk] at kk
  refine q_in (o := .inl ([pm_inb i m0], (pc + len, L, st, (hp S n).set k (.inl (3, m0, .inl (upd f i.toNatClampNeg (vp_nar .short x)))), c, s))) ((q_step hl).trans ?_) ⟨hi, kk⟩
  simp only [pm_ex, q_ar hk hs]
theorem q_aastN {k m0 : Nat} {f : Nat → Option Nat} {i : Int32} (hl : pm_look M pc = some (.aastore, len, a, b, v)) (hq : pc + len = q) (hk : k < n) (hs : S k = .inl (4, m0, .inr (.inr (.inr (.inr f))))) (hi : pm_inb i m0 = true) (kk : PQ SL SV EX M q L st (va_up S k (.inl (4, m0, .inr (.inr (.inr (.inr (va_up f i.toNatClampNeg none))))))) n c s K) : PQ SL SV EX M pc L (.null :: .int i :: .ref k :: st) S n c s K := by
  subst hq
  unfold PQ at kk
  rw [← hp_set hk] at kk
  refine q_in (o := .inl ([pm_inb i m0], (pc + len, L, st, (hp S n).set k (.inl (4, m0, .inr (.inr (.inr (.inr (va_up f i.toNatClampNeg none)))))), c, s))) ((q_step hl).trans ?_) ⟨hi, kk⟩
  simp only [pm_ex, q_ar hk hs]
theorem q_aast {k m0 y ci : Nat} {fs : List Value} {f : Nat → Option Nat} {i : Int32} (hl : pm_look M pc = some (.aastore, len, a, b, v)) (hq : pc + len = q) (hk : k < n) (hy : y < n) (hs : S k = .inl (4, m0, .inr (.inr (.inr (.inr f))))) (hys : S y = .inr (ci, fs)) (hci : (Nat.beq ci 2 || (Nat.beq ci 7 || Nat.beq ci 8)) = true) (hi : pm_inb i m0 = true) (kk : PQ SL SV EX M q L st (va_up S k (.inl (4, m0, .inr (.inr (.inr (.inr (va_up f i.toNatClampNeg (some y)))))))) n c s K) : PQ SL SV EX M pc L (.ref y :: .int i :: .ref k :: st) S n c s K := by
  subst hq
  unfold PQ at kk
  rw [← hp_set hk] at kk
  refine q_in (o := .inl ([pm_inb i m0], (pc + len, L, st, (hp S n).set k (.inl (4, m0, .inr (.inr (.inr (.inr (va_up f i.toNatClampNeg (some y))))))), c, s))) ((q_step hl).trans ?_) ⟨hi, kk⟩
  simp only [pm_ex, q_ar hk hs, hp_get hy, hys, hci]
theorem q_new {i0 : Nat} (hl : pm_look M pc = some (.new i0, len, a, b, v)) (hq : pc + len = q) (h1 : Nat.ble (c + 1) (pm_rm M).cells = true) (h2 : Nat.ble (s + b) (pm_rm M).slots = true) (kk : PQ SL SV EX M q L (.ref n :: st) (va_up S n (.inr (a, j_df a))) (n + 1) (c + 1) (s + b) K) : PQ SL SV EX M pc L st S n c s K := by
  subst hq
  unfold PQ at kk
  rw [← hp_push] at kk
  refine q_in (o := .inl ([Nat.ble (c + 1) (pm_rm M).cells, Nat.ble (s + b) (pm_rm M).slots], (pc + len, L, .ref n :: st, hp S n ++ [.inr (a, j_df a)], c + 1, s + b))) ((q_step hl).trans ?_) ⟨⟨h1, h2⟩, kk⟩
  simp only [pm_ex, hp_len]
theorem q_newa {at9 : ArrayType} {x : Int32} {m0 : Nat} (hl : pm_look M pc = some (.newarray at9, len, a, b, v)) (hq : pc + len = q) (hx : ¬ x < 0) (hm : x.toNatClampNeg = m0) (h0 : Nat.ble (m0 * 8) 536870912 = true) (h1 : Nat.ble (c + 1) (pm_rm M).cells = true) (h2 : Nat.ble (s + m0) (pm_rm M).slots = true) (kk : PQ SL SV EX M q L (.ref n :: st) (va_up S n (.inl (a, m0, pm_zero a))) (n + 1) (c + 1) (s + m0) K) : PQ SL SV EX M pc L (.int x :: st) S n c s K := by
  subst hq
  subst hm
  unfold PQ at kk
  rw [← hp_push] at kk
  refine q_in (o := .inl ([!(decide (x < 0)), Nat.ble (x.toNatClampNeg * 8) 536870912, Nat.ble (c + 1) (pm_rm M).cells, Nat.ble (s + x.toNatClampNeg) (pm_rm M).slots], (pc + len, L, .ref n :: st, hp S n ++ [.inl (a, x.toNatClampNeg, pm_zero a)], c + 1, s + x.toNatClampNeg))) ((q_step hl).trans ?_) ⟨⟨by rw [decide_eq_false hx]; rfl, h0, h1, h2⟩, kk⟩
  simp only [pm_ex, hp_len]
theorem q_anewa {i0 : Nat} {x : Int32} {m0 : Nat} (hl : pm_look M pc = some (.anewarray i0, len, a, b, v)) (hq : pc + len = q) (hx : ¬ x < 0) (hm : x.toNatClampNeg = m0) (h0 : Nat.ble (m0 * 8) 536870912 = true) (h1 : Nat.ble (c + 1) (pm_rm M).cells = true) (h2 : Nat.ble (s + m0) (pm_rm M).slots = true) (kk : PQ SL SV EX M q L (.ref n :: st) (va_up S n (.inl (4, m0, pm_zero 4))) (n + 1) (c + 1) (s + m0) K) : PQ SL SV EX M pc L (.int x :: st) S n c s K := by
  subst hq
  subst hm
  unfold PQ at kk
  rw [← hp_push] at kk
  refine q_in (o := .inl ([!(decide (x < 0)), Nat.ble (x.toNatClampNeg * 8) 536870912, Nat.ble (c + 1) (pm_rm M).cells, Nat.ble (s + x.toNatClampNeg) (pm_rm M).slots], (pc + len, L, .ref n :: st, hp S n ++ [.inl (4, x.toNatClampNeg, pm_zero 4)], c + 1, s + x.toNatClampNeg))) ((q_step hl).trans ?_) ⟨⟨by rw [decide_eq_false hx]; rfl, h0, h1, h2⟩, kk⟩
  simp only [pm_ex, hp_len]
theorem q_objI {i0 x : Nat} (hl : pm_look M pc = some (.invokespecial i0, len, a, 6, v)) (hq : pc + len = q) (hr : (Nat.ble 1 (pm_rm M).frames && Nat.ble (pm_cat st + 12) (pm_rm M).locals) = true) (k : PQ SL SV EX M q L st S n c s K) : PQ SL SV EX M pc L (.ref x :: st) S n c s K := by
  subst hq
  refine q_in (o := .inl ([], (pc + len, L, st, hp S n, c, s))) ((q_step hl).trans ?_) ⟨trivial, k⟩
  simp only [pm_ex, hr]
  rfl
theorem q_iret {x : Int32} {ps : List Bool} (hl : pm_look M pc = some (.ireturn, len, a, b, v)) (hf : pm_fitR (pm_rt M) (.int x) = some ps) (hp0 : pm_all ps) (k : K (some (.int x)) S n) : PQ SL SV EX M pc L [.int x] S n c s K := by
  refine q_in (o := .inr (.inr (.inl (ps, some (.int x))))) ((q_step hl).trans ?_) ⟨hp0, S, n, rfl, k⟩
  simp only [pm_ex, hf]
theorem q_lret {x : Int64} {ps : List Bool} (hl : pm_look M pc = some (.lreturn, len, a, b, v)) (hf : pm_fitR (pm_rt M) (.long x) = some ps) (hp0 : pm_all ps) (k : K (some (.long x)) S n) : PQ SL SV EX M pc L [.long x] S n c s K := by
  refine q_in (o := .inr (.inr (.inl (ps, some (.long x))))) ((q_step hl).trans ?_) ⟨hp0, S, n, rfl, k⟩
  simp only [pm_ex, hf]
theorem q_aret {x : Nat} {ps : List Bool} (hl : pm_look M pc = some (.areturn, len, a, b, v)) (hf : pm_fitR (pm_rt M) (.ref x) = some ps) (hp0 : pm_all ps) (k : K (some (.ref x)) S n) : PQ SL SV EX M pc L [.ref x] S n c s K := by
  refine q_in (o := .inr (.inr (.inl (ps, some (.ref x))))) ((q_step hl).trans ?_) ⟨hp0, S, n, rfl, k⟩
  simp only [pm_ex, hf]
theorem q_ret  (hl : pm_look M pc = some (.return_, len, a, b, v)) (hr : pm_rt M = none) (k : K none S n) : PQ SL SV EX M pc L [] S n c s K := by
  refine q_in (o := .inr (.inr (.inl ([], none)))) ((q_step hl).trans ?_) ⟨trivial, S, n, rfl, k⟩
  simp only [pm_ex, hr]
/-- a method's run, from its entry -/
def PM (SL : Nat → Nat) (SV : Nat → Nat → Int32) (EX : pm_M → pm_C → (pm_C → Prop) → Prop) (Y : pm_M) (as : List Value) (S : Nat → pm_E) (n : Nat) (K : q_K) : Prop := PQ SL SV EX Y 0 (pm_en (pm_nl Y) as) [] S n 0 0 K
theorem q_call {i : Instr} {Y : pm_M} {as rest : List Value} {cs : List Bool} {K' : q_K} (hl : pm_look M pc = some (i, len, a, b, v)) (ho : pm_ex j_ft j_df SL SV j_MT M i len a b v pc L st (hp S n) c s = some (.inr (.inr (.inr (cs, a, as, rest))))) (hY : j_MT a = some Y) (hcs : pm_all cs) (hq : pc + 3 = q) {c2 s2 : Nat} (hc2 : c + (pm_rm Y).cells = c2) (hs2 : s + (pm_rm Y).slots = s2)
    (hm : PM SL SV EX Y as S n K') (kk : ∀ r S' n', K' r S' n' → PQ SL SV EX M q L (r.toList ++ rest) S' n' c2 s2 K) : PQ SL SV EX M pc L st S n c s K := by
  subst hq hc2 hs2
  refine q_in (o := .inr (.inr (.inr (cs, a, as, rest)))) ((q_step hl).trans ho) ⟨hcs, Y, _, hY, hm, ?_⟩
  rintro r h' ⟨S', n', rfl, hK'⟩
  exact kk r S' n' hK'
theorem q_oV {y nargs : Nat} {Y : pm_M} {o : Nat} {fs : List Value} {ci : Nat} (hY : j_MT y = some Y) (hr : (Nat.ble ((pm_rm Y).frames + 1) (pm_rm M).frames && Nat.ble (8 + (pm_nl Y + 11) + (pm_rm Y).locals) (pm_rm M).locals) = true) (hst : st[nargs]? = some (.ref o)) (hcat : (Nat.ble (pm_cat (st.drop (nargs + 1))) 8 && Nat.ble (pm_cat (st.take nargs) + 1) (pm_nl Y)) = true) (hci : pm_ci Y = ci) (hk : o < n) (hs : S o = .inr (ci, fs)) {kind : Nat} (hkind : kind = 0 ∨ kind = 3) :
    pm_call j_MT M y kind nargs st (hp S n) c s = some (.inr (.inr (.inr (pm_cs M Y c s, y, .ref o :: (st.take nargs).reverse, st.drop (nargs + 1))))) := by
  subst hci
  rcases hkind with rfl | rfl <;> simp only [pm_call, hY, hr, hst, hcat, q_ob hk hs]
theorem q_oI {y nargs : Nat} {Y : pm_M} {o : Nat} (hY : j_MT y = some Y) (hr : (Nat.ble ((pm_rm Y).frames + 1) (pm_rm M).frames && Nat.ble (8 + (pm_nl Y + 11) + (pm_rm Y).locals) (pm_rm M).locals) = true) (hst : st[nargs]? = some (.ref o)) (hcat : (Nat.ble (pm_cat (st.drop (nargs + 1))) 8 && Nat.ble (pm_cat (st.take nargs) + 1) (pm_nl Y)) = true) {kind : Nat} (hkind : kind = 2 ∨ kind = 5) :
    pm_call j_MT M y kind nargs st (hp S n) c s = some (.inr (.inr (.inr (pm_cs M Y c s, y, .ref o :: (st.take nargs).reverse, st.drop (nargs + 1))))) := by
  rcases hkind with rfl | rfl <;> simp only [pm_call, hY, hr, hst, hcat]
theorem q_oS {y nargs : Nat} {Y : pm_M} (hY : j_MT y = some Y) (hr : (Nat.ble ((pm_rm Y).frames + 1) (pm_rm M).frames && Nat.ble (8 + (pm_nl Y + 11) + (pm_rm Y).locals) (pm_rm M).locals) = true) (hcat : (Nat.ble (pm_cat (st.drop nargs)) 8 && (Nat.ble nargs st.length && Nat.ble (pm_cat (st.take nargs)) (pm_nl Y))) = true) {kind : Nat} (hkind : kind = 1 ∨ kind = 4) :
    pm_call j_MT M y kind nargs st (hp S n) c s = some (.inr (.inr (.inr (pm_cs M Y c s, y, (st.take nargs).reverse, st.drop nargs)))) := by
  rcases hkind with rfl | rfl <;> simp only [pm_call, hY, hr, hcat]
theorem q_cV {i0 nargs : Nat} {Y : pm_M} {as rest : List Value} {K' : q_K} (hl : pm_look M pc = some (.invokevirtual i0, len, a, b, .retAddr nargs)) (hY : j_MT a = some Y) (hkd : b = 0 ∨ b = 3) (hr : (Nat.ble ((pm_rm Y).frames + 1) (pm_rm M).frames && Nat.ble (8 + (pm_nl Y + 11) + (pm_rm Y).locals) (pm_rm M).locals) = true) {o : Nat} {fs : List Value} {ci : Nat} (hst : st[nargs]? = some (.ref o)) (hcat : (Nat.ble (pm_cat (st.drop (nargs + 1))) 8 && Nat.ble (pm_cat (st.take nargs) + 1) (pm_nl Y)) = true) (hci : pm_ci Y = ci) (hk : o < n) (hs : S o = .inr (ci, fs)) (hcs : pm_all (pm_cs M Y c s)) (hq : pc + 3 = q) {c2 s2 : Nat} (hc2 : c + (pm_rm Y).cells = c2) (hs2 : s + (pm_rm Y).slots = s2) (has : .ref o :: (st.take nargs).reverse = as) (hrest : st.drop (nargs + 1) = rest)
    (hm : PM SL SV EX Y as S n K') (kk : ∀ r S' n', K' r S' n' → PQ SL SV EX M q L (r.toList ++ rest) S' n' c2 s2 K) : PQ SL SV EX M pc L st S n c s K := by
  subst has hrest
  refine q_call hl ?_ hY hcs hq hc2 hs2 hm kk
  exact q_oV hY hr hst hcat hci hk hs hkd
theorem q_cI {i0 nargs : Nat} {Y : pm_M} {as rest : List Value} {K' : q_K} (hl : pm_look M pc = some (.invokespecial i0, len, a, b, .retAddr nargs)) (hY : j_MT a = some Y) (hkd : b = 2 ∨ b = 5) (hr : (Nat.ble ((pm_rm Y).frames + 1) (pm_rm M).frames && Nat.ble (8 + (pm_nl Y + 11) + (pm_rm Y).locals) (pm_rm M).locals) = true) {o : Nat} (hst : st[nargs]? = some (.ref o)) (hcat : (Nat.ble (pm_cat (st.drop (nargs + 1))) 8 && Nat.ble (pm_cat (st.take nargs) + 1) (pm_nl Y)) = true) (hcs : pm_all (pm_cs M Y c s)) (hq : pc + 3 = q) {c2 s2 : Nat} (hc2 : c + (pm_rm Y).cells = c2) (hs2 : s + (pm_rm Y).slots = s2) (has : .ref o :: (st.take nargs).reverse = as) (hrest : st.drop (nargs + 1) = rest)
    (hm : PM SL SV EX Y as S n K') (kk : ∀ r S' n', K' r S' n' → PQ SL SV EX M q L (r.toList ++ rest) S' n' c2 s2 K) : PQ SL SV EX M pc L st S n c s K := by
  subst has hrest
  refine q_call hl ?_ hY hcs hq hc2 hs2 hm kk
  have hb6 : ¬ b = 6 := by rcases hkd with rfl | rfl <;> decide
  have e : pm_ex j_ft j_df SL SV j_MT M (.invokespecial i0) len a b (.retAddr nargs) pc L st (hp S n) c s = pm_call j_MT M a b nargs st (hp S n) c s := by
    rcases hkd with rfl | rfl <;> rfl
  exact e.trans (q_oI hY hr hst hcat hkd)
theorem q_cS {i0 nargs : Nat} {Y : pm_M} {as rest : List Value} {K' : q_K} (hl : pm_look M pc = some (.invokestatic i0, len, a, b, .retAddr nargs)) (hY : j_MT a = some Y) (hkd : b = 1 ∨ b = 4) (hr : (Nat.ble ((pm_rm Y).frames + 1) (pm_rm M).frames && Nat.ble (8 + (pm_nl Y + 11) + (pm_rm Y).locals) (pm_rm M).locals) = true) (hcat : (Nat.ble (pm_cat (st.drop nargs)) 8 && (Nat.ble nargs st.length && Nat.ble (pm_cat (st.take nargs)) (pm_nl Y))) = true) (hcs : pm_all (pm_cs M Y c s)) (hq : pc + 3 = q) {c2 s2 : Nat} (hc2 : c + (pm_rm Y).cells = c2) (hs2 : s + (pm_rm Y).slots = s2) (has : (st.take nargs).reverse = as) (hrest : st.drop nargs = rest)
    (hm : PM SL SV EX Y as S n K') (kk : ∀ r S' n', K' r S' n' → PQ SL SV EX M q L (r.toList ++ rest) S' n' c2 s2 K) : PQ SL SV EX M pc L st S n c s K := by
  subst has hrest
  refine q_call hl ?_ hY hcs hq hc2 hs2 hm kk
  exact q_oS hY hr hcat hkd
theorem q_weak {K2 : q_K} (h : PQ SL SV EX M pc L st S n c s K) (hK : ∀ r S' n', K r S' n' → K2 r S' n') : PQ SL SV EX M pc L st S n c s K2 := pm_W_mono _ _ _ _ _ _ h (fun r h' => by rintro ⟨S', n', e, k⟩; exact ⟨S', n', e, hK _ _ _ k⟩)
end QW
