/-! the oracle: what the tables have no row for: Math.max, Math.min; instanceof and checkcast of what a shelf holds; System.arraycopy of its rows; the failure that is thrown and caught; the law's element -/
def o_M (nm : MethodName) (f : Int32 → Int32 → Int32) (M : pm_M) (c : pm_C) (R : pm_C → Prop) : Prop :=
  ∃ (idx : Nat) (x y : Int32) (st : List Value), c.2.2.1 = .int y :: .int x :: st ∧ decode (pm_cd M) c.1 = .ok (.invokestatic idx, 3) ∧ j_mem (pm_hn M idx) (.methodLink (pm_nm M).cls idx nm) = true ∧ (Nat.ble 1 (pm_rm M).frames && Nat.ble (pm_cat st + 13) (pm_rm M).locals) = true ∧ R = fun c' => c' = (c.1 + 3, c.2.1, .int (f x y) :: st, c.2.2.2.1, c.2.2.2.2.1, c.2.2.2.2.2)
def o_cn (T : Nat) : String := match T with
  | 2 => "TurnSchool$LongRow"
  | 7 => "TurnSchool$ShortRow"
  | _ => "TurnSchool$Statement"
def o_is (T : Nat) : Bool := Nat.beq T 2 || (Nat.beq T 7 || Nat.beq T 8)
def o_I (M : pm_M) (c : pm_C) (R : pm_C → Prop) : Prop :=
  ∃ (idx k ci T : Nat) (st fs : List Value), c.2.2.1 = .ref k :: st ∧ decode (pm_cd M) c.1 = .ok (.instanceof idx, 3) ∧ j_mem (pm_hn M idx) (.classLink (pm_nm M).cls idx (o_cn T)) = true ∧ c.2.2.2.1[k]? = some (.inr (ci, fs)) ∧ o_is ci = true ∧ o_is T = true ∧ R = fun c' => c' = (c.1 + 3, c.2.1, .int (if ci = T then 1 else 0) :: st, c.2.2.2.1, c.2.2.2.2.1, c.2.2.2.2.2)
def o_C (M : pm_M) (c : pm_C) (R : pm_C → Prop) : Prop :=
  ∃ (idx k T : Nat) (st fs : List Value), c.2.2.1 = .ref k :: st ∧ decode (pm_cd M) c.1 = .ok (.checkcast idx, 3) ∧ j_mem (pm_hn M idx) (.classLink (pm_nm M).cls idx (o_cn T)) = true ∧ c.2.2.2.1[k]? = some (.inr (T, fs)) ∧ o_is T = true ∧ R = fun c' => c' = (c.1 + 3, c.2.1, .ref k :: st, c.2.2.2.1, c.2.2.2.2.1, c.2.2.2.2.2)
def o_in (sp dp m : Int32) (n0 n1 : Nat) : Prop := ¬ sp < 0 ∧ ¬ dp < 0 ∧ ¬ m < 0 ∧ sp.toNatClampNeg + m.toNatClampNeg ≤ n0 ∧ dp.toNatClampNeg + m.toNatClampNeg ≤ n1
def o_A (M : pm_M) (c : pm_C) (R : pm_C → Prop) : Prop :=
  ∃ (idx a0 a n0 n1 : Nat) (sp dp m : Int32) (st : List Value), c.2.2.1 = .int m :: .int dp :: .ref a :: .int sp :: .ref a0 :: st ∧ decode (pm_cd M) c.1 = .ok (.invokestatic idx, 3) ∧ j_mem (pm_hn M idx) (.methodLink (pm_nm M).cls idx arraycopyName) = true ∧ (Nat.ble 1 (pm_rm M).frames && Nat.ble (pm_cat st + 18) (pm_rm M).locals) = true ∧ o_in sp dp m n0 n1 ∧
    ((∃ f g : Nat → Int64, c.2.2.2.1[a0]? = some (.inl (1, n0, .inr (.inl f))) ∧ c.2.2.2.1[a]? = some (.inl (1, n1, .inr (.inl g))) ∧ R = fun c' => c' = (c.1 + 3, c.2.1, st, c.2.2.2.1.set a (.inl (1, n1, .inr (.inl (va_cpy f g sp.toNatClampNeg dp.toNatClampNeg m.toNatClampNeg)))), c.2.2.2.2.1, c.2.2.2.2.2)) ∨
     (∃ f g : Nat → Int32, c.2.2.2.1[a0]? = some (.inl (3, n0, .inl f)) ∧ c.2.2.2.1[a]? = some (.inl (3, n1, .inl g)) ∧ (∀ j, j < n0 → fits .short (.int (f j)) = true) ∧ R = fun c' => c' = (c.1 + 3, c.2.1, st, c.2.2.2.1.set a (.inl (3, n1, .inl (va_cpy f g sp.toNatClampNeg dp.toNatClampNeg m.toNatClampNeg))), c.2.2.2.2.1, c.2.2.2.2.2)))
/-- toss: the failure of the statement at y -/
def o_T (M : pm_M) (c : pm_C) (R : pm_C → Prop) : Prop :=
  M = mm_X11_toss ∧ c.1 = 38 ∧ ∃ (y : Nat) (a k : Int32), c.2.2.1 = [.ref y] ∧ c.2.2.2.1[y]? = some (.inr (8, [.int a, .int k])) ∧ c.2.2.2.2.1 = 0 ∧ c.2.2.2.2.2 = 0 ∧
    R = fun c' => if 8 ≤ k ∧ k ≤ 11 then ∃ g : List Value, c' = (41, c.2.1, [.int a], c.2.2.2.1 ++ [.inr (99, g)], 1, 6) else c' = (41, c.2.1, [.int (-15)], c.2.2.2.1, 1, 6)
/-- what the law's element answers, and the number -/
def o_el (h : pm_H) (f : Nat → Option Nat) (p0 p1 : Int32) (k : Int32) (v : Int64) : Prop :=
  (((p0 < 0 ∨ 8 ≤ p0) ∧ k = 1)) ∨
  ((0 ≤ p0 ∧ p0 < 8) ∧ ((f p0.toNatClampNeg = none ∧ k = 2) ∨ ∃ y, f p0.toNatClampNeg = some y ∧
    ((∃ a b : Int32, h[y]? = some (.inr (8, [.int a, .int b])) ∧ k = 2) ∨
     (∃ (z len : Nat) (g : Nat → Int64), h[y]? = some (.inr (2, [.ref z])) ∧ h[z]? = some (.inl (1, len, .inr (.inl g))) ∧ len ≤ 60 ∧ ((¬ vp_in p1 len ∧ k = 2) ∨ (vp_in p1 len ∧ k = 0 ∧ v = g p1.toNatClampNeg))) ∨
     (∃ (z len : Nat) (g : Nat → Int32), h[y]? = some (.inr (7, [.ref z])) ∧ h[z]? = some (.inl (3, len, .inl g)) ∧ len ≤ 60 ∧ ((¬ vp_in p1 len ∧ k = 2) ∨ (vp_in p1 len ∧ k = 0 ∧ v = (g p1.toNatClampNeg).toInt64))))))
def o_E (M : pm_M) (c : pm_C) (R : pm_C → Prop) : Prop :=
  M = mm_L_law ∧ c.1 = 1091 ∧ ∃ (p0 p1 k : Int32) (v : Int64) (fs : List Value) (f : Nat → Option Nat) (o : Nat → Int64), c.2.2.1 = [.ref 81, .int p1, .int p0, .ref 0] ∧ c.2.2.2.1[0]? = some (.inr (9, fs)) ∧ fs[7]? = some (.ref 43) ∧ c.2.2.2.1[43]? = some (.inl (4, 8, .inr (.inr (.inr (.inr f))))) ∧ c.2.2.2.1[81]? = some (.inl (1, 1, .inr (.inl o))) ∧ o_el c.2.2.2.1 f p0 p1 k v ∧ c.2.2.2.2.1 + 1 ≤ (pm_rm mm_L_law).cells ∧ c.2.2.2.2.2 + 6 ≤ (pm_rm mm_L_law).slots ∧
    R = fun c' => if k = 0 then c' = (c.1 + 3, c.2.1, [.int 0], c.2.2.2.1.set 81 (.inl (1, 1, .inr (.inl (vp_updL o 0 v)))), c.2.2.2.2.1 + 1, c.2.2.2.2.2 + 6) else ∃ g : List Value, c' = (c.1 + 3, c.2.1, [.int k], c.2.2.2.1 ++ [.inr (99, g)], c.2.2.2.2.1 + 1, c.2.2.2.2.2 + 6)
def j_EX : pm_M → pm_C → (pm_C → Prop) → Prop := fun M c R => o_M Lib.Math.max.name (fun x y => if x < y then y else x) M c R ∨ o_M Lib.Math.min.name (fun x y => if y < x then y else x) M c R ∨ o_I M c R ∨ o_C M c R ∨ o_A M c R ∨ o_T M c R ∨ o_E M c R
def o_dm (M : pm_M) (pc idx : Nat) (nm : MethodName) : Bool := decide (decode (pm_cd M) pc = .ok (.invokestatic idx, 3)) && j_mem (pm_hn M idx) (.methodLink (pm_nm M).cls idx nm)
theorem o_HH {M : pm_M} {pc idx : Nat} (h0 : (pm_look M pc).isNone = true) (h : o_dm M pc idx Lib.Math.max.name = true ∨ o_dm M pc idx Lib.Math.min.name = true) : ck_HH M j_EX [pc] := by
  intro pc' hp
  have e : pc' = pc := by
    rw [List.contains_iff_mem, List.mem_singleton] at hp
    exact hp
  subst e
  refine ⟨Option.isNone_iff_eq_none.mp h0, fun x y L st hh c s hr => ?_⟩
  rcases h with h | h
  · rw [o_dm, Bool.and_eq_true] at h
    exact ⟨_, Or.inl ⟨idx, x, y, st, rfl, of_decide_eq_true h.1, h.2, hr, rfl⟩⟩
  · rw [o_dm, Bool.and_eq_true] at h
    exact ⟨_, Or.inr (Or.inl ⟨idx, x, y, st, rfl, of_decide_eq_true h.1, h.2, hr, rfl⟩)⟩
theorem o_HH0 {M : pm_M} : ck_HH M j_EX [] := fun pc h => by cases h
section OX
variable {SL : Nat → Nat} {SV : Nat → Nat → Int32} {M : pm_M} {pc q : Nat} {L st : List Value} {S : Nat → pm_E} {n c s : Nat} {K : q_K}
theorem q_ex {R : pm_C → Prop} (hl : pm_step j_ft j_df SL SV j_MT M (pc, L, st, hp S n, c, s) = none) (hR : j_EX M (pc, L, st, hp S n, c, s) R) (kk : ∀ c', R c' → pm_W j_ft j_df SL SV j_MT j_EX M c' (fun r h => ∃ S' n', h = hp S' n' ∧ K r S' n')) : PQ SL SV j_EX M pc L st S n c s K := by
  unfold PQ
  refine pm_in _ _ _ _ _ _ ?_
  unfold pm_F
  rw [hl]
  exact ⟨R, hR, kk⟩
theorem q_lkn (hl : pm_look M pc = none) : pm_step j_ft j_df SL SV j_MT M (pc, L, st, hp S n, c, s) = none := by
  unfold pm_step
  rw [hl]
theorem q_mx {idx : Nat} {x y z : Int32} (hl : pm_look M pc = none) (hd : o_dm M pc idx Lib.Math.max.name = true) (hr : (Nat.ble 1 (pm_rm M).frames && Nat.ble (pm_cat st + 13) (pm_rm M).locals) = true) (hq : pc + 3 = q) (hz : (if x < y then y else x) = z) (kk : PQ SL SV j_EX M q L (.int z :: st) S n c s K) : PQ SL SV j_EX M pc L (.int y :: .int x :: st) S n c s K := by
  subst hq hz
  rw [o_dm, Bool.and_eq_true] at hd
  exact q_ex (q_lkn hl) (Or.inl ⟨idx, x, y, st, rfl, of_decide_eq_true hd.1, hd.2, hr, rfl⟩) (fun c' e => by subst e; exact kk)
theorem q_mn {idx : Nat} {x y z : Int32} (hl : pm_look M pc = none) (hd : o_dm M pc idx Lib.Math.min.name = true) (hr : (Nat.ble 1 (pm_rm M).frames && Nat.ble (pm_cat st + 13) (pm_rm M).locals) = true) (hq : pc + 3 = q) (hz : (if y < x then y else x) = z) (kk : PQ SL SV j_EX M q L (.int z :: st) S n c s K) : PQ SL SV j_EX M pc L (.int y :: .int x :: st) S n c s K := by
  subst hq hz
  rw [o_dm, Bool.and_eq_true] at hd
  exact q_ex (q_lkn hl) (Or.inr (Or.inl ⟨idx, x, y, st, rfl, of_decide_eq_true hd.1, hd.2, hr, rfl⟩)) (fun c' e => by subst e; exact kk)
def o_dc (M : pm_M) (pc idx T : Nat) (cast : Bool) : Bool := decide (decode (pm_cd M) pc = .ok ((match cast with | true => .checkcast idx | false => .instanceof idx), 3)) && (j_mem (pm_hn M idx) (.classLink (pm_nm M).cls idx (o_cn T)) && o_is T)
theorem q_ins {idx k ci T i0 len a b : Nat} {v : Value} {fs : List Value} {z : Int32} (hl : pm_look M pc = some (.instanceof i0, len, a, b, v)) (hd : o_dc M pc idx T false = true) (hk : k < n) (hs : S k = .inr (ci, fs)) (hci : o_is ci = true) (hq : pc + 3 = q) (hz : (if ci = T then 1 else 0) = z) (kk : PQ SL SV j_EX M q L (.int z :: st) S n c s K) : PQ SL SV j_EX M pc L (.ref k :: st) S n c s K := by
  subst hq hz
  rw [o_dc, Bool.and_eq_true, Bool.and_eq_true] at hd
  refine q_ex ?_ (Or.inr (Or.inr (Or.inl ⟨idx, k, ci, T, st, fs, rfl, of_decide_eq_true hd.1, hd.2.1, by show (hp S n)[k]? = _; rw [hp_get hk, hs], hci, hd.2.2, rfl⟩))) (fun c' e => by subst e; exact kk)
  unfold pm_step
  rw [hl]
  rfl
theorem q_chk {idx k T : Nat} {fs : List Value} (hl : pm_look M pc = none) (hd : o_dc M pc idx T true = true) (hk : k < n) (hs : S k = .inr (T, fs)) (hq : pc + 3 = q) (kk : PQ SL SV j_EX M q L (.ref k :: st) S n c s K) : PQ SL SV j_EX M pc L (.ref k :: st) S n c s K := by
  subst hq
  rw [o_dc, Bool.and_eq_true, Bool.and_eq_true] at hd
  exact q_ex (q_lkn hl) (Or.inr (Or.inr (Or.inr (Or.inl ⟨idx, k, T, st, fs, rfl, of_decide_eq_true hd.1, hd.2.1, by show (hp S n)[k]? = _; rw [hp_get hk, hs], hd.2.2, rfl⟩)))) (fun c' e => by subst e; exact kk)
theorem q_cpl {idx a0 a1 n0 n1 : Nat} {sp dp m : Int32} {f g : Nat → Int64} (hl : pm_look M pc = none) (hd : o_dm M pc idx arraycopyName = true) (hr : (Nat.ble 1 (pm_rm M).frames && Nat.ble (pm_cat st + 18) (pm_rm M).locals) = true) (hi : o_in sp dp m n0 n1) (h0 : a0 < n) (h1 : a1 < n) (hs0 : S a0 = .inl (1, n0, .inr (.inl f))) (hs1 : S a1 = .inl (1, n1, .inr (.inl g))) (hq : pc + 3 = q) (kk : PQ SL SV j_EX M q L st (va_up S a1 (.inl (1, n1, .inr (.inl (va_cpy f g sp.toNatClampNeg dp.toNatClampNeg m.toNatClampNeg))))) n c s K) : PQ SL SV j_EX M pc L (.int m :: .int dp :: .ref a1 :: .int sp :: .ref a0 :: st) S n c s K := by
  subst hq
  rw [o_dm, Bool.and_eq_true] at hd
  refine q_ex (q_lkn hl) (Or.inr (Or.inr (Or.inr (Or.inr (Or.inl ⟨idx, a0, a1, n0, n1, sp, dp, m, st, rfl, of_decide_eq_true hd.1, hd.2, hr, hi, Or.inl ⟨f, g, by show (hp S n)[a0]? = _; rw [hp_get h0, hs0], by show (hp S n)[a1]? = _; rw [hp_get h1, hs1], rfl⟩⟩))))) (fun c' e => ?_)
  subst e
  unfold PQ at kk
  rw [← hp_set h1] at kk
  exact kk
theorem q_cps {idx a0 a1 n0 n1 : Nat} {sp dp m : Int32} {f g : Nat → Int32} (hl : pm_look M pc = none) (hd : o_dm M pc idx arraycopyName = true) (hr : (Nat.ble 1 (pm_rm M).frames && Nat.ble (pm_cat st + 18) (pm_rm M).locals) = true) (hi : o_in sp dp m n0 n1) (h0 : a0 < n) (h1 : a1 < n) (hs0 : S a0 = .inl (3, n0, .inl f)) (hs1 : S a1 = .inl (3, n1, .inl g)) (hf : ∀ j, j < n0 → fits .short (.int (f j)) = true) (hq : pc + 3 = q) (kk : PQ SL SV j_EX M q L st (va_up S a1 (.inl (3, n1, .inl (va_cpy f g sp.toNatClampNeg dp.toNatClampNeg m.toNatClampNeg)))) n c s K) : PQ SL SV j_EX M pc L (.int m :: .int dp :: .ref a1 :: .int sp :: .ref a0 :: st) S n c s K := by
  subst hq
  rw [o_dm, Bool.and_eq_true] at hd
  refine q_ex (q_lkn hl) (Or.inr (Or.inr (Or.inr (Or.inr (Or.inl ⟨idx, a0, a1, n0, n1, sp, dp, m, st, rfl, of_decide_eq_true hd.1, hd.2, hr, hi, Or.inr ⟨f, g, by show (hp S n)[a0]? = _; rw [hp_get h0, hs0], by show (hp S n)[a1]? = _; rw [hp_get h1, hs1], hf, rfl⟩⟩))))) (fun c' e => ?_)
  subst e
  unfold PQ at kk
  rw [← hp_set h1] at kk
  exact kk
theorem q_toss {y : Nat} {a k : Int32} (hk : y < n) (hs : S y = .inr (8, [.int a, .int k])) (k1 : (8 ≤ k ∧ k ≤ 11) → ∀ g : List Value, PQ SL SV j_EX mm_X11_toss 41 L [.int a] (va_up S n (.inr (99, g))) (n + 1) 1 6 K) (k2 : ¬ (8 ≤ k ∧ k ≤ 11) → PQ SL SV j_EX mm_X11_toss 41 L [.int (-15)] S n 1 6 K) : PQ SL SV j_EX mm_X11_toss 38 L [.ref y] S n 0 0 K := by
  refine q_ex (q_lkn rfl) (Or.inr (Or.inr (Or.inr (Or.inr (Or.inr (Or.inl ⟨rfl, rfl, y, a, k, rfl, by show (hp S n)[y]? = _; rw [hp_get hk, hs], rfl, rfl, rfl⟩)))))) (fun c' e => ?_)
  by_cases h : 8 ≤ k ∧ k ≤ 11
  · rw [if_pos h] at e
    obtain ⟨g, rfl⟩ := e
    have := k1 h g
    unfold PQ at this
    rw [← hp_push] at this
    exact this
  · rw [if_neg h] at e
    subst e
    exact k2 h
theorem q_elem {p0 p1 k : Int32} {v : Int64} {fs : List Value} {f : Nat → Option Nat} {o : Nat → Int64} (hn : 82 ≤ n) (h0 : S 0 = .inr (9, fs)) (h7 : fs[7]? = some (.ref 43)) (h43 : S 43 = .inl (4, 8, .inr (.inr (.inr (.inr f))))) (h81 : S 81 = .inl (1, 1, .inr (.inl o))) (he : o_el (hp S n) f p0 p1 k v) (hc : c + 1 ≤ (pm_rm mm_L_law).cells) (hs : s + 6 ≤ (pm_rm mm_L_law).slots) (k1 : k = 0 → PQ SL SV j_EX mm_L_law 1094 L [.int 0] (va_up S 81 (.inl (1, 1, .inr (.inl (vp_updL o 0 v))))) n (c + 1) (s + 6) K) (k2 : ¬ k = 0 → ∀ g : List Value, PQ SL SV j_EX mm_L_law 1094 L [.int k] (va_up S n (.inr (99, g))) (n + 1) (c + 1) (s + 6) K) : PQ SL SV j_EX mm_L_law 1091 L [.ref 81, .int p1, .int p0, .ref 0] S n c s K := by
  refine q_ex (q_lkn rfl) (Or.inr (Or.inr (Or.inr (Or.inr (Or.inr (Or.inr ⟨rfl, rfl, p0, p1, k, v, fs, f, o, rfl, ?_, h7, ?_, ?_, he, hc, hs, rfl⟩)))))) (fun c' e => ?_)
  · show (hp S n)[0]? = _
    rw [hp_get (by omega), h0]
  · show (hp S n)[43]? = _
    rw [hp_get (by omega), h43]
  · show (hp S n)[81]? = _
    rw [hp_get (by omega), h81]
  · by_cases h : k = 0
    · rw [if_pos h] at e
      subst e
      have := k1 h
      unfold PQ at this
      rw [← hp_set (by omega)] at this
      exact this
    · rw [if_neg h] at e
      obtain ⟨g, rfl⟩ := e
      have := k2 h g
      unfold PQ at this
      rw [← hp_push] at this
      exact this
end OX
