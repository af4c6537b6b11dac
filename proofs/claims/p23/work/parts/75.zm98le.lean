/-! answer: class and reference -/
section LE
variable {θ : Th} {P : PG} {S S' : Nat → pm_E} {n k : Nat} {lr fs : List Value} {ak ag : Int64} {tl : Nat → Int32} {x y w a : Int32} {L : Nat} {xs : Nat → Int32}
theorem cntB_set {b b' : Nat → Bool} (hb : ∀ j, b' j = (b j || decide (j = k))) : ∀ m, k < m → cntB b' m = cntB b m + (if b k then 0 else 1) := by
  intro m
  induction m with
  | zero =>
    intro h
    omega
  | succ m ih =>
    intro h
    show cntB b' m + (b' m).toNat = cntB b m + (b m).toNat + _
    by_cases e : k = m
    · have e1 : cntB b' m = cntB b m := cntB_cg (fun i hi => by rw [hb i, decide_eq_false (by omega), Bool.or_false])
      rw [e1, hb m, decide_eq_true e.symm, Bool.or_true, e]
      cases b m
      · rfl
      · show _ + 1 = _ + 1 + 0
        rfl
    · rw [ih (by omega), hb m, decide_eq_false (fun h9 => e h9.symm), Bool.or_false]
      omega
def okN (x y : Int32) (p v : Nat) : Prop := (p < 4 ∧ x = nI p) ∧ (v < 10 ∧ y = nI v)
/-- the class: the new answers, and what it says -/
def aQ (ak ag : Int64) (x y w : Int32) (z : Int32) (ak' ag' : Int64) : Prop := ((¬ ∃ p v, okN x y p v) ∧ ak' = ak ∧ ag' = ag ∧ z = -1) ∨ ∃ p v, okN x y p v ∧ (∀ j, e_bt ak' j = (e_bt ak j || decide (j = 10 * p + v))) ∧ (∀ j, e_bt ag' j = if w = 0 then (e_bt ag j && !decide (j = 10 * p + v)) else (e_bt ag j || decide (j = 10 * p + v))) ∧ z = nI (cntB (e_bt ak') 64)
def aR (tl : Nat → Int32) (a : Int32) (x y w : Int32) (z a' : Int32) (tl' : Nat → Int32) : Prop := ((¬ ∃ p v, okN x y p v) ∧ (∀ j, j < 40 → tl' j = tl j) ∧ a' = a ∧ z = -1) ∨ ∃ p v, okN x y p v ∧ (∀ j, j < 40 → tl' j = if j = 10 * p + v then (if w = 0 then 0 else 1) else tl j) ∧ a' = (if tl (10 * p + v) = -2 then a + 1 else a) ∧ z = a'
def CPl (Q : Int32 → Int64 → Int64 → Prop) : q_K := fun r S' n' => ∃ (lr' : List Value) (ak' ag' : Int64) (z : Int32), S' 42 = .inr (1, lr') ∧ lr'[0]? = some (.long ak') ∧ lr'[1]? = some (.long ag') ∧ r = some (.int z) ∧ Q z ak' ag'
def RPl (Q : Int32 → Int32 → (Nat → Int32) → Prop) : q_K := fun r S' n' => ∃ (fs' : List Value) (a' z : Int32) (tl' : Nat → Int32), S' 46 = .inr (10, fs') ∧ fs'[34]? = some (.int a') ∧ S' 74 = .inl (0, 40, .inl tl') ∧ r = some (.int z) ∧ Q z a' tl'
theorem e_bt_sh1 {q : Nat} (hq : q < 64) (j : Nat) : e_bt ((1 : Int64) <<< ((nI q).toInt64 &&& 63)) j = decide (j = q) := by
  rw [e_bt_shl 1 q hq j]
  by_cases e : j = q
  · subst e
    rw [decide_eq_true hq, decide_eq_false (Nat.lt_irrefl j), decide_eq_true rfl, Nat.sub_self]
    exact (show e_bt 1 0 = true by decide +kernel)
  · rw [decide_eq_false e]
    by_cases h : j < q
    · rw [decide_eq_true h, Bool.not_true, Bool.and_false, Bool.false_and]
    · by_cases h64 : j < 64
      · rw [e_bt_1 (j := j - q) (by omega), decide_eq_false (show ¬ j - q = 0 by omega), Bool.and_false]
      · rw [decide_eq_false h64, Bool.false_and, Bool.false_and]
set_option maxHeartbeats 4000000 in
theorem c_hear {q : Nat} (hn : 82 ≤ n) (k42 : S 42 = .inr (1, lr)) (l0 : lr[0]? = some (.long ak)) (l1 : lr[1]? = some (.long ag)) (hq : q < 40) : PM (j_SL L) (j_SV xs) j_EX mm_X3_hear [.ref 42, .int (nI q), .int w] S n (fun r S' n' => r = none ∧ n = n' ∧ (∀ j, j ≠ 42 → S' j = S j) ∧ ∃ (lr' : List Value) (ak' ag' : Int64), S' 42 = .inr (1, lr') ∧ lr'[0]? = some (.long ak') ∧ lr'[1]? = some (.long ag') ∧ (∀ j, e_bt ak' j = (e_bt ak j || decide (j = q))) ∧ ∀ j, e_bt ag' j = if w = 0 then (e_bt ag j && !decide (j = q)) else (e_bt ag j || decide (j = q))) := by
  change PQ (j_SL L) (j_SV xs) j_EX mm_X3_hear 0 [.ref 42, .int (nI q), .int w, pm_un, pm_un] [] S n 0 0 _
  have b0 := (List.getElem?_eq_some_iff.mp l0).1
  have b1 := (List.getElem?_eq_some_iff.mp l1).1
  refine q_lconst rfl rfl ?_
  refine q_iload_n rfl rfl rfl ?_
  refine q_lshl rfl rfl ?_
  refine q_lst3n rfl rfl rfl rfl ?_
  refine q_aload_n rfl rfl rfl ?_
  refine q_dupr rfl rfl ?_
  refine q_getf rfl rfl (by omega) k42 l0 ?_
  refine q_lload_n rfl rfl rfl ?_
  refine q_lor rfl rfl ?_
  refine q_putf rfl rfl (by omega) k42 b0 rfl trivial ?_
  have e1 : ∀ j, j ≠ 42 → va_up S 42 (.inr (1, lr.set 0 (.long (ak ||| ((1 : Int64) <<< ((nI q).toInt64 &&& 63)))))) j = S j := fun j hj => u_ne hj
  have x42 : va_up S 42 (.inr (1, lr.set 0 (.long (ak ||| ((1 : Int64) <<< ((nI q).toInt64 &&& 63)))))) 42 = .inr (1, lr.set 0 (.long (ak ||| ((1 : Int64) <<< ((nI q).toInt64 &&& 63))))) := u_eq
  generalize va_up S 42 (.inr (1, lr.set 0 (.long (ak ||| ((1 : Int64) <<< ((nI q).toInt64 &&& 63)))))) = S1 at e1 x42 ⊢
  have g0 : (lr.set 0 (.long (ak ||| ((1 : Int64) <<< ((nI q).toInt64 &&& 63)))))[0]? = some (.long (ak ||| ((1 : Int64) <<< ((nI q).toInt64 &&& 63)))) := os_at l0
  have g1 : (lr.set 0 (.long (ak ||| ((1 : Int64) <<< ((nI q).toInt64 &&& 63)))))[1]? = some (.long ag) := (os_ne (by decide)).trans l1
  have hak : ∀ j, e_bt (ak ||| ((1 : Int64) <<< ((nI q).toInt64 &&& 63))) j = (e_bt ak j || decide (j = q)) := fun j => by rw [e_bt_or, e_bt_sh1 (by omega)]
  generalize ak ||| ((1 : Int64) <<< ((nI q).toInt64 &&& 63)) = ak' at *
  generalize lr.set 0 (.long ak') = lr1 at *
  have c1 := (List.getElem?_eq_some_iff.mp g1).1
  have fin : ∀ ag' : Int64, (∀ j, e_bt ag' j = if w = 0 then (e_bt ag j && !decide (j = q)) else (e_bt ag j || decide (j = q))) → PQ (j_SL L) (j_SV xs) j_EX mm_X3_hear 38 [.ref 42, .int (nI q), .int w, .long ((1 : Int64) <<< ((nI q).toInt64 &&& 63)), pm_un] [.long ag', .ref 42] S1 n 0 0 (fun r S' n' => r = none ∧ n = n' ∧ (∀ j, j ≠ 42 → S' j = S j) ∧ ∃ (lr' : List Value) (ak' ag' : Int64), S' 42 = .inr (1, lr') ∧ lr'[0]? = some (.long ak') ∧ lr'[1]? = some (.long ag') ∧ (∀ j, e_bt ak' j = (e_bt ak j || decide (j = q))) ∧ ∀ j, e_bt ag' j = if w = 0 then (e_bt ag j && !decide (j = q)) else (e_bt ag j || decide (j = q))) := by
    intro ag' h
    refine q_putf rfl rfl (by omega) x42 c1 rfl trivial ?_
    exact q_ret rfl rfl ⟨rfl, rfl, fun j hj => (u_ne hj).trans (e1 j hj), _, ak', ag', u_eq, (os_ne (by decide)).trans g0, os_at g1, hak, h⟩
  refine q_aload_n rfl rfl rfl ?_
  refine q_iload_n rfl rfl rfl ?_
  refine q_ifeq rfl rfl (fun h => ?_) (fun h => ?_)
  · refine q_aload_n rfl rfl rfl ?_
    refine q_getf rfl rfl (by omega) x42 g1 ?_
    refine q_lload_n rfl rfl rfl ?_
    refine q_ldc2 rfl rfl ?_
    refine q_lxor rfl rfl ?_
    refine q_land rfl rfl ?_
    refine fin _ (fun j => ?_)
    rw [if_pos h, e_bt_and, e_bt_xor]
    by_cases h64 : j < 64
    · rw [e_bt_sh1 (by omega), e_bt_m1 j h64, Bool.xor_true]
    · rw [e_bt_64 ag j (by omega), Bool.false_and, Bool.false_and]
  · refine q_aload_n rfl rfl rfl ?_
    refine q_getf rfl rfl (by omega) x42 g1 ?_
    refine q_lload_n rfl rfl rfl ?_
    refine q_lor rfl rfl ?_
    refine q_goto rfl ?_
    refine fin _ (fun j => ?_)
    rw [if_neg h, e_bt_or, e_bt_sh1 (by omega)]
theorem c_heard (hn : 82 ≤ n) (k42 : S 42 = .inr (1, lr)) (l0 : lr[0]? = some (.long ak)) : PM (j_SL L) (j_SV xs) j_EX mm_X3_heard [.ref 42] S n (fun r S' n' => S = S' ∧ n = n' ∧ r = some (.int (nI (cntB (e_bt ak) 64)))) := by
  change PQ (j_SL L) (j_SV xs) j_EX mm_X3_heard 0 [.ref 42] [] S n 0 0 _
  refine q_aload_n rfl rfl rfl ?_
  refine q_getf rfl rfl (by omega) k42 l0 ?_
  refine q_cS rfl rfl (Or.inl rfl) rfl rfl trivial rfl rfl rfl rfl rfl (bc_ok ak) ?_
  rintro r _ _ ⟨rfl, rfl, rfl⟩
  show PQ (j_SL L) (j_SV xs) j_EX mm_X3_heard 7 [.ref 42] [.int (nI (cntB (e_bt ak) 64))] S n 0 0 _
  exact q_iret rfl rfl trivial ⟨rfl, rfl, rfl⟩
set_option maxHeartbeats 4000000 in
theorem c_ans (hG : GS θ S n) (k42 : S 42 = .inr (1, lr)) (l0 : lr[0]? = some (.long ak)) (l1 : lr[1]? = some (.long ag)) : PM (j_SL L) (j_SV xs) j_EX mm_X11_answer [.ref 0, .int x, .int y, .int w] S n (CPl (aQ ak ag x y w)) := by
  have hn := gs_n hG
  obtain ⟨ts, k0, hf⟩ := gs_obj hG (k := 0) rfl
  have f6 : ts[6]? = some (.ref 42) := fo_ref (hf 6 _ rfl) rfl
  change PQ (j_SL L) (j_SV xs) j_EX mm_X11_answer 0 [.ref 0, .int x, .int y, .int w] [] S n 0 0 _
  have bad : (¬ ∃ p v, okN x y p v) → PQ (j_SL L) (j_SV xs) j_EX mm_X11_answer 17 [.ref 0, .int x, .int y, .int w] [] S n 0 0 (CPl (aQ ak ag x y w)) := by
    intro h
    refine q_iconst rfl rfl ?_
    exact q_iret rfl rfl trivial ⟨lr, ak, ag, _, k42, l0, l1, rfl, Or.inl ⟨h, rfl, rfl, rfl⟩⟩
  refine q_iload_n rfl rfl rfl ?_
  refine q_iconst rfl rfl ?_
  refine q_cS rfl rfl (Or.inl rfl) rfl rfl trivial rfl rfl rfl rfl rfl c_wi ?_
  rintro r _ _ ⟨rfl, rfl, hr⟩
  rcases hr with ⟨q, rfl⟩ | ⟨qx, rfl⟩
  · show PQ (j_SL L) (j_SV xs) j_EX mm_X11_answer 5 [.ref 0, .int x, .int y, .int w] [.int 0] S n 0 0 _
    exact q_ifeq rfl rfl (fun _ => bad (fun ⟨p, v, h⟩ => c_out q (by rw [h.1.2]; exact n_in (b := 4) rfl (by decide) h.1.1))) (fun c => absurd rfl c)
  show PQ (j_SL L) (j_SV xs) j_EX mm_X11_answer 5 [.ref 0, .int x, .int y, .int w] [.int 1] S n 0 0 _
  refine q_ifeq rfl rfl (fun c => absurd c (by decide)) (fun _ => ?_)
  refine q_iload_n rfl rfl rfl ?_
  refine q_bipush rfl rfl ?_
  refine q_cS rfl rfl (Or.inl rfl) rfl rfl trivial rfl rfl rfl rfl rfl c_wi ?_
  rintro r _ _ ⟨rfl, rfl, hr⟩
  rcases hr with ⟨q, rfl⟩ | ⟨qy, rfl⟩
  · show PQ (j_SL L) (j_SV xs) j_EX mm_X11_answer 14 [.ref 0, .int x, .int y, .int w] [.int 0] S n 0 0 _
    exact q_ifne rfl rfl (fun _ => bad (fun ⟨p, v, h⟩ => c_out q (by rw [h.2.2]; exact n_in (b := 10) rfl (by decide) h.2.1))) (fun c => absurd rfl c)
  show PQ (j_SL L) (j_SV xs) j_EX mm_X11_answer 14 [.ref 0, .int x, .int y, .int w] [.int 1] S n 0 0 _
  refine q_ifne rfl rfl (fun c => absurd c (by decide)) (fun _ => ?_)
  clear bad
  obtain ⟨p, hp, rfl⟩ := in_b (b := 3) rfl (by decide) qx
  obtain ⟨v, hv, rfl⟩ := in_b (b := 9) rfl (by decide) qy
  refine q_aload_n rfl rfl rfl ?_
  refine q_getf rfl rfl (by omega) k0 f6 ?_
  refine q_bipush rfl rfl ?_
  refine q_iload_n rfl rfl rfl ?_
  refine q_imul rfl rfl (q_tn (z := nI (10 * p)) (by rw [show (10 : Int32) = nI 10 from rfl, pk_mul]) ?_)
  refine q_iload_n rfl rfl rfl ?_
  refine q_iadd rfl rfl (q_tn (z := nI (10 * p + v)) (nI_add _ _) ?_)
  refine q_iload_n rfl rfl rfl ?_
  refine q_cV rfl rfl (Or.inl rfl) rfl rfl rfl rfl (by omega) k42 trivial rfl rfl rfl rfl rfl (c_hear (q := 10 * p + v) hn k42 l0 l1 (by omega)) ?_
  rintro r T _ ⟨rfl, rfl, eT, lr', ak', ag', t42, m0, m1, hak, hag⟩
  show PQ (j_SL L) (j_SV xs) j_EX mm_X11_answer 33 [.ref 0, .int (nI p), .int (nI v), .int w] [] T n 0 0 _
  refine q_aload_n rfl rfl rfl ?_
  refine q_getf rfl rfl (by omega) ((eT 0 (by decide)).trans k0) f6 ?_
  refine q_cV rfl rfl (Or.inl rfl) rfl rfl rfl rfl (by omega) t42 trivial rfl rfl rfl rfl rfl (c_heard hn t42 m0) ?_
  rintro r _ _ ⟨rfl, rfl, rfl⟩
  show PQ (j_SL L) (j_SV xs) j_EX mm_X11_answer 40 [.ref 0, .int (nI p), .int (nI v), .int w] [.int (nI (cntB (e_bt ak') 64))] T n 0 0 _
  exact q_iret rfl rfl trivial ⟨lr', ak', ag', _, t42, m0, m1, rfl, Or.inr ⟨p, v, ⟨⟨by omega, rfl⟩, by omega, rfl⟩, hak, hag, rfl⟩⟩
set_option maxHeartbeats 4000000 in
theorem l_ans (hG : GS θ S n) (k46 : S 46 = .inr (10, fs)) (f34 : fs[34]? = some (.int a)) (k74 : S 74 = .inl (0, 40, .inl tl)) : PM (j_SL L) (j_SV xs) j_EX mm_X12_answer [.ref 46, .int x, .int y, .int w] S n (RPl (aR tl a x y w)) := by
  have hn := gs_n hG
  obtain ⟨gs, k46', hf⟩ := gs_obj hG (k := 46) rfl
  have ef := (Prod.mk.inj (Sum.inr.inj (k46.symm.trans k46'))).2
  subst ef
  have f33 : fs[33]? = some (.ref 74) := fo_ref (hf 33 _ rfl) rfl
  have b34 := (List.getElem?_eq_some_iff.mp f34).1
  change PQ (j_SL L) (j_SV xs) j_EX mm_X12_answer 0 [.ref 46, .int x, .int y, .int w] [] S n 0 0 _
  have bad : (¬ ∃ p v, okN x y p v) → PQ (j_SL L) (j_SV xs) j_EX mm_X12_answer 19 [.ref 46, .int x, .int y, .int w] [] S n 0 0 (RPl (aR tl a x y w)) := by
    intro h
    refine q_iconst rfl rfl ?_
    exact q_iret rfl rfl trivial ⟨fs, a, _, tl, k46, f34, k74, rfl, Or.inl ⟨h, fun _ _ => rfl, rfl, rfl⟩⟩
  refine q_aload_n rfl rfl rfl ?_
  refine q_iload_n rfl rfl rfl ?_
  refine q_cV rfl rfl (Or.inl rfl) rfl rfl rfl rfl (by omega) k46 trivial rfl rfl rfl rfl rfl (l_isPlace hn k46) ?_
  rintro r S1 n1 ⟨ea, eb, hr⟩
  obtain rfl := ea.symm
  obtain rfl := eb.symm
  rcases hr with ⟨q, rfl⟩ | ⟨qx, rfl⟩
  · show PQ (j_SL L) (j_SV xs) j_EX mm_X12_answer 5 [.ref 46, .int x, .int y, .int w] [.int 0] S n 0 0 _
    exact q_ifeq rfl rfl (fun _ => bad (fun ⟨p, v, h⟩ => q ((inw (a := 3) (b := 4) (by decide)).mpr (by rw [h.1.2]; exact n_in (b := 4) rfl (by decide) h.1.1)))) (fun c => absurd rfl c)
  show PQ (j_SL L) (j_SV xs) j_EX mm_X12_answer 5 [.ref 46, .int x, .int y, .int w] [.int 1] S n 0 0 _
  refine q_ifeq rfl rfl (fun c => absurd c (by decide)) (fun _ => ?_)
  refine q_aload_n rfl rfl rfl ?_
  refine q_iload_n rfl rfl rfl ?_
  refine q_iconst rfl rfl ?_
  refine q_bipush rfl rfl ?_
  refine q_cV rfl rfl (Or.inl rfl) rfl rfl rfl rfl (by omega) k46 trivial rfl rfl rfl rfl rfl l_in ?_
  rintro r S1 n1 ⟨ea, eb, hr⟩
  obtain rfl := ea.symm
  obtain rfl := eb.symm
  rcases hr with ⟨q, rfl⟩ | ⟨qy, rfl⟩
  · show PQ (j_SL L) (j_SV xs) j_EX mm_X12_answer 16 [.ref 46, .int x, .int y, .int w] [.int 0] S n 0 0 _
    exact q_ifne rfl rfl (fun _ => bad (fun ⟨p, v, h⟩ => q ((inw (a := 9) (b := 10) (by decide)).mpr (by rw [h.2.2]; exact n_in (b := 10) rfl (by decide) h.2.1)))) (fun c => absurd rfl c)
  show PQ (j_SL L) (j_SV xs) j_EX mm_X12_answer 16 [.ref 46, .int x, .int y, .int w] [.int 1] S n 0 0 _
  refine q_ifne rfl rfl (fun c => absurd c (by decide)) (fun _ => ?_)
  clear bad
  obtain ⟨p, hp, rfl⟩ := in_b (b := 3) rfl (by decide) ((inw (a := 3) (b := 4) (by decide)).mp qx)
  obtain ⟨v, hv, rfl⟩ := in_b (b := 9) rfl (by decide) ((inw (a := 9) (b := 10) (by decide)).mp qy)
  have tail : ∀ (T : Nat → pm_E) (gs : List Value) (a' : Int32), (∀ j, j ≠ 46 → T j = S j) → T 46 = .inr (10, gs) → gs[33]? = some (.ref 74) → gs[34]? = some (.int a') → a' = (if tl (10 * p + v) = -2 then a + 1 else a) → PQ (j_SL L) (j_SV xs) j_EX mm_X12_answer 47 [.ref 46, .int (nI p), .int (nI v), .int w] [] T n 0 0 (RPl (aR tl a (nI p) (nI v) w)) := by
    intro T gs a' eT t46 g33 g34 ha
    have st : ∀ u : Int32, u = (if w = 0 then 0 else 1) → PQ (j_SL L) (j_SV xs) j_EX mm_X12_answer 66 [.ref 46, .int (nI p), .int (nI v), .int w] [.int u, .int (nI (10 * p + v)), .ref 74] T n 0 0 (RPl (aR tl a (nI p) (nI v) w)) := by
      intro u hu
      refine q_iast rfl rfl (by omega) ((eT 74 (by decide)).trans k74) (q_inN (by omega) (by decide)) ?_
      refine q_aload_n rfl rfl rfl ?_
      refine q_getf rfl rfl (by omega) ((u_ne (by decide)).trans t46) g34 ?_
      refine q_iret rfl rfl trivial ⟨gs, a', _, _, (u_ne (by decide)).trans t46, g34, u_eq, rfl, Or.inr ⟨p, v, ⟨⟨by omega, rfl⟩, by omega, rfl⟩, fun j hj => ?_, ha, rfl⟩⟩
      rw [nI_clamp (by omega)]
      unfold upd
      by_cases e : j = 10 * p + v
      · rw [if_pos e, if_pos e, hu]
      · rw [if_neg e, if_neg e]
    refine q_aload_n rfl rfl rfl ?_
    refine q_getf rfl rfl (by omega) t46 g33 ?_
    refine q_bipush rfl rfl ?_
    refine q_iload_n rfl rfl rfl ?_
    refine q_imul rfl rfl (q_tn (z := nI (10 * p)) (by rw [show (10 : Int32) = nI 10 from rfl, pk_mul]) ?_)
    refine q_iload_n rfl rfl rfl ?_
    refine q_iadd rfl rfl (q_tn (z := nI (10 * p + v)) (nI_add _ _) ?_)
    refine q_iload_n rfl rfl rfl ?_
    refine q_ifeq rfl rfl (fun h => ?_) (fun h => ?_)
    · refine q_iconst rfl rfl ?_
      exact st 0 (by rw [if_pos h])
    · refine q_iconst rfl rfl ?_
      refine q_goto rfl ?_
      exact st 1 (by rw [if_neg h])
  refine q_aload_n rfl rfl rfl ?_
  refine q_getf rfl rfl (by omega) k46 f33 ?_
  refine q_bipush rfl rfl ?_
  refine q_iload_n rfl rfl rfl ?_
  refine q_imul rfl rfl (q_tn (z := nI (10 * p)) (by rw [show (10 : Int32) = nI 10 from rfl, pk_mul]) ?_)
  refine q_iload_n rfl rfl rfl ?_
  refine q_iadd rfl rfl (q_tn (z := nI (10 * p + v)) (nI_add _ _) ?_)
  refine q_iald rfl rfl (by omega) k74 (q_inN (by omega) (by decide)) (q_tn (z := tl (10 * p + v)) (by rw [nI_clamp (by omega)]) ?_)
  refine q_bipush rfl rfl ?_
  refine q_icne rfl rfl (fun h => ?_) (fun h => ?_)
  · refine q_aload_n rfl rfl rfl ?_
    refine q_dupr rfl rfl ?_
    refine q_getf rfl rfl (by omega) k46 f34 ?_
    refine q_iconst rfl rfl ?_
    refine q_iadd rfl rfl ?_
    refine q_putf rfl rfl (by omega) k46 b34 rfl trivial ?_
    exact tail _ _ (a + 1) (fun j hj => u_ne hj) u_eq ((os_ne (by decide)).trans f33) (os_at f34) (by rw [if_pos h])
  · exact tail S fs a (fun _ _ => rfl) k46 f33 f34 (by rw [if_neg h])
theorem ans_eq {z z' a' : Int32} {ak' ag' : Int64} {tl' : Nat → Int32} (hw : w = 0 ∨ w = 1) (ha : a = nI (cntB (e_bt ak) 64)) (h40 : ∀ k, 40 ≤ k → e_bt ak k = false) (h : ∀ k, k < 40 → (tl k = -2 ∧ e_bt ak k = false) ∨ (tl k = 1 ∧ e_bt ak k = true ∧ e_bt ag k = true) ∨ (tl k = 0 ∧ e_bt ak k = true ∧ e_bt ag k = false)) (h1 : aQ ak ag x y w z ak' ag') (h2 : aR tl a x y w z' a' tl') : z = z' ∧ a' = nI (cntB (e_bt ak') 64) ∧ (∀ k, 40 ≤ k → e_bt ak' k = false) ∧ ∀ k, k < 40 → (tl' k = -2 ∧ e_bt ak' k = false) ∨ (tl' k = 1 ∧ e_bt ak' k = true ∧ e_bt ag' k = true) ∨ (tl' k = 0 ∧ e_bt ak' k = true ∧ e_bt ag' k = false) := by
  rcases h1 with ⟨b, rfl, rfl, rfl⟩ | ⟨p, v, b, c1, c2, rfl⟩ <;> rcases h2 with ⟨b', d1, rfl, rfl⟩ | ⟨p', v', b', d1, d2, rfl⟩
  · exact ⟨rfl, ha, h40, fun k hk => by rw [d1 k hk]; exact h k hk⟩
  · exact absurd ⟨p', v', b'⟩ b
  · exact absurd ⟨p, v, b⟩ b'
  · obtain ⟨⟨hp, ex⟩, hv, ey⟩ := b
    obtain ⟨⟨hp', ex'⟩, hv', ey'⟩ := b'
    have q1 := nI_inj (by omega) (by omega) (ex.symm.trans ex')
    have q2 := nI_inj (by omega) (by omega) (ey.symm.trans ey')
    subst q1 q2
    have hq : 10 * p + v < 40 := by omega
    have hc := cntB_set (b := e_bt ak) (b' := e_bt ak') (k := 10 * p + v) c1 64 (by omega)
    have e2 : z' = nI (cntB (e_bt ak') 64) := by
      rw [d2, hc, ha]
      rcases h _ hq with ⟨h5, h6⟩ | ⟨h5, h6, -⟩ | ⟨h5, h6, -⟩
      · rw [if_pos h5, h6, if_neg (by decide), ← nI_add]
        rfl
      · rw [if_neg (by rw [h5]; decide), h6, if_pos rfl, Nat.add_zero]
      · rw [if_neg (by rw [h5]; decide), h6, if_pos rfl, Nat.add_zero]
    refine ⟨e2.symm, e2, fun k hk => ?_, fun k hk => ?_⟩
    · rw [c1 k, h40 k hk, decide_eq_false (by omega), Bool.or_false]
    · rw [d1 k hk, c1 k, c2 k]
      by_cases e : k = 10 * p + v
      · rw [if_pos e, decide_eq_true e, Bool.or_true, Bool.or_true, Bool.not_true, Bool.and_false]
        rcases hw with rfl | rfl
        · exact Or.inr (Or.inr ⟨rfl, rfl, rfl⟩)
        · exact Or.inr (Or.inl ⟨rfl, rfl, rfl⟩)
      · rw [if_neg e, decide_eq_false e, Bool.or_false, Bool.or_false, Bool.not_false, Bool.and_true]
        rcases hw with rfl | rfl <;> exact h k hk
theorem rk_cl {l : List Nat} {Y : pm_M} {as : List Value} {Q : Int32 → Int64 → Int64 → Prop} (hn : 82 ≤ n) (h1 : PM (j_SL L) (j_SV xs) j_EX Y as S n (RIJ θ P l S n)) (h2 : PM (j_SL L) (j_SV xs) j_EX Y as S n (CPl Q)) : PM (j_SL L) (j_SV xs) j_EX Y as S n (fun r S' n' => n = n' ∧ GJ θ P S' n ∧ fr1 l S S' n ∧ ∃ z : Int32, r = some (.int z) ∧ ∃ (lr' : List Value) (ak' ag' : Int64), S' 42 = .inr (1, lr') ∧ lr'[0]? = some (.long ak') ∧ lr'[1]? = some (.long ag') ∧ Q z ak' ag') := pm_weak (pm_and h1 h2) (fun r S' n' h => by
  obtain ⟨⟨rfl, ⟨z, hz⟩, b, c⟩, S2, e2, lr', ak', ag', z', k42, l0, l1, hr, hq⟩ := h
  rw [hz] at hr
  cases hr
  exact ⟨rfl, b, c, z, hz, lr', ak', ag', (hp_cell (by omega) e2).trans k42, l0, l1, hq⟩)
theorem rk_rl {l : List Nat} {Y : pm_M} {as : List Value} {Q : Int32 → Int32 → (Nat → Int32) → Prop} (hn : 82 ≤ n) (h1 : PM (j_SL L) (j_SV xs) j_EX Y as S n (RIJ θ P l S n)) (h2 : PM (j_SL L) (j_SV xs) j_EX Y as S n (RPl Q)) : PM (j_SL L) (j_SV xs) j_EX Y as S n (fun r S' n' => n = n' ∧ GJ θ P S' n ∧ fr1 l S S' n ∧ ∃ z : Int32, r = some (.int z) ∧ ∃ (fs' : List Value) (a' : Int32) (tl' : Nat → Int32), S' 46 = .inr (10, fs') ∧ fs'[34]? = some (.int a') ∧ S' 74 = .inl (0, 40, .inl tl') ∧ Q z a' tl') := pm_weak (pm_and h1 h2) (fun r S' n' h => by
  obtain ⟨⟨rfl, ⟨z, hz⟩, b, c⟩, S2, e2, fs', a', z', tl', k46, f34, k74, hr, hq⟩ := h
  rw [hz] at hr
  cases hr
  exact ⟨rfl, b, c, z, hz, fs', a', tl', (hp_cell (by omega) e2).trans k46, f34, (hp_cell (by omega) e2).trans k74, hq⟩)
theorem jal_ans {T1 T2 : Nat → pm_E} {f : Nat → Int32} {l l' : List Nat} {lr1 fs1 : List Value} {ak1 ag1 : Int64} {a1 : Int32} {tl1 : Nat → Int32} (hn : 82 ≤ n) (hj : JAl θ S) (k2 : S 2 = .inl (0, 4, .inl f)) (g : GJ θ (PGo θ f) T2 n) (e1 : fr1 l S T1 n) (e2 : fr1 l' T1 T2 n) (q1 : [1, 2, 3, 4, 5, 6].all (fun k => !(l.contains k)) = true) (q2 : [1, 2, 3, 4, 5, 6].all (fun k => !(l'.contains k)) = true) (q0 : l'.contains 42 = false) (y42 : T1 42 = .inr (1, lr1)) (y0 : lr1[0]? = some (.long ak1)) (y1 : lr1[1]? = some (.long ag1)) (y46 : T2 46 = .inr (10, fs1)) (y34 : fs1[34]? = some (.int a1)) (y74 : T2 74 = .inl (0, 40, .inl tl1)) (h : a1 = nI (cntB (e_bt ak1) 64) ∧ (∀ k, 40 ≤ k → e_bt ak1 k = false) ∧ ∀ k, k < 40 → (tl1 k = -2 ∧ e_bt ak1 k = false) ∨ (tl1 k = 1 ∧ e_bt ak1 k = true ∧ e_bt ag1 k = true) ∨ (tl1 k = 0 ∧ e_bt ak1 k = true ∧ e_bt ag1 k = false)) : JAl θ T2 := ⟨ja_back hn hj.1 k2 g e1 e2 q1 q2, fun P => ⟨lr1, fs1, ak1, ag1, tl1, (e2 42 (by omega) q0).trans y42, y0, y1, y46, by rw [← h.1]; exact y34, y74, h.2.1, h.2.2⟩⟩
theorem rlw_of {C : ck_Ct} {r0 : List Int} {r : Option Value} {n' : Nat} (hP : C.2.2.2.1.all (fun P => Nat.beq P.2.1.1 3) = true) (h : KL θ P C r0 S n r S' n') : n = n' ∧ (∃ v : Int64, r = some (.long v)) ∧ GL θ P S' n ∧ fr1 C.2.2.2.2 S S' n := by
  obtain ⟨h1, h2, h3, Q, hp, h4, h5, -⟩ := h
  have e := Nat.eq_of_beq_eq_true (List.all_eq_true.mp hP Q hp)
  unfold ck_rv at h5
  rw [e] at h5
  obtain ⟨v, hv⟩ := h5
  exact ⟨h1.symm, ⟨v, hv⟩, h2, h3⟩
end LE
