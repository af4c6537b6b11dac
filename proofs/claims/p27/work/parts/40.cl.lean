/-! the class's shelves: new rows, make -/
section CL
variable {θ : Th} {L : Nat} {xs : Nat → Int32} {S : Nat → pm_E} {n : Nat}
theorem u_eq {S : Nat → pm_E} {k : Nat} {c : pm_E} : va_up S k c k = c := if_pos rfl
theorem u_ne {S : Nat → pm_E} {k j : Nat} {c : pm_E} (h : j ≠ k) : va_up S k c j = S j := if_neg h
def sh43 (f : Nat → Option Nat) : pm_E := .inl (4, 8, .inr (.inr (.inr (.inr f))))
theorem gs_43 (hG : GS θ S n) : ∃ f : Nat → Option Nat, S 43 = sh43 f ∧ ∀ d, d < 8 → ∀ y, f d = some y → 82 ≤ y ∧ xh (hp S n) y := by
  obtain ⟨-, -, -, ⟨f, h1, h2⟩, -⟩ := hG
  exact ⟨f, (hp_some h1).2, h2⟩
theorem hp_up {S' : Nat → pm_E} {n' : Nat} (hn : n ≤ n') (e : ∀ k, 82 ≤ k → k < n → S' k = S k) : ∀ k c, 82 ≤ k → (hp S n)[k]? = some c → (hp S' n')[k]? = some c := fun k c h1 h2 => by
  obtain ⟨a, b⟩ := hp_some h2
  rw [hp_get (by omega), e k h1 a, b]
theorem xh_mono {S' : Nat → pm_E} {n' y : Nat} (hn : n ≤ n') (e : ∀ k, 82 ≤ k → k < n → S' k = S k) (hy : 82 ≤ y) (hh : xh (hp S n) y) : xh (hp S' n') y := by
  have u := hp_up hn e
  rcases hh with ⟨a, b, h1⟩ | ⟨z, len, g, h1, h2, h3, h4⟩ | ⟨z, len, g, h1, h2, h3, h4, h5⟩
  · exact Or.inl ⟨a, b, u y _ hy h1⟩
  · exact Or.inr (Or.inl ⟨z, len, g, u y _ hy h1, h2, h3, u z _ h2 h4⟩)
  · exact Or.inr (Or.inr ⟨z, len, g, u y _ hy h1, h2, h3, u z _ h2 h4, h5⟩)
theorem gs_grow {S' : Nat → pm_E} {n' : Nat} (hG : GS θ S n) (hn : n ≤ n') (h1 : ∀ k, k < 82 → k ≠ 43 → S' k = S k) (hX : XS (hp S' n')) : GS θ S' n' := by
  have h82 := gs_n hG
  have e : ∀ k, k < 82 → k ≠ 43 → (hp S' n')[k]? = (hp S n)[k]? := fun k a b => by rw [hp_get (by omega), hp_get (by omega), h1 k a b]
  refine ⟨fun k hk => ?_, ?_⟩
  · have hk82 : k < 82 := by
      rcases Nat.lt_or_ge k 82 with h | h
      · exact h
      · rw [xi_82 h] at hk
        cases hk
    by_cases e43 : k = 43
    · subst e43
      exact absurd hk (by decide)
    · rw [e k hk82 e43]
      exact hG.1 k hk
  · obtain ⟨-, a1, a2, a3, a4⟩ := hG
    exact ⟨XC_same (e 56 (by decide) (by decide)) a1, XK_same (e 48 (by decide) (by decide)) (e 49 (by decide) (by decide)) (e 50 (by decide) (by decide)) a2, hX, XM_same (e 47 (by decide) (by decide)) (e 48 (by decide) (by decide)) (e 49 (by decide) (by decide)) (e 50 (by decide) (by decide)) (sHd_of (e 46 (by decide) (by decide))) a4⟩
theorem gs_ext {S' : Nat → pm_E} {n' : Nat} (hG : GS θ S n) (hn : n ≤ n') (e : ∀ k, k < n → S' k = S k) : GS θ S' n' := by
  have h82 := gs_n hG
  obtain ⟨f, a1, a2⟩ := gs_43 hG
  exact gs_grow hG hn (fun k h _ => e k (by omega)) ⟨f, by rw [hp_get (by omega), e 43 (by omega), a1]; rfl, fun d hd y hy => ⟨(a2 d hd y hy).1, xh_mono hn (fun k _ h => e k h) (a2 d hd y hy).1 (a2 d hd y hy).2⟩⟩
theorem gs_put {S' : Nat → pm_E} {n' d : Nat} {f : Nat → Option Nat} {y : Option Nat} (hG : GS θ S n) (h43 : S 43 = sh43 f) (hn : n ≤ n') (e : ∀ k, k < n → k ≠ 43 → S' k = S k) (h43' : S' 43 = sh43 (va_up f d y)) (hy : ∀ y0, y = some y0 → 82 ≤ y0 ∧ xh (hp S' n') y0) : GS θ S' n' := by
  have h82 := gs_n hG
  obtain ⟨f0, a1, a2⟩ := gs_43 hG
  rw [h43] at a1
  cases a1
  refine gs_grow hG hn (fun k h h2 => e k (by omega) h2) ⟨_, by rw [hp_get (by omega), h43']; rfl, fun d' hd' y' hy' => ?_⟩
  by_cases ed : d' = d
  · subst ed
    rw [show va_up f d' y d' = y from if_pos rfl] at hy'
    exact hy y' hy'
  · rw [show va_up f d y d' = f d' from if_neg ed] at hy'
    obtain ⟨b1, b2⟩ := a2 d' hd' y' hy'
    exact ⟨b1, xh_mono hn (fun k h1 h2 => e k h2 (by omega)) b1 b2⟩
theorem c_wi {EX : pm_M → pm_C → (pm_C → Prop) → Prop} {SL : Nat → Nat} {SV : Nat → Nat → Int32} {x b : Int32} : PM SL SV EX mm_X11_within [.int x, .int b] S n (fun r S' n' => S = S' ∧ n = n' ∧ (((x < 0 ∨ b ≤ x) ∧ r = some (.int 0)) ∨ ((0 ≤ x ∧ x < b) ∧ r = some (.int 1)))) := by
  change PQ SL SV EX mm_X11_within 0 [.int x, .int b] [] S n 0 0 _
  refine q_iload_n rfl rfl rfl ?_
  refine q_iflt rfl rfl (fun c1 => ?_) (fun c1 => ?_)
  · refine q_iconst rfl rfl ?_
    exact q_iret rfl rfl rfl ⟨rfl, rfl, Or.inl ⟨Or.inl c1, rfl⟩⟩
  · refine q_iload_n rfl rfl rfl ?_
    refine q_iload_n rfl rfl rfl ?_
    refine q_icge rfl rfl (fun c2 => ?_) (fun c2 => ?_)
    · refine q_iconst rfl rfl ?_
      exact q_iret rfl rfl rfl ⟨rfl, rfl, Or.inl ⟨Or.inr c2, rfl⟩⟩
    · refine q_iconst rfl rfl ?_
      refine q_goto rfl ?_
      exact q_iret rfl rfl rfl ⟨rfl, rfl, Or.inr ⟨⟨i_nlt c1, i_nle c2⟩, rfl⟩⟩
theorem c_out {d b : Int32} (q : d < 0 ∨ b ≤ d) (h : 0 ≤ d ∧ d < b) : False := by
  simp only [Int32.lt_iff_toInt_lt, Int32.le_iff_toInt_le] at q h
  omega
theorem c_in8 {d : Int32} (h : 0 ≤ d ∧ d < 8) : pm_inb d 8 = true ∧ d.toNatClampNeg < 8 := by
  simp only [Int32.lt_iff_toInt_lt, Int32.le_iff_toInt_le] at h
  have e8 : (8 : Int32).toInt = 8 := rfl
  have e0 : (0 : Int32).toInt = 0 := rfl
  obtain ⟨k, hk, rfl⟩ := nat_of (x := d) (b := 7) (by omega) (by omega)
  exact ⟨q_inN (m := 8) (by omega) (by decide), by rw [nI_clamp (by omega)]; omega⟩
theorem c_i2 {o : Nat} : PM (j_SL L) (j_SV xs) j_EX mm_X2_init [.ref o] S n (fun r S' n' => r = none ∧ S = S' ∧ n = n') := by
  change PQ (j_SL L) (j_SV xs) j_EX mm_X2_init 0 [.ref o] [] S n 0 0 _
  refine q_aload_n rfl rfl rfl ?_
  refine q_objI rfl rfl rfl ?_
  exact q_ret rfl rfl ⟨rfl, rfl, rfl⟩
theorem c_60 {x : Int32} (hx : ¬ x < 0) (h60 : x ≤ 60) : x.toNatClampNeg ≤ 60 := by
  simp only [Int32.lt_iff_toInt_lt, Int32.le_iff_toInt_le] at hx h60
  have e6 : (60 : Int32).toInt = 60 := rfl
  have e0 : (0 : Int32).toInt = 0 := rfl
  obtain ⟨k, hk, rfl⟩ := nat_of (x := x) (b := 60) (by omega) (by omega)
  rw [nI_clamp (by omega)]
  exact hk
def newL (S : Nat → pm_E) (n o m : Nat) : Nat → pm_E := va_up (va_up S n (.inl (1, m, .inr (.inl (fun _ => 0))))) o (.inr (2, [.ref n]))
def newS (S : Nat → pm_E) (n o m : Nat) : Nat → pm_E := va_up (va_up S n (.inl (3, m, .inl (fun _ => 0)))) o (.inr (7, [.ref n]))
theorem c_i4 {o : Nat} {x : Int32} (hx : ¬ x < 0) (h60 : x ≤ 60) (ho : o < n) (hs : S o = .inr (2, [.null])) : PM (j_SL L) (j_SV xs) j_EX mm_X4_init [.ref o, .int x] S n (fun r S' n' => r = none ∧ n' = n + 1 ∧ S' = newL S n o x.toNatClampNeg) := by
  have hm := c_60 hx h60
  change PQ (j_SL L) (j_SV xs) j_EX mm_X4_init 0 [.ref o, .int x] [] S n 0 0 _
  refine q_aload_n rfl rfl rfl ?_
  refine q_cI rfl rfl (Or.inr rfl) rfl rfl rfl trivial rfl rfl rfl rfl rfl c_i2 ?_
  rintro r _ _ ⟨rfl, rfl, rfl⟩
  show PQ (j_SL L) (j_SV xs) j_EX mm_X4_init 4 _ [] _ _ 0 0 _
  refine q_aload_n rfl rfl rfl ?_
  refine q_iload_n rfl rfl rfl ?_
  refine q_iconst rfl rfl ?_
  refine q_mx (idx := 7) rfl (by decide +kernel) rfl rfl (if_neg hx) ?_
  refine q_newa rfl rfl hx rfl (Nat.ble_eq_true_of_le (by omega)) rfl (Nat.ble_eq_true_of_le (show 0 + x.toNatClampNeg ≤ 60 by omega)) ?_
  refine q_putf rfl rfl (by omega) ((u_ne (by omega)).trans hs) (by decide) rfl trivial ?_
  exact q_ret rfl rfl ⟨rfl, rfl, rfl⟩
theorem c_i9 {o : Nat} {x : Int32} (hx : ¬ x < 0) (h60 : x ≤ 60) (ho : o < n) (hs : S o = .inr (7, [.null])) : PM (j_SL L) (j_SV xs) j_EX mm_X9_init [.ref o, .int x] S n (fun r S' n' => r = none ∧ n' = n + 1 ∧ S' = newS S n o x.toNatClampNeg) := by
  have hm := c_60 hx h60
  change PQ (j_SL L) (j_SV xs) j_EX mm_X9_init 0 [.ref o, .int x] [] S n 0 0 _
  refine q_aload_n rfl rfl rfl ?_
  refine q_cI rfl rfl (Or.inr rfl) rfl rfl rfl trivial rfl rfl rfl rfl rfl c_i2 ?_
  rintro r _ _ ⟨rfl, rfl, rfl⟩
  show PQ (j_SL L) (j_SV xs) j_EX mm_X9_init 4 _ [] _ _ 0 0 _
  refine q_aload_n rfl rfl rfl ?_
  refine q_iload_n rfl rfl rfl ?_
  refine q_iconst rfl rfl ?_
  refine q_mx (idx := 7) rfl (by decide +kernel) rfl rfl (if_neg hx) ?_
  refine q_newa rfl rfl hx rfl (Nat.ble_eq_true_of_le (by omega)) rfl (Nat.ble_eq_true_of_le (show 0 + x.toNatClampNeg ≤ 60 by omega)) ?_
  refine q_putf rfl rfl (by omega) ((u_ne (by omega)).trans hs) (by decide) rfl trivial ?_
  exact q_ret rfl rfl ⟨rfl, rfl, rfl⟩
theorem newL_o {S : Nat → pm_E} {n o m : Nat} : newL S n o m o = .inr (2, [.ref n]) := u_eq
theorem newL_n {S : Nat → pm_E} {n o m : Nat} (h : o < n) : newL S n o m n = .inl (1, m, .inr (.inl (fun _ => 0))) := (u_ne (by omega)).trans u_eq
theorem newL_k {S : Nat → pm_E} {n o m k : Nat} (h : k < n) (h2 : k ≠ o) : newL S n o m k = S k := (u_ne h2).trans (u_ne (by omega))
theorem newS_o {S : Nat → pm_E} {n o m : Nat} : newS S n o m o = .inr (7, [.ref n]) := u_eq
theorem newS_n {S : Nat → pm_E} {n o m : Nat} (h : o < n) : newS S n o m n = .inl (3, m, .inl (fun _ => 0)) := (u_ne (by omega)).trans u_eq
theorem newS_k {S : Nat → pm_E} {n o m k : Nat} (h : k < n) (h2 : k ≠ o) : newS S n o m k = S k := (u_ne h2).trans (u_ne (by omega))
theorem gs_0 (hG : GS θ S n) : ∃ fs : List Value, S 0 = .inr (9, fs) ∧ fs[0]? = some (.ref 1) ∧ fs[7]? = some (.ref 43) ∧ ∃ v : Int64, fs[11]? = some (.long v) := by
  obtain ⟨fs, k0, hf⟩ := gs_obj hG (k := 0) rfl
  refine ⟨fs, k0, fo_ref (hf 0 _ rfl) rfl, fo_ref (hf 7 _ rfl) rfl, ?_⟩
  obtain ⟨w, h1, v, h2⟩ := hf 11 _ rfl
  exact ⟨v, by rw [h1, h2]⟩
def mkO (d w x : Int32) : Prop := (0 ≤ d ∧ d < 8) ∧ (w = 3 ∨ w = 4) ∧ x ≤ 60
/-- what make leaves -/
def mkP (S : Nat → pm_E) (n : Nat) (f : Nat → Option Nat) (d w x : Int32) (S' : Nat → pm_E) (n' : Nat) : Prop := n' = n + 2 ∧ S' 43 = sh43 (va_up f d.toNatClampNeg (some n)) ∧ (∀ k, k < n → k ≠ 43 → S' k = S k) ∧
  ((w = 3 ∧ S' n = .inr (2, [.ref (n + 1)]) ∧ S' (n + 1) = .inl (1, x.toNatClampNeg, .inr (.inl (fun _ => 0)))) ∨ (w = 4 ∧ S' n = .inr (7, [.ref (n + 1)]) ∧ S' (n + 1) = .inl (3, x.toNatClampNeg, .inl (fun _ => 0))))
theorem c_make {K : q_K} {d w x : Int32} {f : Nat → Option Nat} (hG : GS θ S n) (h43 : S 43 = sh43 f) (k1 : ¬ mkO d w x → K (some (.int (-1))) S n) (k2 : mkO d w x → x < 0 → K (some (.int (-14))) S n) (k3 : mkO d w x → ¬ x < 0 → ∀ S' n', mkP S n f d w x S' n' → K (some (.int 0)) S' n') : PM (j_SL L) (j_SV xs) j_EX mm_X11_make [.ref 0, .int d, .int w, .int x] S n K := by
  have hn := gs_n hG
  obtain ⟨fs, k0, -, f7, -⟩ := gs_0 hG
  change PQ (j_SL L) (j_SV xs) j_EX mm_X11_make 0 [.ref 0, .int d, .int w, .int x] [] S n 0 0 K
  refine q_iload_n rfl rfl rfl ?_
  refine q_bipush rfl rfl ?_
  refine q_cS rfl rfl (Or.inl rfl) rfl rfl trivial rfl rfl rfl rfl rfl c_wi ?_
  rintro r _ _ ⟨rfl, rfl, ⟨q, rfl⟩ | ⟨q, rfl⟩⟩
  · show PQ (j_SL L) (j_SV xs) j_EX mm_X11_make 6 _ [.int 0] _ _ 0 0 K
    refine q_ifeq rfl rfl (fun _ => ?_) (fun c => absurd rfl c)
    refine q_iconst rfl rfl ?_
    exact q_iret rfl rfl trivial (k1 (fun h => c_out q h.1))
  · show PQ (j_SL L) (j_SV xs) j_EX mm_X11_make 6 _ [.int 1] _ _ 0 0 K
    refine q_ifeq rfl rfl (fun c => absurd c (by decide)) (fun _ => ?_)
    obtain ⟨hin, hd8⟩ := c_in8 q
    have key : (w = 3 ∨ w = 4) → PQ (j_SL L) (j_SV xs) j_EX mm_X11_make 19 [.ref 0, .int d, .int w, .int x] [] S n 0 0 K := by
      intro hw
      refine q_iload_n rfl rfl rfl ?_
      refine q_bipush rfl rfl ?_
      refine q_icle rfl rfl (fun c60 => ?_) (fun c60 => ?_)
      · refine q_iload_n rfl rfl rfl ?_
        refine q_ifge rfl rfl (fun c0 => ?_) (fun c0 => ?_)
        · have hx : ¬ x < 0 := fun h => by
            simp only [Int32.lt_iff_toInt_lt, Int32.le_iff_toInt_le] at c0 h
            omega
          refine q_aload_n rfl rfl rfl ?_
          refine q_getf rfl rfl (by omega) k0 f7 ?_
          refine q_iload_n rfl rfl rfl ?_
          refine q_iload_n rfl rfl rfl ?_
          refine q_iconst rfl rfl ?_
          refine q_icne rfl rfl (fun c3 => ?_) (fun c3 => ?_)
          · refine q_new rfl rfl rfl rfl ?_
            refine q_dupr rfl rfl ?_
            refine q_iload_n rfl rfl rfl ?_
            refine q_cI rfl rfl (Or.inl rfl) rfl rfl rfl ⟨rfl, rfl⟩ rfl rfl rfl rfl rfl (c_i4 hx c60 (Nat.lt_succ_self n) u_eq) ?_
            rintro r _ _ ⟨rfl, rfl, rfl⟩
            show PQ (j_SL L) (j_SV xs) j_EX mm_X11_make 52 _ [.ref n, .int d, .ref 43] _ _ _ _ K
            refine q_goto rfl ?_
            refine q_aast (ci := 2) rfl rfl (by omega) (by omega) ((newL_k (by omega) (by omega)).trans ((u_ne (by omega)).trans h43)) newL_o rfl hin ?_
            refine q_iconst rfl rfl ?_
            exact q_iret rfl rfl trivial (k3 ⟨q, hw, c60⟩ hx _ _ ⟨rfl, u_eq, fun k h1 h2 => (u_ne h2).trans ((newL_k (by omega) (by omega)).trans (u_ne (by omega))), Or.inl ⟨c3, (u_ne (by omega)).trans newL_o, (u_ne (by omega)).trans (newL_n (by omega))⟩⟩)
          · refine q_new rfl rfl rfl rfl ?_
            refine q_dupr rfl rfl ?_
            refine q_iload_n rfl rfl rfl ?_
            refine q_cI rfl rfl (Or.inl rfl) rfl rfl rfl ⟨rfl, rfl⟩ rfl rfl rfl rfl rfl (c_i9 hx c60 (Nat.lt_succ_self n) u_eq) ?_
            rintro r _ _ ⟨rfl, rfl, rfl⟩
            show PQ (j_SL L) (j_SV xs) j_EX mm_X11_make 63 _ [.ref n, .int d, .ref 43] _ _ _ _ K
            refine q_aast (ci := 7) rfl rfl (by omega) (by omega) ((newS_k (by omega) (by omega)).trans ((u_ne (by omega)).trans h43)) newS_o rfl hin ?_
            refine q_iconst rfl rfl ?_
            exact q_iret rfl rfl trivial (k3 ⟨q, hw, c60⟩ hx _ _ ⟨rfl, u_eq, fun k h1 h2 => (u_ne h2).trans ((newS_k (by omega) (by omega)).trans (u_ne (by omega))), Or.inr ⟨hw.resolve_left c3, (u_ne (by omega)).trans newS_o, (u_ne (by omega)).trans (newS_n (by omega))⟩⟩)
        · refine q_bipush rfl rfl ?_
          exact q_iret rfl rfl trivial (k2 ⟨q, hw, c60⟩ (by
            simp only [Int32.lt_iff_toInt_lt, Int32.le_iff_toInt_le] at c0 ⊢
            omega))
      · refine q_iconst rfl rfl ?_
        exact q_iret rfl rfl trivial (k1 (fun h => c60 h.2.2))
    refine q_iload_n rfl rfl rfl ?_
    refine q_iconst rfl rfl ?_
    refine q_iceq rfl rfl (fun c3 => key (Or.inl c3)) (fun c3 => ?_)
    refine q_iload_n rfl rfl rfl ?_
    refine q_iconst rfl rfl ?_
    refine q_icne rfl rfl (fun c4 => key (Or.inr c4)) (fun c4 => ?_)
    refine q_iconst rfl rfl ?_
    exact q_iret rfl rfl trivial (k1 (fun h => h.2.1.elim c3 c4))
theorem gs_make {d w x : Int32} {f : Nat → Option Nat} {S' : Nat → pm_E} {n' : Nat} (hG : GS θ S n) (h43 : S 43 = sh43 f) (hO : mkO d w x) (hx : ¬ x < 0) (h : mkP S n f d w x S' n') : GS θ S' n' := by
  obtain ⟨rfl, h1, h2, h3⟩ := h
  have hn := gs_n hG
  have hm := c_60 hx hO.2.2
  refine gs_put hG h43 (by omega) h2 h1 (fun y0 e => ?_)
  cases e
  refine ⟨hn, ?_⟩
  rcases h3 with ⟨-, a, b⟩ | ⟨-, a, b⟩
  · exact Or.inr (Or.inl ⟨n + 1, _, _, by rw [hp_get (by omega), a], by omega, hm, by rw [hp_get (by omega), b]⟩)
  · exact Or.inr (Or.inr ⟨n + 1, _, _, by rw [hp_get (by omega), a], by omega, hm, by rw [hp_get (by omega), b], fun j _ => rfl⟩)
/-- what a shelf's call leaves: cells of the two programs but the shelves' own are the same -/
def PO (θ : Th) (S : Nat → pm_E) (n : Nat) (R : Int32 → Prop) : q_K := fun r S' n' => n ≤ n' ∧ GS θ S' n' ∧ (∀ k, k < 82 → k ≠ 43 → S' k = S k) ∧ ∃ z : Int32, r = some (.int z) ∧ R z
def mkR (d w x z : Int32) : Prop := (¬ mkO d w x ∧ z = -1) ∨ (mkO d w x ∧ x < 0 ∧ z = -14) ∨ (mkO d w x ∧ ¬ x < 0 ∧ z = 0)
theorem c_mk {d w x : Int32} (hG : GS θ S n) : PM (j_SL L) (j_SV xs) j_EX mm_X11_make [.ref 0, .int d, .int w, .int x] S n (PO θ S n (mkR d w x)) := by
  obtain ⟨f, h43, -⟩ := gs_43 hG
  have hn := gs_n hG
  refine c_make hG h43 (fun h => ⟨Nat.le_refl n, hG, fun _ _ _ => rfl, -1, rfl, Or.inl ⟨h, rfl⟩⟩) (fun h h2 => ⟨Nat.le_refl n, hG, fun _ _ _ => rfl, -14, rfl, Or.inr (Or.inl ⟨h, h2, rfl⟩)⟩) (fun h h2 S' n' hP => ⟨by have := hP.1; omega, gs_make hG h43 h h2 hP, fun k a b => hP.2.2.1 k (by omega) b, 0, rfl, Or.inr (Or.inr ⟨h, h2, rfl⟩)⟩)
end CL
