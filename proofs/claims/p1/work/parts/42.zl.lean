/-! the reference's standAt and costOf, each in one row; the class's half of a long op by itself -/
section ZL
variable {SL : Nat → Nat} {SV : Nat → Nat → Int32} {EX : pm_M → pm_C → (pm_C → Prop) → Prop} {S : Nat → pm_E} {n : Nat} {K : q_K}
def sa_f (f g : Nat → Int32) (B k : Nat) : Nat → Int32 := fun j => if j < k then g (B + j) else f j
theorem sa_0 (f g : Nat → Int32) (B : Nat) : sa_f f g B 0 = f := by
  funext j
  unfold sa_f
  rw [if_neg (Nat.not_lt_zero j)]
theorem sa_s (f g : Nat → Int32) (B k : Nat) : upd (sa_f f g B k) k (g (B + k)) = sa_f f g B (k + 1) := by
  funext j
  unfold upd sa_f
  by_cases h : j = k
  · subst h
    rw [if_pos rfl, if_pos (Nat.lt_succ_self j)]
  · rw [if_neg h]
    by_cases h2 : j < k
    · rw [if_pos h2, if_pos (by omega)]
    · rw [if_neg h2, if_neg (by omega)]
theorem l_sa {R : Nat} (hR : R ≤ 1) {room : Int32} (hroom : room = nI R) {fs : List Value} {f g : Nat → Int32} (hn : 55 < n) (h46 : S 46 = .inr (10, fs)) (h8 : fs[8]? = some (.ref 52)) (h11 : fs[11]? = some (.ref 55)) (h52 : S 52 = .inl (0, 20, .inl f)) (h55 : S 55 = .inl (0, 80000, .inl g))
    (hK : K none (va_up S 52 (.inl (0, 20, .inl (sa_f f g (40000 * R) 20)))) n) : PM SL SV EX mm_X12_standAt [.ref 46, .int room, .int 0] S n K := by
  change PQ SL SV EX mm_X12_standAt 0 [.ref 46, .int room, .int 0, pm_un] [] S n 0 0 K
  subst hroom
  refine q_iconst rfl rfl ?_
  refine q_ist3n rfl rfl rfl rfl ?_
  have key : ∀ m k : Nat, k + m = 20 → ∀ (y : Int32), y = nI k → PQ SL SV EX mm_X12_standAt 2 [.ref 46, .int (nI R), .int 0, .int y] [] (va_up S 52 (.inl (0, 20, .inl (sa_f f g (40000 * R) k)))) n 0 0 K := by
    intro m
    induction m with
    | zero =>
      intro k hk y hy
      have e : k = 20 := by omega
      subst e
      have e2 : y = 20 := hy
      subst e2
      refine q_iload_n rfl rfl rfl ?_
      refine q_bipush rfl rfl ?_
      refine q_icge rfl rfl (fun _ => ?_) (fun c => absurd (by decide) c)
      exact q_ret rfl rfl hK
    | succ m ih =>
      intro k hk y hy
      refine q_iload_n rfl rfl rfl ?_
      refine q_bipush rfl rfl ?_
      refine q_icge rfl rfl (fun c => absurd c ?_) (fun _ => ?_)
      · rw [hy]; exact nI_ge (a := k) (b := 20) (by omega) (by decide)
      · refine q_aload_n rfl rfl rfl ?_
        refine q_getf rfl rfl (by omega) (show va_up S 52 _ 46 = _ from h46) h8 ?_
        refine q_iload_n rfl rfl rfl ?_
        refine q_aload_n rfl rfl rfl ?_
        refine q_getf rfl rfl (by omega) (show va_up S 52 _ 46 = _ from h46) h11 ?_
        refine q_bipush rfl rfl ?_
        refine q_sipush rfl rfl ?_
        refine q_iload_n rfl rfl rfl ?_
        refine q_imul rfl rfl ?_
        refine q_iload_n rfl rfl rfl ?_
        refine q_iadd rfl rfl ?_
        refine q_imul rfl rfl ?_
        refine q_iload_n rfl rfl rfl ?_
        refine q_iadd rfl rfl (q_tn (z := nI (40000 * R + k)) ?_ ?_)
        · rw [hy, show (20 : Int32) = nI 20 from rfl, show (2000 : Int32) = nI 2000 from rfl, show (0 : Int32) = nI 0 from rfl, pk_mul, nI_add, pk_mul, nI_add]
          congr 1
          omega
        · refine q_iald rfl rfl hn (show va_up S 52 _ 55 = _ from h55) (q_inN (by omega) (by decide)) ?_
          subst hy
          refine q_iast (f := sa_f f g (40000 * R) k) rfl rfl (by omega) rfl (q_inN (by omega) (by decide)) (q_tS (S2 := va_up S 52 (.inl (0, 20, .inl (sa_f f g (40000 * R) (k + 1))))) ?_ ?_)
          · rw [bx_uu, nI_clamp (by omega), nI_clamp (by omega), sa_s]
          · refine q_inc3 rfl rfl rfl rfl ?_
            refine q_goto rfl ?_
            exact ih (k + 1) (by omega) _ (nI_1 k)
  have k0 := key 20 0 (by omega) 0 rfl
  rw [sa_0, va_same h52] at k0
  exact k0
theorem l_cost {fs : List Value} {f : Nat → Int32} {pic : Int32} (hn : 74 < n) (h46 : S 46 = .inr (10, fs)) (h33 : fs[33]? = some (.ref 74)) (h74 : S 74 = .inl (0, 40, .inl f)) (hf : ∀ j, j < 40 → f j = -2)
    (hK : K (some (.int 0)) S n) : PM SL SV EX mm_X12_costOf [.ref 46, .int pic] S n K := by
  change PQ SL SV EX mm_X12_costOf 0 [.ref 46, .int pic, pm_un, pm_un] [] S n 0 0 K
  refine q_iconst rfl rfl ?_
  refine q_ist2n rfl rfl rfl rfl ?_
  refine q_iconst rfl rfl ?_
  refine q_ist3n rfl rfl rfl rfl ?_
  have key : ∀ m k : Nat, k + m = 40 → ∀ (y : Int32), y = nI k → PQ SL SV EX mm_X12_costOf 4 [.ref 46, .int pic, .int 0, .int y] [] S n 0 0 K := by
    intro m
    induction m with
    | zero =>
      intro k hk y hy
      have e : k = 40 := by omega
      subst e
      have e2 : y = 40 := hy
      subst e2
      refine q_iload_n rfl rfl rfl ?_
      refine q_bipush rfl rfl ?_
      refine q_icge rfl rfl (fun _ => ?_) (fun c => absurd (by decide) c)
      refine q_iload_n rfl rfl rfl ?_
      exact q_iret rfl rfl trivial hK
    | succ m ih =>
      intro k hk y hy
      refine q_iload_n rfl rfl rfl ?_
      refine q_bipush rfl rfl ?_
      refine q_icge rfl rfl (fun c => absurd c ?_) (fun _ => ?_)
      · rw [hy]; exact nI_ge (a := k) (b := 40) (by omega) (by decide)
      · refine q_iload_n rfl rfl rfl ?_
        refine q_aload_n rfl rfl rfl ?_
        refine q_getf rfl rfl (by omega) h46 h33 ?_
        refine q_iload_n rfl rfl rfl ?_
        subst hy
        refine q_iald rfl rfl hn h74 (q_inN (by omega) (by decide)) (q_tn (z := (-2)) ?_ ?_)
        · rw [nI_clamp (by omega)]
          exact hf k (by omega)
        · refine q_bipush rfl rfl ?_
          refine q_iceq rfl rfl (fun _ => ?_) (fun c => absurd rfl c)
          refine q_iconst rfl rfl ?_
          refine q_iadd rfl rfl (q_tn (z := 0) rfl ?_)
          refine q_ist2n rfl rfl rfl rfl ?_
          refine q_inc3 rfl rfl rfl rfl ?_
          refine q_goto rfl ?_
          exact ih (k + 1) (by omega) _ (nI_1 k)
  exact key 40 0 (by omega) 0 rfl
theorem fM40_2 : ∀ j, j < 40 → fM40 j = -2 := by decide +kernel
end ZL
def FM (S T : Nat → pm_E) : Prop := T 46 = S 46 ∧ T 47 = S 47 ∧ T 48 = S 48 ∧ T 49 = S 49 ∧ T 50 = S 50 ∧ T 51 = S 51 ∧ T 52 = S 52 ∧ T 53 = S 53 ∧ T 54 = S 54 ∧ T 55 = S 55 ∧ T 56 = S 56 ∧ T 57 = S 57 ∧ T 58 = S 58 ∧ T 59 = S 59 ∧ T 60 = S 60 ∧ T 61 = S 61 ∧ T 62 = S 62 ∧ T 63 = S 63 ∧ T 64 = S 64 ∧ T 65 = S 65 ∧ T 66 = S 66 ∧ T 67 = S 67 ∧ T 68 = S 68 ∧ T 69 = S 69 ∧ T 70 = S 70 ∧ T 71 = S 71 ∧ T 72 = S 72 ∧ T 73 = S 73 ∧ T 74 = S 74 ∧ T 75 = S 75 ∧ T 76 = S 76 ∧ T 77 = S 77 ∧ T 78 = S 78 ∧ T 79 = S 79 ∧ T 80 = S 80 ∧ T 81 = S 81
theorem FM_46 {S T : Nat → pm_E} (h : FM S T) : T 46 = S 46 := h.1
theorem FM_47 {S T : Nat → pm_E} (h : FM S T) : T 47 = S 47 := h.2.1
theorem FM_48 {S T : Nat → pm_E} (h : FM S T) : T 48 = S 48 := h.2.2.1
theorem FM_49 {S T : Nat → pm_E} (h : FM S T) : T 49 = S 49 := h.2.2.2.1
theorem FM_50 {S T : Nat → pm_E} (h : FM S T) : T 50 = S 50 := h.2.2.2.2.1
theorem FM_51 {S T : Nat → pm_E} (h : FM S T) : T 51 = S 51 := h.2.2.2.2.2.1
theorem FM_52 {S T : Nat → pm_E} (h : FM S T) : T 52 = S 52 := h.2.2.2.2.2.2.1
theorem FM_53 {S T : Nat → pm_E} (h : FM S T) : T 53 = S 53 := h.2.2.2.2.2.2.2.1
theorem FM_54 {S T : Nat → pm_E} (h : FM S T) : T 54 = S 54 := h.2.2.2.2.2.2.2.2.1
theorem FM_55 {S T : Nat → pm_E} (h : FM S T) : T 55 = S 55 := h.2.2.2.2.2.2.2.2.2.1
theorem FM_56 {S T : Nat → pm_E} (h : FM S T) : T 56 = S 56 := h.2.2.2.2.2.2.2.2.2.2.1
theorem FM_57 {S T : Nat → pm_E} (h : FM S T) : T 57 = S 57 := h.2.2.2.2.2.2.2.2.2.2.2.1
theorem FM_58 {S T : Nat → pm_E} (h : FM S T) : T 58 = S 58 := h.2.2.2.2.2.2.2.2.2.2.2.2.1
theorem FM_59 {S T : Nat → pm_E} (h : FM S T) : T 59 = S 59 := h.2.2.2.2.2.2.2.2.2.2.2.2.2.1
theorem FM_60 {S T : Nat → pm_E} (h : FM S T) : T 60 = S 60 := h.2.2.2.2.2.2.2.2.2.2.2.2.2.2.1
theorem FM_61 {S T : Nat → pm_E} (h : FM S T) : T 61 = S 61 := h.2.2.2.2.2.2.2.2.2.2.2.2.2.2.2.1
theorem FM_62 {S T : Nat → pm_E} (h : FM S T) : T 62 = S 62 := h.2.2.2.2.2.2.2.2.2.2.2.2.2.2.2.2.1
theorem FM_63 {S T : Nat → pm_E} (h : FM S T) : T 63 = S 63 := h.2.2.2.2.2.2.2.2.2.2.2.2.2.2.2.2.2.1
theorem FM_64 {S T : Nat → pm_E} (h : FM S T) : T 64 = S 64 := h.2.2.2.2.2.2.2.2.2.2.2.2.2.2.2.2.2.2.1
theorem FM_65 {S T : Nat → pm_E} (h : FM S T) : T 65 = S 65 := h.2.2.2.2.2.2.2.2.2.2.2.2.2.2.2.2.2.2.2.1
theorem FM_66 {S T : Nat → pm_E} (h : FM S T) : T 66 = S 66 := h.2.2.2.2.2.2.2.2.2.2.2.2.2.2.2.2.2.2.2.2.1
theorem FM_67 {S T : Nat → pm_E} (h : FM S T) : T 67 = S 67 := h.2.2.2.2.2.2.2.2.2.2.2.2.2.2.2.2.2.2.2.2.2.1
theorem FM_68 {S T : Nat → pm_E} (h : FM S T) : T 68 = S 68 := h.2.2.2.2.2.2.2.2.2.2.2.2.2.2.2.2.2.2.2.2.2.2.1
theorem FM_69 {S T : Nat → pm_E} (h : FM S T) : T 69 = S 69 := h.2.2.2.2.2.2.2.2.2.2.2.2.2.2.2.2.2.2.2.2.2.2.2.1
theorem FM_70 {S T : Nat → pm_E} (h : FM S T) : T 70 = S 70 := h.2.2.2.2.2.2.2.2.2.2.2.2.2.2.2.2.2.2.2.2.2.2.2.2.1
theorem FM_71 {S T : Nat → pm_E} (h : FM S T) : T 71 = S 71 := h.2.2.2.2.2.2.2.2.2.2.2.2.2.2.2.2.2.2.2.2.2.2.2.2.2.1
theorem FM_72 {S T : Nat → pm_E} (h : FM S T) : T 72 = S 72 := h.2.2.2.2.2.2.2.2.2.2.2.2.2.2.2.2.2.2.2.2.2.2.2.2.2.2.1
theorem FM_73 {S T : Nat → pm_E} (h : FM S T) : T 73 = S 73 := h.2.2.2.2.2.2.2.2.2.2.2.2.2.2.2.2.2.2.2.2.2.2.2.2.2.2.2.1
theorem FM_74 {S T : Nat → pm_E} (h : FM S T) : T 74 = S 74 := h.2.2.2.2.2.2.2.2.2.2.2.2.2.2.2.2.2.2.2.2.2.2.2.2.2.2.2.2.1
theorem FM_75 {S T : Nat → pm_E} (h : FM S T) : T 75 = S 75 := h.2.2.2.2.2.2.2.2.2.2.2.2.2.2.2.2.2.2.2.2.2.2.2.2.2.2.2.2.2.1
theorem FM_76 {S T : Nat → pm_E} (h : FM S T) : T 76 = S 76 := h.2.2.2.2.2.2.2.2.2.2.2.2.2.2.2.2.2.2.2.2.2.2.2.2.2.2.2.2.2.2.1
theorem FM_77 {S T : Nat → pm_E} (h : FM S T) : T 77 = S 77 := h.2.2.2.2.2.2.2.2.2.2.2.2.2.2.2.2.2.2.2.2.2.2.2.2.2.2.2.2.2.2.2.1
theorem FM_78 {S T : Nat → pm_E} (h : FM S T) : T 78 = S 78 := h.2.2.2.2.2.2.2.2.2.2.2.2.2.2.2.2.2.2.2.2.2.2.2.2.2.2.2.2.2.2.2.2.1
theorem FM_79 {S T : Nat → pm_E} (h : FM S T) : T 79 = S 79 := h.2.2.2.2.2.2.2.2.2.2.2.2.2.2.2.2.2.2.2.2.2.2.2.2.2.2.2.2.2.2.2.2.2.1
theorem FM_80 {S T : Nat → pm_E} (h : FM S T) : T 80 = S 80 := h.2.2.2.2.2.2.2.2.2.2.2.2.2.2.2.2.2.2.2.2.2.2.2.2.2.2.2.2.2.2.2.2.2.2.1
theorem FM_81 {S T : Nat → pm_E} (h : FM S T) : T 81 = S 81 := h.2.2.2.2.2.2.2.2.2.2.2.2.2.2.2.2.2.2.2.2.2.2.2.2.2.2.2.2.2.2.2.2.2.2.2
