/-! what weight, toss and copy of the class answer, and that they leave the shelves' shapes -/
section ZA
variable {θ : Th} {L : Nat} {xs : Nat → Int32} {S : Nat → pm_E} {n : Nat} {R : Int32 → Prop}
def shp (c c' : pm_E) : Prop := (∀ o, c = .inr o → c' = .inr o) ∧ ∀ t len g, c = .inl (t, len, g) → ∃ g', c' = .inl (t, len, g')
theorem shp_rf {c : pm_E} : shp c c := ⟨fun _ h => h, fun _ _ g h => ⟨g, h⟩⟩
theorem shp_eq {c c' : pm_E} (h : c' = c) : shp c c' := by rw [h]; exact shp_rf
theorem shp_tr {c c1 c2 : pm_E} (h1 : shp c c1) (h2 : shp c1 c2) : shp c c2 := ⟨fun o h => h2.1 o (h1.1 o h), fun t len g h => by
  obtain ⟨g', h'⟩ := h1.2 t len g h
  exact h2.2 t len g' h'⟩
def PW (θ : Th) (S : Nat → pm_E) (n : Nat) (R : Int32 → Prop) : q_K := fun r S' n' => n ≤ n' ∧ GS θ S' n' ∧ (∀ k, k < 82 → S' k = S k) ∧ (∀ k, k < n → shp (S k) (S' k)) ∧ ∃ z : Int32, r = some (.int z) ∧ R z
/-- what a statement of kind b has, of any b -/
def opf (b : Int32) : Int32 := if 0 ≤ b ∧ b < 13 then jv0.getD b.toNatClampNeg 0 else 0
theorem c_ofa {b : Int32} : PM (j_SL L) (j_SV xs) j_EX mm_X11_operandOf [.int b] S n (fun r S' n' => S = S' ∧ n = n' ∧ r = some (.int (opf b))) := by
  by_cases h : 0 ≤ b ∧ b < 13
  · obtain ⟨k, hk, rfl⟩ : ∃ k, k ≤ 12 ∧ b = nI k := by
      obtain ⟨h1, h2⟩ := h
      rw [Int32.le_iff_toInt_le] at h1
      rw [Int32.lt_iff_toInt_lt] at h2
      have e13 : (13 : Int32).toInt = 13 := rfl
      exact nat_of h1 (by omega)
    have e : opf (nI k) = jv0.getD k 0 := by
      unfold opf
      rw [if_pos h, nI_clamp (by omega)]
    rw [e]
    exact c_of (by omega)
  · have e : opf b = 0 := if_neg h
    rw [e]
    change PQ (j_SL L) (j_SV xs) j_EX mm_X11_operandOf 0 [.int b] [] S n 0 0 _
    refine q_iload_n rfl rfl rfl ?_
    refine q_bipush rfl rfl ?_
    refine q_cS rfl rfl (Or.inl rfl) rfl rfl trivial rfl rfl rfl rfl rfl c_wi ?_
    rintro r _ _ ⟨rfl, rfl, ⟨-, rfl⟩ | ⟨q, rfl⟩⟩
    · show PQ (j_SL L) (j_SV xs) j_EX mm_X11_operandOf 6 _ [.int 0] S n 0 0 _
      refine q_ifeq rfl rfl (fun _ => ?_) (fun c => absurd rfl c)
      refine q_iconst rfl rfl ?_
      exact q_iret rfl rfl trivial ⟨rfl, rfl, rfl⟩
    · exact absurd q h
/-- how heavy a statement of kind b is -/
def wg2 (b : Int32) : Int32 := if opf b = 1 then 1 + b + 10 else 1 + b
def wg3 (b : Int32) : Int32 := if b = 6 ∨ b = 7 then wg2 b + 100 else wg2 b
def wg4 (b : Int32) : Int32 := if opf b = 2 then wg3 b + 1000 else wg3 b
def wgE (b : Int32) : Int32 := if b = 7 ∨ b = 10 then 2 * wg4 b else wg4 b
set_option maxHeartbeats 4000000 in
theorem c_hv2 {y : Nat} {a b : Int32} (hy : y < n) (hs : S y = .inr (8, [.int a, .int b])) : PM (j_SL L) (j_SV xs) j_EX mm_X10_heaviness [.ref y] S n (fun r S' n' => S = S' ∧ n = n' ∧ r = some (.int (wgE b))) := by
  change PQ (j_SL L) (j_SV xs) j_EX mm_X10_heaviness 0 [.ref y, pm_un] [] S n 0 0 _
  have s59 : PQ (j_SL L) (j_SV xs) j_EX mm_X10_heaviness 59 [.ref y, .int (wg4 b)] [] S n 0 0 (fun r S' n' => S = S' ∧ n = n' ∧ r = some (.int (wgE b))) := by
    have s77 : b = 7 ∨ b = 10 → PQ (j_SL L) (j_SV xs) j_EX mm_X10_heaviness 77 [.ref y, .int (wg4 b)] [] S n 0 0 (fun r S' n' => S = S' ∧ n = n' ∧ r = some (.int (wgE b))) := by
      intro h
      refine q_iconst rfl rfl ?_
      refine q_iload_n rfl rfl rfl ?_
      refine q_imul rfl rfl ?_
      refine q_goto rfl ?_
      exact q_iret rfl rfl trivial ⟨rfl, rfl, by unfold wgE; rw [if_pos h]⟩
    refine q_aload_n rfl rfl rfl ?_
    refine q_getf rfl rfl hy hs rfl ?_
    refine q_bipush rfl rfl ?_
    refine q_iceq rfl rfl (fun c => s77 (Or.inl c)) (fun c1 => ?_)
    refine q_aload_n rfl rfl rfl ?_
    refine q_getf rfl rfl hy hs rfl ?_
    refine q_bipush rfl rfl ?_
    refine q_icne rfl rfl (fun c => s77 (Or.inr c)) (fun c2 => ?_)
    refine q_iload_n rfl rfl rfl ?_
    exact q_iret rfl rfl trivial ⟨rfl, rfl, by unfold wgE; rw [if_neg (fun h => h.elim c1 c2)]⟩
  have s42 : PQ (j_SL L) (j_SV xs) j_EX mm_X10_heaviness 42 [.ref y, .int (wg3 b)] [] S n 0 0 (fun r S' n' => S = S' ∧ n = n' ∧ r = some (.int (wgE b))) := by
    refine q_aload_n rfl rfl rfl ?_
    refine q_getf rfl rfl hy hs rfl ?_
    refine q_cS rfl rfl (Or.inr rfl) rfl rfl trivial rfl rfl rfl rfl rfl c_ofa ?_
    rintro r _ _ ⟨rfl, rfl, rfl⟩
    show PQ (j_SL L) (j_SV xs) j_EX mm_X10_heaviness 49 _ [.int (opf b)] S n 0 0 _
    refine q_iconst rfl rfl ?_
    refine q_icne rfl rfl (fun c => ?_) (fun c => ?_)
    · refine q_inc1 rfl rfl rfl rfl ?_
      have e : wg3 b + 1000 = wg4 b := by unfold wg4; rw [if_pos c]
      rw [e]
      exact s59
    · have e : wg3 b = wg4 b := by unfold wg4; rw [if_neg c]
      rw [e]
      exact s59
  have s21 : PQ (j_SL L) (j_SV xs) j_EX mm_X10_heaviness 21 [.ref y, .int (wg2 b)] [] S n 0 0 (fun r S' n' => S = S' ∧ n = n' ∧ r = some (.int (wgE b))) := by
    have s39 : b = 6 ∨ b = 7 → PQ (j_SL L) (j_SV xs) j_EX mm_X10_heaviness 39 [.ref y, .int (wg2 b)] [] S n 0 0 (fun r S' n' => S = S' ∧ n = n' ∧ r = some (.int (wgE b))) := by
      intro h
      refine q_inc1 rfl rfl rfl rfl ?_
      have e : wg2 b + 100 = wg3 b := by unfold wg3; rw [if_pos h]
      rw [e]
      exact s42
    refine q_aload_n rfl rfl rfl ?_
    refine q_getf rfl rfl hy hs rfl ?_
    refine q_bipush rfl rfl ?_
    refine q_iceq rfl rfl (fun c => s39 (Or.inl c)) (fun c1 => ?_)
    refine q_aload_n rfl rfl rfl ?_
    refine q_getf rfl rfl hy hs rfl ?_
    refine q_bipush rfl rfl ?_
    refine q_icne rfl rfl (fun c => s39 (Or.inr c)) (fun c2 => ?_)
    have e : wg2 b = wg3 b := by unfold wg3; rw [if_neg (fun h => h.elim c1 c2)]
    rw [e]
    exact s42
  refine q_iconst rfl rfl ?_
  refine q_aload_n rfl rfl rfl ?_
  refine q_getf rfl rfl hy hs rfl ?_
  refine q_iadd rfl rfl ?_
  refine q_ist1n rfl rfl rfl rfl ?_
  refine q_aload_n rfl rfl rfl ?_
  refine q_getf rfl rfl hy hs rfl ?_
  refine q_cS rfl rfl (Or.inr rfl) rfl rfl trivial rfl rfl rfl rfl rfl c_ofa ?_
  rintro r _ _ ⟨rfl, rfl, rfl⟩
  show PQ (j_SL L) (j_SV xs) j_EX mm_X10_heaviness 14 [.ref y, .int (1 + b)] [.int (opf b)] S n 0 0 _
  refine q_iconst rfl rfl ?_
  refine q_icne rfl rfl (fun c => ?_) (fun c => ?_)
  · refine q_inc1 rfl rfl rfl rfl ?_
    have e : 1 + b + 10 = wg2 b := by unfold wg2; rw [if_pos c]
    rw [e]
    exact s21
  · have e : 1 + b = wg2 b := by unfold wg2; rw [if_neg c]
    rw [e]
    exact s21
theorem c_we2 {d : Int32} {f : Nat → Option Nat} (hG : GS θ S n) (h43 : S 43 = sh43 f) (r1 : ¬ (0 ≤ d ∧ d < 8) → R (-1)) (r2 : (0 ≤ d ∧ d < 8) → f d.toNatClampNeg = none → R (-11)) (r3 : (0 ≤ d ∧ d < 8) → ∀ y a b, f d.toNatClampNeg = some y → S y = .inr (8, [.int a, .int b]) → R (wgE b)) (r4 : (0 ≤ d ∧ d < 8) → ∀ y z, f d.toNatClampNeg = some y → (S y = .inr (2, [.ref z]) ∨ S y = .inr (7, [.ref z])) → R (-12)) : PM (j_SL L) (j_SV xs) j_EX mm_X11_weight [.ref 0, .int d] S n (PW θ S n R) := by
  have hn := gs_n hG
  obtain ⟨f0, a43, hf⟩ := gs_43 hG
  rw [h43] at a43
  cases a43
  obtain ⟨fs, k0, f0, f7, -⟩ := gs_0 hG
  have fin : ∀ u : Int32, R u → PW θ S n R (some (.int u)) S n := fun u hu => ⟨Nat.le_refl n, hG, fun _ _ => rfl, fun _ _ => shp_rf, u, rfl, hu⟩
  change PQ (j_SL L) (j_SV xs) j_EX mm_X11_weight 0 [.ref 0, .int d, pm_un, pm_un] [] S n 0 0 _
  refine q_iload_n rfl rfl rfl ?_
  refine q_bipush rfl rfl ?_
  refine q_cS rfl rfl (Or.inl rfl) rfl rfl trivial rfl rfl rfl rfl rfl c_wi ?_
  rintro r _ _ ⟨rfl, rfl, hr⟩
  rcases hr with ⟨q, rfl⟩ | ⟨q, rfl⟩
  · show PQ (j_SL L) (j_SV xs) j_EX mm_X11_weight 6 _ [.int 0] S n 0 0 _
    refine q_ifne rfl rfl (fun _ => ?_) (fun c => absurd rfl c)
    refine q_iconst rfl rfl ?_
    exact q_iret rfl rfl trivial (fin _ (r1 (fun h => c_out q h)))
  · show PQ (j_SL L) (j_SV xs) j_EX mm_X11_weight 6 _ [.int 1] S n 0 0 _
    refine q_ifne rfl rfl (fun c => absurd c (by decide)) (fun _ => ?_)
    obtain ⟨hin, hd8⟩ := c_in8 q
    refine q_aload_n rfl rfl rfl ?_
    refine q_getf rfl rfl (by omega) k0 f7 ?_
    refine q_iload_n rfl rfl rfl ?_
    refine q_aald rfl rfl (by omega) h43 hin ?_
    cases hfd : f d.toNatClampNeg with
    | none =>
      refine q_anl2n rfl rfl rfl rfl ?_
      refine q_aload_nN rfl rfl rfl ?_
      refine q_ifnonnullN rfl rfl ?_
      refine q_bipush rfl rfl ?_
      exact q_iret rfl rfl trivial (fin _ (r2 q hfd))
    | some y =>
      obtain ⟨hy82, hxh⟩ := hf _ hd8 y hfd
      obtain ⟨hy, hcs⟩ := xh_cs hxh
      refine q_ast2n rfl rfl rfl rfl ?_
      refine q_aload_n rfl rfl rfl ?_
      refine q_ifnonnull rfl ?_
      refine q_aload_n rfl rfl rfl ?_
      rcases hcs with ⟨a, b, hs⟩ | ⟨z, len, g, hs, -⟩ | ⟨z, len, g, hs, -⟩
      · refine q_ins (idx := 317) (T := 8) rfl (by decide +kernel) hy hs rfl rfl rfl ?_
        refine q_ifeq rfl rfl (fun c => absurd c (by decide)) (fun _ => ?_)
        refine q_aload_n rfl rfl rfl ?_
        refine q_chk (idx := 317) (T := 8) rfl (by decide +kernel) hy hs rfl ?_
        refine q_ast3n rfl rfl rfl rfl ?_
        refine q_aload_n rfl rfl rfl ?_
        refine q_cV rfl rfl (Or.inl rfl) rfl rfl rfl rfl hy hs trivial rfl rfl rfl rfl rfl (c_hv2 hy hs) ?_
        rintro r _ _ ⟨rfl, rfl, rfl⟩
        show PQ (j_SL L) (j_SV xs) j_EX mm_X11_weight 41 _ [.int (wgE b)] S n 0 0 _
        refine q_goto rfl ?_
        exact q_iret rfl rfl trivial (fin _ (r3 q y a b hfd hs))
      · refine q_ins (idx := 317) (T := 8) rfl (by decide +kernel) hy hs rfl rfl rfl ?_
        refine q_ifeq rfl rfl (fun _ => ?_) (fun c => absurd rfl c)
        refine q_bipush rfl rfl ?_
        exact q_iret rfl rfl trivial (fin _ (r4 q y z hfd (Or.inl hs)))
      · refine q_ins (idx := 317) (T := 8) rfl (by decide +kernel) hy hs rfl rfl rfl ?_
        refine q_ifeq rfl rfl (fun _ => ?_) (fun c => absurd rfl c)
        refine q_bipush rfl rfl ?_
        exact q_iret rfl rfl trivial (fin _ (r4 q y z hfd (Or.inr hs)))
theorem c_to2 {d : Int32} {f : Nat → Option Nat} (hG : GS θ S n) (h43 : S 43 = sh43 f) (r1 : ¬ (0 ≤ d ∧ d < 8) → R (-1)) (r2 : (0 ≤ d ∧ d < 8) → f d.toNatClampNeg = none → R (-11)) (r3 : (0 ≤ d ∧ d < 8) → ∀ y a b, f d.toNatClampNeg = some y → S y = .inr (8, [.int a, .int b]) → ((8 ≤ b ∧ b ≤ 11) → R a) ∧ (¬ (8 ≤ b ∧ b ≤ 11) → R (-15))) (r4 : (0 ≤ d ∧ d < 8) → ∀ y z, f d.toNatClampNeg = some y → (S y = .inr (2, [.ref z]) ∨ S y = .inr (7, [.ref z])) → R (-12)) : PM (j_SL L) (j_SV xs) j_EX mm_X11_toss [.ref 0, .int d] S n (PW θ S n R) := by
  have hn := gs_n hG
  obtain ⟨f0, a43, hf⟩ := gs_43 hG
  rw [h43] at a43
  cases a43
  obtain ⟨fs, k0, f0, f7, -⟩ := gs_0 hG
  have fin : ∀ u : Int32, R u → PW θ S n R (some (.int u)) S n := fun u hu => ⟨Nat.le_refl n, hG, fun _ _ => rfl, fun _ _ => shp_rf, u, rfl, hu⟩
  change PQ (j_SL L) (j_SV xs) j_EX mm_X11_toss 0 [.ref 0, .int d, pm_un, pm_un] [] S n 0 0 _
  refine q_iload_n rfl rfl rfl ?_
  refine q_bipush rfl rfl ?_
  refine q_cS rfl rfl (Or.inl rfl) rfl rfl trivial rfl rfl rfl rfl rfl c_wi ?_
  rintro r _ _ ⟨rfl, rfl, hr⟩
  rcases hr with ⟨q, rfl⟩ | ⟨q, rfl⟩
  · show PQ (j_SL L) (j_SV xs) j_EX mm_X11_toss 6 _ [.int 0] S n 0 0 _
    refine q_ifne rfl rfl (fun _ => ?_) (fun c => absurd rfl c)
    refine q_iconst rfl rfl ?_
    exact q_iret rfl rfl trivial (fin _ (r1 (fun h => c_out q h)))
  · show PQ (j_SL L) (j_SV xs) j_EX mm_X11_toss 6 _ [.int 1] S n 0 0 _
    refine q_ifne rfl rfl (fun c => absurd c (by decide)) (fun _ => ?_)
    obtain ⟨hin, hd8⟩ := c_in8 q
    refine q_aload_n rfl rfl rfl ?_
    refine q_getf rfl rfl (by omega) k0 f7 ?_
    refine q_iload_n rfl rfl rfl ?_
    refine q_aald rfl rfl (by omega) h43 hin ?_
    cases hfd : f d.toNatClampNeg with
    | none =>
      refine q_anl2n rfl rfl rfl rfl ?_
      refine q_aload_nN rfl rfl rfl ?_
      refine q_ifnonnullN rfl rfl ?_
      refine q_bipush rfl rfl ?_
      exact q_iret rfl rfl trivial (fin _ (r2 q hfd))
    | some y =>
      obtain ⟨hy82, hxh⟩ := hf _ hd8 y hfd
      obtain ⟨hy, hcs⟩ := xh_cs hxh
      refine q_ast2n rfl rfl rfl rfl ?_
      refine q_aload_n rfl rfl rfl ?_
      refine q_ifnonnull rfl ?_
      refine q_aload_n rfl rfl rfl ?_
      rcases hcs with ⟨a, b, hs⟩ | ⟨z, len, g, hs, -⟩ | ⟨z, len, g, hs, -⟩
      · refine q_ins (idx := 317) (T := 8) rfl (by decide +kernel) hy hs rfl rfl rfl ?_
        refine q_ifeq rfl rfl (fun c => absurd c (by decide)) (fun _ => ?_)
        refine q_aload_n rfl rfl rfl ?_
        refine q_chk (idx := 317) (T := 8) rfl (by decide +kernel) hy hs rfl ?_
        refine q_ast3n rfl rfl rfl rfl ?_
        refine q_aload_n rfl rfl rfl ?_
        refine q_toss hy hs (fun hb g => ?_) (fun hb => ?_)
        · refine q_goto rfl ?_
          exact q_iret rfl rfl trivial ⟨by omega, gs_ext hG (by omega) (fun j hj => u_ne (by omega)), fun k h => u_ne (by omega), fun k h => shp_eq (u_ne (by omega)), _, rfl, (r3 q y a b hfd hs).1 hb⟩
        · refine q_goto rfl ?_
          exact q_iret rfl rfl trivial (fin _ ((r3 q y a b hfd hs).2 hb))
      · refine q_ins (idx := 317) (T := 8) rfl (by decide +kernel) hy hs rfl rfl rfl ?_
        refine q_ifeq rfl rfl (fun _ => ?_) (fun c => absurd rfl c)
        refine q_bipush rfl rfl ?_
        exact q_iret rfl rfl trivial (fin _ (r4 q y z hfd (Or.inl hs)))
      · refine q_ins (idx := 317) (T := 8) rfl (by decide +kernel) hy hs rfl rfl rfl ?_
        refine q_ifeq rfl rfl (fun _ => ?_) (fun c => absurd rfl c)
        refine q_bipush rfl rfl ?_
        exact q_iret rfl rfl trivial (fin _ (r4 q y z hfd (Or.inr hs)))
def sp2 (len len' : Nat) (i j m : Int32) : Prop := spP (nI len) i m ∧ spP (nI len') j m
def bothL (S : Nat → pm_E) (y y' len len' : Nat) : Prop := ∃ z z' g g', S y = .inr (2, [.ref z]) ∧ S y' = .inr (2, [.ref z']) ∧ S z = .inl (1, len, .inr (.inl g)) ∧ S z' = .inl (1, len', .inr (.inl g'))
def bothS (S : Nat → pm_E) (y y' len len' : Nat) : Prop := ∃ z z' g g', S y = .inr (7, [.ref z]) ∧ S y' = .inr (7, [.ref z']) ∧ S z = .inl (3, len, .inl g) ∧ S z' = .inl (3, len', .inl g')
def cpC (S : Nat → pm_E) (y y' : Nat) (i j m : Int32) (R : Int32 → Prop) : Prop := (∀ len len', bothL S y y' len len' ∨ bothS S y y' len len' → (¬ sp2 len len' i j m → R (-13)) ∧ (sp2 len len' i j m → R m)) ∧ ((∀ len len', ¬ bothL S y y' len len') → (∀ len len', ¬ bothS S y y' len len') → R (-12))
theorem c_tlL2 {d i e j m : Int32} {y y' z z' len len' : Nat} {g g' : Nat → Int64} (hG : GS θ S n) (hy : y < n) (hy' : y' < n) (hs : S y = .inr (2, [.ref z])) (hs' : S y' = .inr (2, [.ref z'])) (hz : z < n) (hz' : z' < n) (hz82' : 82 ≤ z') (h60 : len ≤ 60) (h60' : len' ≤ 60) (hzs : S z = .inl (1, len, .inr (.inl g))) (hzs' : S z' = .inl (1, len', .inr (.inl g'))) (hC : cpC S y y' i j m R) : PQ (j_SL L) (j_SV xs) j_EX mm_X11_copy 79 [.ref 0, .int d, .int i, .int e, .int j, .int m, .ref y, .ref y', .ref y, .ref y'] [] S n 0 0 (PW θ S n R) := by
  have hn := gs_n hG
  have fin : ∀ u : Int32, R u → PW θ S n R (some (.int u)) S n := fun u hu => ⟨Nat.le_refl n, hG, fun _ _ => rfl, fun _ _ => shp_rf, u, rfl, hu⟩
  have hB := hC.1 len len' (Or.inl ⟨z, z', g, g', hs, hs', hzs, hzs'⟩)
  have s110 : ¬ sp2 len len' i j m → PQ (j_SL L) (j_SV xs) j_EX mm_X11_copy 110 [.ref 0, .int d, .int i, .int e, .int j, .int m, .ref y, .ref y', .ref y, .ref y'] [] S n 0 0 (PW θ S n R) := by
    intro hsp
    refine q_bipush rfl rfl ?_
    exact q_iret rfl rfl trivial (fin _ (hB.1 hsp))
  refine q_aload rfl rfl rfl ?_
  refine q_getf rfl rfl hy hs rfl ?_
  refine q_alen rfl rfl hz hzs rfl ?_
  refine q_iload_n rfl rfl rfl ?_
  refine q_iload rfl rfl rfl ?_
  refine q_cS rfl rfl (Or.inl rfl) rfl rfl trivial rfl rfl rfl rfl rfl c_sp ?_
  rintro r _ _ ⟨rfl, rfl, hr⟩
  rcases hr with ⟨p1, rfl⟩ | ⟨p1, rfl⟩
  · show PQ (j_SL L) (j_SV xs) j_EX mm_X11_copy 91 _ [.int 0] S n 0 0 _
    exact q_ifeq rfl rfl (fun _ => s110 (fun h => p1 h.1)) (fun c => absurd rfl c)
  show PQ (j_SL L) (j_SV xs) j_EX mm_X11_copy 91 _ [.int 1] S n 0 0 _
  refine q_ifeq rfl rfl (fun c => absurd c (by decide)) (fun _ => ?_)
  refine q_aload rfl rfl rfl ?_
  refine q_getf rfl rfl hy' hs' rfl ?_
  refine q_alen rfl rfl hz' hzs' rfl ?_
  refine q_iload rfl rfl rfl ?_
  refine q_iload rfl rfl rfl ?_
  refine q_cS rfl rfl (Or.inl rfl) rfl rfl trivial rfl rfl rfl rfl rfl c_sp ?_
  rintro r _ _ ⟨rfl, rfl, hr⟩
  rcases hr with ⟨p2, rfl⟩ | ⟨p2, rfl⟩
  · show PQ (j_SL L) (j_SV xs) j_EX mm_X11_copy 107 _ [.int 0] S n 0 0 _
    exact q_ifne rfl rfl (fun _ => s110 (fun h => p2 h.2)) (fun c => absurd rfl c)
  show PQ (j_SL L) (j_SV xs) j_EX mm_X11_copy 107 _ [.int 1] S n 0 0 _
  refine q_ifne rfl rfl (fun c => absurd c (by decide)) (fun _ => ?_)
  refine q_aload rfl rfl rfl ?_
  refine q_getf rfl rfl hy hs rfl ?_
  refine q_iload_n rfl rfl rfl ?_
  refine q_aload rfl rfl rfl ?_
  refine q_getf rfl rfl hy' hs' rfl ?_
  refine q_iload rfl rfl rfl ?_
  refine q_iload rfl rfl rfl ?_
  refine q_cpl (idx := 311) rfl (by decide +kernel) rfl ⟨p1.2.1, p2.2.1, p1.1, sp_o h60 p1, sp_o h60' p2⟩ hz hz' hzs hzs' rfl ?_
  refine q_iload rfl rfl rfl ?_
  refine q_iret rfl rfl trivial ⟨Nat.le_refl n, gs_row hG hz82' hz' (fun x h => by rw [hzs'] at h; cases h) (fun l g0 h => by rw [hzs'] at h; cases h; exact ⟨_, rfl⟩) (fun l g0 h => by rw [hzs'] at h; cases h), fun k h => u_ne (by omega), fun k h => ?_, _, rfl, hB.2 ⟨p1, p2⟩⟩
  by_cases e : k = z'
  · subst e
    rw [u_eq, hzs']
    exact ⟨fun o h => (by cases h), fun t l g0 h => (by cases h; exact ⟨_, rfl⟩)⟩
  · exact shp_eq (u_ne e)
theorem c_tlS2 {d i e j m : Int32} {y y' z z' len len' : Nat} {g g' : Nat → Int32} (hG : GS θ S n) (hy : y < n) (hy' : y' < n) (hs : S y = .inr (7, [.ref z])) (hs' : S y' = .inr (7, [.ref z'])) (hz : z < n) (hz' : z' < n) (hz82' : 82 ≤ z') (h60 : len ≤ 60) (h60' : len' ≤ 60) (hzs : S z = .inl (3, len, .inl g)) (hzs' : S z' = .inl (3, len', .inl g')) (hg : ∀ j, j < len → fits .short (.int (g j)) = true) (hg' : ∀ j, j < len' → fits .short (.int (g' j)) = true) (hC : cpC S y y' i j m R) : PQ (j_SL L) (j_SV xs) j_EX mm_X11_copy 164 [.ref 0, .int d, .int i, .int e, .int j, .int m, .ref y, .ref y', .ref y, .ref y'] [] S n 0 0 (PW θ S n R) := by
  have hn := gs_n hG
  have fin : ∀ u : Int32, R u → PW θ S n R (some (.int u)) S n := fun u hu => ⟨Nat.le_refl n, hG, fun _ _ => rfl, fun _ _ => shp_rf, u, rfl, hu⟩
  have hB := hC.1 len len' (Or.inr ⟨z, z', g, g', hs, hs', hzs, hzs'⟩)
  have s110 : ¬ sp2 len len' i j m → PQ (j_SL L) (j_SV xs) j_EX mm_X11_copy 195 [.ref 0, .int d, .int i, .int e, .int j, .int m, .ref y, .ref y', .ref y, .ref y'] [] S n 0 0 (PW θ S n R) := by
    intro hsp
    refine q_bipush rfl rfl ?_
    exact q_iret rfl rfl trivial (fin _ (hB.1 hsp))
  refine q_aload rfl rfl rfl ?_
  refine q_getf rfl rfl hy hs rfl ?_
  refine q_alen rfl rfl hz hzs rfl ?_
  refine q_iload_n rfl rfl rfl ?_
  refine q_iload rfl rfl rfl ?_
  refine q_cS rfl rfl (Or.inl rfl) rfl rfl trivial rfl rfl rfl rfl rfl c_sp ?_
  rintro r _ _ ⟨rfl, rfl, hr⟩
  rcases hr with ⟨p1, rfl⟩ | ⟨p1, rfl⟩
  · show PQ (j_SL L) (j_SV xs) j_EX mm_X11_copy 176 _ [.int 0] S n 0 0 _
    exact q_ifeq rfl rfl (fun _ => s110 (fun h => p1 h.1)) (fun c => absurd rfl c)
  show PQ (j_SL L) (j_SV xs) j_EX mm_X11_copy 176 _ [.int 1] S n 0 0 _
  refine q_ifeq rfl rfl (fun c => absurd c (by decide)) (fun _ => ?_)
  refine q_aload rfl rfl rfl ?_
  refine q_getf rfl rfl hy' hs' rfl ?_
  refine q_alen rfl rfl hz' hzs' rfl ?_
  refine q_iload rfl rfl rfl ?_
  refine q_iload rfl rfl rfl ?_
  refine q_cS rfl rfl (Or.inl rfl) rfl rfl trivial rfl rfl rfl rfl rfl c_sp ?_
  rintro r _ _ ⟨rfl, rfl, hr⟩
  rcases hr with ⟨p2, rfl⟩ | ⟨p2, rfl⟩
  · show PQ (j_SL L) (j_SV xs) j_EX mm_X11_copy 192 _ [.int 0] S n 0 0 _
    exact q_ifne rfl rfl (fun _ => s110 (fun h => p2 h.2)) (fun c => absurd rfl c)
  show PQ (j_SL L) (j_SV xs) j_EX mm_X11_copy 192 _ [.int 1] S n 0 0 _
  refine q_ifne rfl rfl (fun c => absurd c (by decide)) (fun _ => ?_)
  refine q_aload rfl rfl rfl ?_
  refine q_getf rfl rfl hy hs rfl ?_
  refine q_iload_n rfl rfl rfl ?_
  refine q_aload rfl rfl rfl ?_
  refine q_getf rfl rfl hy' hs' rfl ?_
  refine q_iload rfl rfl rfl ?_
  refine q_iload rfl rfl rfl ?_
  refine q_cps (idx := 311) rfl (by decide +kernel) rfl ⟨p1.2.1, p2.2.1, p1.1, sp_o h60 p1, sp_o h60' p2⟩ hz hz' hzs hzs' hg rfl ?_
  refine q_iload rfl rfl rfl ?_
  refine q_iret rfl rfl trivial ⟨Nat.le_refl n, gs_row hG hz82' hz' (fun x h => by rw [hzs'] at h; cases h) (fun l g0 h => by rw [hzs'] at h; cases h) (fun l g0 h => by rw [hzs'] at h; cases h; exact ⟨_, rfl, cpy_fit (sp_o h60 p1) hg hg'⟩), fun k h => u_ne (by omega), fun k h => ?_, _, rfl, hB.2 ⟨p1, p2⟩⟩
  by_cases e : k = z'
  · subst e
    rw [u_eq, hzs']
    exact ⟨fun o h => (by cases h), fun t l g0 h => (by cases h; exact ⟨_, rfl⟩)⟩
  · exact shp_eq (u_ne e)
theorem c_2192 {d i e j m : Int32} {y y' : Nat} {a8 a9 : Value} (hG : GS θ S n) (hr : R (-12)) : PQ (j_SL L) (j_SV xs) j_EX mm_X11_copy 219 [.ref 0, .int d, .int i, .int e, .int j, .int m, .ref y, .ref y', a8, a9] [] S n 0 0 (PW θ S n R) := by
  refine q_bipush rfl rfl ?_
  exact q_iret rfl rfl trivial ⟨Nat.le_refl n, hG, fun _ _ => rfl, fun _ _ => shp_rf, _, rfl, hr⟩
theorem c_1342 {d i e j m : Int32} {y y' : Nat} {a8 a9 : Value} (hG : GS θ S n) (hy : y < n) (hy' : y' < n) (h : hcs S n y) (h' : hcs S n y') (hC : cpC S y y' i j m R) (hL : ∀ len len', ¬ bothL S y y' len len') : PQ (j_SL L) (j_SV xs) j_EX mm_X11_copy 134 [.ref 0, .int d, .int i, .int e, .int j, .int m, .ref y, .ref y', a8, a9] [] S n 0 0 (PW θ S n R) := by
  refine q_aload rfl rfl rfl ?_
  rcases h with ⟨a, b, hs⟩ | ⟨z, len, g, hs, -⟩ | ⟨z, len, g, hs, hz82, hz, h60, hzs, hg⟩
  · refine q_ins (idx := 287) (T := 7) rfl (by decide +kernel) hy hs rfl rfl rfl ?_
    exact q_ifeq rfl rfl (fun _ => c_2192 hG (hC.2 hL (fun l l' h9 => by obtain ⟨_, _, _, _, e1, e2, -⟩ := h9; rw [hs] at e1; cases e1))) (fun c => absurd rfl c)
  · refine q_ins (idx := 287) (T := 7) rfl (by decide +kernel) hy hs rfl rfl rfl ?_
    exact q_ifeq rfl rfl (fun _ => c_2192 hG (hC.2 hL (fun l l' h9 => by obtain ⟨_, _, _, _, e1, e2, -⟩ := h9; rw [hs] at e1; cases e1))) (fun c => absurd rfl c)
  · refine q_ins (idx := 287) (T := 7) rfl (by decide +kernel) hy hs rfl rfl rfl ?_
    refine q_ifeq rfl rfl (fun c => absurd c (by decide)) (fun _ => ?_)
    refine q_aload rfl rfl rfl ?_
    refine q_chk (idx := 287) (T := 7) rfl (by decide +kernel) hy hs rfl ?_
    refine q_ast8 rfl rfl rfl rfl ?_
    refine q_aload rfl rfl rfl ?_
    rcases h' with ⟨a', b', hs'⟩ | ⟨z', len', g', hs', -⟩ | ⟨z', len', g', hs', hz82', hz', h60', hzs', hg'⟩
    · refine q_ins (idx := 287) (T := 7) rfl (by decide +kernel) hy' hs' rfl rfl rfl ?_
      exact q_ifeq rfl rfl (fun _ => c_2192 hG (hC.2 hL (fun l l' h9 => by obtain ⟨_, _, _, _, e1, e2, -⟩ := h9; rw [hs'] at e2; cases e2))) (fun c => absurd rfl c)
    · refine q_ins (idx := 287) (T := 7) rfl (by decide +kernel) hy' hs' rfl rfl rfl ?_
      exact q_ifeq rfl rfl (fun _ => c_2192 hG (hC.2 hL (fun l l' h9 => by obtain ⟨_, _, _, _, e1, e2, -⟩ := h9; rw [hs'] at e2; cases e2))) (fun c => absurd rfl c)
    · refine q_ins (idx := 287) (T := 7) rfl (by decide +kernel) hy' hs' rfl rfl rfl ?_
      refine q_ifeq rfl rfl (fun c => absurd c (by decide)) (fun _ => ?_)
      refine q_aload rfl rfl rfl ?_
      refine q_chk (idx := 287) (T := 7) rfl (by decide +kernel) hy' hs' rfl ?_
      refine q_ast9 rfl rfl rfl rfl ?_
      exact c_tlS2 hG hy hy' hs hs' hz hz' hz82' h60 h60' hzs hzs' hg hg' hC
theorem c_492 {d i e j m : Int32} {y y' : Nat} {a8 a9 : Value} (hG : GS θ S n) (hy : y < n) (hy' : y' < n) (h : hcs S n y) (h' : hcs S n y') (hC : cpC S y y' i j m R) : PQ (j_SL L) (j_SV xs) j_EX mm_X11_copy 49 [.ref 0, .int d, .int i, .int e, .int j, .int m, .ref y, .ref y', a8, a9] [] S n 0 0 (PW θ S n R) := by
  refine q_aload rfl rfl rfl ?_
  rcases id h with ⟨a, b, hs⟩ | ⟨z, len, g, hs, hz82, hz, h60, hzs⟩ | ⟨z, len, g, hs, -⟩
  · refine q_ins (idx := 283) (T := 2) rfl (by decide +kernel) hy hs rfl rfl rfl ?_
    exact q_ifeq rfl rfl (fun _ => c_1342 hG hy hy' h h' hC (fun l l' h9 => by obtain ⟨_, _, _, _, e1, e2, -⟩ := h9; rw [hs] at e1; cases e1)) (fun c => absurd rfl c)
  · refine q_ins (idx := 283) (T := 2) rfl (by decide +kernel) hy hs rfl rfl rfl ?_
    refine q_ifeq rfl rfl (fun c => absurd c (by decide)) (fun _ => ?_)
    refine q_aload rfl rfl rfl ?_
    refine q_chk (idx := 283) (T := 2) rfl (by decide +kernel) hy hs rfl ?_
    refine q_ast8 rfl rfl rfl rfl ?_
    refine q_aload rfl rfl rfl ?_
    rcases id h' with ⟨a', b', hs'⟩ | ⟨z', len', g', hs', hz82', hz', h60', hzs'⟩ | ⟨z', len', g', hs', -⟩
    · refine q_ins (idx := 283) (T := 2) rfl (by decide +kernel) hy' hs' rfl rfl rfl ?_
      exact q_ifeq rfl rfl (fun _ => c_1342 hG hy hy' h h' hC (fun l l' h9 => by obtain ⟨_, _, _, _, e1, e2, -⟩ := h9; rw [hs'] at e2; cases e2)) (fun c => absurd rfl c)
    · refine q_ins (idx := 283) (T := 2) rfl (by decide +kernel) hy' hs' rfl rfl rfl ?_
      refine q_ifeq rfl rfl (fun c => absurd c (by decide)) (fun _ => ?_)
      refine q_aload rfl rfl rfl ?_
      refine q_chk (idx := 283) (T := 2) rfl (by decide +kernel) hy' hs' rfl ?_
      refine q_ast9 rfl rfl rfl rfl ?_
      exact c_tlL2 hG hy hy' hs hs' hz hz' hz82' h60 h60' hzs hzs' hC
    · refine q_ins (idx := 283) (T := 2) rfl (by decide +kernel) hy' hs' rfl rfl rfl ?_
      exact q_ifeq rfl rfl (fun _ => c_1342 hG hy hy' h h' hC (fun l l' h9 => by obtain ⟨_, _, _, _, e1, e2, -⟩ := h9; rw [hs'] at e2; cases e2)) (fun c => absurd rfl c)
  · refine q_ins (idx := 283) (T := 2) rfl (by decide +kernel) hy hs rfl rfl rfl ?_
    exact q_ifeq rfl rfl (fun _ => c_1342 hG hy hy' h h' hC (fun l l' h9 => by obtain ⟨_, _, _, _, e1, e2, -⟩ := h9; rw [hs] at e1; cases e1)) (fun c => absurd rfl c)
theorem c_cp2 {d i e j m : Int32} {f : Nat → Option Nat} (hG : GS θ S n) (h43 : S 43 = sh43 f) (r1 : ¬ ((0 ≤ d ∧ d < 8) ∧ (0 ≤ e ∧ e < 8)) → R (-1)) (r2 : (0 ≤ d ∧ d < 8) → (0 ≤ e ∧ e < 8) → (f d.toNatClampNeg = none ∨ f e.toNatClampNeg = none) → R (-11)) (r3 : (0 ≤ d ∧ d < 8) → (0 ≤ e ∧ e < 8) → ∀ y y', f d.toNatClampNeg = some y → f e.toNatClampNeg = some y' → cpC S y y' i j m R) : PM (j_SL L) (j_SV xs) j_EX mm_X11_copy [.ref 0, .int d, .int i, .int e, .int j, .int m] S n (PW θ S n R) := by
  have hn := gs_n hG
  obtain ⟨f0, a43, hf⟩ := gs_43 hG
  rw [h43] at a43
  cases a43
  obtain ⟨fs, k0, f0, f7, -⟩ := gs_0 hG
  have fin : ∀ u : Int32, R u → PW θ S n R (some (.int u)) S n := fun u hu => ⟨Nat.le_refl n, hG, fun _ _ => rfl, fun _ _ => shp_rf, u, rfl, hu⟩
  change PQ (j_SL L) (j_SV xs) j_EX mm_X11_copy 0 [.ref 0, .int d, .int i, .int e, .int j, .int m, pm_un, pm_un, pm_un, pm_un] [] S n 0 0 _
  have s18 : ¬ ((0 ≤ d ∧ d < 8) ∧ (0 ≤ e ∧ e < 8)) → PQ (j_SL L) (j_SV xs) j_EX mm_X11_copy 18 [.ref 0, .int d, .int i, .int e, .int j, .int m, pm_un, pm_un, pm_un, pm_un] [] S n 0 0 (PW θ S n R) := by
    intro hO
    refine q_iconst rfl rfl ?_
    exact q_iret rfl rfl trivial (fin _ (r1 hO))
  refine q_iload_n rfl rfl rfl ?_
  refine q_bipush rfl rfl ?_
  refine q_cS rfl rfl (Or.inl rfl) rfl rfl trivial rfl rfl rfl rfl rfl c_wi ?_
  rintro r _ _ ⟨rfl, rfl, hr⟩
  rcases hr with ⟨q1, rfl⟩ | ⟨q1, rfl⟩
  · show PQ (j_SL L) (j_SV xs) j_EX mm_X11_copy 6 _ [.int 0] S n 0 0 _
    exact q_ifeq rfl rfl (fun _ => s18 (fun h => c_out q1 h.1)) (fun c => absurd rfl c)
  show PQ (j_SL L) (j_SV xs) j_EX mm_X11_copy 6 _ [.int 1] S n 0 0 _
  refine q_ifeq rfl rfl (fun c => absurd c (by decide)) (fun _ => ?_)
  refine q_iload_n rfl rfl rfl ?_
  refine q_bipush rfl rfl ?_
  refine q_cS rfl rfl (Or.inl rfl) rfl rfl trivial rfl rfl rfl rfl rfl c_wi ?_
  rintro r _ _ ⟨rfl, rfl, hr⟩
  rcases hr with ⟨q2, rfl⟩ | ⟨q2, rfl⟩
  · show PQ (j_SL L) (j_SV xs) j_EX mm_X11_copy 15 _ [.int 0] S n 0 0 _
    exact q_ifne rfl rfl (fun _ => s18 (fun h => c_out q2 h.2)) (fun c => absurd rfl c)
  show PQ (j_SL L) (j_SV xs) j_EX mm_X11_copy 15 _ [.int 1] S n 0 0 _
  refine q_ifne rfl rfl (fun c => absurd c (by decide)) (fun _ => ?_)
  obtain ⟨in1, d8⟩ := c_in8 q1
  obtain ⟨in2, e8⟩ := c_in8 q2
  refine q_aload_n rfl rfl rfl ?_
  refine q_getf rfl rfl (by omega) k0 f7 ?_
  refine q_iload_n rfl rfl rfl ?_
  refine q_aald rfl rfl (by omega) h43 in1 ?_
  cases hfd : f d.toNatClampNeg with
  | none =>
    refine q_anl6 rfl rfl rfl rfl ?_
    refine q_aload_n rfl rfl rfl ?_
    refine q_getf rfl rfl (by omega) k0 f7 ?_
    refine q_iload_n rfl rfl rfl ?_
    refine q_aald rfl rfl (by omega) h43 in2 ?_
    cases hfe : f e.toNatClampNeg with
    | none =>
      refine q_anl7 rfl rfl rfl rfl ?_
      refine q_aloadN rfl rfl rfl ?_
      refine q_ifnullN rfl ?_
      refine q_bipush rfl rfl ?_
      exact q_iret rfl rfl trivial (fin _ (r2 q1 q2 (Or.inl hfd)))
    | some y' =>
      refine q_ast7 rfl rfl rfl rfl ?_
      refine q_aloadN rfl rfl rfl ?_
      refine q_ifnullN rfl ?_
      refine q_bipush rfl rfl ?_
      exact q_iret rfl rfl trivial (fin _ (r2 q1 q2 (Or.inl hfd)))
  | some y =>
    refine q_ast6 rfl rfl rfl rfl ?_
    refine q_aload_n rfl rfl rfl ?_
    refine q_getf rfl rfl (by omega) k0 f7 ?_
    refine q_iload_n rfl rfl rfl ?_
    refine q_aald rfl rfl (by omega) h43 in2 ?_
    cases hfe : f e.toNatClampNeg with
    | none =>
      refine q_anl7 rfl rfl rfl rfl ?_
      refine q_aload rfl rfl rfl ?_
      refine q_ifnull rfl rfl ?_
      refine q_aloadN rfl rfl rfl ?_
      refine q_ifnonnullN rfl rfl ?_
      refine q_bipush rfl rfl ?_
      exact q_iret rfl rfl trivial (fin _ (r2 q1 q2 (Or.inr hfe)))
    | some y' =>
      refine q_ast7 rfl rfl rfl rfl ?_
      refine q_aload rfl rfl rfl ?_
      refine q_ifnull rfl rfl ?_
      refine q_aload rfl rfl rfl ?_
      refine q_ifnonnull rfl ?_
      have x1 := xh_cs (hf _ d8 y hfd).2
      have x2 := xh_cs (hf _ e8 y' hfe).2
      exact c_492 hG x1.1 x2.1 x1.2 x2.2 (r3 q1 q2 y y' hfd hfe)
end ZA
