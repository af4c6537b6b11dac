/-! the class's keep, weight, toss -/
section CN
variable {θ : Th} {L : Nat} {xs : Nat → Int32} {S : Nat → pm_E} {n : Nat}
theorem kp_end {D : Nat} {f : Nat → Option Nat} {T2 : Nat → pm_E} {n2 : Nat} (hG : GS θ S n) (h43 : S 43 = sh43 f) (a1 : n ≤ n2) (a3 : ∀ j, j < n → T2 j = S j) (a4 : xh (hp T2 n2) n) : PO θ S n (fun _ => True) (some (.int 0)) (va_up T2 43 (sh43 (va_up f D (some n)))) n2 := by
  have hn := gs_n hG
  refine ⟨a1, gs_put hG h43 a1 (fun k h1 h2 => (u_ne h2).trans (a3 k h1)) u_eq (fun y0 e => ?_), fun k h1 h2 => (u_ne h2).trans (a3 k (by omega)), 0, rfl, trivial⟩
  cases e
  exact ⟨hn, xh_mono (Nat.le_refl n2) (fun k h1 h2 => u_ne (by omega)) hn a4⟩
set_option maxHeartbeats 4000000 in
theorem c_kp {d w k x : Int32} (hG : GS θ S n) : PM (j_SL L) (j_SV xs) j_EX mm_X11_keep [.ref 0, .int d, .int w, .int k, .int x] S n (PO θ S n (fun _ => True)) := by
  have hn := gs_n hG
  obtain ⟨f, h43, -⟩ := gs_43 hG
  obtain ⟨fs, k0, f0, f7, -⟩ := gs_0 hG
  obtain ⟨gs, g1, -⟩ := gs_obj hG (k := 1) rfl
  change PQ (j_SL L) (j_SV xs) j_EX mm_X11_keep 0 [.ref 0, .int d, .int w, .int k, .int x] [] S n 0 0 _
  refine q_iload_n rfl rfl rfl ?_
  refine q_bipush rfl rfl ?_
  refine q_cS rfl rfl (Or.inl rfl) rfl rfl trivial rfl rfl rfl rfl rfl c_wi ?_
  rintro r _ _ ⟨rfl, rfl, hr⟩
  rcases hr with ⟨q, rfl⟩ | ⟨q, rfl⟩
  · show PQ (j_SL L) (j_SV xs) j_EX mm_X11_keep 6 _ [.int 0] S n 0 0 _
    refine q_ifne rfl rfl (fun _ => ?_) (fun c => absurd rfl c)
    refine q_iconst rfl rfl ?_
    exact q_iret rfl rfl trivial ⟨Nat.le_refl n, hG, fun _ _ _ => rfl, -1, rfl, trivial⟩
  · show PQ (j_SL L) (j_SV xs) j_EX mm_X11_keep 6 _ [.int 1] S n 0 0 _
    refine q_ifne rfl rfl (fun c => absurd c (by decide)) (fun _ => ?_)
    obtain ⟨hin, hd8⟩ := c_in8 q
    have s103 : ∀ T, GS θ T n → (∀ j, j < n → T j = S j) → PQ (j_SL L) (j_SV xs) j_EX mm_X11_keep 103 [.ref 0, .int d, .int w, .int k, .int x] [] T n 0 0 (PO θ S n (fun _ => True)) := by
      intro T hT eT
      refine q_iconst rfl rfl ?_
      exact q_iret rfl rfl trivial ⟨Nat.le_refl n, hT, fun k h _ => eT k (by omega), -1, rfl, trivial⟩
    have s74 : ∀ T, GS θ T n → (∀ j, j < n → T j = S j) → PQ (j_SL L) (j_SV xs) j_EX mm_X11_keep 74 [.ref 0, .int d, .int w, .int k, .int x] [] T n 0 0 (PO θ S n (fun _ => True)) := by
      intro T hT eT
      refine q_iload_n rfl rfl rfl ?_
      refine q_iconst rfl rfl ?_
      refine q_icne rfl rfl (fun c4 => ?_) (fun _ => s103 T hT eT)
      refine q_aload_n rfl rfl rfl ?_
      refine q_getf rfl rfl (by omega) ((eT 0 (by omega)).trans k0) f0 ?_
      refine q_iload_n rfl rfl rfl ?_
      refine q_cV rfl rfl (Or.inl rfl) rfl rfl rfl rfl (by omega) ((eT 1 (by omega)).trans g1) trivial rfl rfl rfl rfl rfl (w_hasH hT) ?_
      rintro r T1 _ ⟨rfl, ⟨c1, rfl, -, -⟩, hG1, e1⟩
      show PQ (j_SL L) (j_SV xs) j_EX mm_X11_keep 87 _ [.int c1] T1 _ 0 0 _
      have eT1 : ∀ j, j < n → T1 j = S j := fun j hj => (e1 j hj).trans (eT j hj)
      refine q_ifeq rfl rfl (fun _ => s103 T1 hG1 eT1) (fun _ => ?_)
      refine q_aload_n rfl rfl rfl ?_
      refine q_getf rfl rfl (by omega) ((eT1 0 (by omega)).trans k0) f7 ?_
      refine q_iload_n rfl rfl rfl ?_
      refine q_aload_n rfl rfl rfl ?_
      refine q_iload_n rfl rfl rfl ?_
      refine q_cV rfl rfl (Or.inl rfl) rfl rfl rfl rfl (by omega) ((eT1 0 (by omega)).trans k0) ⟨rfl, rfl⟩ rfl rfl rfl rfl rfl (c_ko hG1) ?_
      rintro r T2 n2 ⟨a1, rfl, a3, a4, ci, gs2, a5, a6, a7⟩
      show PQ (j_SL L) (j_SV xs) j_EX mm_X11_keep 100 _ [.ref n, .int d, .ref 43] T2 n2 _ _ _
      have eT2 : ∀ j, j < n → T2 j = S j := fun j hj => (a3 j hj).trans (eT1 j hj)
      refine q_aast rfl rfl (by omega) a7 ((eT2 43 (by omega)).trans h43) a5 a6 hin ?_
      refine q_iconst rfl rfl ?_
      exact q_iret rfl rfl trivial (kp_end hG h43 a1 eT2 a4)
    have s57 : ∀ T, GS θ T n → (∀ j, j < n → T j = S j) → PQ (j_SL L) (j_SV xs) j_EX mm_X11_keep 57 [.ref 0, .int d, .int w, .int k, .int x] [] T n 0 0 (PO θ S n (fun _ => True)) := by
      intro T hT eT
      refine q_iload_n rfl rfl rfl ?_
      refine q_iconst rfl rfl ?_
      refine q_icne rfl rfl (fun c3 => ?_) (fun _ => s74 T hT eT)
      refine q_aload_n rfl rfl rfl ?_
      refine q_getf rfl rfl (by omega) ((eT 0 (by omega)).trans k0) f7 ?_
      refine q_iload_n rfl rfl rfl ?_
      refine q_aload_n rfl rfl rfl ?_
      refine q_cV rfl rfl (Or.inl rfl) rfl rfl rfl rfl (by omega) ((eT 0 (by omega)).trans k0) ⟨rfl, rfl⟩ rfl rfl rfl rfl rfl (c_nr hT) ?_
      rintro r T2 n2 ⟨a1, rfl, a3, a4, ci, gs2, a5, a6, a7⟩
      show PQ (j_SL L) (j_SV xs) j_EX mm_X11_keep 71 _ [.ref n, .int d, .ref 43] T2 n2 _ _ _
      have eT2 : ∀ j, j < n → T2 j = S j := fun j hj => (a3 j hj).trans (eT j hj)
      refine q_aast rfl rfl (by omega) a7 ((eT2 43 (by omega)).trans h43) a5 a6 hin ?_
      refine q_iconst rfl rfl ?_
      exact q_iret rfl rfl trivial (kp_end hG h43 a1 eT2 a4)
    refine q_iload_n rfl rfl rfl ?_
    refine q_ifne rfl rfl (fun c0 => ?_) (fun c0 => ?_)
    · refine q_aload_n rfl rfl rfl ?_
      refine q_getf rfl rfl (by omega) k0 f7 ?_
      refine q_iload_n rfl rfl rfl ?_
      refine q_null rfl rfl ?_
      refine q_aastN rfl rfl (by omega) h43 hin ?_
      refine q_iconst rfl rfl ?_
      exact q_iret rfl rfl trivial ⟨Nat.le_refl n, gs_put hG h43 (Nat.le_refl n) (fun k _ h2 => u_ne h2) u_eq (fun y0 e => by cases e), fun k _ h2 => u_ne h2, 0, rfl, trivial⟩
    · refine q_iload_n rfl rfl rfl ?_
      refine q_iconst rfl rfl ?_
      refine q_icne rfl rfl (fun c1 => ?_) (fun _ => s57 S hG (fun _ _ => rfl))
      refine q_aload_n rfl rfl rfl ?_
      refine q_getf rfl rfl (by omega) k0 f0 ?_
      refine q_iload_n rfl rfl rfl ?_
      refine q_iload rfl rfl rfl ?_
      refine q_cV rfl rfl (Or.inl rfl) rfl rfl rfl rfl (by omega) g1 trivial rfl rfl rfl rfl rfl (w_hasS hG) ?_
      rintro r T1 _ ⟨rfl, ⟨c1, rfl, -, -⟩, hG1, e1⟩
      show PQ (j_SL L) (j_SV xs) j_EX mm_X11_keep 39 _ [.int c1] T1 _ 0 0 _
      refine q_ifeq rfl rfl (fun _ => s57 T1 hG1 e1) (fun _ => ?_)
      refine q_aload_n rfl rfl rfl ?_
      refine q_getf rfl rfl (by omega) ((e1 0 (by omega)).trans k0) f7 ?_
      refine q_iload_n rfl rfl rfl ?_
      refine q_aload_n rfl rfl rfl ?_
      refine q_iload_n rfl rfl rfl ?_
      refine q_iload rfl rfl rfl ?_
      refine q_cV rfl rfl (Or.inl rfl) rfl rfl rfl rfl (by omega) ((e1 0 (by omega)).trans k0) ⟨rfl, rfl⟩ rfl rfl rfl rfl rfl (c_st hG1) ?_
      rintro r T2 n2 ⟨a1, rfl, a3, a4, ci, gs2, a5, a6, a7⟩
      show PQ (j_SL L) (j_SV xs) j_EX mm_X11_keep 54 _ [.ref n, .int d, .ref 43] T2 n2 _ _ _
      have eT2 : ∀ j, j < n → T2 j = S j := fun j hj => (a3 j hj).trans (e1 j hj)
      refine q_aast rfl rfl (by omega) a7 ((eT2 43 (by omega)).trans h43) a5 a6 hin ?_
      refine q_iconst rfl rfl ?_
      exact q_iret rfl rfl trivial (kp_end hG h43 a1 eT2 a4)
/-- what a shelf holds, of heaps as functions -/
theorem xh_cs {y : Nat} (h : xh (hp S n) y) : y < n ∧ ((∃ a b : Int32, S y = .inr (8, [.int a, .int b])) ∨ (∃ (z len : Nat) (g : Nat → Int64), S y = .inr (2, [.ref z]) ∧ 82 ≤ z ∧ z < n ∧ len ≤ 60 ∧ S z = .inl (1, len, .inr (.inl g))) ∨ (∃ (z len : Nat) (g : Nat → Int32), S y = .inr (7, [.ref z]) ∧ 82 ≤ z ∧ z < n ∧ len ≤ 60 ∧ S z = .inl (3, len, .inl g) ∧ ∀ j, j < len → fits .short (.int (g j)) = true)) := by
  rcases h with ⟨a, b, h1⟩ | ⟨z, len, g, h1, h2, h3, h4⟩ | ⟨z, len, g, h1, h2, h3, h4, h5⟩
  · exact ⟨(hp_some h1).1, Or.inl ⟨a, b, (hp_some h1).2⟩⟩
  · exact ⟨(hp_some h1).1, Or.inr (Or.inl ⟨z, len, g, (hp_some h1).2, h2, (hp_some h4).1, h3, (hp_some h4).2⟩)⟩
  · exact ⟨(hp_some h1).1, Or.inr (Or.inr ⟨z, len, g, (hp_some h1).2, h2, (hp_some h4).1, h3, (hp_some h4).2, h5⟩)⟩
theorem w_opof {a : Int32} (hG : GS θ S n) : PM (j_SL L) (j_SV xs) j_EX mm_X11_operandOf [.int a] S n (wB θ 0 2 S n) := pm_weak (q_kc w12 [a.toInt] hG ⟨ck_oku rfl rfl, trivial⟩ (ck_en_c (fullI a).1 (fullI a).2 ck_en_n) (fun d hd => by cases hd)) (fun r S9 n9 h => wb_of rfl rfl h)
set_option maxHeartbeats 4000000 in
theorem c_hv {y : Nat} {a b : Int32} (hG : GS θ S n) (hy : y < n) (hs : S y = .inr (8, [.int a, .int b])) : PM (j_SL L) (j_SV xs) j_EX mm_X10_heaviness [.ref y] S n (wB θ (-2147483648) 2147483647 S n) := by
  change PQ (j_SL L) (j_SV xs) j_EX mm_X10_heaviness 0 [.ref y, pm_un] [] S n 0 0 _
  have s83 : ∀ T, GS θ T n → (∀ j, j < n → T j = S j) → ∀ v : Int32, PQ (j_SL L) (j_SV xs) j_EX mm_X10_heaviness 59 [.ref y, .int v] [] T n 0 0 (wB θ (-2147483648) 2147483647 S n) := by
    intro T hT eT v
    have fin : ∀ u : Int32, wB θ (-2147483648) 2147483647 S n (some (.int u)) T n := fun u => ⟨rfl, ⟨u, rfl, (fullI u).1, (fullI u).2⟩, hT, eT⟩
    have s77 : PQ (j_SL L) (j_SV xs) j_EX mm_X10_heaviness 77 [.ref y, .int v] [] T n 0 0 (wB θ (-2147483648) 2147483647 S n) := by
      refine q_iconst rfl rfl ?_
      refine q_iload_n rfl rfl rfl ?_
      refine q_imul rfl rfl ?_
      refine q_goto rfl ?_
      exact q_iret rfl rfl trivial (fin _)
    refine q_aload_n rfl rfl rfl ?_
    refine q_getf rfl rfl hy ((eT y hy).trans hs) rfl ?_
    refine q_bipush rfl rfl ?_
    refine q_iceq rfl rfl (fun _ => s77) (fun _ => ?_)
    refine q_aload_n rfl rfl rfl ?_
    refine q_getf rfl rfl hy ((eT y hy).trans hs) rfl ?_
    refine q_bipush rfl rfl ?_
    refine q_icne rfl rfl (fun _ => s77) (fun _ => ?_)
    refine q_iload_n rfl rfl rfl ?_
    exact q_iret rfl rfl trivial (fin _)
  have s42 : ∀ T, GS θ T n → (∀ j, j < n → T j = S j) → ∀ v : Int32, PQ (j_SL L) (j_SV xs) j_EX mm_X10_heaviness 42 [.ref y, .int v] [] T n 0 0 (wB θ (-2147483648) 2147483647 S n) := by
    intro T hT eT v
    refine q_aload_n rfl rfl rfl ?_
    refine q_getf rfl rfl hy ((eT y hy).trans hs) rfl ?_
    refine q_cS rfl rfl (Or.inr rfl) rfl rfl trivial rfl rfl rfl rfl rfl (w_opof hT) ?_
    rintro r T1 _ ⟨rfl, ⟨c1, rfl, -, -⟩, hG1, e1⟩
    show PQ (j_SL L) (j_SV xs) j_EX mm_X10_heaviness 49 _ [.int c1] T1 _ 0 0 _
    refine q_iconst rfl rfl ?_
    refine q_icne rfl rfl (fun _ => ?_) (fun _ => s83 T1 hG1 (fun j hj => (e1 j hj).trans (eT j hj)) v)
    refine q_inc1 rfl rfl rfl rfl ?_
    exact s83 T1 hG1 (fun j hj => (e1 j hj).trans (eT j hj)) _
  have s21 : ∀ T, GS θ T n → (∀ j, j < n → T j = S j) → ∀ v : Int32, PQ (j_SL L) (j_SV xs) j_EX mm_X10_heaviness 21 [.ref y, .int v] [] T n 0 0 (wB θ (-2147483648) 2147483647 S n) := by
    intro T hT eT v
    have s39 : PQ (j_SL L) (j_SV xs) j_EX mm_X10_heaviness 39 [.ref y, .int v] [] T n 0 0 (wB θ (-2147483648) 2147483647 S n) := by
      refine q_inc1 rfl rfl rfl rfl ?_
      exact s42 T hT eT _
    refine q_aload_n rfl rfl rfl ?_
    refine q_getf rfl rfl hy ((eT y hy).trans hs) rfl ?_
    refine q_bipush rfl rfl ?_
    refine q_iceq rfl rfl (fun _ => s39) (fun _ => ?_)
    refine q_aload_n rfl rfl rfl ?_
    refine q_getf rfl rfl hy ((eT y hy).trans hs) rfl ?_
    refine q_bipush rfl rfl ?_
    exact q_icne rfl rfl (fun _ => s39) (fun _ => s42 T hT eT v)
  refine q_iconst rfl rfl ?_
  refine q_aload_n rfl rfl rfl ?_
  refine q_getf rfl rfl hy hs rfl ?_
  refine q_iadd rfl rfl ?_
  refine q_ist1n rfl rfl rfl rfl ?_
  refine q_aload_n rfl rfl rfl ?_
  refine q_getf rfl rfl hy hs rfl ?_
  refine q_cS rfl rfl (Or.inr rfl) rfl rfl trivial rfl rfl rfl rfl rfl (w_opof hG) ?_
  rintro r T1 _ ⟨rfl, ⟨c1, rfl, -, -⟩, hG1, e1⟩
  show PQ (j_SL L) (j_SV xs) j_EX mm_X10_heaviness 14 _ [.int c1] T1 _ 0 0 _
  refine q_iconst rfl rfl ?_
  refine q_icne rfl rfl (fun _ => ?_) (fun _ => s21 T1 hG1 e1 _)
  refine q_inc1 rfl rfl rfl rfl ?_
  exact s21 T1 hG1 e1 _
set_option maxHeartbeats 4000000 in
theorem c_we {d : Int32} (hG : GS θ S n) : PM (j_SL L) (j_SV xs) j_EX mm_X11_weight [.ref 0, .int d] S n (PO θ S n (fun _ => True)) := by
  have hn := gs_n hG
  obtain ⟨f, h43, hf⟩ := gs_43 hG
  obtain ⟨fs, k0, f0, f7, -⟩ := gs_0 hG
  have fin : ∀ u : Int32, PO θ S n (fun _ => True) (some (.int u)) S n := fun u => ⟨Nat.le_refl n, hG, fun _ _ _ => rfl, u, rfl, trivial⟩
  change PQ (j_SL L) (j_SV xs) j_EX mm_X11_weight 0 [.ref 0, .int d, pm_un, pm_un] [] S n 0 0 _
  refine q_iload_n rfl rfl rfl ?_
  refine q_bipush rfl rfl ?_
  refine q_cS rfl rfl (Or.inl rfl) rfl rfl trivial rfl rfl rfl rfl rfl c_wi ?_
  rintro r _ _ ⟨rfl, rfl, hr⟩
  rcases hr with ⟨q, rfl⟩ | ⟨q, rfl⟩
  · show PQ (j_SL L) (j_SV xs) j_EX mm_X11_weight 6 _ [.int 0] S n 0 0 _
    refine q_ifne rfl rfl (fun _ => ?_) (fun c => absurd rfl c)
    refine q_iconst rfl rfl ?_
    exact q_iret rfl rfl trivial (fin _)
  · show PQ (j_SL L) (j_SV xs) j_EX mm_X11_weight 6 _ [.int 1] S n 0 0 _
    refine q_ifne rfl rfl (fun c => absurd c (by decide)) (fun _ => ?_)
    obtain ⟨hin, hd8⟩ := c_in8 q
    refine q_aload_n rfl rfl rfl ?_
    refine q_getf rfl rfl (by omega) k0 f7 ?_
    refine q_iload_n rfl rfl rfl ?_
    refine q_aald rfl rfl (by omega) h43 hin ?_
    cases hfd : f d.toNatClampNeg with
    | none =>
      refine q_anl2n rfl rfl rfl rfl ?_
      refine q_aload_nN rfl rfl rfl ?_
      refine q_ifnonnullN rfl rfl ?_
      refine q_bipush rfl rfl ?_
      exact q_iret rfl rfl trivial (fin _)
    | some y =>
      obtain ⟨hy82, hxh⟩ := hf _ hd8 y hfd
      obtain ⟨hy, hcs⟩ := xh_cs hxh
      refine q_ast2n rfl rfl rfl rfl ?_
      refine q_aload_n rfl rfl rfl ?_
      refine q_ifnonnull rfl ?_
      refine q_aload_n rfl rfl rfl ?_
      rcases hcs with ⟨a, b, hs⟩ | ⟨z, len, g, hs, -⟩ | ⟨z, len, g, hs, -⟩
      · refine q_ins (idx := 317) (T := 8) rfl (by decide +kernel) hy hs rfl rfl rfl ?_
        refine q_ifeq rfl rfl (fun c => absurd c (by decide)) (fun _ => ?_)
        refine q_aload_n rfl rfl rfl ?_
        refine q_chk (idx := 317) (T := 8) rfl (by decide +kernel) hy hs rfl ?_
        refine q_ast3n rfl rfl rfl rfl ?_
        refine q_aload_n rfl rfl rfl ?_
        refine q_cV rfl rfl (Or.inl rfl) rfl rfl rfl rfl hy hs trivial rfl rfl rfl rfl rfl (c_hv hG hy hs) ?_
        rintro r T1 _ ⟨rfl, ⟨c1, rfl, -, -⟩, hG1, e1⟩
        show PQ (j_SL L) (j_SV xs) j_EX mm_X11_weight 41 _ [.int c1] T1 _ 0 0 _
        refine q_goto rfl ?_
        exact q_iret rfl rfl trivial ⟨Nat.le_refl _, hG1, fun k h _ => e1 k (by omega), c1, rfl, trivial⟩
      · refine q_ins (idx := 317) (T := 8) rfl (by decide +kernel) hy hs rfl rfl rfl ?_
        refine q_ifeq rfl rfl (fun _ => ?_) (fun c => absurd rfl c)
        refine q_bipush rfl rfl ?_
        exact q_iret rfl rfl trivial (fin _)
      · refine q_ins (idx := 317) (T := 8) rfl (by decide +kernel) hy hs rfl rfl rfl ?_
        refine q_ifeq rfl rfl (fun _ => ?_) (fun c => absurd rfl c)
        refine q_bipush rfl rfl ?_
        exact q_iret rfl rfl trivial (fin _)
set_option maxHeartbeats 4000000 in
theorem c_to {d : Int32} (hG : GS θ S n) : PM (j_SL L) (j_SV xs) j_EX mm_X11_toss [.ref 0, .int d] S n (PO θ S n (fun _ => True)) := by
  have hn := gs_n hG
  obtain ⟨f, h43, hf⟩ := gs_43 hG
  obtain ⟨fs, k0, f0, f7, -⟩ := gs_0 hG
  have fin : ∀ u : Int32, PO θ S n (fun _ => True) (some (.int u)) S n := fun u => ⟨Nat.le_refl n, hG, fun _ _ _ => rfl, u, rfl, trivial⟩
  change PQ (j_SL L) (j_SV xs) j_EX mm_X11_toss 0 [.ref 0, .int d, pm_un, pm_un] [] S n 0 0 _
  refine q_iload_n rfl rfl rfl ?_
  refine q_bipush rfl rfl ?_
  refine q_cS rfl rfl (Or.inl rfl) rfl rfl trivial rfl rfl rfl rfl rfl c_wi ?_
  rintro r _ _ ⟨rfl, rfl, hr⟩
  rcases hr with ⟨q, rfl⟩ | ⟨q, rfl⟩
  · show PQ (j_SL L) (j_SV xs) j_EX mm_X11_toss 6 _ [.int 0] S n 0 0 _
    refine q_ifne rfl rfl (fun _ => ?_) (fun c => absurd rfl c)
    refine q_iconst rfl rfl ?_
    exact q_iret rfl rfl trivial (fin _)
  · show PQ (j_SL L) (j_SV xs) j_EX mm_X11_toss 6 _ [.int 1] S n 0 0 _
    refine q_ifne rfl rfl (fun c => absurd c (by decide)) (fun _ => ?_)
    obtain ⟨hin, hd8⟩ := c_in8 q
    refine q_aload_n rfl rfl rfl ?_
    refine q_getf rfl rfl (by omega) k0 f7 ?_
    refine q_iload_n rfl rfl rfl ?_
    refine q_aald rfl rfl (by omega) h43 hin ?_
    cases hfd : f d.toNatClampNeg with
    | none =>
      refine q_anl2n rfl rfl rfl rfl ?_
      refine q_aload_nN rfl rfl rfl ?_
      refine q_ifnonnullN rfl rfl ?_
      refine q_bipush rfl rfl ?_
      exact q_iret rfl rfl trivial (fin _)
    | some y =>
      obtain ⟨hy82, hxh⟩ := hf _ hd8 y hfd
      obtain ⟨hy, hcs⟩ := xh_cs hxh
      refine q_ast2n rfl rfl rfl rfl ?_
      refine q_aload_n rfl rfl rfl ?_
      refine q_ifnonnull rfl ?_
      refine q_aload_n rfl rfl rfl ?_
      rcases hcs with ⟨a, b, hs⟩ | ⟨z, len, g, hs, -⟩ | ⟨z, len, g, hs, -⟩
      · refine q_ins (idx := 317) (T := 8) rfl (by decide +kernel) hy hs rfl rfl rfl ?_
        refine q_ifeq rfl rfl (fun c => absurd c (by decide)) (fun _ => ?_)
        refine q_aload_n rfl rfl rfl ?_
        refine q_chk (idx := 317) (T := 8) rfl (by decide +kernel) hy hs rfl ?_
        refine q_ast3n rfl rfl rfl rfl ?_
        refine q_aload_n rfl rfl rfl ?_
        refine q_toss hy hs (fun _ g => ?_) (fun _ => ?_)
        · refine q_goto rfl ?_
          exact q_iret rfl rfl trivial ⟨by omega, gs_ext hG (by omega) (fun j hj => u_ne (by omega)), fun k h _ => u_ne (by omega), _, rfl, trivial⟩
        · refine q_goto rfl ?_
          exact q_iret rfl rfl trivial (fin _)
      · refine q_ins (idx := 317) (T := 8) rfl (by decide +kernel) hy hs rfl rfl rfl ?_
        refine q_ifeq rfl rfl (fun _ => ?_) (fun c => absurd rfl c)
        refine q_bipush rfl rfl ?_
        exact q_iret rfl rfl trivial (fin _)
      · refine q_ins (idx := 317) (T := 8) rfl (by decide +kernel) hy hs rfl rfl rfl ?_
        refine q_ifeq rfl rfl (fun _ => ?_) (fun c => absurd rfl c)
        refine q_bipush rfl rfl ?_
        exact q_iret rfl rfl trivial (fin _)
end CN
