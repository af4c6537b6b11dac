/-! copy: the class's -/
section CP
variable {θ : Th} {L : Nat} {xs : Nat → Int32} {S : Nat → pm_E} {n : Nat}
def spP (len fr m : Int32) : Prop := ¬ m < 0 ∧ ¬ fr < 0 ∧ m ≤ len - fr
theorem c_sp {len fr m : Int32} : PM (j_SL L) (j_SV xs) j_EX mm_X11_spans [.int len, .int fr, .int m] S n (fun r S' n' => S = S' ∧ n = n' ∧ ((¬ spP len fr m ∧ r = some (.int 0)) ∨ (spP len fr m ∧ r = some (.int 1)))) := by
  change PQ (j_SL L) (j_SV xs) j_EX mm_X11_spans 0 [.int len, .int fr, .int m] [] S n 0 0 _
  refine q_iload_n rfl rfl rfl ?_
  refine q_iflt rfl rfl (fun c1 => ?_) (fun c1 => ?_)
  · refine q_iconst rfl rfl ?_
    exact q_iret rfl rfl rfl ⟨rfl, rfl, Or.inl ⟨fun h => h.1 c1, rfl⟩⟩
  · refine q_iload_n rfl rfl rfl ?_
    refine q_iflt rfl rfl (fun c2 => ?_) (fun c2 => ?_)
    · refine q_iconst rfl rfl ?_
      exact q_iret rfl rfl rfl ⟨rfl, rfl, Or.inl ⟨fun h => h.2.1 c2, rfl⟩⟩
    · refine q_iload_n rfl rfl rfl ?_
      refine q_iload_n rfl rfl rfl ?_
      refine q_iload_n rfl rfl rfl ?_
      refine q_isub rfl rfl ?_
      refine q_icgt rfl rfl (fun c3 => ?_) (fun c3 => ?_)
      · refine q_iconst rfl rfl ?_
        exact q_iret rfl rfl rfl ⟨rfl, rfl, Or.inl ⟨fun h => by
          have := h.2.2
          simp only [Int32.lt_iff_toInt_lt, Int32.le_iff_toInt_le] at this c3
          omega, rfl⟩⟩
      · refine q_iconst rfl rfl ?_
        refine q_goto rfl ?_
        exact q_iret rfl rfl rfl ⟨rfl, rfl, Or.inr ⟨⟨c1, c2, i_nlt c3⟩, rfl⟩⟩
theorem sp_o {len : Nat} (h60 : len ≤ 60) {fr m : Int32} (h : spP (nI len) fr m) : fr.toNatClampNeg + m.toNatClampNeg ≤ len := by
  have e := nI_toInt (n := len) (by omega)
  obtain ⟨a, b, rfl, rfl, h1, h2, h3⟩ := sp_nat (by omega) (by omega) h.1 h.2.1 h.2.2
  rw [nI_clamp (by omega), nI_clamp (by omega)]
  omega
theorem xh_row {z1 : Nat} {c' : pm_E} (hz : z1 < n) (h0 : ∀ x, S z1 ≠ .inr x) (hL : ∀ len g, S z1 = .inl (1, len, .inr (.inl g)) → ∃ g', c' = .inl (1, len, .inr (.inl g'))) (hS : ∀ len g, S z1 = .inl (3, len, .inl g) → ∃ g', c' = .inl (3, len, .inl g') ∧ ∀ j, j < len → fits .short (.int (g' j)) = true) {y : Nat} (h : xh (hp S n) y) : xh (hp (va_up S z1 c') n) y := by
  obtain ⟨hy, hc⟩ := xh_cs h
  rcases hc with ⟨a, b, h1⟩ | ⟨z, len, g, h1, h2, h3, h4, h5⟩ | ⟨z, len, g, h1, h2, h3, h4, h5, h6⟩
  · have ne : y ≠ z1 := fun e => h0 _ (e ▸ h1)
    exact Or.inl ⟨a, b, by rw [hp_get hy, u_ne ne, h1]⟩
  · have ne : y ≠ z1 := fun e => h0 _ (e ▸ h1)
    by_cases ez : z = z1
    · subst ez
      obtain ⟨g', e'⟩ := hL len g h5
      exact Or.inr (Or.inl ⟨z, len, g', by rw [hp_get hy, u_ne ne, h1], h2, h4, by rw [hp_get h3, u_eq, e']⟩)
    · exact Or.inr (Or.inl ⟨z, len, g, by rw [hp_get hy, u_ne ne, h1], h2, h4, by rw [hp_get h3, u_ne ez, h5]⟩)
  · have ne : y ≠ z1 := fun e => h0 _ (e ▸ h1)
    by_cases ez : z = z1
    · subst ez
      obtain ⟨g', e', h7⟩ := hS len g h5
      exact Or.inr (Or.inr ⟨z, len, g', by rw [hp_get hy, u_ne ne, h1], h2, h4, by rw [hp_get h3, u_eq, e'], h7⟩)
    · exact Or.inr (Or.inr ⟨z, len, g, by rw [hp_get hy, u_ne ne, h1], h2, h4, by rw [hp_get h3, u_ne ez, h5], h6⟩)
theorem gs_row {z1 : Nat} {c' : pm_E} (hG : GS θ S n) (h82 : 82 ≤ z1) (hz : z1 < n) (h0 : ∀ x, S z1 ≠ .inr x) (hL : ∀ len g, S z1 = .inl (1, len, .inr (.inl g)) → ∃ g', c' = .inl (1, len, .inr (.inl g'))) (hS : ∀ len g, S z1 = .inl (3, len, .inl g) → ∃ g', c' = .inl (3, len, .inl g') ∧ ∀ j, j < len → fits .short (.int (g' j)) = true) : GS θ (va_up S z1 c') n := by
  have hn := gs_n hG
  obtain ⟨f, a1, a2⟩ := gs_43 hG
  exact gs_grow hG (Nat.le_refl n) (fun k h _ => u_ne (by omega)) ⟨f, by rw [hp_get (by omega), u_ne (by omega), a1]; rfl, fun d hd y hy => ⟨(a2 d hd y hy).1, xh_row hz h0 hL hS (a2 d hd y hy).2⟩⟩
theorem cpy_fit {f g : Nat → Int32} {sp dp m n0 n1 : Nat} (h : sp + m ≤ n0) (h1 : ∀ j, j < n0 → fits .short (.int (f j)) = true) (h2 : ∀ j, j < n1 → fits .short (.int (g j)) = true) : ∀ j, j < n1 → fits .short (.int (va_cpy f g sp dp m j)) = true := by
  intro j hj
  unfold va_cpy
  split
  · exact h1 _ (by omega)
  · exact h2 j hj
set_option maxHeartbeats 4000000 in
theorem c_tlL {d i e j m : Int32} {y y' z z' len len' : Nat} {g g' : Nat → Int64} (hG : GS θ S n) (hy : y < n) (hy' : y' < n) (hs : S y = .inr (2, [.ref z])) (hs' : S y' = .inr (2, [.ref z'])) (hz : z < n) (hz' : z' < n) (hz82' : 82 ≤ z') (h60 : len ≤ 60) (h60' : len' ≤ 60) (hzs : S z = .inl (1, len, .inr (.inl g))) (hzs' : S z' = .inl (1, len', .inr (.inl g'))) : PQ (j_SL L) (j_SV xs) j_EX mm_X11_copy 79 [.ref 0, .int d, .int i, .int e, .int j, .int m, .ref y, .ref y', .ref y, .ref y'] [] S n 0 0 (PO θ S n (fun _ => True)) := by
  have hn := gs_n hG
  have fin : ∀ u : Int32, PO θ S n (fun _ => True) (some (.int u)) S n := fun u => ⟨Nat.le_refl n, hG, fun _ _ _ => rfl, u, rfl, trivial⟩
  have s110 : PQ (j_SL L) (j_SV xs) j_EX mm_X11_copy 110 [.ref 0, .int d, .int i, .int e, .int j, .int m, .ref y, .ref y', .ref y, .ref y'] [] S n 0 0 (PO θ S n (fun _ => True)) := by
    refine q_bipush rfl rfl ?_
    exact q_iret rfl rfl trivial (fin _)
  refine q_aload rfl rfl rfl ?_
  refine q_getf rfl rfl hy hs rfl ?_
  refine q_alen rfl rfl hz hzs rfl ?_
  refine q_iload_n rfl rfl rfl ?_
  refine q_iload rfl rfl rfl ?_
  refine q_cS rfl rfl (Or.inl rfl) rfl rfl trivial rfl rfl rfl rfl rfl c_sp ?_
  rintro r _ _ ⟨rfl, rfl, hr⟩
  rcases hr with ⟨-, rfl⟩ | ⟨p1, rfl⟩
  · show PQ (j_SL L) (j_SV xs) j_EX mm_X11_copy 91 _ [.int 0] S n 0 0 _
    exact q_ifeq rfl rfl (fun _ => s110) (fun c => absurd rfl c)
  show PQ (j_SL L) (j_SV xs) j_EX mm_X11_copy 91 _ [.int 1] S n 0 0 _
  refine q_ifeq rfl rfl (fun c => absurd c (by decide)) (fun _ => ?_)
  refine q_aload rfl rfl rfl ?_
  refine q_getf rfl rfl hy' hs' rfl ?_
  refine q_alen rfl rfl hz' hzs' rfl ?_
  refine q_iload rfl rfl rfl ?_
  refine q_iload rfl rfl rfl ?_
  refine q_cS rfl rfl (Or.inl rfl) rfl rfl trivial rfl rfl rfl rfl rfl c_sp ?_
  rintro r _ _ ⟨rfl, rfl, hr⟩
  rcases hr with ⟨-, rfl⟩ | ⟨p2, rfl⟩
  · show PQ (j_SL L) (j_SV xs) j_EX mm_X11_copy 107 _ [.int 0] S n 0 0 _
    exact q_ifne rfl rfl (fun _ => s110) (fun c => absurd rfl c)
  show PQ (j_SL L) (j_SV xs) j_EX mm_X11_copy 107 _ [.int 1] S n 0 0 _
  refine q_ifne rfl rfl (fun c => absurd c (by decide)) (fun _ => ?_)
  refine q_aload rfl rfl rfl ?_
  refine q_getf rfl rfl hy hs rfl ?_
  refine q_iload_n rfl rfl rfl ?_
  refine q_aload rfl rfl rfl ?_
  refine q_getf rfl rfl hy' hs' rfl ?_
  refine q_iload rfl rfl rfl ?_
  refine q_iload rfl rfl rfl ?_
  refine q_cpl (idx := 311) rfl (by decide +kernel) rfl ⟨p1.2.1, p2.2.1, p1.1, sp_o h60 p1, sp_o h60' p2⟩ hz hz' hzs hzs' rfl ?_
  refine q_iload rfl rfl rfl ?_
  exact q_iret rfl rfl trivial ⟨Nat.le_refl n, gs_row hG hz82' hz' (fun x h => by rw [hzs'] at h; cases h) (fun l g0 h => by rw [hzs'] at h; cases h; exact ⟨_, rfl⟩) (fun l g0 h => by rw [hzs'] at h; cases h), fun k h _ => u_ne (by omega), _, rfl, trivial⟩
set_option maxHeartbeats 4000000 in
theorem c_tlS {d i e j m : Int32} {y y' z z' len len' : Nat} {g g' : Nat → Int32} (hG : GS θ S n) (hy : y < n) (hy' : y' < n) (hs : S y = .inr (7, [.ref z])) (hs' : S y' = .inr (7, [.ref z'])) (hz : z < n) (hz' : z' < n) (hz82' : 82 ≤ z') (h60 : len ≤ 60) (h60' : len' ≤ 60) (hzs : S z = .inl (3, len, .inl g)) (hzs' : S z' = .inl (3, len', .inl g')) (hg : ∀ j, j < len → fits .short (.int (g j)) = true) (hg' : ∀ j, j < len' → fits .short (.int (g' j)) = true) : PQ (j_SL L) (j_SV xs) j_EX mm_X11_copy 164 [.ref 0, .int d, .int i, .int e, .int j, .int m, .ref y, .ref y', .ref y, .ref y'] [] S n 0 0 (PO θ S n (fun _ => True)) := by
  have hn := gs_n hG
  have fin : ∀ u : Int32, PO θ S n (fun _ => True) (some (.int u)) S n := fun u => ⟨Nat.le_refl n, hG, fun _ _ _ => rfl, u, rfl, trivial⟩
  have s110 : PQ (j_SL L) (j_SV xs) j_EX mm_X11_copy 195 [.ref 0, .int d, .int i, .int e, .int j, .int m, .ref y, .ref y', .ref y, .ref y'] [] S n 0 0 (PO θ S n (fun _ => True)) := by
    refine q_bipush rfl rfl ?_
    exact q_iret rfl rfl trivial (fin _)
  refine q_aload rfl rfl rfl ?_
  refine q_getf rfl rfl hy hs rfl ?_
  refine q_alen rfl rfl hz hzs rfl ?_
  refine q_iload_n rfl rfl rfl ?_
  refine q_iload rfl rfl rfl ?_
  refine q_cS rfl rfl (Or.inl rfl) rfl rfl trivial rfl rfl rfl rfl rfl c_sp ?_
  rintro r _ _ ⟨rfl, rfl, hr⟩
  rcases hr with ⟨-, rfl⟩ | ⟨p1, rfl⟩
  · show PQ (j_SL L) (j_SV xs) j_EX mm_X11_copy 176 _ [.int 0] S n 0 0 _
    exact q_ifeq rfl rfl (fun _ => s110) (fun c => absurd rfl c)
  show PQ (j_SL L) (j_SV xs) j_EX mm_X11_copy 176 _ [.int 1] S n 0 0 _
  refine q_ifeq rfl rfl (fun c => absurd c (by decide)) (fun _ => ?_)
  refine q_aload rfl rfl rfl ?_
  refine q_getf rfl rfl hy' hs' rfl ?_
  refine q_alen rfl rfl hz' hzs' rfl ?_
  refine q_iload rfl rfl rfl ?_
  refine q_iload rfl rfl rfl ?_
  refine q_cS rfl rfl (Or.inl rfl) rfl rfl trivial rfl rfl rfl rfl rfl c_sp ?_
  rintro r _ _ ⟨rfl, rfl, hr⟩
  rcases hr with ⟨-, rfl⟩ | ⟨p2, rfl⟩
  · show PQ (j_SL L) (j_SV xs) j_EX mm_X11_copy 192 _ [.int 0] S n 0 0 _
    exact q_ifne rfl rfl (fun _ => s110) (fun c => absurd rfl c)
  show PQ (j_SL L) (j_SV xs) j_EX mm_X11_copy 192 _ [.int 1] S n 0 0 _
  refine q_ifne rfl rfl (fun c => absurd c (by decide)) (fun _ => ?_)
  refine q_aload rfl rfl rfl ?_
  refine q_getf rfl rfl hy hs rfl ?_
  refine q_iload_n rfl rfl rfl ?_
  refine q_aload rfl rfl rfl ?_
  refine q_getf rfl rfl hy' hs' rfl ?_
  refine q_iload rfl rfl rfl ?_
  refine q_iload rfl rfl rfl ?_
  refine q_cps (idx := 311) rfl (by decide +kernel) rfl ⟨p1.2.1, p2.2.1, p1.1, sp_o h60 p1, sp_o h60' p2⟩ hz hz' hzs hzs' hg rfl ?_
  refine q_iload rfl rfl rfl ?_
  exact q_iret rfl rfl trivial ⟨Nat.le_refl n, gs_row hG hz82' hz' (fun x h => by rw [hzs'] at h; cases h) (fun l g0 h => by rw [hzs'] at h; cases h) (fun l g0 h => by rw [hzs'] at h; cases h; exact ⟨_, rfl, cpy_fit (sp_o h60 p1) hg hg'⟩), fun k h _ => u_ne (by omega), _, rfl, trivial⟩
/-- what a shelf's entry is -/
def hcs (S : Nat → pm_E) (n y : Nat) : Prop := (∃ a b : Int32, S y = .inr (8, [.int a, .int b])) ∨ (∃ (z len : Nat) (g : Nat → Int64), S y = .inr (2, [.ref z]) ∧ 82 ≤ z ∧ z < n ∧ len ≤ 60 ∧ S z = .inl (1, len, .inr (.inl g))) ∨ (∃ (z len : Nat) (g : Nat → Int32), S y = .inr (7, [.ref z]) ∧ 82 ≤ z ∧ z < n ∧ len ≤ 60 ∧ S z = .inl (3, len, .inl g) ∧ ∀ j, j < len → fits .short (.int (g j)) = true)
theorem c_219 {d i e j m : Int32} {y y' : Nat} {a8 a9 : Value} (hG : GS θ S n) : PQ (j_SL L) (j_SV xs) j_EX mm_X11_copy 219 [.ref 0, .int d, .int i, .int e, .int j, .int m, .ref y, .ref y', a8, a9] [] S n 0 0 (PO θ S n (fun _ => True)) := by
  refine q_bipush rfl rfl ?_
  exact q_iret rfl rfl trivial ⟨Nat.le_refl n, hG, fun _ _ _ => rfl, _, rfl, trivial⟩
set_option maxHeartbeats 4000000 in
theorem c_134 {d i e j m : Int32} {y y' : Nat} {a8 a9 : Value} (hG : GS θ S n) (hy : y < n) (hy' : y' < n) (h : hcs S n y) (h' : hcs S n y') : PQ (j_SL L) (j_SV xs) j_EX mm_X11_copy 134 [.ref 0, .int d, .int i, .int e, .int j, .int m, .ref y, .ref y', a8, a9] [] S n 0 0 (PO θ S n (fun _ => True)) := by
  refine q_aload rfl rfl rfl ?_
  rcases h with ⟨a, b, hs⟩ | ⟨z, len, g, hs, -⟩ | ⟨z, len, g, hs, hz82, hz, h60, hzs, hg⟩
  · refine q_ins (idx := 287) (T := 7) rfl (by decide +kernel) hy hs rfl rfl rfl ?_
    exact q_ifeq rfl rfl (fun _ => c_219 hG) (fun c => absurd rfl c)
  · refine q_ins (idx := 287) (T := 7) rfl (by decide +kernel) hy hs rfl rfl rfl ?_
    exact q_ifeq rfl rfl (fun _ => c_219 hG) (fun c => absurd rfl c)
  · refine q_ins (idx := 287) (T := 7) rfl (by decide +kernel) hy hs rfl rfl rfl ?_
    refine q_ifeq rfl rfl (fun c => absurd c (by decide)) (fun _ => ?_)
    refine q_aload rfl rfl rfl ?_
    refine q_chk (idx := 287) (T := 7) rfl (by decide +kernel) hy hs rfl ?_
    refine q_ast8 rfl rfl rfl rfl ?_
    refine q_aload rfl rfl rfl ?_
    rcases h' with ⟨a', b', hs'⟩ | ⟨z', len', g', hs', -⟩ | ⟨z', len', g', hs', hz82', hz', h60', hzs', hg'⟩
    · refine q_ins (idx := 287) (T := 7) rfl (by decide +kernel) hy' hs' rfl rfl rfl ?_
      exact q_ifeq rfl rfl (fun _ => c_219 hG) (fun c => absurd rfl c)
    · refine q_ins (idx := 287) (T := 7) rfl (by decide +kernel) hy' hs' rfl rfl rfl ?_
      exact q_ifeq rfl rfl (fun _ => c_219 hG) (fun c => absurd rfl c)
    · refine q_ins (idx := 287) (T := 7) rfl (by decide +kernel) hy' hs' rfl rfl rfl ?_
      refine q_ifeq rfl rfl (fun c => absurd c (by decide)) (fun _ => ?_)
      refine q_aload rfl rfl rfl ?_
      refine q_chk (idx := 287) (T := 7) rfl (by decide +kernel) hy' hs' rfl ?_
      refine q_ast9 rfl rfl rfl rfl ?_
      exact c_tlS hG hy hy' hs hs' hz hz' hz82' h60 h60' hzs hzs' hg hg'
set_option maxHeartbeats 4000000 in
theorem c_49 {d i e j m : Int32} {y y' : Nat} {a8 a9 : Value} (hG : GS θ S n) (hy : y < n) (hy' : y' < n) (h : hcs S n y) (h' : hcs S n y') : PQ (j_SL L) (j_SV xs) j_EX mm_X11_copy 49 [.ref 0, .int d, .int i, .int e, .int j, .int m, .ref y, .ref y', a8, a9] [] S n 0 0 (PO θ S n (fun _ => True)) := by
  refine q_aload rfl rfl rfl ?_
  rcases id h with ⟨a, b, hs⟩ | ⟨z, len, g, hs, hz82, hz, h60, hzs⟩ | ⟨z, len, g, hs, -⟩
  · refine q_ins (idx := 283) (T := 2) rfl (by decide +kernel) hy hs rfl rfl rfl ?_
    exact q_ifeq rfl rfl (fun _ => c_134 hG hy hy' h h') (fun c => absurd rfl c)
  · refine q_ins (idx := 283) (T := 2) rfl (by decide +kernel) hy hs rfl rfl rfl ?_
    refine q_ifeq rfl rfl (fun c => absurd c (by decide)) (fun _ => ?_)
    refine q_aload rfl rfl rfl ?_
    refine q_chk (idx := 283) (T := 2) rfl (by decide +kernel) hy hs rfl ?_
    refine q_ast8 rfl rfl rfl rfl ?_
    refine q_aload rfl rfl rfl ?_
    rcases id h' with ⟨a', b', hs'⟩ | ⟨z', len', g', hs', hz82', hz', h60', hzs'⟩ | ⟨z', len', g', hs', -⟩
    · refine q_ins (idx := 283) (T := 2) rfl (by decide +kernel) hy' hs' rfl rfl rfl ?_
      exact q_ifeq rfl rfl (fun _ => c_134 hG hy hy' h h') (fun c => absurd rfl c)
    · refine q_ins (idx := 283) (T := 2) rfl (by decide +kernel) hy' hs' rfl rfl rfl ?_
      refine q_ifeq rfl rfl (fun c => absurd c (by decide)) (fun _ => ?_)
      refine q_aload rfl rfl rfl ?_
      refine q_chk (idx := 283) (T := 2) rfl (by decide +kernel) hy' hs' rfl ?_
      refine q_ast9 rfl rfl rfl rfl ?_
      exact c_tlL hG hy hy' hs hs' hz hz' hz82' h60 h60' hzs hzs'
    · refine q_ins (idx := 283) (T := 2) rfl (by decide +kernel) hy' hs' rfl rfl rfl ?_
      exact q_ifeq rfl rfl (fun _ => c_134 hG hy hy' h h') (fun c => absurd rfl c)
  · refine q_ins (idx := 283) (T := 2) rfl (by decide +kernel) hy hs rfl rfl rfl ?_
    exact q_ifeq rfl rfl (fun _ => c_134 hG hy hy' h h') (fun c => absurd rfl c)
set_option maxHeartbeats 4000000 in
theorem c_cp {d i e j m : Int32} (hG : GS θ S n) : PM (j_SL L) (j_SV xs) j_EX mm_X11_copy [.ref 0, .int d, .int i, .int e, .int j, .int m] S n (PO θ S n (fun _ => True)) := by
  have hn := gs_n hG
  obtain ⟨f, h43, hf⟩ := gs_43 hG
  obtain ⟨fs, k0, f0, f7, -⟩ := gs_0 hG
  have fin : ∀ u : Int32, PO θ S n (fun _ => True) (some (.int u)) S n := fun u => ⟨Nat.le_refl n, hG, fun _ _ _ => rfl, u, rfl, trivial⟩
  change PQ (j_SL L) (j_SV xs) j_EX mm_X11_copy 0 [.ref 0, .int d, .int i, .int e, .int j, .int m, pm_un, pm_un, pm_un, pm_un] [] S n 0 0 _
  have s18 : PQ (j_SL L) (j_SV xs) j_EX mm_X11_copy 18 [.ref 0, .int d, .int i, .int e, .int j, .int m, pm_un, pm_un, pm_un, pm_un] [] S n 0 0 (PO θ S n (fun _ => True)) := by
    refine q_iconst rfl rfl ?_
    exact q_iret rfl rfl trivial (fin _)
  refine q_iload_n rfl rfl rfl ?_
  refine q_bipush rfl rfl ?_
  refine q_cS rfl rfl (Or.inl rfl) rfl rfl trivial rfl rfl rfl rfl rfl c_wi ?_
  rintro r _ _ ⟨rfl, rfl, hr⟩
  rcases hr with ⟨-, rfl⟩ | ⟨q1, rfl⟩
  · show PQ (j_SL L) (j_SV xs) j_EX mm_X11_copy 6 _ [.int 0] S n 0 0 _
    exact q_ifeq rfl rfl (fun _ => s18) (fun c => absurd rfl c)
  show PQ (j_SL L) (j_SV xs) j_EX mm_X11_copy 6 _ [.int 1] S n 0 0 _
  refine q_ifeq rfl rfl (fun c => absurd c (by decide)) (fun _ => ?_)
  refine q_iload_n rfl rfl rfl ?_
  refine q_bipush rfl rfl ?_
  refine q_cS rfl rfl (Or.inl rfl) rfl rfl trivial rfl rfl rfl rfl rfl c_wi ?_
  rintro r _ _ ⟨rfl, rfl, hr⟩
  rcases hr with ⟨-, rfl⟩ | ⟨q2, rfl⟩
  · show PQ (j_SL L) (j_SV xs) j_EX mm_X11_copy 15 _ [.int 0] S n 0 0 _
    exact q_ifne rfl rfl (fun _ => s18) (fun c => absurd rfl c)
  show PQ (j_SL L) (j_SV xs) j_EX mm_X11_copy 15 _ [.int 1] S n 0 0 _
  refine q_ifne rfl rfl (fun c => absurd c (by decide)) (fun _ => ?_)
  obtain ⟨in1, d8⟩ := c_in8 q1
  obtain ⟨in2, e8⟩ := c_in8 q2
  refine q_aload_n rfl rfl rfl ?_
  refine q_getf rfl rfl (by omega) k0 f7 ?_
  refine q_iload_n rfl rfl rfl ?_
  refine q_aald rfl rfl (by omega) h43 in1 ?_
  cases hfd : f d.toNatClampNeg with
  | none =>
    refine q_anl6 rfl rfl rfl rfl ?_
    refine q_aload_n rfl rfl rfl ?_
    refine q_getf rfl rfl (by omega) k0 f7 ?_
    refine q_iload_n rfl rfl rfl ?_
    refine q_aald rfl rfl (by omega) h43 in2 ?_
    cases hfe : f e.toNatClampNeg with
    | none =>
      refine q_anl7 rfl rfl rfl rfl ?_
      refine q_aloadN rfl rfl rfl ?_
      refine q_ifnullN rfl ?_
      refine q_bipush rfl rfl ?_
      exact q_iret rfl rfl trivial (fin _)
    | some y' =>
      refine q_ast7 rfl rfl rfl rfl ?_
      refine q_aloadN rfl rfl rfl ?_
      refine q_ifnullN rfl ?_
      refine q_bipush rfl rfl ?_
      exact q_iret rfl rfl trivial (fin _)
  | some y =>
    refine q_ast6 rfl rfl rfl rfl ?_
    refine q_aload_n rfl rfl rfl ?_
    refine q_getf rfl rfl (by omega) k0 f7 ?_
    refine q_iload_n rfl rfl rfl ?_
    refine q_aald rfl rfl (by omega) h43 in2 ?_
    cases hfe : f e.toNatClampNeg with
    | none =>
      refine q_anl7 rfl rfl rfl rfl ?_
      refine q_aload rfl rfl rfl ?_
      refine q_ifnull rfl rfl ?_
      refine q_aloadN rfl rfl rfl ?_
      refine q_ifnonnullN rfl rfl ?_
      refine q_bipush rfl rfl ?_
      exact q_iret rfl rfl trivial (fin _)
    | some y' =>
      refine q_ast7 rfl rfl rfl rfl ?_
      refine q_aload rfl rfl rfl ?_
      refine q_ifnull rfl rfl ?_
      refine q_aload rfl rfl rfl ?_
      refine q_ifnonnull rfl ?_
      have x1 := xh_cs (hf _ d8 y hfd).2
      have x2 := xh_cs (hf _ e8 y' hfe).2
      exact c_49 hG x1.1 x2.1 x1.2 x2.2
end CP
