/-! the law's cases, printed by wip/gen_law.py -/
section LW
variable {θ : Th} {Ls : Nat} {xs : Nat → Int32} {S : Nat → pm_E} {n c s p : Nat} {a5 a6 a7 : Value} {K : q_K}
def RI (θ : Th) (l : List Nat) (S : Nat → pm_E) (n : Nat) : q_K := fun r S' n' => n = n' ∧ (∃ z : Int32, r = some (.int z)) ∧ GS θ S' n ∧ fr1 l S S' n
theorem ri_of {C : ck_Ct} {r0 : List Int} {r : Option Value} {S' : Nat → pm_E} {n' : Nat} (hP : C.2.2.2.1.all (fun P => Nat.beq P.2.1.1 0) = true) (h : KC θ C r0 S n r S' n') : RI θ C.2.2.2.2 S n r S' n' := by
  obtain ⟨h1, h2, h3, h4⟩ := kc_int hP h
  exact ⟨h1.symm, h2, h3, h4⟩
def RL (θ : Th) (l : List Nat) (S : Nat → pm_E) (n : Nat) : q_K := fun r S' n' => n = n' ∧ (∃ z : Int64, r = some (.long z)) ∧ GS θ S' n ∧ fr1 l S S' n
theorem rl_of {C : ck_Ct} {r0 : List Int} {r : Option Value} {S' : Nat → pm_E} {n' : Nat} (hP : C.2.2.2.1.all (fun P => Nat.beq P.2.1.1 3) = true) (h : KC θ C r0 S n r S' n') : RL θ C.2.2.2.2 S n r S' n' := by
  obtain ⟨h1, h2, h3, P, hp, h4, h5, -⟩ := h
  have e := Nat.eq_of_beq_eq_true (List.all_eq_true.mp hP P hp)
  unfold ck_rv at h5
  rw [e] at h5
  exact ⟨h1.symm, h5, h2, h3⟩
/-- the class's own program stays -/
def smf (S S' : Nat → pm_E) : Prop := ∀ k, k ∈ [0, 31, 1, 7, 8, 16, 2, 3, 4, 5, 6, 9, 10, 11, 12, 13, 14, 15, 17, 22, 23, 44, 45, 51, 55, 56, 57, 59, 60, 62, 63, 64] → S' k = S k
theorem smf_rf : smf S S := fun _ _ => rfl
theorem smf_tr {S1 S2 : Nat → pm_E} (h1 : smf S S1) (h2 : smf S1 S2) : smf S S2 := fun k hk => (h2 k hk).trans (h1 k hk)
theorem smf_of {l : List Nat} {S S' : Nat → pm_E} {n : Nat} (h : fr1 l S S' n) (hn : 82 ≤ n) (hl : [0, 31, 1, 7, 8, 16, 2, 3, 4, 5, 6, 9, 10, 11, 12, 13, 14, 15, 17, 22, 23, 44, 45, 51, 55, 56, 57, 59, 60, 62, 63, 64].all (fun k => Nat.ble k 81 && !(l.contains k)) = true) : smf S S' := fun k hk => by
  have e := List.all_eq_true.mp hl k hk
  rw [Bool.and_eq_true] at e
  have e1 := Nat.le_of_ble_eq_true e.1
  exact h k (by omega) (by simpa using e.2)
theorem smf_po {S S' : Nat → pm_E} (h : ∀ k, k < 82 → k ≠ 43 → S' k = S k) : smf S S' := fun k hk => h k (by simp only [List.mem_cons, List.not_mem_nil, or_false] at hk; omega) (by simp only [List.mem_cons, List.not_mem_nil, or_false] at hk; omega)
theorem sc_i {p k Ls : Nat} (h : p + 6 ≤ Ls) (hL : Ls < 2 ^ 31) (hk : k ≤ 5) : pm_inb (nI (p + k)) (j_SL Ls (5 : UInt32).toNat) = true := q_inN (m := Ls) (by omega) hL
theorem sc_v {p k Ls : Nat} {xs : Nat → Int32} (h : p + 6 ≤ Ls) (hL : Ls < 2 ^ 31) (hk : k ≤ 5) : j_SV xs (5 : UInt32).toNat (nI (p + k)).toNatClampNeg = xs (p + k) := by
  rw [nI_clamp (by omega)]
  rfl
/-- what the law asks behind a call that leaves θ -/
def GK (θ : Th) (Ls : Nat) (xs : Nat → Int32) (S : Nat → pm_E) (c s p : Nat) (K : q_K) : Prop := ∀ (S' : Nat → pm_E) (n' c' s' : Nat) (b5 b6 b7 : Value), GS θ S' n' → smf S S' → c' ≤ c + 5 → s' ≤ s + 124 → PQ (j_SL Ls) (j_SV xs) j_EX mm_L_law 1240 [.float 5, .ref 0, .ref 46, .ref 81, .int (nI p), b5, b6, b7] [] S' n' c' s' K
def GKw (Ls : Nat) (xs : Nat → Int32) (c s p : Nat) (K : q_K) : Prop := ∀ (θ' : Th) (S' : Nat → pm_E) (n' c' s' : Nat) (b5 b6 b7 : Value), GS θ' S' n' → c' ≤ c + 5 → s' ≤ s + 124 → PQ (j_SL Ls) (j_SV xs) j_EX mm_L_law 1240 [.float 5, .ref 0, .ref 46, .ref 81, .int (nI p), b5, b6, b7] [] S' n' c' s' K
set_option maxHeartbeats 4000000 in
theorem g_op4 (hG : GS θ S n) (hp : p + 6 ≤ Ls) (hL : Ls < 2 ^ 31) (hc : c + 5 ≤ 601024) (hs : s + 124 ≤ 7293033) (hk : GK θ Ls xs S c s p K) : PQ (j_SL Ls) (j_SV xs) j_EX mm_L_law 320 [.float 5, .ref 0, .ref 46, .ref 81, .int (nI p), a5, a6, a7] [] S n c s K := by
  refine q_aload_n rfl rfl rfl ?_
  refine q_aload_nF rfl rfl rfl ?_
  refine q_iload rfl rfl rfl ?_
  refine q_iconst rfl rfl ?_
  refine q_iadd rfl rfl (q_tn (z := nI (p + 1)) (nI_add p 1) ?_)
  refine q_ialdF rfl rfl (sc_i hp hL (by decide)) (q_tn (sc_v hp hL (by decide)) ?_)
  refine q_aload_nF rfl rfl rfl ?_
  refine q_iload rfl rfl rfl ?_
  refine q_iconst rfl rfl ?_
  refine q_iadd rfl rfl (q_tn (z := nI (p + 2)) (nI_add p 2) ?_)
  refine q_ialdF rfl rfl (sc_i hp hL (by decide)) (q_tn (sc_v hp hL (by decide)) ?_)
  refine q_aload_nF rfl rfl rfl ?_
  refine q_iload rfl rfl rfl ?_
  refine q_iconst rfl rfl ?_
  refine q_iadd rfl rfl (q_tn (z := nI (p + 3)) (nI_add p 3) ?_)
  refine q_ialdF rfl rfl (sc_i hp hL (by decide)) (q_tn (sc_v hp hL (by decide)) ?_)
  obtain ⟨ob0, hob0, -⟩ := gs_obj hG (k := 0) rfl
  have hn0 := gs_n hG
  refine q_cV rfl rfl (Or.inl rfl) rfl rfl rfl rfl (by omega) hob0 trivial rfl (c2 := c) (s2 := s) rfl rfl rfl rfl (pm_weak (q_kc w29 [((xs (p + 1))).toInt, ((xs (p + 2))).toInt, ((xs (p + 3))).toInt] hG ⟨rfl, ck_oku rfl rfl, ck_oku rfl rfl, ck_oku rfl rfl, trivial⟩ (ck_en_c (fullI _).1 (fullI _).2 (ck_en_c (fullI _).1 (fullI _).2 (ck_en_c (fullI _).1 (fullI _).2 ck_en_n))) (fun d hd => by cases hd)) (fun r S9 n9 h => ri_of rfl h)) ?_
  rintro r T1 _ ⟨rfl, ⟨zT1, rfl⟩, gT1, eT1⟩
  show PQ (j_SL Ls) (j_SV xs) j_EX mm_L_law 342 [.float 5, .ref 0, .ref 46, .ref 81, .int (nI p), a5, a6, a7] [.int zT1] T1 n c s K
  refine q_pop rfl rfl ?_
  refine q_aload_n rfl rfl rfl ?_
  refine q_aload_nF rfl rfl rfl ?_
  refine q_iload rfl rfl rfl ?_
  refine q_iconst rfl rfl ?_
  refine q_iadd rfl rfl (q_tn (z := nI (p + 1)) (nI_add p 1) ?_)
  refine q_ialdF rfl rfl (sc_i hp hL (by decide)) (q_tn (sc_v hp hL (by decide)) ?_)
  refine q_aload_nF rfl rfl rfl ?_
  refine q_iload rfl rfl rfl ?_
  refine q_iconst rfl rfl ?_
  refine q_iadd rfl rfl (q_tn (z := nI (p + 2)) (nI_add p 2) ?_)
  refine q_ialdF rfl rfl (sc_i hp hL (by decide)) (q_tn (sc_v hp hL (by decide)) ?_)
  refine q_aload_nF rfl rfl rfl ?_
  refine q_iload rfl rfl rfl ?_
  refine q_iconst rfl rfl ?_
  refine q_iadd rfl rfl (q_tn (z := nI (p + 3)) (nI_add p 3) ?_)
  refine q_ialdF rfl rfl (sc_i hp hL (by decide)) (q_tn (sc_v hp hL (by decide)) ?_)
  obtain ⟨ob1, hob1, -⟩ := gs_obj gT1 (k := 46) rfl
  have hn1 := gs_n gT1
  refine q_cV rfl rfl (Or.inl rfl) rfl rfl rfl rfl (by omega) hob1 trivial rfl (c2 := c) (s2 := s) rfl rfl rfl rfl (pm_weak (q_kc w178 [((xs (p + 1))).toInt, ((xs (p + 2))).toInt, ((xs (p + 3))).toInt] gT1 ⟨rfl, ck_oku rfl rfl, ck_oku rfl rfl, ck_oku rfl rfl, trivial⟩ (ck_en_c (fullI _).1 (fullI _).2 (ck_en_c (fullI _).1 (fullI _).2 (ck_en_c (fullI _).1 (fullI _).2 ck_en_n))) (fun d hd => by cases hd)) (fun r S9 n9 h => ri_of rfl h)) ?_
  rintro r T2 _ ⟨rfl, ⟨zT2, rfl⟩, gT2, eT2⟩
  show PQ (j_SL Ls) (j_SV xs) j_EX mm_L_law 365 [.float 5, .ref 0, .ref 46, .ref 81, .int (nI p), a5, a6, a7] [.int zT2] T2 n c s K
  refine q_pop rfl rfl ?_
  refine q_goto rfl ?_
  exact hk T2 n _ _ _ _ _ gT2 (smf_tr (smf_tr (smf_rf) (smf_of eT1 hn0 rfl)) (smf_of eT2 hn1 rfl)) (by omega) (by omega)
set_option maxHeartbeats 4000000 in
theorem g_op7 (hG : GS θ S n) (hp : p + 6 ≤ Ls) (hL : Ls < 2 ^ 31) (hc : c + 5 ≤ 601024) (hs : s + 124 ≤ 7293033) (hk : GK θ Ls xs S c s p K) : PQ (j_SL Ls) (j_SV xs) j_EX mm_L_law 407 [.float 5, .ref 0, .ref 46, .ref 81, .int (nI p), a5, a6, a7] [] S n c s K := by
  refine q_aload_n rfl rfl rfl ?_
  refine q_aload_nF rfl rfl rfl ?_
  refine q_iload rfl rfl rfl ?_
  refine q_iconst rfl rfl ?_
  refine q_iadd rfl rfl (q_tn (z := nI (p + 1)) (nI_add p 1) ?_)
  refine q_ialdF rfl rfl (sc_i hp hL (by decide)) (q_tn (sc_v hp hL (by decide)) ?_)
  refine q_aload_nF rfl rfl rfl ?_
  refine q_iload rfl rfl rfl ?_
  refine q_iconst rfl rfl ?_
  refine q_iadd rfl rfl (q_tn (z := nI (p + 2)) (nI_add p 2) ?_)
  refine q_ialdF rfl rfl (sc_i hp hL (by decide)) (q_tn (sc_v hp hL (by decide)) ?_)
  obtain ⟨ob0, hob0, -⟩ := gs_obj hG (k := 0) rfl
  have hn0 := gs_n hG
  refine q_cV rfl rfl (Or.inl rfl) rfl rfl rfl rfl (by omega) hob0 trivial rfl (c2 := c) (s2 := s) rfl rfl rfl rfl (pm_weak (q_kc w62 [((xs (p + 1))).toInt, ((xs (p + 2))).toInt] hG ⟨rfl, ck_oku rfl rfl, ck_oku rfl rfl, trivial⟩ (ck_en_c (fullI _).1 (fullI _).2 (ck_en_c (fullI _).1 (fullI _).2 ck_en_n)) (fun d hd => by cases hd)) (fun r S9 n9 h => ri_of rfl h)) ?_
  rintro r T1 _ ⟨rfl, ⟨zT1, rfl⟩, gT1, eT1⟩
  show PQ (j_SL Ls) (j_SV xs) j_EX mm_L_law 423 [.float 5, .ref 0, .ref 46, .ref 81, .int (nI p), a5, a6, a7] [.int zT1] T1 n c s K
  refine q_pop rfl rfl ?_
  refine q_aload_n rfl rfl rfl ?_
  refine q_aload_nF rfl rfl rfl ?_
  refine q_iload rfl rfl rfl ?_
  refine q_iconst rfl rfl ?_
  refine q_iadd rfl rfl (q_tn (z := nI (p + 1)) (nI_add p 1) ?_)
  refine q_ialdF rfl rfl (sc_i hp hL (by decide)) (q_tn (sc_v hp hL (by decide)) ?_)
  refine q_aload_nF rfl rfl rfl ?_
  refine q_iload rfl rfl rfl ?_
  refine q_iconst rfl rfl ?_
  refine q_iadd rfl rfl (q_tn (z := nI (p + 2)) (nI_add p 2) ?_)
  refine q_ialdF rfl rfl (sc_i hp hL (by decide)) (q_tn (sc_v hp hL (by decide)) ?_)
  obtain ⟨ob1, hob1, -⟩ := gs_obj gT1 (k := 46) rfl
  have hn1 := gs_n gT1
  refine q_cV rfl rfl (Or.inl rfl) rfl rfl rfl rfl (by omega) hob1 trivial rfl (c2 := c) (s2 := s) rfl rfl rfl rfl (pm_weak (q_kc w196 [((xs (p + 1))).toInt, ((xs (p + 2))).toInt] gT1 ⟨rfl, ck_oku rfl rfl, ck_oku rfl rfl, trivial⟩ (ck_en_c (fullI _).1 (fullI _).2 (ck_en_c (fullI _).1 (fullI _).2 ck_en_n)) (fun d hd => by cases hd)) (fun r S9 n9 h => ri_of rfl h)) ?_
  rintro r T2 _ ⟨rfl, ⟨zT2, rfl⟩, gT2, eT2⟩
  show PQ (j_SL Ls) (j_SV xs) j_EX mm_L_law 440 [.float 5, .ref 0, .ref 46, .ref 81, .int (nI p), a5, a6, a7] [.int zT2] T2 n c s K
  refine q_pop rfl rfl ?_
  refine q_goto rfl ?_
  exact hk T2 n _ _ _ _ _ gT2 (smf_tr (smf_tr (smf_rf) (smf_of eT1 hn0 rfl)) (smf_of eT2 hn1 rfl)) (by omega) (by omega)
set_option maxHeartbeats 4000000 in
theorem g_op18 (hG : GS θ S n) (hp : p + 6 ≤ Ls) (hL : Ls < 2 ^ 31) (hc : c + 5 ≤ 601024) (hs : s + 124 ≤ 7293033) (hk : GK θ Ls xs S c s p K) : PQ (j_SL Ls) (j_SV xs) j_EX mm_L_law 814 [.float 5, .ref 0, .ref 46, .ref 81, .int (nI p), a5, a6, a7] [] S n c s K := by
  refine q_aload_n rfl rfl rfl ?_
  refine q_aload_nF rfl rfl rfl ?_
  refine q_iload rfl rfl rfl ?_
  refine q_iconst rfl rfl ?_
  refine q_iadd rfl rfl (q_tn (z := nI (p + 1)) (nI_add p 1) ?_)
  refine q_ialdF rfl rfl (sc_i hp hL (by decide)) (q_tn (sc_v hp hL (by decide)) ?_)
  refine q_aload_nF rfl rfl rfl ?_
  refine q_iload rfl rfl rfl ?_
  refine q_iconst rfl rfl ?_
  refine q_iadd rfl rfl (q_tn (z := nI (p + 2)) (nI_add p 2) ?_)
  refine q_ialdF rfl rfl (sc_i hp hL (by decide)) (q_tn (sc_v hp hL (by decide)) ?_)
  obtain ⟨ob0, hob0, -⟩ := gs_obj hG (k := 0) rfl
  have hn0 := gs_n hG
  refine q_cV rfl rfl (Or.inl rfl) rfl rfl rfl rfl (by omega) hob0 trivial rfl (c2 := c) (s2 := s) rfl rfl rfl rfl (pm_weak (q_kc w147 [((xs (p + 1))).toInt, ((xs (p + 2))).toInt] hG ⟨rfl, ck_oku rfl rfl, ck_oku rfl rfl, trivial⟩ (ck_en_c (fullI _).1 (fullI _).2 (ck_en_c (fullI _).1 (fullI _).2 ck_en_n)) (fun d hd => by cases hd)) (fun r S9 n9 h => ri_of rfl h)) ?_
  rintro r T1 _ ⟨rfl, ⟨zT1, rfl⟩, gT1, eT1⟩
  show PQ (j_SL Ls) (j_SV xs) j_EX mm_L_law 830 [.float 5, .ref 0, .ref 46, .ref 81, .int (nI p), a5, a6, a7] [.int zT1] T1 n c s K
  refine q_pop rfl rfl ?_
  refine q_aload_n rfl rfl rfl ?_
  refine q_aload_nF rfl rfl rfl ?_
  refine q_iload rfl rfl rfl ?_
  refine q_iconst rfl rfl ?_
  refine q_iadd rfl rfl (q_tn (z := nI (p + 1)) (nI_add p 1) ?_)
  refine q_ialdF rfl rfl (sc_i hp hL (by decide)) (q_tn (sc_v hp hL (by decide)) ?_)
  refine q_aload_nF rfl rfl rfl ?_
  refine q_iload rfl rfl rfl ?_
  refine q_iconst rfl rfl ?_
  refine q_iadd rfl rfl (q_tn (z := nI (p + 2)) (nI_add p 2) ?_)
  refine q_ialdF rfl rfl (sc_i hp hL (by decide)) (q_tn (sc_v hp hL (by decide)) ?_)
  obtain ⟨ob1, hob1, -⟩ := gs_obj gT1 (k := 46) rfl
  have hn1 := gs_n gT1
  refine q_cV rfl rfl (Or.inl rfl) rfl rfl rfl rfl (by omega) hob1 trivial rfl (c2 := c) (s2 := s) rfl rfl rfl rfl (pm_weak (q_kc w266 [((xs (p + 1))).toInt, ((xs (p + 2))).toInt] gT1 ⟨rfl, ck_oku rfl rfl, ck_oku rfl rfl, trivial⟩ (ck_en_c (fullI _).1 (fullI _).2 (ck_en_c (fullI _).1 (fullI _).2 ck_en_n)) (fun d hd => by cases hd)) (fun r S9 n9 h => ri_of rfl h)) ?_
  rintro r T2 _ ⟨rfl, ⟨zT2, rfl⟩, gT2, eT2⟩
  show PQ (j_SL Ls) (j_SV xs) j_EX mm_L_law 847 [.float 5, .ref 0, .ref 46, .ref 81, .int (nI p), a5, a6, a7] [.int zT2] T2 n c s K
  refine q_pop rfl rfl ?_
  refine q_goto rfl ?_
  exact hk T2 n _ _ _ _ _ gT2 (smf_tr (smf_tr (smf_rf) (smf_of eT1 hn0 rfl)) (smf_of eT2 hn1 rfl)) (by omega) (by omega)
set_option maxHeartbeats 4000000 in
theorem g_op19 (hG : GS θ S n) (hp : p + 6 ≤ Ls) (hL : Ls < 2 ^ 31) (hc : c + 5 ≤ 601024) (hs : s + 124 ≤ 7293033) (hk : GK θ Ls xs S c s p K) : PQ (j_SL Ls) (j_SV xs) j_EX mm_L_law 851 [.float 5, .ref 0, .ref 46, .ref 81, .int (nI p), a5, a6, a7] [] S n c s K := by
  refine q_aload_n rfl rfl rfl ?_
  refine q_aload_nF rfl rfl rfl ?_
  refine q_iload rfl rfl rfl ?_
  refine q_iconst rfl rfl ?_
  refine q_iadd rfl rfl (q_tn (z := nI (p + 1)) (nI_add p 1) ?_)
  refine q_ialdF rfl rfl (sc_i hp hL (by decide)) (q_tn (sc_v hp hL (by decide)) ?_)
  refine q_aload_nF rfl rfl rfl ?_
  refine q_iload rfl rfl rfl ?_
  refine q_iconst rfl rfl ?_
  refine q_iadd rfl rfl (q_tn (z := nI (p + 2)) (nI_add p 2) ?_)
  refine q_ialdF rfl rfl (sc_i hp hL (by decide)) (q_tn (sc_v hp hL (by decide)) ?_)
  refine q_aload_nF rfl rfl rfl ?_
  refine q_iload rfl rfl rfl ?_
  refine q_iconst rfl rfl ?_
  refine q_iadd rfl rfl (q_tn (z := nI (p + 3)) (nI_add p 3) ?_)
  refine q_ialdF rfl rfl (sc_i hp hL (by decide)) (q_tn (sc_v hp hL (by decide)) ?_)
  have key1 : ∀ v : Int32, (0 : Int) ≤ v.toInt → v.toInt ≤ 1 → PQ (j_SL Ls) (j_SV xs) j_EX mm_L_law 878 [.float 5, .ref 0, .ref 46, .ref 81, .int (nI p), a5, a6, a7] [.int v, .int (xs (p + 2)), .int (xs (p + 1)), .ref 0] S n c s K := by
    intro v v0 v1
    obtain ⟨ob0, hob0, -⟩ := gs_obj hG (k := 0) rfl
    have hn0 := gs_n hG
    refine q_cV rfl rfl (Or.inl rfl) rfl rfl rfl rfl (by omega) hob0 trivial rfl (c2 := c) (s2 := s) rfl rfl rfl rfl (pm_weak (q_kc w151 [((xs (p + 1))).toInt, ((xs (p + 2))).toInt, v.toInt] hG ⟨rfl, ck_oku rfl rfl, ck_oku rfl rfl, ck_oku rfl rfl, trivial⟩ (ck_en_c (fullI _).1 (fullI _).2 (ck_en_c (fullI _).1 (fullI _).2 (ck_en_c v0 v1 ck_en_n))) (fun d hd => by cases hd)) (fun r S9 n9 h => ri_of rfl h)) ?_
    rintro r T1 _ ⟨rfl, ⟨zT1, rfl⟩, gT1, eT1⟩
    show PQ (j_SL Ls) (j_SV xs) j_EX mm_L_law 881 [.float 5, .ref 0, .ref 46, .ref 81, .int (nI p), a5, a6, a7] [.int zT1] T1 n c s K
    refine q_pop rfl rfl ?_
    refine q_aload_n rfl rfl rfl ?_
    refine q_aload_nF rfl rfl rfl ?_
    refine q_iload rfl rfl rfl ?_
    refine q_iconst rfl rfl ?_
    refine q_iadd rfl rfl (q_tn (z := nI (p + 1)) (nI_add p 1) ?_)
    refine q_ialdF rfl rfl (sc_i hp hL (by decide)) (q_tn (sc_v hp hL (by decide)) ?_)
    refine q_aload_nF rfl rfl rfl ?_
    refine q_iload rfl rfl rfl ?_
    refine q_iconst rfl rfl ?_
    refine q_iadd rfl rfl (q_tn (z := nI (p + 2)) (nI_add p 2) ?_)
    refine q_ialdF rfl rfl (sc_i hp hL (by decide)) (q_tn (sc_v hp hL (by decide)) ?_)
    refine q_aload_nF rfl rfl rfl ?_
    refine q_iload rfl rfl rfl ?_
    refine q_iconst rfl rfl ?_
    refine q_iadd rfl rfl (q_tn (z := nI (p + 3)) (nI_add p 3) ?_)
    refine q_ialdF rfl rfl (sc_i hp hL (by decide)) (q_tn (sc_v hp hL (by decide)) ?_)
    have key2 : ∀ v : Int32, (0 : Int) ≤ v.toInt → v.toInt ≤ 1 → PQ (j_SL Ls) (j_SV xs) j_EX mm_L_law 909 [.float 5, .ref 0, .ref 46, .ref 81, .int (nI p), a5, a6, a7] [.int v, .int (xs (p + 2)), .int (xs (p + 1)), .ref 46] T1 n c s K := by
      intro v v0 v1
      obtain ⟨ob1, hob1, -⟩ := gs_obj gT1 (k := 46) rfl
      have hn1 := gs_n gT1
      refine q_cV rfl rfl (Or.inl rfl) rfl rfl rfl rfl (by omega) hob1 trivial rfl (c2 := c) (s2 := s) rfl rfl rfl rfl (pm_weak (q_kc w267 [((xs (p + 1))).toInt, ((xs (p + 2))).toInt, v.toInt] gT1 ⟨rfl, ck_oku rfl rfl, ck_oku rfl rfl, ck_oku rfl rfl, trivial⟩ (ck_en_c (fullI _).1 (fullI _).2 (ck_en_c (fullI _).1 (fullI _).2 (ck_en_c v0 v1 ck_en_n))) (fun d hd => by cases hd)) (fun r S9 n9 h => ri_of rfl h)) ?_
      rintro r T2 _ ⟨rfl, ⟨zT2, rfl⟩, gT2, eT2⟩
      show PQ (j_SL Ls) (j_SV xs) j_EX mm_L_law 912 [.float 5, .ref 0, .ref 46, .ref 81, .int (nI p), a5, a6, a7] [.int zT2] T2 n c s K
      refine q_pop rfl rfl ?_
      refine q_goto rfl ?_
      exact hk T2 n _ _ _ _ _ gT2 (smf_tr (smf_tr (smf_rf) (smf_of eT1 hn0 rfl)) (smf_of eT2 hn1 rfl)) (by omega) (by omega)
    exact q_ifeq rfl rfl (fun _ => q_iconst rfl rfl (key2 0 (by decide) (by decide))) (fun _ => q_iconst rfl rfl (q_goto rfl (key2 1 (by decide) (by decide))))
  exact q_ifeq rfl rfl (fun _ => q_iconst rfl rfl (key1 0 (by decide) (by decide))) (fun _ => q_iconst rfl rfl (q_goto rfl (key1 1 (by decide) (by decide))))
set_option maxHeartbeats 4000000 in
theorem g_op23 (hG : GS θ S n) (hp : p + 6 ≤ Ls) (hL : Ls < 2 ^ 31) (hc : c + 5 ≤ 601024) (hs : s + 124 ≤ 7293033) (hk : GK θ Ls xs S c s p K) : PQ (j_SL Ls) (j_SV xs) j_EX mm_L_law 967 [.float 5, .ref 0, .ref 46, .ref 81, .int (nI p), a5, a6, a7] [] S n c s K := by
  refine q_aload_n rfl rfl rfl ?_
  refine q_aload_nF rfl rfl rfl ?_
  refine q_iload rfl rfl rfl ?_
  refine q_iconst rfl rfl ?_
  refine q_iadd rfl rfl (q_tn (z := nI (p + 1)) (nI_add p 1) ?_)
  refine q_ialdF rfl rfl (sc_i hp hL (by decide)) (q_tn (sc_v hp hL (by decide)) ?_)
  refine q_aload_nF rfl rfl rfl ?_
  refine q_iload rfl rfl rfl ?_
  refine q_iconst rfl rfl ?_
  refine q_iadd rfl rfl (q_tn (z := nI (p + 2)) (nI_add p 2) ?_)
  refine q_ialdF rfl rfl (sc_i hp hL (by decide)) (q_tn (sc_v hp hL (by decide)) ?_)
  refine q_aload_nF rfl rfl rfl ?_
  refine q_iload rfl rfl rfl ?_
  refine q_iconst rfl rfl ?_
  refine q_iadd rfl rfl (q_tn (z := nI (p + 3)) (nI_add p 3) ?_)
  refine q_ialdF rfl rfl (sc_i hp hL (by decide)) (q_tn (sc_v hp hL (by decide)) ?_)
  refine q_aload_nF rfl rfl rfl ?_
  refine q_iload rfl rfl rfl ?_
  refine q_iconst rfl rfl ?_
  refine q_iadd rfl rfl (q_tn (z := nI (p + 4)) (nI_add p 4) ?_)
  refine q_ialdF rfl rfl (sc_i hp hL (by decide)) (q_tn (sc_v hp hL (by decide)) ?_)
  obtain ⟨ob0, hob0, -⟩ := gs_obj hG (k := 0) rfl
  have hn0 := gs_n hG
  refine q_cV rfl rfl (Or.inl rfl) rfl rfl rfl rfl (by omega) hob0 ⟨Nat.ble_eq_true_of_le (show c + 5 ≤ 601024 by omega), Nat.ble_eq_true_of_le (show s + 124 ≤ 7293033 by omega)⟩ rfl (c2 := c + 5) (s2 := s + 124) rfl rfl rfl rfl (c_kp hG) ?_
  rintro r T1 nT1 ⟨leT1, gT1, eT1, zT1, rfl, -⟩
  show PQ (j_SL Ls) (j_SV xs) j_EX mm_L_law 995 [.float 5, .ref 0, .ref 46, .ref 81, .int (nI p), a5, a6, a7] [.int zT1] T1 nT1 (c + 5) (s + 124) K
  refine q_pop rfl rfl ?_
  refine q_aload_n rfl rfl rfl ?_
  refine q_aload_nF rfl rfl rfl ?_
  refine q_iload rfl rfl rfl ?_
  refine q_iconst rfl rfl ?_
  refine q_iadd rfl rfl (q_tn (z := nI (p + 1)) (nI_add p 1) ?_)
  refine q_ialdF rfl rfl (sc_i hp hL (by decide)) (q_tn (sc_v hp hL (by decide)) ?_)
  refine q_aload_nF rfl rfl rfl ?_
  refine q_iload rfl rfl rfl ?_
  refine q_iconst rfl rfl ?_
  refine q_iadd rfl rfl (q_tn (z := nI (p + 2)) (nI_add p 2) ?_)
  refine q_ialdF rfl rfl (sc_i hp hL (by decide)) (q_tn (sc_v hp hL (by decide)) ?_)
  refine q_aload_nF rfl rfl rfl ?_
  refine q_iload rfl rfl rfl ?_
  refine q_iconst rfl rfl ?_
  refine q_iadd rfl rfl (q_tn (z := nI (p + 3)) (nI_add p 3) ?_)
  refine q_ialdF rfl rfl (sc_i hp hL (by decide)) (q_tn (sc_v hp hL (by decide)) ?_)
  refine q_aload_nF rfl rfl rfl ?_
  refine q_iload rfl rfl rfl ?_
  refine q_iconst rfl rfl ?_
  refine q_iadd rfl rfl (q_tn (z := nI (p + 4)) (nI_add p 4) ?_)
  refine q_ialdF rfl rfl (sc_i hp hL (by decide)) (q_tn (sc_v hp hL (by decide)) ?_)
  obtain ⟨ob1, hob1, -⟩ := gs_obj gT1 (k := 46) rfl
  have hn1 := gs_n gT1
  refine q_cV rfl rfl (Or.inl rfl) rfl rfl rfl rfl (by omega) hob1 trivial rfl (c2 := (c + 5)) (s2 := (s + 124)) rfl rfl rfl rfl (pm_weak (q_kc w277 [((xs (p + 1))).toInt, ((xs (p + 2))).toInt, ((xs (p + 3))).toInt, ((xs (p + 4))).toInt] gT1 ⟨rfl, ck_oku rfl rfl, ck_oku rfl rfl, ck_oku rfl rfl, ck_oku rfl rfl, trivial⟩ (ck_en_c (fullI _).1 (fullI _).2 (ck_en_c (fullI _).1 (fullI _).2 (ck_en_c (fullI _).1 (fullI _).2 (ck_en_c (fullI _).1 (fullI _).2 ck_en_n)))) (fun d hd => by cases hd)) (fun r S9 n9 h => ri_of rfl h)) ?_
  rintro r T2 _ ⟨rfl, ⟨zT2, rfl⟩, gT2, eT2⟩
  show PQ (j_SL Ls) (j_SV xs) j_EX mm_L_law 1024 [.float 5, .ref 0, .ref 46, .ref 81, .int (nI p), a5, a6, a7] [.int zT2] T2 nT1 (c + 5) (s + 124) K
  refine q_pop rfl rfl ?_
  refine q_goto rfl ?_
  exact hk T2 nT1 _ _ _ _ _ gT2 (smf_tr (smf_tr (smf_rf) (smf_po eT1)) (smf_of eT2 hn1 rfl)) (by omega) (by omega)
set_option maxHeartbeats 4000000 in
theorem g_op24 (hG : GS θ S n) (hp : p + 6 ≤ Ls) (hL : Ls < 2 ^ 31) (hc : c + 5 ≤ 601024) (hs : s + 124 ≤ 7293033) (hk : GK θ Ls xs S c s p K) : PQ (j_SL Ls) (j_SV xs) j_EX mm_L_law 1028 [.float 5, .ref 0, .ref 46, .ref 81, .int (nI p), a5, a6, a7] [] S n c s K := by
  refine q_aload_n rfl rfl rfl ?_
  refine q_aload_nF rfl rfl rfl ?_
  refine q_iload rfl rfl rfl ?_
  refine q_iconst rfl rfl ?_
  refine q_iadd rfl rfl (q_tn (z := nI (p + 1)) (nI_add p 1) ?_)
  refine q_ialdF rfl rfl (sc_i hp hL (by decide)) (q_tn (sc_v hp hL (by decide)) ?_)
  refine q_aload_nF rfl rfl rfl ?_
  refine q_iload rfl rfl rfl ?_
  refine q_iconst rfl rfl ?_
  refine q_iadd rfl rfl (q_tn (z := nI (p + 2)) (nI_add p 2) ?_)
  refine q_ialdF rfl rfl (sc_i hp hL (by decide)) (q_tn (sc_v hp hL (by decide)) ?_)
  refine q_aload_nF rfl rfl rfl ?_
  refine q_iload rfl rfl rfl ?_
  refine q_iconst rfl rfl ?_
  refine q_iadd rfl rfl (q_tn (z := nI (p + 3)) (nI_add p 3) ?_)
  refine q_ialdF rfl rfl (sc_i hp hL (by decide)) (q_tn (sc_v hp hL (by decide)) ?_)
  obtain ⟨ob0, hob0, -⟩ := gs_obj hG (k := 0) rfl
  have hn0 := gs_n hG
  refine q_cV rfl rfl (Or.inl rfl) rfl rfl rfl rfl (by omega) hob0 ⟨Nat.ble_eq_true_of_le (show c + 4 ≤ 601024 by omega), Nat.ble_eq_true_of_le (show s + 122 ≤ 7293033 by omega)⟩ rfl (c2 := c + 4) (s2 := s + 122) rfl rfl rfl rfl (c_mk hG) ?_
  rintro r T1 nT1 ⟨leT1, gT1, eT1, zT1, rfl, -⟩
  show PQ (j_SL Ls) (j_SV xs) j_EX mm_L_law 1050 [.float 5, .ref 0, .ref 46, .ref 81, .int (nI p), a5, a6, a7] [.int zT1] T1 nT1 (c + 4) (s + 122) K
  refine q_pop rfl rfl ?_
  refine q_aload_n rfl rfl rfl ?_
  refine q_aload_nF rfl rfl rfl ?_
  refine q_iload rfl rfl rfl ?_
  refine q_iconst rfl rfl ?_
  refine q_iadd rfl rfl (q_tn (z := nI (p + 1)) (nI_add p 1) ?_)
  refine q_ialdF rfl rfl (sc_i hp hL (by decide)) (q_tn (sc_v hp hL (by decide)) ?_)
  refine q_aload_nF rfl rfl rfl ?_
  refine q_iload rfl rfl rfl ?_
  refine q_iconst rfl rfl ?_
  refine q_iadd rfl rfl (q_tn (z := nI (p + 2)) (nI_add p 2) ?_)
  refine q_ialdF rfl rfl (sc_i hp hL (by decide)) (q_tn (sc_v hp hL (by decide)) ?_)
  refine q_aload_nF rfl rfl rfl ?_
  refine q_iload rfl rfl rfl ?_
  refine q_iconst rfl rfl ?_
  refine q_iadd rfl rfl (q_tn (z := nI (p + 3)) (nI_add p 3) ?_)
  refine q_ialdF rfl rfl (sc_i hp hL (by decide)) (q_tn (sc_v hp hL (by decide)) ?_)
  obtain ⟨ob1, hob1, -⟩ := gs_obj gT1 (k := 46) rfl
  have hn1 := gs_n gT1
  refine q_cV rfl rfl (Or.inl rfl) rfl rfl rfl rfl (by omega) hob1 trivial rfl (c2 := (c + 4)) (s2 := (s + 122)) rfl rfl rfl rfl (pm_weak (q_kc w279 [((xs (p + 1))).toInt, ((xs (p + 2))).toInt, ((xs (p + 3))).toInt] gT1 ⟨rfl, ck_oku rfl rfl, ck_oku rfl rfl, ck_oku rfl rfl, trivial⟩ (ck_en_c (fullI _).1 (fullI _).2 (ck_en_c (fullI _).1 (fullI _).2 (ck_en_c (fullI _).1 (fullI _).2 ck_en_n))) (fun d hd => by cases hd)) (fun r S9 n9 h => ri_of rfl h)) ?_
  rintro r T2 _ ⟨rfl, ⟨zT2, rfl⟩, gT2, eT2⟩
  show PQ (j_SL Ls) (j_SV xs) j_EX mm_L_law 1073 [.float 5, .ref 0, .ref 46, .ref 81, .int (nI p), a5, a6, a7] [.int zT2] T2 nT1 (c + 4) (s + 122) K
  refine q_pop rfl rfl ?_
  refine q_goto rfl ?_
  exact hk T2 nT1 _ _ _ _ _ gT2 (smf_tr (smf_tr (smf_rf) (smf_po eT1)) (smf_of eT2 hn1 rfl)) (by omega) (by omega)
set_option maxHeartbeats 4000000 in
theorem g_op26 (hG : GS θ S n) (hp : p + 6 ≤ Ls) (hL : Ls < 2 ^ 31) (hc : c + 5 ≤ 601024) (hs : s + 124 ≤ 7293033) (hk : GK θ Ls xs S c s p K) : PQ (j_SL Ls) (j_SV xs) j_EX mm_L_law 1117 [.float 5, .ref 0, .ref 46, .ref 81, .int (nI p), a5, a6, a7] [] S n c s K := by
  refine q_aload_n rfl rfl rfl ?_
  refine q_aload_nF rfl rfl rfl ?_
  refine q_iload rfl rfl rfl ?_
  refine q_iconst rfl rfl ?_
  refine q_iadd rfl rfl (q_tn (z := nI (p + 1)) (nI_add p 1) ?_)
  refine q_ialdF rfl rfl (sc_i hp hL (by decide)) (q_tn (sc_v hp hL (by decide)) ?_)
  refine q_aload_nF rfl rfl rfl ?_
  refine q_iload rfl rfl rfl ?_
  refine q_iconst rfl rfl ?_
  refine q_iadd rfl rfl (q_tn (z := nI (p + 2)) (nI_add p 2) ?_)
  refine q_ialdF rfl rfl (sc_i hp hL (by decide)) (q_tn (sc_v hp hL (by decide)) ?_)
  refine q_aload_nF rfl rfl rfl ?_
  refine q_iload rfl rfl rfl ?_
  refine q_iconst rfl rfl ?_
  refine q_iadd rfl rfl (q_tn (z := nI (p + 3)) (nI_add p 3) ?_)
  refine q_ialdF rfl rfl (sc_i hp hL (by decide)) (q_tn (sc_v hp hL (by decide)) ?_)
  refine q_aload_nF rfl rfl rfl ?_
  refine q_iload rfl rfl rfl ?_
  refine q_iconst rfl rfl ?_
  refine q_iadd rfl rfl (q_tn (z := nI (p + 4)) (nI_add p 4) ?_)
  refine q_ialdF rfl rfl (sc_i hp hL (by decide)) (q_tn (sc_v hp hL (by decide)) ?_)
  refine q_aload_nF rfl rfl rfl ?_
  refine q_iload rfl rfl rfl ?_
  refine q_iconst rfl rfl ?_
  refine q_iadd rfl rfl (q_tn (z := nI (p + 5)) (nI_add p 5) ?_)
  refine q_ialdF rfl rfl (sc_i hp hL (by decide)) (q_tn (sc_v hp hL (by decide)) ?_)
  obtain ⟨ob0, hob0, -⟩ := gs_obj hG (k := 0) rfl
  have hn0 := gs_n hG
  refine q_cV rfl rfl (Or.inl rfl) rfl rfl rfl rfl (by omega) hob0 trivial rfl (c2 := c) (s2 := s) rfl rfl rfl rfl (c_cp hG) ?_
  rintro r T1 nT1 ⟨leT1, gT1, eT1, zT1, rfl, -⟩
  show PQ (j_SL Ls) (j_SV xs) j_EX mm_L_law 1151 [.float 5, .ref 0, .ref 46, .ref 81, .int (nI p), a5, a6, a7] [.int zT1] T1 nT1 c s K
  refine q_pop rfl rfl ?_
  refine q_aload_n rfl rfl rfl ?_
  refine q_aload_nF rfl rfl rfl ?_
  refine q_iload rfl rfl rfl ?_
  refine q_iconst rfl rfl ?_
  refine q_iadd rfl rfl (q_tn (z := nI (p + 1)) (nI_add p 1) ?_)
  refine q_ialdF rfl rfl (sc_i hp hL (by decide)) (q_tn (sc_v hp hL (by decide)) ?_)
  refine q_aload_nF rfl rfl rfl ?_
  refine q_iload rfl rfl rfl ?_
  refine q_iconst rfl rfl ?_
  refine q_iadd rfl rfl (q_tn (z := nI (p + 2)) (nI_add p 2) ?_)
  refine q_ialdF rfl rfl (sc_i hp hL (by decide)) (q_tn (sc_v hp hL (by decide)) ?_)
  refine q_aload_nF rfl rfl rfl ?_
  refine q_iload rfl rfl rfl ?_
  refine q_iconst rfl rfl ?_
  refine q_iadd rfl rfl (q_tn (z := nI (p + 3)) (nI_add p 3) ?_)
  refine q_ialdF rfl rfl (sc_i hp hL (by decide)) (q_tn (sc_v hp hL (by decide)) ?_)
  refine q_aload_nF rfl rfl rfl ?_
  refine q_iload rfl rfl rfl ?_
  refine q_iconst rfl rfl ?_
  refine q_iadd rfl rfl (q_tn (z := nI (p + 4)) (nI_add p 4) ?_)
  refine q_ialdF rfl rfl (sc_i hp hL (by decide)) (q_tn (sc_v hp hL (by decide)) ?_)
  refine q_aload_nF rfl rfl rfl ?_
  refine q_iload rfl rfl rfl ?_
  refine q_iconst rfl rfl ?_
  refine q_iadd rfl rfl (q_tn (z := nI (p + 5)) (nI_add p 5) ?_)
  refine q_ialdF rfl rfl (sc_i hp hL (by decide)) (q_tn (sc_v hp hL (by decide)) ?_)
  obtain ⟨ob1, hob1, -⟩ := gs_obj gT1 (k := 46) rfl
  have hn1 := gs_n gT1
  refine q_cV rfl rfl (Or.inl rfl) rfl rfl rfl rfl (by omega) hob1 trivial rfl (c2 := c) (s2 := s) rfl rfl rfl rfl (l_rcopy gT1) ?_
  rintro r T2 _ ⟨rfl, ⟨zT2, rfl⟩, gT2, eT2⟩
  show PQ (j_SL Ls) (j_SV xs) j_EX mm_L_law 1186 [.float 5, .ref 0, .ref 46, .ref 81, .int (nI p), a5, a6, a7] [.int zT2] T2 nT1 c s K
  refine q_pop rfl rfl ?_
  refine q_goto rfl ?_
  exact hk T2 nT1 _ _ _ _ _ gT2 (smf_tr (smf_tr (smf_rf) (smf_po eT1)) (smf_of eT2 hn1 rfl)) (by omega) (by omega)
set_option maxHeartbeats 4000000 in
theorem g_op27 (hG : GS θ S n) (hp : p + 6 ≤ Ls) (hL : Ls < 2 ^ 31) (hc : c + 5 ≤ 601024) (hs : s + 124 ≤ 7293033) (hk : GK θ Ls xs S c s p K) : PQ (j_SL Ls) (j_SV xs) j_EX mm_L_law 1190 [.float 5, .ref 0, .ref 46, .ref 81, .int (nI p), a5, a6, a7] [] S n c s K := by
  refine q_aload_n rfl rfl rfl ?_
  refine q_aload_nF rfl rfl rfl ?_
  refine q_iload rfl rfl rfl ?_
  refine q_iconst rfl rfl ?_
  refine q_iadd rfl rfl (q_tn (z := nI (p + 1)) (nI_add p 1) ?_)
  refine q_ialdF rfl rfl (sc_i hp hL (by decide)) (q_tn (sc_v hp hL (by decide)) ?_)
  obtain ⟨ob0, hob0, -⟩ := gs_obj hG (k := 0) rfl
  have hn0 := gs_n hG
  refine q_cV rfl rfl (Or.inl rfl) rfl rfl rfl rfl (by omega) hob0 trivial rfl (c2 := c) (s2 := s) rfl rfl rfl rfl (c_we hG) ?_
  rintro r T1 nT1 ⟨leT1, gT1, eT1, zT1, rfl, -⟩
  show PQ (j_SL Ls) (j_SV xs) j_EX mm_L_law 1200 [.float 5, .ref 0, .ref 46, .ref 81, .int (nI p), a5, a6, a7] [.int zT1] T1 nT1 c s K
  refine q_pop rfl rfl ?_
  refine q_aload_n rfl rfl rfl ?_
  refine q_aload_nF rfl rfl rfl ?_
  refine q_iload rfl rfl rfl ?_
  refine q_iconst rfl rfl ?_
  refine q_iadd rfl rfl (q_tn (z := nI (p + 1)) (nI_add p 1) ?_)
  refine q_ialdF rfl rfl (sc_i hp hL (by decide)) (q_tn (sc_v hp hL (by decide)) ?_)
  obtain ⟨ob1, hob1, -⟩ := gs_obj gT1 (k := 46) rfl
  have hn1 := gs_n gT1
  refine q_cV rfl rfl (Or.inl rfl) rfl rfl rfl rfl (by omega) hob1 trivial rfl (c2 := c) (s2 := s) rfl rfl rfl rfl (pm_weak (q_kc w289 [((xs (p + 1))).toInt] gT1 ⟨rfl, ck_oku rfl rfl, trivial⟩ (ck_en_c (fullI _).1 (fullI _).2 ck_en_n) (fun d hd => by cases hd)) (fun r S9 n9 h => ri_of rfl h)) ?_
  rintro r T2 _ ⟨rfl, ⟨zT2, rfl⟩, gT2, eT2⟩
  show PQ (j_SL Ls) (j_SV xs) j_EX mm_L_law 1211 [.float 5, .ref 0, .ref 46, .ref 81, .int (nI p), a5, a6, a7] [.int zT2] T2 nT1 c s K
  refine q_pop rfl rfl ?_
  refine q_goto rfl ?_
  exact hk T2 nT1 _ _ _ _ _ gT2 (smf_tr (smf_tr (smf_rf) (smf_po eT1)) (smf_of eT2 hn1 rfl)) (by omega) (by omega)
set_option maxHeartbeats 4000000 in
theorem g_op28 (hG : GS θ S n) (hp : p + 6 ≤ Ls) (hL : Ls < 2 ^ 31) (hc : c + 5 ≤ 601024) (hs : s + 124 ≤ 7293033) (hk : GK θ Ls xs S c s p K) : PQ (j_SL Ls) (j_SV xs) j_EX mm_L_law 1215 [.float 5, .ref 0, .ref 46, .ref 81, .int (nI p), a5, a6, a7] [] S n c s K := by
  refine q_aload_n rfl rfl rfl ?_
  refine q_aload_nF rfl rfl rfl ?_
  refine q_iload rfl rfl rfl ?_
  refine q_iconst rfl rfl ?_
  refine q_iadd rfl rfl (q_tn (z := nI (p + 1)) (nI_add p 1) ?_)
  refine q_ialdF rfl rfl (sc_i hp hL (by decide)) (q_tn (sc_v hp hL (by decide)) ?_)
  obtain ⟨ob0, hob0, -⟩ := gs_obj hG (k := 0) rfl
  have hn0 := gs_n hG
  refine q_cV rfl rfl (Or.inl rfl) rfl rfl rfl rfl (by omega) hob0 ⟨Nat.ble_eq_true_of_le (show c + 1 ≤ 601024 by omega), Nat.ble_eq_true_of_le (show s + 6 ≤ 7293033 by omega)⟩ rfl (c2 := c + 1) (s2 := s + 6) rfl rfl rfl rfl (c_to hG) ?_
  rintro r T1 nT1 ⟨leT1, gT1, eT1, zT1, rfl, -⟩
  show PQ (j_SL Ls) (j_SV xs) j_EX mm_L_law 1225 [.float 5, .ref 0, .ref 46, .ref 81, .int (nI p), a5, a6, a7] [.int zT1] T1 nT1 (c + 1) (s + 6) K
  refine q_pop rfl rfl ?_
  refine q_aload_n rfl rfl rfl ?_
  refine q_aload_nF rfl rfl rfl ?_
  refine q_iload rfl rfl rfl ?_
  refine q_iconst rfl rfl ?_
  refine q_iadd rfl rfl (q_tn (z := nI (p + 1)) (nI_add p 1) ?_)
  refine q_ialdF rfl rfl (sc_i hp hL (by decide)) (q_tn (sc_v hp hL (by decide)) ?_)
  obtain ⟨ob1, hob1, -⟩ := gs_obj gT1 (k := 46) rfl
  have hn1 := gs_n gT1
  refine q_cV rfl rfl (Or.inl rfl) rfl rfl rfl rfl (by omega) hob1 trivial rfl (c2 := (c + 1)) (s2 := (s + 6)) rfl rfl rfl rfl (pm_weak (q_kc w292 [((xs (p + 1))).toInt] gT1 ⟨rfl, ck_oku rfl rfl, trivial⟩ (ck_en_c (fullI _).1 (fullI _).2 ck_en_n) (fun d hd => by cases hd)) (fun r S9 n9 h => ri_of rfl h)) ?_
  rintro r T2 _ ⟨rfl, ⟨zT2, rfl⟩, gT2, eT2⟩
  show PQ (j_SL Ls) (j_SV xs) j_EX mm_L_law 1236 [.float 5, .ref 0, .ref 46, .ref 81, .int (nI p), a5, a6, a7] [.int zT2] T2 nT1 (c + 1) (s + 6) K
  refine q_pop rfl rfl ?_
  refine q_goto rfl ?_
  exact hk T2 nT1 _ _ _ _ _ gT2 (smf_tr (smf_tr (smf_rf) (smf_po eT1)) (smf_of eT2 hn1 rfl)) (by omega) (by omega)
theorem el_ex {f : Nat → Option Nat} (hG : GS θ S n) (h43 : S 43 = sh43 f) (p0 p1 : Int32) : ∃ (k : Int32) (v : Int64), o_el (hp S n) f p0 p1 k v := by
  obtain ⟨f0, a1, a2⟩ := gs_43 hG
  rw [h43] at a1
  cases a1
  by_cases h0 : 0 ≤ p0 ∧ p0 < 8
  · obtain ⟨-, h8⟩ := c_in8 h0
    cases hf : f p0.toNatClampNeg with
    | none => exact ⟨2, 0, Or.inr ⟨h0, Or.inl ⟨hf, rfl⟩⟩⟩
    | some y =>
      rcases (a2 _ h8 y hf).2 with ⟨a, b, h1⟩ | ⟨z, len, g, h1, h2, h3, h4⟩ | ⟨z, len, g, h1, h2, h3, h4, h5⟩
      · exact ⟨2, 0, Or.inr ⟨h0, Or.inr ⟨y, hf, Or.inl ⟨a, b, h1, rfl⟩⟩⟩⟩
      · by_cases hv : vp_in p1 len
        · exact ⟨0, _, Or.inr ⟨h0, Or.inr ⟨y, hf, Or.inr (Or.inl ⟨z, len, g, h1, h4, h3, Or.inr ⟨hv, rfl, rfl⟩⟩)⟩⟩⟩
        · exact ⟨2, 0, Or.inr ⟨h0, Or.inr ⟨y, hf, Or.inr (Or.inl ⟨z, len, g, h1, h4, h3, Or.inl ⟨hv, rfl⟩⟩)⟩⟩⟩
      · by_cases hv : vp_in p1 len
        · exact ⟨0, _, Or.inr ⟨h0, Or.inr ⟨y, hf, Or.inr (Or.inr ⟨z, len, g, h1, h4, h3, Or.inr ⟨hv, rfl, rfl⟩⟩)⟩⟩⟩
        · exact ⟨2, 0, Or.inr ⟨h0, Or.inr ⟨y, hf, Or.inr (Or.inr ⟨z, len, g, h1, h4, h3, Or.inl ⟨hv, rfl⟩⟩)⟩⟩⟩
  · refine ⟨1, 0, Or.inl ⟨?_, rfl⟩⟩
    simp only [Int32.lt_iff_toInt_lt, Int32.le_iff_toInt_le] at h0 ⊢
    omega
set_option maxHeartbeats 4000000 in
theorem g_op25 (hG : GS θ S n) (hp : p + 6 ≤ Ls) (hL : Ls < 2 ^ 31) (hc : c + 5 ≤ 601024) (hs : s + 124 ≤ 7293033) (hk : GK θ Ls xs S c s p K) : PQ (j_SL Ls) (j_SV xs) j_EX mm_L_law 1077 [.float 5, .ref 0, .ref 46, .ref 81, .int (nI p), a5, a6, a7] [] S n c s K := by
  have hn := gs_n hG
  obtain ⟨fs, k0, -, f7, -⟩ := gs_0 hG
  obtain ⟨f, h43, -⟩ := gs_43 hG
  obtain ⟨o, h81⟩ := gs_lng hG (k := 81) rfl
  obtain ⟨kk, v, he⟩ := el_ex hG h43 (xs (p + 1)) (xs (p + 2))
  have tail : ∀ (T : Nat → pm_E) (m : Nat), GS θ T m → smf S T → ∀ z : Int32, PQ (j_SL Ls) (j_SV xs) j_EX mm_L_law 1094 [.float 5, .ref 0, .ref 46, .ref 81, .int (nI p), a5, a6, a7] [.int z] T m (c + 1) (s + 6) K := by
    intro T m hT eT z
    have hm := gs_n hT
    obtain ⟨ob, hob, -⟩ := gs_obj hT (k := 46) rfl
    refine q_ist5 rfl rfl rfl rfl ?_
    refine q_aload_n rfl rfl rfl ?_
    refine q_aload_nF rfl rfl rfl ?_
    refine q_iload rfl rfl rfl ?_
    refine q_iconst rfl rfl ?_
    refine q_iadd rfl rfl (q_tn (z := nI (p + 1)) (nI_add p 1) ?_)
    refine q_ialdF rfl rfl (sc_i hp hL (by decide)) (q_tn (sc_v hp hL (by decide)) ?_)
    refine q_aload_nF rfl rfl rfl ?_
    refine q_iload rfl rfl rfl ?_
    refine q_iconst rfl rfl ?_
    refine q_iadd rfl rfl (q_tn (z := nI (p + 2)) (nI_add p 2) ?_)
    refine q_ialdF rfl rfl (sc_i hp hL (by decide)) (q_tn (sc_v hp hL (by decide)) ?_)
    refine q_cV rfl rfl (Or.inl rfl) rfl rfl rfl rfl (by omega) hob trivial rfl (c2 := c + 1) (s2 := s + 6) rfl rfl rfl rfl (pm_weak (q_kc w281 [(xs (p + 1)).toInt, (xs (p + 2)).toInt] hT ⟨rfl, ck_oku rfl rfl, ck_oku rfl rfl, trivial⟩ (ck_en_c (fullI _).1 (fullI _).2 (ck_en_c (fullI _).1 (fullI _).2 ck_en_n)) (fun d hd => by cases hd)) (fun r S9 n9 h => rl_of rfl h)) ?_
    rintro r T1 _ ⟨rfl, ⟨w, rfl⟩, g1, e1⟩
    show PQ (j_SL Ls) (j_SV xs) j_EX mm_L_law 1112 [.float 5, .ref 0, .ref 46, .ref 81, .int (nI p), .int z, a6, a7] [.long w] T1 m (c + 1) (s + 6) K
    refine q_lst6 rfl rfl rfl rfl ?_
    refine q_goto rfl ?_
    exact hk T1 m _ _ _ _ _ g1 (smf_tr eT (smf_of e1 hm rfl)) (by omega) (by omega)
  refine q_aload_n rfl rfl rfl ?_
  refine q_aload_nF rfl rfl rfl ?_
  refine q_iload rfl rfl rfl ?_
  refine q_iconst rfl rfl ?_
  refine q_iadd rfl rfl (q_tn (z := nI (p + 1)) (nI_add p 1) ?_)
  refine q_ialdF rfl rfl (sc_i hp hL (by decide)) (q_tn (sc_v hp hL (by decide)) ?_)
  refine q_aload_nF rfl rfl rfl ?_
  refine q_iload rfl rfl rfl ?_
  refine q_iconst rfl rfl ?_
  refine q_iadd rfl rfl (q_tn (z := nI (p + 2)) (nI_add p 2) ?_)
  refine q_ialdF rfl rfl (sc_i hp hL (by decide)) (q_tn (sc_v hp hL (by decide)) ?_)
  refine q_aload_n rfl rfl rfl ?_
  refine q_elem (by omega) k0 f7 h43 h81 he (show c + 1 ≤ 601024 by omega) (show s + 6 ≤ 7293033 by omega) (fun h => ?_) (fun h g => ?_)
  · exact tail _ _ (gs_st (k := 81) (c := .inl (1, 1, .inr (.inl (vp_updL o 0 v)))) hG rfl rfl ⟨_, rfl⟩ (pk_arr h81)) (fun k hk => u_ne (by simp only [List.mem_cons, List.not_mem_nil, or_false] at hk; omega)) 0
  · exact tail _ _ (gs_ext hG (by omega) (fun j hj => u_ne (by omega))) (fun k hk => u_ne (by simp only [List.mem_cons, List.not_mem_nil, or_false] at hk; omega)) _
end LW
