/-! the law's cases over what the shelves hold, printed by wip/gen_law.py -/
section LN
variable {θ : Th} {Ls : Nat} {xs : Nat → Int32} {S : Nat → pm_E} {n c s p : Nat} {a5 a6 a7 : Value} {K : q_K} {L : Nat}
theorem c_weT {d : Int32} (hG : GS θ S n) : PM (j_SL L) (j_SV xs) j_EX mm_X11_weight [.ref 0, .int d] S n (PW θ S n (fun _ => True)) := by
  obtain ⟨f, h43, -⟩ := gs_43 hG
  exact c_we2 hG h43 (fun _ => trivial) (fun _ _ => trivial) (fun _ _ _ _ _ _ => trivial) (fun _ _ _ _ _ => trivial)
theorem c_toT {d : Int32} (hG : GS θ S n) : PM (j_SL L) (j_SV xs) j_EX mm_X11_toss [.ref 0, .int d] S n (PW θ S n (fun _ => True)) := by
  obtain ⟨f, h43, -⟩ := gs_43 hG
  exact c_to2 hG h43 (fun _ => trivial) (fun _ _ => trivial) (fun _ _ _ _ _ _ => ⟨fun _ => trivial, fun _ => trivial⟩) (fun _ _ _ _ _ => trivial)
theorem c_cpT {d i e j m : Int32} (hG : GS θ S n) : PM (j_SL L) (j_SV xs) j_EX mm_X11_copy [.ref 0, .int d, .int i, .int e, .int j, .int m] S n (PW θ S n (fun _ => True)) := by
  obtain ⟨f, h43, -⟩ := gs_43 hG
  exact c_cp2 hG h43 (fun _ => trivial) (fun _ _ _ => trivial) (fun _ _ _ _ _ _ => ⟨fun _ _ _ => ⟨fun _ => trivial, fun _ => trivial⟩, fun _ _ => trivial⟩)
def smn (S : Nat → pm_E) (n : Nat) (S' : Nat → pm_E) : Prop := (∀ k, k ∈ [1, 3, 4, 5, 6, 43, 75, 76, 77, 78] → S' k = S k) ∧ ∀ k, 82 ≤ k → k < n → shp (S k) (S' k)
theorem smn_rf : smn S n S := ⟨fun _ _ => rfl, fun _ _ _ => shp_rf⟩
theorem smn_tr {S1 S2 : Nat → pm_E} {n1 : Nat} (h1 : smn S n S1) (hn : n ≤ n1) (h2 : smn S1 n1 S2) : smn S n S2 := ⟨fun k hk => (h2.1 k hk).trans (h1.1 k hk), fun k a b => shp_tr (h1.2 k a b) (h2.2 k a (by omega))⟩
theorem smn_of {l : List Nat} {S S' : Nat → pm_E} {n : Nat} (h : fr1 l S S' n) (hn : 82 ≤ n) (hl : ([1, 3, 4, 5, 6, 43, 75, 76, 77, 78].all (fun k => Nat.ble k 81 && !(l.contains k)) && l.all (fun k => Nat.ble k 81)) = true) : smn S n S' := by
  rw [Bool.and_eq_true] at hl
  refine ⟨fun k hk => ?_, fun k h1 h2 => shp_eq (h k h2 ?_)⟩
  · have e := List.all_eq_true.mp hl.1 k hk
    rw [Bool.and_eq_true] at e
    have e1 := Nat.le_of_ble_eq_true e.1
    exact h k (by omega) (by simpa using e.2)
  · cases hc : l.contains k
    · rfl
    · have := Nat.le_of_ble_eq_true (List.all_eq_true.mp hl.2 k (List.contains_iff_mem.mp hc))
      omega
theorem smn_pw {S S' : Nat → pm_E} {n : Nat} (e : ∀ k, k < 82 → S' k = S k) (s : ∀ k, k < n → shp (S k) (S' k)) : smn S n S' := ⟨fun k hk => e k (by simp only [List.mem_cons, List.not_mem_nil, or_false] at hk; omega), fun k _ h => s k h⟩
/-- what the law asks behind a call that leaves θ and the shelves -/
def GKn (θ : Th) (Ls : Nat) (xs : Nat → Int32) (S : Nat → pm_E) (n c s p : Nat) (K : q_K) : Prop := ∀ (S' : Nat → pm_E) (n' c' s' : Nat) (b5 b6 b7 : Value), GS θ S' n' → smn S n S' → c' ≤ c + 5 → s' ≤ s + 124 → PQ (j_SL Ls) (j_SV xs) j_EX mm_L_law 1240 [.float 5, .ref 0, .ref 46, .ref 81, .int (nI p), b5, b6, b7] [] S' n' c' s' K
set_option maxHeartbeats 4000000 in
theorem g_on3 (hG : GS θ S n) (hp : p + 6 ≤ Ls) (hL : Ls < 2 ^ 31) (hc : c + 5 ≤ 601024) (hs : s + 124 ≤ 7293033) (hk : GKn θ Ls xs S n c s p K) : PQ (j_SL Ls) (j_SV xs) j_EX mm_L_law 283 [.float 5, .ref 0, .ref 46, .ref 81, .int (nI p), a5, a6, a7] [] S n c s K := by
  refine q_aload_n rfl rfl rfl ?_
  refine q_aload_nF rfl rfl rfl ?_
  refine q_iload rfl rfl rfl ?_
  refine q_iconst rfl rfl ?_
  refine q_iadd rfl rfl (q_tn (z := nI (p + 1)) (nI_add p 1) ?_)
  refine q_ialdF rfl rfl (sc_i hp hL (by decide)) (q_tn (sc_v hp hL (by decide)) ?_)
  refine q_aload_nF rfl rfl rfl ?_
  refine q_iload rfl rfl rfl ?_
  refine q_iconst rfl rfl ?_
  refine q_iadd rfl rfl (q_tn (z := nI (p + 2)) (nI_add p 2) ?_)
  refine q_ialdF rfl rfl (sc_i hp hL (by decide)) (q_tn (sc_v hp hL (by decide)) ?_)
  obtain ⟨ob0, hob0, -⟩ := gs_obj hG (k := 0) rfl
  have hn0 := gs_n hG
  refine q_cV rfl rfl (Or.inl rfl) rfl rfl rfl rfl (by omega) hob0 trivial rfl (c2 := c) (s2 := s) rfl rfl rfl rfl (pm_weak (q_kc w23 [((xs (p + 1))).toInt, ((xs (p + 2))).toInt] hG ⟨rfl, ck_oku rfl rfl, ck_oku rfl rfl, trivial⟩ (ck_en_c (fullI _).1 (fullI _).2 (ck_en_c (fullI _).1 (fullI _).2 ck_en_n)) (fun d hd => by cases hd)) (fun r S9 n9 h => ri_of rfl h)) ?_
  rintro r T1 _ ⟨rfl, ⟨zT1, rfl⟩, gT1, eT1⟩
  show PQ (j_SL Ls) (j_SV xs) j_EX mm_L_law 299 [.float 5, .ref 0, .ref 46, .ref 81, .int (nI p), a5, a6, a7] [.int zT1] T1 n c s K
  refine q_pop rfl rfl ?_
  refine q_aload_n rfl rfl rfl ?_
  refine q_aload_nF rfl rfl rfl ?_
  refine q_iload rfl rfl rfl ?_
  refine q_iconst rfl rfl ?_
  refine q_iadd rfl rfl (q_tn (z := nI (p + 1)) (nI_add p 1) ?_)
  refine q_ialdF rfl rfl (sc_i hp hL (by decide)) (q_tn (sc_v hp hL (by decide)) ?_)
  refine q_aload_nF rfl rfl rfl ?_
  refine q_iload rfl rfl rfl ?_
  refine q_iconst rfl rfl ?_
  refine q_iadd rfl rfl (q_tn (z := nI (p + 2)) (nI_add p 2) ?_)
  refine q_ialdF rfl rfl (sc_i hp hL (by decide)) (q_tn (sc_v hp hL (by decide)) ?_)
  obtain ⟨ob1, hob1, -⟩ := gs_obj gT1 (k := 46) rfl
  have hn1 := gs_n gT1
  refine q_cV rfl rfl (Or.inl rfl) rfl rfl rfl rfl (by omega) hob1 trivial rfl (c2 := c) (s2 := s) rfl rfl rfl rfl (pm_weak (q_kc w167 [((xs (p + 1))).toInt, ((xs (p + 2))).toInt] gT1 ⟨rfl, ck_oku rfl rfl, ck_oku rfl rfl, trivial⟩ (ck_en_c (fullI _).1 (fullI _).2 (ck_en_c (fullI _).1 (fullI _).2 ck_en_n)) (fun d hd => by cases hd)) (fun r S9 n9 h => ri_of rfl h)) ?_
  rintro r T2 _ ⟨rfl, ⟨zT2, rfl⟩, gT2, eT2⟩
  show PQ (j_SL Ls) (j_SV xs) j_EX mm_L_law 316 [.float 5, .ref 0, .ref 46, .ref 81, .int (nI p), a5, a6, a7] [.int zT2] T2 n c s K
  refine q_pop rfl rfl ?_
  refine q_goto rfl ?_
  exact hk T2 n _ _ _ _ _ gT2 (smn_tr (smn_tr (smn_rf) (Nat.le_refl _) (smn_of eT1 hn0 rfl)) (Nat.le_refl _) (smn_of eT2 hn1 rfl)) (by omega) (by omega)
set_option maxHeartbeats 4000000 in
theorem g_on4 (hG : GS θ S n) (hp : p + 6 ≤ Ls) (hL : Ls < 2 ^ 31) (hc : c + 5 ≤ 601024) (hs : s + 124 ≤ 7293033) (hk : GKn θ Ls xs S n c s p K) : PQ (j_SL Ls) (j_SV xs) j_EX mm_L_law 320 [.float 5, .ref 0, .ref 46, .ref 81, .int (nI p), a5, a6, a7] [] S n c s K := by
  refine q_aload_n rfl rfl rfl ?_
  refine q_aload_nF rfl rfl rfl ?_
  refine q_iload rfl rfl rfl ?_
  refine q_iconst rfl rfl ?_
  refine q_iadd rfl rfl (q_tn (z := nI (p + 1)) (nI_add p 1) ?_)
  refine q_ialdF rfl rfl (sc_i hp hL (by decide)) (q_tn (sc_v hp hL (by decide)) ?_)
  refine q_aload_nF rfl rfl rfl ?_
  refine q_iload rfl rfl rfl ?_
  refine q_iconst rfl rfl ?_
  refine q_iadd rfl rfl (q_tn (z := nI (p + 2)) (nI_add p 2) ?_)
  refine q_ialdF rfl rfl (sc_i hp hL (by decide)) (q_tn (sc_v hp hL (by decide)) ?_)
  refine q_aload_nF rfl rfl rfl ?_
  refine q_iload rfl rfl rfl ?_
  refine q_iconst rfl rfl ?_
  refine q_iadd rfl rfl (q_tn (z := nI (p + 3)) (nI_add p 3) ?_)
  refine q_ialdF rfl rfl (sc_i hp hL (by decide)) (q_tn (sc_v hp hL (by decide)) ?_)
  obtain ⟨ob0, hob0, -⟩ := gs_obj hG (k := 0) rfl
  have hn0 := gs_n hG
  refine q_cV rfl rfl (Or.inl rfl) rfl rfl rfl rfl (by omega) hob0 trivial rfl (c2 := c) (s2 := s) rfl rfl rfl rfl (pm_weak (q_kc w29 [((xs (p + 1))).toInt, ((xs (p + 2))).toInt, ((xs (p + 3))).toInt] hG ⟨rfl, ck_oku rfl rfl, ck_oku rfl rfl, ck_oku rfl rfl, trivial⟩ (ck_en_c (fullI _).1 (fullI _).2 (ck_en_c (fullI _).1 (fullI _).2 (ck_en_c (fullI _).1 (fullI _).2 ck_en_n))) (fun d hd => by cases hd)) (fun r S9 n9 h => ri_of rfl h)) ?_
  rintro r T1 _ ⟨rfl, ⟨zT1, rfl⟩, gT1, eT1⟩
  show PQ (j_SL Ls) (j_SV xs) j_EX mm_L_law 342 [.float 5, .ref 0, .ref 46, .ref 81, .int (nI p), a5, a6, a7] [.int zT1] T1 n c s K
  refine q_pop rfl rfl ?_
  refine q_aload_n rfl rfl rfl ?_
  refine q_aload_nF rfl rfl rfl ?_
  refine q_iload rfl rfl rfl ?_
  refine q_iconst rfl rfl ?_
  refine q_iadd rfl rfl (q_tn (z := nI (p + 1)) (nI_add p 1) ?_)
  refine q_ialdF rfl rfl (sc_i hp hL (by decide)) (q_tn (sc_v hp hL (by decide)) ?_)
  refine q_aload_nF rfl rfl rfl ?_
  refine q_iload rfl rfl rfl ?_
  refine q_iconst rfl rfl ?_
  refine q_iadd rfl rfl (q_tn (z := nI (p + 2)) (nI_add p 2) ?_)
  refine q_ialdF rfl rfl (sc_i hp hL (by decide)) (q_tn (sc_v hp hL (by decide)) ?_)
  refine q_aload_nF rfl rfl rfl ?_
  refine q_iload rfl rfl rfl ?_
  refine q_iconst rfl rfl ?_
  refine q_iadd rfl rfl (q_tn (z := nI (p + 3)) (nI_add p 3) ?_)
  refine q_ialdF rfl rfl (sc_i hp hL (by decide)) (q_tn (sc_v hp hL (by decide)) ?_)
  obtain ⟨ob1, hob1, -⟩ := gs_obj gT1 (k := 46) rfl
  have hn1 := gs_n gT1
  refine q_cV rfl rfl (Or.inl rfl) rfl rfl rfl rfl (by omega) hob1 trivial rfl (c2 := c) (s2 := s) rfl rfl rfl rfl (pm_weak (q_kc w178 [((xs (p + 1))).toInt, ((xs (p + 2))).toInt, ((xs (p + 3))).toInt] gT1 ⟨rfl, ck_oku rfl rfl, ck_oku rfl rfl, ck_oku rfl rfl, trivial⟩ (ck_en_c (fullI _).1 (fullI _).2 (ck_en_c (fullI _).1 (fullI _).2 (ck_en_c (fullI _).1 (fullI _).2 ck_en_n))) (fun d hd => by cases hd)) (fun r S9 n9 h => ri_of rfl h)) ?_
  rintro r T2 _ ⟨rfl, ⟨zT2, rfl⟩, gT2, eT2⟩
  show PQ (j_SL Ls) (j_SV xs) j_EX mm_L_law 365 [.float 5, .ref 0, .ref 46, .ref 81, .int (nI p), a5, a6, a7] [.int zT2] T2 n c s K
  refine q_pop rfl rfl ?_
  refine q_goto rfl ?_
  exact hk T2 n _ _ _ _ _ gT2 (smn_tr (smn_tr (smn_rf) (Nat.le_refl _) (smn_of eT1 hn0 rfl)) (Nat.le_refl _) (smn_of eT2 hn1 rfl)) (by omega) (by omega)
set_option maxHeartbeats 4000000 in
theorem g_on5 (hG : GS θ S n) (hp : p + 6 ≤ Ls) (hL : Ls < 2 ^ 31) (hc : c + 5 ≤ 601024) (hs : s + 124 ≤ 7293033) (hk : GKn θ Ls xs S n c s p K) : PQ (j_SL Ls) (j_SV xs) j_EX mm_L_law 369 [.float 5, .ref 0, .ref 46, .ref 81, .int (nI p), a5, a6, a7] [] S n c s K := by
  refine q_aload_n rfl rfl rfl ?_
  obtain ⟨ob0, hob0, -⟩ := gs_obj hG (k := 0) rfl
  have hn0 := gs_n hG
  refine q_cV rfl rfl (Or.inl rfl) rfl rfl rfl rfl (by omega) hob0 trivial rfl (c2 := c) (s2 := s) rfl rfl rfl rfl (pm_weak (q_kc w31 [] hG ⟨rfl, trivial⟩ ck_en_n (fun d hd => by cases hd)) (fun r S9 n9 h => ri_of rfl h)) ?_
  rintro r T1 _ ⟨rfl, ⟨zT1, rfl⟩, gT1, eT1⟩
  show PQ (j_SL Ls) (j_SV xs) j_EX mm_L_law 373 [.float 5, .ref 0, .ref 46, .ref 81, .int (nI p), a5, a6, a7] [.int zT1] T1 n c s K
  refine q_pop rfl rfl ?_
  refine q_aload_n rfl rfl rfl ?_
  obtain ⟨ob1, hob1, -⟩ := gs_obj gT1 (k := 46) rfl
  have hn1 := gs_n gT1
  refine q_cV rfl rfl (Or.inl rfl) rfl rfl rfl rfl (by omega) hob1 trivial rfl (c2 := c) (s2 := s) rfl rfl rfl rfl (pm_weak (q_kc w181 [] gT1 ⟨rfl, trivial⟩ ck_en_n (fun d hd => by cases hd)) (fun r S9 n9 h => ri_of rfl h)) ?_
  rintro r T2 _ ⟨rfl, ⟨zT2, rfl⟩, gT2, eT2⟩
  show PQ (j_SL Ls) (j_SV xs) j_EX mm_L_law 378 [.float 5, .ref 0, .ref 46, .ref 81, .int (nI p), a5, a6, a7] [.int zT2] T2 n c s K
  refine q_pop rfl rfl ?_
  refine q_goto rfl ?_
  exact hk T2 n _ _ _ _ _ gT2 (smn_tr (smn_tr (smn_rf) (Nat.le_refl _) (smn_of eT1 hn0 rfl)) (Nat.le_refl _) (smn_of eT2 hn1 rfl)) (by omega) (by omega)
set_option maxHeartbeats 4000000 in
theorem g_on6 (hG : GS θ S n) (hp : p + 6 ≤ Ls) (hL : Ls < 2 ^ 31) (hc : c + 5 ≤ 601024) (hs : s + 124 ≤ 7293033) (hk : GKn θ Ls xs S n c s p K) : PQ (j_SL Ls) (j_SV xs) j_EX mm_L_law 382 [.float 5, .ref 0, .ref 46, .ref 81, .int (nI p), a5, a6, a7] [] S n c s K := by
  refine q_aload_n rfl rfl rfl ?_
  refine q_aload_nF rfl rfl rfl ?_
  refine q_iload rfl rfl rfl ?_
  refine q_iconst rfl rfl ?_
  refine q_iadd rfl rfl (q_tn (z := nI (p + 1)) (nI_add p 1) ?_)
  refine q_ialdF rfl rfl (sc_i hp hL (by decide)) (q_tn (sc_v hp hL (by decide)) ?_)
  obtain ⟨ob0, hob0, -⟩ := gs_obj hG (k := 0) rfl
  have hn0 := gs_n hG
  refine q_cV rfl rfl (Or.inl rfl) rfl rfl rfl rfl (by omega) hob0 trivial rfl (c2 := c) (s2 := s) rfl rfl rfl rfl (pm_weak (q_kc w58 [((xs (p + 1))).toInt] hG ⟨rfl, ck_oku rfl rfl, trivial⟩ (ck_en_c (fullI _).1 (fullI _).2 ck_en_n) (fun d hd => by cases hd)) (fun r S9 n9 h => ri_of rfl h)) ?_
  rintro r T1 _ ⟨rfl, ⟨zT1, rfl⟩, gT1, eT1⟩
  show PQ (j_SL Ls) (j_SV xs) j_EX mm_L_law 392 [.float 5, .ref 0, .ref 46, .ref 81, .int (nI p), a5, a6, a7] [.int zT1] T1 n c s K
  refine q_pop rfl rfl ?_
  refine q_aload_n rfl rfl rfl ?_
  refine q_aload_nF rfl rfl rfl ?_
  refine q_iload rfl rfl rfl ?_
  refine q_iconst rfl rfl ?_
  refine q_iadd rfl rfl (q_tn (z := nI (p + 1)) (nI_add p 1) ?_)
  refine q_ialdF rfl rfl (sc_i hp hL (by decide)) (q_tn (sc_v hp hL (by decide)) ?_)
  obtain ⟨ob1, hob1, -⟩ := gs_obj gT1 (k := 46) rfl
  have hn1 := gs_n gT1
  refine q_cV rfl rfl (Or.inl rfl) rfl rfl rfl rfl (by omega) hob1 trivial rfl (c2 := c) (s2 := s) rfl rfl rfl rfl (pm_weak (q_kc w194 [((xs (p + 1))).toInt] gT1 ⟨rfl, ck_oku rfl rfl, trivial⟩ (ck_en_c (fullI _).1 (fullI _).2 ck_en_n) (fun d hd => by cases hd)) (fun r S9 n9 h => ri_of rfl h)) ?_
  rintro r T2 _ ⟨rfl, ⟨zT2, rfl⟩, gT2, eT2⟩
  show PQ (j_SL Ls) (j_SV xs) j_EX mm_L_law 403 [.float 5, .ref 0, .ref 46, .ref 81, .int (nI p), a5, a6, a7] [.int zT2] T2 n c s K
  refine q_pop rfl rfl ?_
  refine q_goto rfl ?_
  exact hk T2 n _ _ _ _ _ gT2 (smn_tr (smn_tr (smn_rf) (Nat.le_refl _) (smn_of eT1 hn0 rfl)) (Nat.le_refl _) (smn_of eT2 hn1 rfl)) (by omega) (by omega)
set_option maxHeartbeats 4000000 in
theorem g_on7 (hG : GS θ S n) (hp : p + 6 ≤ Ls) (hL : Ls < 2 ^ 31) (hc : c + 5 ≤ 601024) (hs : s + 124 ≤ 7293033) (hk : GKn θ Ls xs S n c s p K) : PQ (j_SL Ls) (j_SV xs) j_EX mm_L_law 407 [.float 5, .ref 0, .ref 46, .ref 81, .int (nI p), a5, a6, a7] [] S n c s K := by
  refine q_aload_n rfl rfl rfl ?_
  refine q_aload_nF rfl rfl rfl ?_
  refine q_iload rfl rfl rfl ?_
  refine q_iconst rfl rfl ?_
  refine q_iadd rfl rfl (q_tn (z := nI (p + 1)) (nI_add p 1) ?_)
  refine q_ialdF rfl rfl (sc_i hp hL (by decide)) (q_tn (sc_v hp hL (by decide)) ?_)
  refine q_aload_nF rfl rfl rfl ?_
  refine q_iload rfl rfl rfl ?_
  refine q_iconst rfl rfl ?_
  refine q_iadd rfl rfl (q_tn (z := nI (p + 2)) (nI_add p 2) ?_)
  refine q_ialdF rfl rfl (sc_i hp hL (by decide)) (q_tn (sc_v hp hL (by decide)) ?_)
  obtain ⟨ob0, hob0, -⟩ := gs_obj hG (k := 0) rfl
  have hn0 := gs_n hG
  refine q_cV rfl rfl (Or.inl rfl) rfl rfl rfl rfl (by omega) hob0 trivial rfl (c2 := c) (s2 := s) rfl rfl rfl rfl (pm_weak (q_kc w62 [((xs (p + 1))).toInt, ((xs (p + 2))).toInt] hG ⟨rfl, ck_oku rfl rfl, ck_oku rfl rfl, trivial⟩ (ck_en_c (fullI _).1 (fullI _).2 (ck_en_c (fullI _).1 (fullI _).2 ck_en_n)) (fun d hd => by cases hd)) (fun r S9 n9 h => ri_of rfl h)) ?_
  rintro r T1 _ ⟨rfl, ⟨zT1, rfl⟩, gT1, eT1⟩
  show PQ (j_SL Ls) (j_SV xs) j_EX mm_L_law 423 [.float 5, .ref 0, .ref 46, .ref 81, .int (nI p), a5, a6, a7] [.int zT1] T1 n c s K
  refine q_pop rfl rfl ?_
  refine q_aload_n rfl rfl rfl ?_
  refine q_aload_nF rfl rfl rfl ?_
  refine q_iload rfl rfl rfl ?_
  refine q_iconst rfl rfl ?_
  refine q_iadd rfl rfl (q_tn (z := nI (p + 1)) (nI_add p 1) ?_)
  refine q_ialdF rfl rfl (sc_i hp hL (by decide)) (q_tn (sc_v hp hL (by decide)) ?_)
  refine q_aload_nF rfl rfl rfl ?_
  refine q_iload rfl rfl rfl ?_
  refine q_iconst rfl rfl ?_
  refine q_iadd rfl rfl (q_tn (z := nI (p + 2)) (nI_add p 2) ?_)
  refine q_ialdF rfl rfl (sc_i hp hL (by decide)) (q_tn (sc_v hp hL (by decide)) ?_)
  obtain ⟨ob1, hob1, -⟩ := gs_obj gT1 (k := 46) rfl
  have hn1 := gs_n gT1
  refine q_cV rfl rfl (Or.inl rfl) rfl rfl rfl rfl (by omega) hob1 trivial rfl (c2 := c) (s2 := s) rfl rfl rfl rfl (pm_weak (q_kc w196 [((xs (p + 1))).toInt, ((xs (p + 2))).toInt] gT1 ⟨rfl, ck_oku rfl rfl, ck_oku rfl rfl, trivial⟩ (ck_en_c (fullI _).1 (fullI _).2 (ck_en_c (fullI _).1 (fullI _).2 ck_en_n)) (fun d hd => by cases hd)) (fun r S9 n9 h => ri_of rfl h)) ?_
  rintro r T2 _ ⟨rfl, ⟨zT2, rfl⟩, gT2, eT2⟩
  show PQ (j_SL Ls) (j_SV xs) j_EX mm_L_law 440 [.float 5, .ref 0, .ref 46, .ref 81, .int (nI p), a5, a6, a7] [.int zT2] T2 n c s K
  refine q_pop rfl rfl ?_
  refine q_goto rfl ?_
  exact hk T2 n _ _ _ _ _ gT2 (smn_tr (smn_tr (smn_rf) (Nat.le_refl _) (smn_of eT1 hn0 rfl)) (Nat.le_refl _) (smn_of eT2 hn1 rfl)) (by omega) (by omega)
set_option maxHeartbeats 4000000 in
theorem g_on8 (hG : GS θ S n) (hp : p + 6 ≤ Ls) (hL : Ls < 2 ^ 31) (hc : c + 5 ≤ 601024) (hs : s + 124 ≤ 7293033) (hk : GKn θ Ls xs S n c s p K) : PQ (j_SL Ls) (j_SV xs) j_EX mm_L_law 444 [.float 5, .ref 0, .ref 46, .ref 81, .int (nI p), a5, a6, a7] [] S n c s K := by
  refine q_aload_n rfl rfl rfl ?_
  refine q_aload_nF rfl rfl rfl ?_
  refine q_iload rfl rfl rfl ?_
  refine q_iconst rfl rfl ?_
  refine q_iadd rfl rfl (q_tn (z := nI (p + 1)) (nI_add p 1) ?_)
  refine q_ialdF rfl rfl (sc_i hp hL (by decide)) (q_tn (sc_v hp hL (by decide)) ?_)
  obtain ⟨ob0, hob0, -⟩ := gs_obj hG (k := 0) rfl
  have hn0 := gs_n hG
  refine q_cV rfl rfl (Or.inl rfl) rfl rfl rfl rfl (by omega) hob0 trivial rfl (c2 := c) (s2 := s) rfl rfl rfl rfl (pm_weak (q_kc w82 [((xs (p + 1))).toInt] hG ⟨rfl, ck_oku rfl rfl, trivial⟩ (ck_en_c (fullI _).1 (fullI _).2 ck_en_n) (fun d hd => by cases hd)) (fun r S9 n9 h => ri_of rfl h)) ?_
  rintro r T1 _ ⟨rfl, ⟨zT1, rfl⟩, gT1, eT1⟩
  show PQ (j_SL Ls) (j_SV xs) j_EX mm_L_law 454 [.float 5, .ref 0, .ref 46, .ref 81, .int (nI p), a5, a6, a7] [.int zT1] T1 n c s K
  refine q_pop rfl rfl ?_
  refine q_aload_n rfl rfl rfl ?_
  refine q_aload_nF rfl rfl rfl ?_
  refine q_iload rfl rfl rfl ?_
  refine q_iconst rfl rfl ?_
  refine q_iadd rfl rfl (q_tn (z := nI (p + 1)) (nI_add p 1) ?_)
  refine q_ialdF rfl rfl (sc_i hp hL (by decide)) (q_tn (sc_v hp hL (by decide)) ?_)
  obtain ⟨ob1, hob1, -⟩ := gs_obj gT1 (k := 46) rfl
  have hn1 := gs_n gT1
  refine q_cV rfl rfl (Or.inl rfl) rfl rfl rfl rfl (by omega) hob1 trivial rfl (c2 := c) (s2 := s) rfl rfl rfl rfl (pm_weak (q_kc w202 [((xs (p + 1))).toInt] gT1 ⟨rfl, ck_oku rfl rfl, trivial⟩ (ck_en_c (fullI _).1 (fullI _).2 ck_en_n) (fun d hd => by cases hd)) (fun r S9 n9 h => ri_of rfl h)) ?_
  rintro r T2 _ ⟨rfl, ⟨zT2, rfl⟩, gT2, eT2⟩
  show PQ (j_SL Ls) (j_SV xs) j_EX mm_L_law 465 [.float 5, .ref 0, .ref 46, .ref 81, .int (nI p), a5, a6, a7] [.int zT2] T2 n c s K
  refine q_pop rfl rfl ?_
  refine q_goto rfl ?_
  exact hk T2 n _ _ _ _ _ gT2 (smn_tr (smn_tr (smn_rf) (Nat.le_refl _) (smn_of eT1 hn0 rfl)) (Nat.le_refl _) (smn_of eT2 hn1 rfl)) (by omega) (by omega)
set_option maxHeartbeats 4000000 in
theorem g_on9 (hG : GS θ S n) (hp : p + 6 ≤ Ls) (hL : Ls < 2 ^ 31) (hc : c + 5 ≤ 601024) (hs : s + 124 ≤ 7293033) (hk : GKn θ Ls xs S n c s p K) : PQ (j_SL Ls) (j_SV xs) j_EX mm_L_law 469 [.float 5, .ref 0, .ref 46, .ref 81, .int (nI p), a5, a6, a7] [] S n c s K := by
  refine q_aload_n rfl rfl rfl ?_
  refine q_aload_nF rfl rfl rfl ?_
  refine q_iload rfl rfl rfl ?_
  refine q_iconst rfl rfl ?_
  refine q_iadd rfl rfl (q_tn (z := nI (p + 1)) (nI_add p 1) ?_)
  refine q_ialdF rfl rfl (sc_i hp hL (by decide)) (q_tn (sc_v hp hL (by decide)) ?_)
  obtain ⟨ob0, hob0, -⟩ := gs_obj hG (k := 0) rfl
  have hn0 := gs_n hG
  refine q_cV rfl rfl (Or.inl rfl) rfl rfl rfl rfl (by omega) hob0 trivial rfl (c2 := c) (s2 := s) rfl rfl rfl rfl (pm_weak (q_kc w95 [((xs (p + 1))).toInt] hG ⟨rfl, ck_oku rfl rfl, trivial⟩ (ck_en_c (fullI _).1 (fullI _).2 ck_en_n) (fun d hd => by cases hd)) (fun r S9 n9 h => ri_of rfl h)) ?_
  rintro r T1 _ ⟨rfl, ⟨zT1, rfl⟩, gT1, eT1⟩
  show PQ (j_SL Ls) (j_SV xs) j_EX mm_L_law 479 [.float 5, .ref 0, .ref 46, .ref 81, .int (nI p), a5, a6, a7] [.int zT1] T1 n c s K
  refine q_pop rfl rfl ?_
  refine q_aload_n rfl rfl rfl ?_
  refine q_aload_nF rfl rfl rfl ?_
  refine q_iload rfl rfl rfl ?_
  refine q_iconst rfl rfl ?_
  refine q_iadd rfl rfl (q_tn (z := nI (p + 1)) (nI_add p 1) ?_)
  refine q_ialdF rfl rfl (sc_i hp hL (by decide)) (q_tn (sc_v hp hL (by decide)) ?_)
  obtain ⟨ob1, hob1, -⟩ := gs_obj gT1 (k := 46) rfl
  have hn1 := gs_n gT1
  refine q_cV rfl rfl (Or.inl rfl) rfl rfl rfl rfl (by omega) hob1 trivial rfl (c2 := c) (s2 := s) rfl rfl rfl rfl (pm_weak (q_kc w205 [((xs (p + 1))).toInt] gT1 ⟨rfl, ck_oku rfl rfl, trivial⟩ (ck_en_c (fullI _).1 (fullI _).2 ck_en_n) (fun d hd => by cases hd)) (fun r S9 n9 h => ri_of rfl h)) ?_
  rintro r T2 _ ⟨rfl, ⟨zT2, rfl⟩, gT2, eT2⟩
  show PQ (j_SL Ls) (j_SV xs) j_EX mm_L_law 490 [.float 5, .ref 0, .ref 46, .ref 81, .int (nI p), a5, a6, a7] [.int zT2] T2 n c s K
  refine q_pop rfl rfl ?_
  refine q_goto rfl ?_
  exact hk T2 n _ _ _ _ _ gT2 (smn_tr (smn_tr (smn_rf) (Nat.le_refl _) (smn_of eT1 hn0 rfl)) (Nat.le_refl _) (smn_of eT2 hn1 rfl)) (by omega) (by omega)
set_option maxHeartbeats 4000000 in
theorem g_on10 (hG : GS θ S n) (hp : p + 6 ≤ Ls) (hL : Ls < 2 ^ 31) (hc : c + 5 ≤ 601024) (hs : s + 124 ≤ 7293033) (hk : GKn θ Ls xs S n c s p K) : PQ (j_SL Ls) (j_SV xs) j_EX mm_L_law 494 [.float 5, .ref 0, .ref 46, .ref 81, .int (nI p), a5, a6, a7] [] S n c s K := by
  refine q_aload_n rfl rfl rfl ?_
  refine q_aload_nF rfl rfl rfl ?_
  refine q_iload rfl rfl rfl ?_
  refine q_iconst rfl rfl ?_
  refine q_iadd rfl rfl (q_tn (z := nI (p + 1)) (nI_add p 1) ?_)
  refine q_ialdF rfl rfl (sc_i hp hL (by decide)) (q_tn (sc_v hp hL (by decide)) ?_)
  refine q_aload_nF rfl rfl rfl ?_
  refine q_iload rfl rfl rfl ?_
  refine q_iconst rfl rfl ?_
  refine q_iadd rfl rfl (q_tn (z := nI (p + 2)) (nI_add p 2) ?_)
  refine q_ialdF rfl rfl (sc_i hp hL (by decide)) (q_tn (sc_v hp hL (by decide)) ?_)
  obtain ⟨ob0, hob0, -⟩ := gs_obj hG (k := 0) rfl
  have hn0 := gs_n hG
  refine q_cV rfl rfl (Or.inl rfl) rfl rfl rfl rfl (by omega) hob0 trivial rfl (c2 := c) (s2 := s) rfl rfl rfl rfl (pm_weak (q_kc w96 [((xs (p + 1))).toInt, ((xs (p + 2))).toInt] hG ⟨rfl, ck_oku rfl rfl, ck_oku rfl rfl, trivial⟩ (ck_en_c (fullI _).1 (fullI _).2 (ck_en_c (fullI _).1 (fullI _).2 ck_en_n)) (fun d hd => by cases hd)) (fun r S9 n9 h => ri_of rfl h)) ?_
  rintro r T1 _ ⟨rfl, ⟨zT1, rfl⟩, gT1, eT1⟩
  show PQ (j_SL Ls) (j_SV xs) j_EX mm_L_law 510 [.float 5, .ref 0, .ref 46, .ref 81, .int (nI p), a5, a6, a7] [.int zT1] T1 n c s K
  refine q_pop rfl rfl ?_
  refine q_aload_n rfl rfl rfl ?_
  refine q_aload_nF rfl rfl rfl ?_
  refine q_iload rfl rfl rfl ?_
  refine q_iconst rfl rfl ?_
  refine q_iadd rfl rfl (q_tn (z := nI (p + 1)) (nI_add p 1) ?_)
  refine q_ialdF rfl rfl (sc_i hp hL (by decide)) (q_tn (sc_v hp hL (by decide)) ?_)
  refine q_aload_nF rfl rfl rfl ?_
  refine q_iload rfl rfl rfl ?_
  refine q_iconst rfl rfl ?_
  refine q_iadd rfl rfl (q_tn (z := nI (p + 2)) (nI_add p 2) ?_)
  refine q_ialdF rfl rfl (sc_i hp hL (by decide)) (q_tn (sc_v hp hL (by decide)) ?_)
  obtain ⟨ob1, hob1, -⟩ := gs_obj gT1 (k := 46) rfl
  have hn1 := gs_n gT1
  refine q_cV rfl rfl (Or.inl rfl) rfl rfl rfl rfl (by omega) hob1 trivial rfl (c2 := c) (s2 := s) rfl rfl rfl rfl (pm_weak (q_kc w206 [((xs (p + 1))).toInt, ((xs (p + 2))).toInt] gT1 ⟨rfl, ck_oku rfl rfl, ck_oku rfl rfl, trivial⟩ (ck_en_c (fullI _).1 (fullI _).2 (ck_en_c (fullI _).1 (fullI _).2 ck_en_n)) (fun d hd => by cases hd)) (fun r S9 n9 h => ri_of rfl h)) ?_
  rintro r T2 _ ⟨rfl, ⟨zT2, rfl⟩, gT2, eT2⟩
  show PQ (j_SL Ls) (j_SV xs) j_EX mm_L_law 527 [.float 5, .ref 0, .ref 46, .ref 81, .int (nI p), a5, a6, a7] [.int zT2] T2 n c s K
  refine q_pop rfl rfl ?_
  refine q_goto rfl ?_
  exact hk T2 n _ _ _ _ _ gT2 (smn_tr (smn_tr (smn_rf) (Nat.le_refl _) (smn_of eT1 hn0 rfl)) (Nat.le_refl _) (smn_of eT2 hn1 rfl)) (by omega) (by omega)
set_option maxHeartbeats 4000000 in
theorem g_on11 (hG : GS θ S n) (hp : p + 6 ≤ Ls) (hL : Ls < 2 ^ 31) (hc : c + 5 ≤ 601024) (hs : s + 124 ≤ 7293033) (hk : GKn θ Ls xs S n c s p K) : PQ (j_SL Ls) (j_SV xs) j_EX mm_L_law 531 [.float 5, .ref 0, .ref 46, .ref 81, .int (nI p), a5, a6, a7] [] S n c s K := by
  refine q_aload_n rfl rfl rfl ?_
  refine q_aload_nF rfl rfl rfl ?_
  refine q_iload rfl rfl rfl ?_
  refine q_iconst rfl rfl ?_
  refine q_iadd rfl rfl (q_tn (z := nI (p + 1)) (nI_add p 1) ?_)
  refine q_ialdF rfl rfl (sc_i hp hL (by decide)) (q_tn (sc_v hp hL (by decide)) ?_)
  obtain ⟨ob0, hob0, -⟩ := gs_obj hG (k := 0) rfl
  have hn0 := gs_n hG
  refine q_cV rfl rfl (Or.inl rfl) rfl rfl rfl rfl (by omega) hob0 trivial rfl (c2 := c) (s2 := s) rfl rfl rfl rfl (pm_weak (q_kc w99 [((xs (p + 1))).toInt] hG ⟨rfl, ck_oku rfl rfl, trivial⟩ (ck_en_c (fullI _).1 (fullI _).2 ck_en_n) (fun d hd => by cases hd)) (fun r S9 n9 h => ri_of rfl h)) ?_
  rintro r T1 _ ⟨rfl, ⟨zT1, rfl⟩, gT1, eT1⟩
  show PQ (j_SL Ls) (j_SV xs) j_EX mm_L_law 541 [.float 5, .ref 0, .ref 46, .ref 81, .int (nI p), a5, a6, a7] [.int zT1] T1 n c s K
  refine q_pop rfl rfl ?_
  refine q_aload_n rfl rfl rfl ?_
  refine q_aload_nF rfl rfl rfl ?_
  refine q_iload rfl rfl rfl ?_
  refine q_iconst rfl rfl ?_
  refine q_iadd rfl rfl (q_tn (z := nI (p + 1)) (nI_add p 1) ?_)
  refine q_ialdF rfl rfl (sc_i hp hL (by decide)) (q_tn (sc_v hp hL (by decide)) ?_)
  obtain ⟨ob1, hob1, -⟩ := gs_obj gT1 (k := 46) rfl
  have hn1 := gs_n gT1
  refine q_cV rfl rfl (Or.inl rfl) rfl rfl rfl rfl (by omega) hob1 trivial rfl (c2 := c) (s2 := s) rfl rfl rfl rfl (pm_weak (q_kc w208 [((xs (p + 1))).toInt] gT1 ⟨rfl, ck_oku rfl rfl, trivial⟩ (ck_en_c (fullI _).1 (fullI _).2 ck_en_n) (fun d hd => by cases hd)) (fun r S9 n9 h => ri_of rfl h)) ?_
  rintro r T2 _ ⟨rfl, ⟨zT2, rfl⟩, gT2, eT2⟩
  show PQ (j_SL Ls) (j_SV xs) j_EX mm_L_law 552 [.float 5, .ref 0, .ref 46, .ref 81, .int (nI p), a5, a6, a7] [.int zT2] T2 n c s K
  refine q_pop rfl rfl ?_
  refine q_goto rfl ?_
  exact hk T2 n _ _ _ _ _ gT2 (smn_tr (smn_tr (smn_rf) (Nat.le_refl _) (smn_of eT1 hn0 rfl)) (Nat.le_refl _) (smn_of eT2 hn1 rfl)) (by omega) (by omega)
set_option maxHeartbeats 4000000 in
theorem g_on12 (hG : GS θ S n) (hp : p + 6 ≤ Ls) (hL : Ls < 2 ^ 31) (hc : c + 5 ≤ 601024) (hs : s + 124 ≤ 7293033) (hk : GKn θ Ls xs S n c s p K) : PQ (j_SL Ls) (j_SV xs) j_EX mm_L_law 556 [.float 5, .ref 0, .ref 46, .ref 81, .int (nI p), a5, a6, a7] [] S n c s K := by
  refine q_aload_n rfl rfl rfl ?_
  refine q_aload_nF rfl rfl rfl ?_
  refine q_iload rfl rfl rfl ?_
  refine q_iconst rfl rfl ?_
  refine q_iadd rfl rfl (q_tn (z := nI (p + 1)) (nI_add p 1) ?_)
  refine q_ialdF rfl rfl (sc_i hp hL (by decide)) (q_tn (sc_v hp hL (by decide)) ?_)
  refine q_aload_nF rfl rfl rfl ?_
  refine q_iload rfl rfl rfl ?_
  refine q_iconst rfl rfl ?_
  refine q_iadd rfl rfl (q_tn (z := nI (p + 2)) (nI_add p 2) ?_)
  refine q_ialdF rfl rfl (sc_i hp hL (by decide)) (q_tn (sc_v hp hL (by decide)) ?_)
  obtain ⟨ob0, hob0, -⟩ := gs_obj hG (k := 0) rfl
  have hn0 := gs_n hG
  refine q_cV rfl rfl (Or.inl rfl) rfl rfl rfl rfl (by omega) hob0 trivial rfl (c2 := c) (s2 := s) rfl rfl rfl rfl (pm_weak (q_kc w101 [((xs (p + 1))).toInt, ((xs (p + 2))).toInt] hG ⟨rfl, ck_oku rfl rfl, ck_oku rfl rfl, trivial⟩ (ck_en_c (fullI _).1 (fullI _).2 (ck_en_c (fullI _).1 (fullI _).2 ck_en_n)) (fun d hd => by cases hd)) (fun r S9 n9 h => ri_of rfl h)) ?_
  rintro r T1 _ ⟨rfl, ⟨zT1, rfl⟩, gT1, eT1⟩
  show PQ (j_SL Ls) (j_SV xs) j_EX mm_L_law 572 [.float 5, .ref 0, .ref 46, .ref 81, .int (nI p), a5, a6, a7] [.int zT1] T1 n c s K
  refine q_pop rfl rfl ?_
  refine q_aload_n rfl rfl rfl ?_
  refine q_aload_nF rfl rfl rfl ?_
  refine q_iload rfl rfl rfl ?_
  refine q_iconst rfl rfl ?_
  refine q_iadd rfl rfl (q_tn (z := nI (p + 1)) (nI_add p 1) ?_)
  refine q_ialdF rfl rfl (sc_i hp hL (by decide)) (q_tn (sc_v hp hL (by decide)) ?_)
  refine q_aload_nF rfl rfl rfl ?_
  refine q_iload rfl rfl rfl ?_
  refine q_iconst rfl rfl ?_
  refine q_iadd rfl rfl (q_tn (z := nI (p + 2)) (nI_add p 2) ?_)
  refine q_ialdF rfl rfl (sc_i hp hL (by decide)) (q_tn (sc_v hp hL (by decide)) ?_)
  obtain ⟨ob1, hob1, -⟩ := gs_obj gT1 (k := 46) rfl
  have hn1 := gs_n gT1
  refine q_cV rfl rfl (Or.inl rfl) rfl rfl rfl rfl (by omega) hob1 trivial rfl (c2 := c) (s2 := s) rfl rfl rfl rfl (pm_weak (q_kc w_step0 [((xs (p + 1))).toInt, ((xs (p + 2))).toInt] gT1 ⟨rfl, ck_oku rfl rfl, ck_oku rfl rfl, trivial⟩ (ck_en_c (fullI _).1 (fullI _).2 (ck_en_c (fullI _).1 (fullI _).2 ck_en_n)) (fun d hd => by cases hd)) (fun r S9 n9 h => ri_of rfl h)) ?_
  rintro r T2 _ ⟨rfl, ⟨zT2, rfl⟩, gT2, eT2⟩
  show PQ (j_SL Ls) (j_SV xs) j_EX mm_L_law 589 [.float 5, .ref 0, .ref 46, .ref 81, .int (nI p), a5, a6, a7] [.int zT2] T2 n c s K
  refine q_pop rfl rfl ?_
  refine q_goto rfl ?_
  exact hk T2 n _ _ _ _ _ gT2 (smn_tr (smn_tr (smn_rf) (Nat.le_refl _) (smn_of eT1 hn0 rfl)) (Nat.le_refl _) (smn_of eT2 hn1 rfl)) (by omega) (by omega)
set_option maxHeartbeats 4000000 in
theorem g_on13 (hG : GS θ S n) (hp : p + 6 ≤ Ls) (hL : Ls < 2 ^ 31) (hc : c + 5 ≤ 601024) (hs : s + 124 ≤ 7293033) (hk : GKn θ Ls xs S n c s p K) : PQ (j_SL Ls) (j_SV xs) j_EX mm_L_law 593 [.float 5, .ref 0, .ref 46, .ref 81, .int (nI p), a5, a6, a7] [] S n c s K := by
  refine q_aload_n rfl rfl rfl ?_
  refine q_aload_nF rfl rfl rfl ?_
  refine q_iload rfl rfl rfl ?_
  refine q_iconst rfl rfl ?_
  refine q_iadd rfl rfl (q_tn (z := nI (p + 1)) (nI_add p 1) ?_)
  refine q_ialdF rfl rfl (sc_i hp hL (by decide)) (q_tn (sc_v hp hL (by decide)) ?_)
  obtain ⟨ob0, hob0, -⟩ := gs_obj hG (k := 0) rfl
  have hn0 := gs_n hG
  refine q_cV rfl rfl (Or.inl rfl) rfl rfl rfl rfl (by omega) hob0 trivial rfl (c2 := c) (s2 := s) rfl rfl rfl rfl (pm_weak (q_kc w103 [((xs (p + 1))).toInt] hG ⟨rfl, ck_oku rfl rfl, trivial⟩ (ck_en_c (fullI _).1 (fullI _).2 ck_en_n) (fun d hd => by cases hd)) (fun r S9 n9 h => ri_of rfl h)) ?_
  rintro r T1 _ ⟨rfl, ⟨zT1, rfl⟩, gT1, eT1⟩
  show PQ (j_SL Ls) (j_SV xs) j_EX mm_L_law 603 [.float 5, .ref 0, .ref 46, .ref 81, .int (nI p), a5, a6, a7] [.int zT1] T1 n c s K
  refine q_pop rfl rfl ?_
  refine q_aload_n rfl rfl rfl ?_
  refine q_aload_nF rfl rfl rfl ?_
  refine q_iload rfl rfl rfl ?_
  refine q_iconst rfl rfl ?_
  refine q_iadd rfl rfl (q_tn (z := nI (p + 1)) (nI_add p 1) ?_)
  refine q_ialdF rfl rfl (sc_i hp hL (by decide)) (q_tn (sc_v hp hL (by decide)) ?_)
  obtain ⟨ob1, hob1, -⟩ := gs_obj gT1 (k := 46) rfl
  have hn1 := gs_n gT1
  refine q_cV rfl rfl (Or.inl rfl) rfl rfl rfl rfl (by omega) hob1 trivial rfl (c2 := c) (s2 := s) rfl rfl rfl rfl (pm_weak (q_kc w209 [((xs (p + 1))).toInt] gT1 ⟨rfl, ck_oku rfl rfl, trivial⟩ (ck_en_c (fullI _).1 (fullI _).2 ck_en_n) (fun d hd => by cases hd)) (fun r S9 n9 h => ri_of rfl h)) ?_
  rintro r T2 _ ⟨rfl, ⟨zT2, rfl⟩, gT2, eT2⟩
  show PQ (j_SL Ls) (j_SV xs) j_EX mm_L_law 614 [.float 5, .ref 0, .ref 46, .ref 81, .int (nI p), a5, a6, a7] [.int zT2] T2 n c s K
  refine q_pop rfl rfl ?_
  refine q_goto rfl ?_
  exact hk T2 n _ _ _ _ _ gT2 (smn_tr (smn_tr (smn_rf) (Nat.le_refl _) (smn_of eT1 hn0 rfl)) (Nat.le_refl _) (smn_of eT2 hn1 rfl)) (by omega) (by omega)
set_option maxHeartbeats 4000000 in
theorem g_on14 (hG : GS θ S n) (hp : p + 6 ≤ Ls) (hL : Ls < 2 ^ 31) (hc : c + 5 ≤ 601024) (hs : s + 124 ≤ 7293033) (hk : GKn θ Ls xs S n c s p K) : PQ (j_SL Ls) (j_SV xs) j_EX mm_L_law 618 [.float 5, .ref 0, .ref 46, .ref 81, .int (nI p), a5, a6, a7] [] S n c s K := by
  refine q_aload_n rfl rfl rfl ?_
  refine q_aload_nF rfl rfl rfl ?_
  refine q_iload rfl rfl rfl ?_
  refine q_iconst rfl rfl ?_
  refine q_iadd rfl rfl (q_tn (z := nI (p + 1)) (nI_add p 1) ?_)
  refine q_ialdF rfl rfl (sc_i hp hL (by decide)) (q_tn (sc_v hp hL (by decide)) ?_)
  refine q_aload_nF rfl rfl rfl ?_
  refine q_iload rfl rfl rfl ?_
  refine q_iconst rfl rfl ?_
  refine q_iadd rfl rfl (q_tn (z := nI (p + 2)) (nI_add p 2) ?_)
  refine q_ialdF rfl rfl (sc_i hp hL (by decide)) (q_tn (sc_v hp hL (by decide)) ?_)
  obtain ⟨ob0, hob0, -⟩ := gs_obj hG (k := 0) rfl
  have hn0 := gs_n hG
  refine q_cV rfl rfl (Or.inl rfl) rfl rfl rfl rfl (by omega) hob0 trivial rfl (c2 := c) (s2 := s) rfl rfl rfl rfl (pm_weak (q_kc w107 [((xs (p + 1))).toInt, ((xs (p + 2))).toInt] hG ⟨rfl, ck_oku rfl rfl, ck_oku rfl rfl, trivial⟩ (ck_en_c (fullI _).1 (fullI _).2 (ck_en_c (fullI _).1 (fullI _).2 ck_en_n)) (fun d hd => by cases hd)) (fun r S9 n9 h => ri_of rfl h)) ?_
  rintro r T1 _ ⟨rfl, ⟨zT1, rfl⟩, gT1, eT1⟩
  show PQ (j_SL Ls) (j_SV xs) j_EX mm_L_law 634 [.float 5, .ref 0, .ref 46, .ref 81, .int (nI p), a5, a6, a7] [.int zT1] T1 n c s K
  refine q_pop rfl rfl ?_
  refine q_aload_n rfl rfl rfl ?_
  refine q_aload_nF rfl rfl rfl ?_
  refine q_iload rfl rfl rfl ?_
  refine q_iconst rfl rfl ?_
  refine q_iadd rfl rfl (q_tn (z := nI (p + 1)) (nI_add p 1) ?_)
  refine q_ialdF rfl rfl (sc_i hp hL (by decide)) (q_tn (sc_v hp hL (by decide)) ?_)
  refine q_aload_nF rfl rfl rfl ?_
  refine q_iload rfl rfl rfl ?_
  refine q_iconst rfl rfl ?_
  refine q_iadd rfl rfl (q_tn (z := nI (p + 2)) (nI_add p 2) ?_)
  refine q_ialdF rfl rfl (sc_i hp hL (by decide)) (q_tn (sc_v hp hL (by decide)) ?_)
  obtain ⟨ob1, hob1, -⟩ := gs_obj gT1 (k := 46) rfl
  have hn1 := gs_n gT1
  refine q_cV rfl rfl (Or.inl rfl) rfl rfl rfl rfl (by omega) hob1 trivial rfl (c2 := c) (s2 := s) rfl rfl rfl rfl (pm_weak (q_kc w211 [((xs (p + 1))).toInt, ((xs (p + 2))).toInt] gT1 ⟨rfl, ck_oku rfl rfl, ck_oku rfl rfl, trivial⟩ (ck_en_c (fullI _).1 (fullI _).2 (ck_en_c (fullI _).1 (fullI _).2 ck_en_n)) (fun d hd => by cases hd)) (fun r S9 n9 h => ri_of rfl h)) ?_
  rintro r T2 _ ⟨rfl, ⟨zT2, rfl⟩, gT2, eT2⟩
  show PQ (j_SL Ls) (j_SV xs) j_EX mm_L_law 651 [.float 5, .ref 0, .ref 46, .ref 81, .int (nI p), a5, a6, a7] [.int zT2] T2 n c s K
  refine q_pop rfl rfl ?_
  refine q_goto rfl ?_
  exact hk T2 n _ _ _ _ _ gT2 (smn_tr (smn_tr (smn_rf) (Nat.le_refl _) (smn_of eT1 hn0 rfl)) (Nat.le_refl _) (smn_of eT2 hn1 rfl)) (by omega) (by omega)
set_option maxHeartbeats 4000000 in
theorem g_on15 (hG : GS θ S n) (hp : p + 6 ≤ Ls) (hL : Ls < 2 ^ 31) (hc : c + 5 ≤ 601024) (hs : s + 124 ≤ 7293033) (hk : GKn θ Ls xs S n c s p K) : PQ (j_SL Ls) (j_SV xs) j_EX mm_L_law 655 [.float 5, .ref 0, .ref 46, .ref 81, .int (nI p), a5, a6, a7] [] S n c s K := by
  refine q_aload_n rfl rfl rfl ?_
  refine q_aload_nF rfl rfl rfl ?_
  refine q_iload rfl rfl rfl ?_
  refine q_iconst rfl rfl ?_
  refine q_iadd rfl rfl (q_tn (z := nI (p + 1)) (nI_add p 1) ?_)
  refine q_ialdF rfl rfl (sc_i hp hL (by decide)) (q_tn (sc_v hp hL (by decide)) ?_)
  refine q_aload_nF rfl rfl rfl ?_
  refine q_iload rfl rfl rfl ?_
  refine q_iconst rfl rfl ?_
  refine q_iadd rfl rfl (q_tn (z := nI (p + 2)) (nI_add p 2) ?_)
  refine q_ialdF rfl rfl (sc_i hp hL (by decide)) (q_tn (sc_v hp hL (by decide)) ?_)
  refine q_aload_nF rfl rfl rfl ?_
  refine q_iload rfl rfl rfl ?_
  refine q_iconst rfl rfl ?_
  refine q_iadd rfl rfl (q_tn (z := nI (p + 3)) (nI_add p 3) ?_)
  refine q_ialdF rfl rfl (sc_i hp hL (by decide)) (q_tn (sc_v hp hL (by decide)) ?_)
  refine q_aload_nF rfl rfl rfl ?_
  refine q_iload rfl rfl rfl ?_
  refine q_iconst rfl rfl ?_
  refine q_iadd rfl rfl (q_tn (z := nI (p + 4)) (nI_add p 4) ?_)
  refine q_ialdF rfl rfl (sc_i hp hL (by decide)) (q_tn (sc_v hp hL (by decide)) ?_)
  obtain ⟨ob0, hob0, -⟩ := gs_obj hG (k := 0) rfl
  have hn0 := gs_n hG
  refine q_cV rfl rfl (Or.inl rfl) rfl rfl rfl rfl (by omega) hob0 trivial rfl (c2 := c) (s2 := s) rfl rfl rfl rfl (pm_weak (q_kc w108 [((xs (p + 1))).toInt, ((xs (p + 2))).toInt, ((xs (p + 3))).toInt, ((xs (p + 4))).toInt] hG ⟨rfl, ck_oku rfl rfl, ck_oku rfl rfl, ck_oku rfl rfl, ck_oku rfl rfl, trivial⟩ (ck_en_c (fullI _).1 (fullI _).2 (ck_en_c (fullI _).1 (fullI _).2 (ck_en_c (fullI _).1 (fullI _).2 (ck_en_c (fullI _).1 (fullI _).2 ck_en_n)))) (fun d hd => by cases hd)) (fun r S9 n9 h => ri_of rfl h)) ?_
  rintro r T1 _ ⟨rfl, ⟨zT1, rfl⟩, gT1, eT1⟩
  show PQ (j_SL Ls) (j_SV xs) j_EX mm_L_law 683 [.float 5, .ref 0, .ref 46, .ref 81, .int (nI p), a5, a6, a7] [.int zT1] T1 n c s K
  refine q_pop rfl rfl ?_
  refine q_aload_n rfl rfl rfl ?_
  refine q_aload_nF rfl rfl rfl ?_
  refine q_iload rfl rfl rfl ?_
  refine q_iconst rfl rfl ?_
  refine q_iadd rfl rfl (q_tn (z := nI (p + 1)) (nI_add p 1) ?_)
  refine q_ialdF rfl rfl (sc_i hp hL (by decide)) (q_tn (sc_v hp hL (by decide)) ?_)
  refine q_aload_nF rfl rfl rfl ?_
  refine q_iload rfl rfl rfl ?_
  refine q_iconst rfl rfl ?_
  refine q_iadd rfl rfl (q_tn (z := nI (p + 2)) (nI_add p 2) ?_)
  refine q_ialdF rfl rfl (sc_i hp hL (by decide)) (q_tn (sc_v hp hL (by decide)) ?_)
  refine q_aload_nF rfl rfl rfl ?_
  refine q_iload rfl rfl rfl ?_
  refine q_iconst rfl rfl ?_
  refine q_iadd rfl rfl (q_tn (z := nI (p + 3)) (nI_add p 3) ?_)
  refine q_ialdF rfl rfl (sc_i hp hL (by decide)) (q_tn (sc_v hp hL (by decide)) ?_)
  refine q_aload_nF rfl rfl rfl ?_
  refine q_iload rfl rfl rfl ?_
  refine q_iconst rfl rfl ?_
  refine q_iadd rfl rfl (q_tn (z := nI (p + 4)) (nI_add p 4) ?_)
  refine q_ialdF rfl rfl (sc_i hp hL (by decide)) (q_tn (sc_v hp hL (by decide)) ?_)
  obtain ⟨ob1, hob1, -⟩ := gs_obj gT1 (k := 46) rfl
  have hn1 := gs_n gT1
  refine q_cV rfl rfl (Or.inl rfl) rfl rfl rfl rfl (by omega) hob1 trivial rfl (c2 := c) (s2 := s) rfl rfl rfl rfl (pm_weak (q_kc w212 [((xs (p + 1))).toInt, ((xs (p + 2))).toInt, ((xs (p + 3))).toInt, ((xs (p + 4))).toInt] gT1 ⟨rfl, ck_oku rfl rfl, ck_oku rfl rfl, ck_oku rfl rfl, ck_oku rfl rfl, trivial⟩ (ck_en_c (fullI _).1 (fullI _).2 (ck_en_c (fullI _).1 (fullI _).2 (ck_en_c (fullI _).1 (fullI _).2 (ck_en_c (fullI _).1 (fullI _).2 ck_en_n)))) (fun d hd => by cases hd)) (fun r S9 n9 h => ri_of rfl h)) ?_
  rintro r T2 _ ⟨rfl, ⟨zT2, rfl⟩, gT2, eT2⟩
  show PQ (j_SL Ls) (j_SV xs) j_EX mm_L_law 712 [.float 5, .ref 0, .ref 46, .ref 81, .int (nI p), a5, a6, a7] [.int zT2] T2 n c s K
  refine q_pop rfl rfl ?_
  refine q_goto rfl ?_
  exact hk T2 n _ _ _ _ _ gT2 (smn_tr (smn_tr (smn_rf) (Nat.le_refl _) (smn_of eT1 hn0 rfl)) (Nat.le_refl _) (smn_of eT2 hn1 rfl)) (by omega) (by omega)
set_option maxHeartbeats 4000000 in
theorem g_on16 (hG : GS θ S n) (hp : p + 6 ≤ Ls) (hL : Ls < 2 ^ 31) (hc : c + 5 ≤ 601024) (hs : s + 124 ≤ 7293033) (hk : GKn θ Ls xs S n c s p K) : PQ (j_SL Ls) (j_SV xs) j_EX mm_L_law 716 [.float 5, .ref 0, .ref 46, .ref 81, .int (nI p), a5, a6, a7] [] S n c s K := by
  refine q_aload_n rfl rfl rfl ?_
  refine q_aload_nF rfl rfl rfl ?_
  refine q_iload rfl rfl rfl ?_
  refine q_iconst rfl rfl ?_
  refine q_iadd rfl rfl (q_tn (z := nI (p + 1)) (nI_add p 1) ?_)
  refine q_ialdF rfl rfl (sc_i hp hL (by decide)) (q_tn (sc_v hp hL (by decide)) ?_)
  refine q_aload_nF rfl rfl rfl ?_
  refine q_iload rfl rfl rfl ?_
  refine q_iconst rfl rfl ?_
  refine q_iadd rfl rfl (q_tn (z := nI (p + 2)) (nI_add p 2) ?_)
  refine q_ialdF rfl rfl (sc_i hp hL (by decide)) (q_tn (sc_v hp hL (by decide)) ?_)
  refine q_aload_nF rfl rfl rfl ?_
  refine q_iload rfl rfl rfl ?_
  refine q_iconst rfl rfl ?_
  refine q_iadd rfl rfl (q_tn (z := nI (p + 3)) (nI_add p 3) ?_)
  refine q_ialdF rfl rfl (sc_i hp hL (by decide)) (q_tn (sc_v hp hL (by decide)) ?_)
  obtain ⟨ob0, hob0, -⟩ := gs_obj hG (k := 0) rfl
  have hn0 := gs_n hG
  refine q_cV rfl rfl (Or.inl rfl) rfl rfl rfl rfl (by omega) hob0 trivial rfl (c2 := c) (s2 := s) rfl rfl rfl rfl (pm_weak (q_kc w110 [((xs (p + 1))).toInt, ((xs (p + 2))).toInt, ((xs (p + 3))).toInt] hG ⟨rfl, ck_oku rfl rfl, ck_oku rfl rfl, ck_oku rfl rfl, trivial⟩ (ck_en_c (fullI _).1 (fullI _).2 (ck_en_c (fullI _).1 (fullI _).2 (ck_en_c (fullI _).1 (fullI _).2 ck_en_n))) (fun d hd => by cases hd)) (fun r S9 n9 h => ri_of rfl h)) ?_
  rintro r T1 _ ⟨rfl, ⟨zT1, rfl⟩, gT1, eT1⟩
  show PQ (j_SL Ls) (j_SV xs) j_EX mm_L_law 738 [.float 5, .ref 0, .ref 46, .ref 81, .int (nI p), a5, a6, a7] [.int zT1] T1 n c s K
  refine q_pop rfl rfl ?_
  refine q_aload_n rfl rfl rfl ?_
  refine q_aload_nF rfl rfl rfl ?_
  refine q_iload rfl rfl rfl ?_
  refine q_iconst rfl rfl ?_
  refine q_iadd rfl rfl (q_tn (z := nI (p + 1)) (nI_add p 1) ?_)
  refine q_ialdF rfl rfl (sc_i hp hL (by decide)) (q_tn (sc_v hp hL (by decide)) ?_)
  refine q_aload_nF rfl rfl rfl ?_
  refine q_iload rfl rfl rfl ?_
  refine q_iconst rfl rfl ?_
  refine q_iadd rfl rfl (q_tn (z := nI (p + 2)) (nI_add p 2) ?_)
  refine q_ialdF rfl rfl (sc_i hp hL (by decide)) (q_tn (sc_v hp hL (by decide)) ?_)
  refine q_aload_nF rfl rfl rfl ?_
  refine q_iload rfl rfl rfl ?_
  refine q_iconst rfl rfl ?_
  refine q_iadd rfl rfl (q_tn (z := nI (p + 3)) (nI_add p 3) ?_)
  refine q_ialdF rfl rfl (sc_i hp hL (by decide)) (q_tn (sc_v hp hL (by decide)) ?_)
  obtain ⟨ob1, hob1, -⟩ := gs_obj gT1 (k := 46) rfl
  have hn1 := gs_n gT1
  refine q_cV rfl rfl (Or.inl rfl) rfl rfl rfl rfl (by omega) hob1 trivial rfl (c2 := c) (s2 := s) rfl rfl rfl rfl (pm_weak (q_kc w213 [((xs (p + 1))).toInt, ((xs (p + 2))).toInt, ((xs (p + 3))).toInt] gT1 ⟨rfl, ck_oku rfl rfl, ck_oku rfl rfl, ck_oku rfl rfl, trivial⟩ (ck_en_c (fullI _).1 (fullI _).2 (ck_en_c (fullI _).1 (fullI _).2 (ck_en_c (fullI _).1 (fullI _).2 ck_en_n))) (fun d hd => by cases hd)) (fun r S9 n9 h => ri_of rfl h)) ?_
  rintro r T2 _ ⟨rfl, ⟨zT2, rfl⟩, gT2, eT2⟩
  show PQ (j_SL Ls) (j_SV xs) j_EX mm_L_law 761 [.float 5, .ref 0, .ref 46, .ref 81, .int (nI p), a5, a6, a7] [.int zT2] T2 n c s K
  refine q_pop rfl rfl ?_
  refine q_goto rfl ?_
  exact hk T2 n _ _ _ _ _ gT2 (smn_tr (smn_tr (smn_rf) (Nat.le_refl _) (smn_of eT1 hn0 rfl)) (Nat.le_refl _) (smn_of eT2 hn1 rfl)) (by omega) (by omega)
set_option maxHeartbeats 4000000 in
theorem g_on17 (hG : GS θ S n) (hp : p + 6 ≤ Ls) (hL : Ls < 2 ^ 31) (hc : c + 5 ≤ 601024) (hs : s + 124 ≤ 7293033) (hk : GKn θ Ls xs S n c s p K) : PQ (j_SL Ls) (j_SV xs) j_EX mm_L_law 765 [.float 5, .ref 0, .ref 46, .ref 81, .int (nI p), a5, a6, a7] [] S n c s K := by
  refine q_aload_n rfl rfl rfl ?_
  refine q_aload_nF rfl rfl rfl ?_
  refine q_iload rfl rfl rfl ?_
  refine q_iconst rfl rfl ?_
  refine q_iadd rfl rfl (q_tn (z := nI (p + 1)) (nI_add p 1) ?_)
  refine q_ialdF rfl rfl (sc_i hp hL (by decide)) (q_tn (sc_v hp hL (by decide)) ?_)
  refine q_aload_nF rfl rfl rfl ?_
  refine q_iload rfl rfl rfl ?_
  refine q_iconst rfl rfl ?_
  refine q_iadd rfl rfl (q_tn (z := nI (p + 2)) (nI_add p 2) ?_)
  refine q_ialdF rfl rfl (sc_i hp hL (by decide)) (q_tn (sc_v hp hL (by decide)) ?_)
  refine q_aload_nF rfl rfl rfl ?_
  refine q_iload rfl rfl rfl ?_
  refine q_iconst rfl rfl ?_
  refine q_iadd rfl rfl (q_tn (z := nI (p + 3)) (nI_add p 3) ?_)
  refine q_ialdF rfl rfl (sc_i hp hL (by decide)) (q_tn (sc_v hp hL (by decide)) ?_)
  obtain ⟨ob0, hob0, -⟩ := gs_obj hG (k := 0) rfl
  have hn0 := gs_n hG
  refine q_cV rfl rfl (Or.inl rfl) rfl rfl rfl rfl (by omega) hob0 trivial rfl (c2 := c) (s2 := s) rfl rfl rfl rfl (pm_weak (q_kc w144 [((xs (p + 1))).toInt, ((xs (p + 2))).toInt, ((xs (p + 3))).toInt] hG ⟨rfl, ck_oku rfl rfl, ck_oku rfl rfl, ck_oku rfl rfl, trivial⟩ (ck_en_c (fullI _).1 (fullI _).2 (ck_en_c (fullI _).1 (fullI _).2 (ck_en_c (fullI _).1 (fullI _).2 ck_en_n))) (fun d hd => by cases hd)) (fun r S9 n9 h => ri_of rfl h)) ?_
  rintro r T1 _ ⟨rfl, ⟨zT1, rfl⟩, gT1, eT1⟩
  show PQ (j_SL Ls) (j_SV xs) j_EX mm_L_law 787 [.float 5, .ref 0, .ref 46, .ref 81, .int (nI p), a5, a6, a7] [.int zT1] T1 n c s K
  refine q_pop rfl rfl ?_
  refine q_aload_n rfl rfl rfl ?_
  refine q_aload_nF rfl rfl rfl ?_
  refine q_iload rfl rfl rfl ?_
  refine q_iconst rfl rfl ?_
  refine q_iadd rfl rfl (q_tn (z := nI (p + 1)) (nI_add p 1) ?_)
  refine q_ialdF rfl rfl (sc_i hp hL (by decide)) (q_tn (sc_v hp hL (by decide)) ?_)
  refine q_aload_nF rfl rfl rfl ?_
  refine q_iload rfl rfl rfl ?_
  refine q_iconst rfl rfl ?_
  refine q_iadd rfl rfl (q_tn (z := nI (p + 2)) (nI_add p 2) ?_)
  refine q_ialdF rfl rfl (sc_i hp hL (by decide)) (q_tn (sc_v hp hL (by decide)) ?_)
  refine q_aload_nF rfl rfl rfl ?_
  refine q_iload rfl rfl rfl ?_
  refine q_iconst rfl rfl ?_
  refine q_iadd rfl rfl (q_tn (z := nI (p + 3)) (nI_add p 3) ?_)
  refine q_ialdF rfl rfl (sc_i hp hL (by decide)) (q_tn (sc_v hp hL (by decide)) ?_)
  obtain ⟨ob1, hob1, -⟩ := gs_obj gT1 (k := 46) rfl
  have hn1 := gs_n gT1
  refine q_cV rfl rfl (Or.inl rfl) rfl rfl rfl rfl (by omega) hob1 trivial rfl (c2 := c) (s2 := s) rfl rfl rfl rfl (pm_weak (q_kc w264 [((xs (p + 1))).toInt, ((xs (p + 2))).toInt, ((xs (p + 3))).toInt] gT1 ⟨rfl, ck_oku rfl rfl, ck_oku rfl rfl, ck_oku rfl rfl, trivial⟩ (ck_en_c (fullI _).1 (fullI _).2 (ck_en_c (fullI _).1 (fullI _).2 (ck_en_c (fullI _).1 (fullI _).2 ck_en_n))) (fun d hd => by cases hd)) (fun r S9 n9 h => ri_of rfl h)) ?_
  rintro r T2 _ ⟨rfl, ⟨zT2, rfl⟩, gT2, eT2⟩
  show PQ (j_SL Ls) (j_SV xs) j_EX mm_L_law 810 [.float 5, .ref 0, .ref 46, .ref 81, .int (nI p), a5, a6, a7] [.int zT2] T2 n c s K
  refine q_pop rfl rfl ?_
  refine q_goto rfl ?_
  exact hk T2 n _ _ _ _ _ gT2 (smn_tr (smn_tr (smn_rf) (Nat.le_refl _) (smn_of eT1 hn0 rfl)) (Nat.le_refl _) (smn_of eT2 hn1 rfl)) (by omega) (by omega)
set_option maxHeartbeats 4000000 in
theorem g_on18 (hG : GS θ S n) (hp : p + 6 ≤ Ls) (hL : Ls < 2 ^ 31) (hc : c + 5 ≤ 601024) (hs : s + 124 ≤ 7293033) (hk : GKn θ Ls xs S n c s p K) : PQ (j_SL Ls) (j_SV xs) j_EX mm_L_law 814 [.float 5, .ref 0, .ref 46, .ref 81, .int (nI p), a5, a6, a7] [] S n c s K := by
  refine q_aload_n rfl rfl rfl ?_
  refine q_aload_nF rfl rfl rfl ?_
  refine q_iload rfl rfl rfl ?_
  refine q_iconst rfl rfl ?_
  refine q_iadd rfl rfl (q_tn (z := nI (p + 1)) (nI_add p 1) ?_)
  refine q_ialdF rfl rfl (sc_i hp hL (by decide)) (q_tn (sc_v hp hL (by decide)) ?_)
  refine q_aload_nF rfl rfl rfl ?_
  refine q_iload rfl rfl rfl ?_
  refine q_iconst rfl rfl ?_
  refine q_iadd rfl rfl (q_tn (z := nI (p + 2)) (nI_add p 2) ?_)
  refine q_ialdF rfl rfl (sc_i hp hL (by decide)) (q_tn (sc_v hp hL (by decide)) ?_)
  obtain ⟨ob0, hob0, -⟩ := gs_obj hG (k := 0) rfl
  have hn0 := gs_n hG
  refine q_cV rfl rfl (Or.inl rfl) rfl rfl rfl rfl (by omega) hob0 trivial rfl (c2 := c) (s2 := s) rfl rfl rfl rfl (pm_weak (q_kc w147 [((xs (p + 1))).toInt, ((xs (p + 2))).toInt] hG ⟨rfl, ck_oku rfl rfl, ck_oku rfl rfl, trivial⟩ (ck_en_c (fullI _).1 (fullI _).2 (ck_en_c (fullI _).1 (fullI _).2 ck_en_n)) (fun d hd => by cases hd)) (fun r S9 n9 h => ri_of rfl h)) ?_
  rintro r T1 _ ⟨rfl, ⟨zT1, rfl⟩, gT1, eT1⟩
  show PQ (j_SL Ls) (j_SV xs) j_EX mm_L_law 830 [.float 5, .ref 0, .ref 46, .ref 81, .int (nI p), a5, a6, a7] [.int zT1] T1 n c s K
  refine q_pop rfl rfl ?_
  refine q_aload_n rfl rfl rfl ?_
  refine q_aload_nF rfl rfl rfl ?_
  refine q_iload rfl rfl rfl ?_
  refine q_iconst rfl rfl ?_
  refine q_iadd rfl rfl (q_tn (z := nI (p + 1)) (nI_add p 1) ?_)
  refine q_ialdF rfl rfl (sc_i hp hL (by decide)) (q_tn (sc_v hp hL (by decide)) ?_)
  refine q_aload_nF rfl rfl rfl ?_
  refine q_iload rfl rfl rfl ?_
  refine q_iconst rfl rfl ?_
  refine q_iadd rfl rfl (q_tn (z := nI (p + 2)) (nI_add p 2) ?_)
  refine q_ialdF rfl rfl (sc_i hp hL (by decide)) (q_tn (sc_v hp hL (by decide)) ?_)
  obtain ⟨ob1, hob1, -⟩ := gs_obj gT1 (k := 46) rfl
  have hn1 := gs_n gT1
  refine q_cV rfl rfl (Or.inl rfl) rfl rfl rfl rfl (by omega) hob1 trivial rfl (c2 := c) (s2 := s) rfl rfl rfl rfl (pm_weak (q_kc w266 [((xs (p + 1))).toInt, ((xs (p + 2))).toInt] gT1 ⟨rfl, ck_oku rfl rfl, ck_oku rfl rfl, trivial⟩ (ck_en_c (fullI _).1 (fullI _).2 (ck_en_c (fullI _).1 (fullI _).2 ck_en_n)) (fun d hd => by cases hd)) (fun r S9 n9 h => ri_of rfl h)) ?_
  rintro r T2 _ ⟨rfl, ⟨zT2, rfl⟩, gT2, eT2⟩
  show PQ (j_SL Ls) (j_SV xs) j_EX mm_L_law 847 [.float 5, .ref 0, .ref 46, .ref 81, .int (nI p), a5, a6, a7] [.int zT2] T2 n c s K
  refine q_pop rfl rfl ?_
  refine q_goto rfl ?_
  exact hk T2 n _ _ _ _ _ gT2 (smn_tr (smn_tr (smn_rf) (Nat.le_refl _) (smn_of eT1 hn0 rfl)) (Nat.le_refl _) (smn_of eT2 hn1 rfl)) (by omega) (by omega)
set_option maxHeartbeats 4000000 in
theorem g_on19 (hG : GS θ S n) (hp : p + 6 ≤ Ls) (hL : Ls < 2 ^ 31) (hc : c + 5 ≤ 601024) (hs : s + 124 ≤ 7293033) (hk : GKn θ Ls xs S n c s p K) : PQ (j_SL Ls) (j_SV xs) j_EX mm_L_law 851 [.float 5, .ref 0, .ref 46, .ref 81, .int (nI p), a5, a6, a7] [] S n c s K := by
  refine q_aload_n rfl rfl rfl ?_
  refine q_aload_nF rfl rfl rfl ?_
  refine q_iload rfl rfl rfl ?_
  refine q_iconst rfl rfl ?_
  refine q_iadd rfl rfl (q_tn (z := nI (p + 1)) (nI_add p 1) ?_)
  refine q_ialdF rfl rfl (sc_i hp hL (by decide)) (q_tn (sc_v hp hL (by decide)) ?_)
  refine q_aload_nF rfl rfl rfl ?_
  refine q_iload rfl rfl rfl ?_
  refine q_iconst rfl rfl ?_
  refine q_iadd rfl rfl (q_tn (z := nI (p + 2)) (nI_add p 2) ?_)
  refine q_ialdF rfl rfl (sc_i hp hL (by decide)) (q_tn (sc_v hp hL (by decide)) ?_)
  refine q_aload_nF rfl rfl rfl ?_
  refine q_iload rfl rfl rfl ?_
  refine q_iconst rfl rfl ?_
  refine q_iadd rfl rfl (q_tn (z := nI (p + 3)) (nI_add p 3) ?_)
  refine q_ialdF rfl rfl (sc_i hp hL (by decide)) (q_tn (sc_v hp hL (by decide)) ?_)
  have key1 : ∀ v : Int32, (0 : Int) ≤ v.toInt → v.toInt ≤ 1 → PQ (j_SL Ls) (j_SV xs) j_EX mm_L_law 878 [.float 5, .ref 0, .ref 46, .ref 81, .int (nI p), a5, a6, a7] [.int v, .int (xs (p + 2)), .int (xs (p + 1)), .ref 0] S n c s K := by
    intro v v0 v1
    obtain ⟨ob0, hob0, -⟩ := gs_obj hG (k := 0) rfl
    have hn0 := gs_n hG
    refine q_cV rfl rfl (Or.inl rfl) rfl rfl rfl rfl (by omega) hob0 trivial rfl (c2 := c) (s2 := s) rfl rfl rfl rfl (pm_weak (q_kc w151 [((xs (p + 1))).toInt, ((xs (p + 2))).toInt, v.toInt] hG ⟨rfl, ck_oku rfl rfl, ck_oku rfl rfl, ck_oku rfl rfl, trivial⟩ (ck_en_c (fullI _).1 (fullI _).2 (ck_en_c (fullI _).1 (fullI _).2 (ck_en_c v0 v1 ck_en_n))) (fun d hd => by cases hd)) (fun r S9 n9 h => ri_of rfl h)) ?_
    rintro r T1 _ ⟨rfl, ⟨zT1, rfl⟩, gT1, eT1⟩
    show PQ (j_SL Ls) (j_SV xs) j_EX mm_L_law 881 [.float 5, .ref 0, .ref 46, .ref 81, .int (nI p), a5, a6, a7] [.int zT1] T1 n c s K
    refine q_pop rfl rfl ?_
    refine q_aload_n rfl rfl rfl ?_
    refine q_aload_nF rfl rfl rfl ?_
    refine q_iload rfl rfl rfl ?_
    refine q_iconst rfl rfl ?_
    refine q_iadd rfl rfl (q_tn (z := nI (p + 1)) (nI_add p 1) ?_)
    refine q_ialdF rfl rfl (sc_i hp hL (by decide)) (q_tn (sc_v hp hL (by decide)) ?_)
    refine q_aload_nF rfl rfl rfl ?_
    refine q_iload rfl rfl rfl ?_
    refine q_iconst rfl rfl ?_
    refine q_iadd rfl rfl (q_tn (z := nI (p + 2)) (nI_add p 2) ?_)
    refine q_ialdF rfl rfl (sc_i hp hL (by decide)) (q_tn (sc_v hp hL (by decide)) ?_)
    refine q_aload_nF rfl rfl rfl ?_
    refine q_iload rfl rfl rfl ?_
    refine q_iconst rfl rfl ?_
    refine q_iadd rfl rfl (q_tn (z := nI (p + 3)) (nI_add p 3) ?_)
    refine q_ialdF rfl rfl (sc_i hp hL (by decide)) (q_tn (sc_v hp hL (by decide)) ?_)
    have key2 : ∀ v : Int32, (0 : Int) ≤ v.toInt → v.toInt ≤ 1 → PQ (j_SL Ls) (j_SV xs) j_EX mm_L_law 909 [.float 5, .ref 0, .ref 46, .ref 81, .int (nI p), a5, a6, a7] [.int v, .int (xs (p + 2)), .int (xs (p + 1)), .ref 46] T1 n c s K := by
      intro v v0 v1
      obtain ⟨ob1, hob1, -⟩ := gs_obj gT1 (k := 46) rfl
      have hn1 := gs_n gT1
      refine q_cV rfl rfl (Or.inl rfl) rfl rfl rfl rfl (by omega) hob1 trivial rfl (c2 := c) (s2 := s) rfl rfl rfl rfl (pm_weak (q_kc w267 [((xs (p + 1))).toInt, ((xs (p + 2))).toInt, v.toInt] gT1 ⟨rfl, ck_oku rfl rfl, ck_oku rfl rfl, ck_oku rfl rfl, trivial⟩ (ck_en_c (fullI _).1 (fullI _).2 (ck_en_c (fullI _).1 (fullI _).2 (ck_en_c v0 v1 ck_en_n))) (fun d hd => by cases hd)) (fun r S9 n9 h => ri_of rfl h)) ?_
      rintro r T2 _ ⟨rfl, ⟨zT2, rfl⟩, gT2, eT2⟩
      show PQ (j_SL Ls) (j_SV xs) j_EX mm_L_law 912 [.float 5, .ref 0, .ref 46, .ref 81, .int (nI p), a5, a6, a7] [.int zT2] T2 n c s K
      refine q_pop rfl rfl ?_
      refine q_goto rfl ?_
      exact hk T2 n _ _ _ _ _ gT2 (smn_tr (smn_tr (smn_rf) (Nat.le_refl _) (smn_of eT1 hn0 rfl)) (Nat.le_refl _) (smn_of eT2 hn1 rfl)) (by omega) (by omega)
    exact q_ifeq rfl rfl (fun _ => q_iconst rfl rfl (key2 0 (by decide) (by decide))) (fun _ => q_iconst rfl rfl (q_goto rfl (key2 1 (by decide) (by decide))))
  exact q_ifeq rfl rfl (fun _ => q_iconst rfl rfl (key1 0 (by decide) (by decide))) (fun _ => q_iconst rfl rfl (q_goto rfl (key1 1 (by decide) (by decide))))
set_option maxHeartbeats 4000000 in
theorem g_on20 (hG : GS θ S n) (hp : p + 6 ≤ Ls) (hL : Ls < 2 ^ 31) (hc : c + 5 ≤ 601024) (hs : s + 124 ≤ 7293033) (hk : GKn θ Ls xs S n c s p K) : PQ (j_SL Ls) (j_SV xs) j_EX mm_L_law 916 [.float 5, .ref 0, .ref 46, .ref 81, .int (nI p), a5, a6, a7] [] S n c s K := by
  refine q_aload_n rfl rfl rfl ?_
  refine q_aload_nF rfl rfl rfl ?_
  refine q_iload rfl rfl rfl ?_
  refine q_iconst rfl rfl ?_
  refine q_iadd rfl rfl (q_tn (z := nI (p + 1)) (nI_add p 1) ?_)
  refine q_ialdF rfl rfl (sc_i hp hL (by decide)) (q_tn (sc_v hp hL (by decide)) ?_)
  obtain ⟨ob0, hob0, -⟩ := gs_obj hG (k := 0) rfl
  have hn0 := gs_n hG
  refine q_cV rfl rfl (Or.inl rfl) rfl rfl rfl rfl (by omega) hob0 trivial rfl (c2 := c) (s2 := s) rfl rfl rfl rfl (pm_weak (q_kc w154 [((xs (p + 1))).toInt] hG ⟨rfl, ck_oku rfl rfl, trivial⟩ (ck_en_c (fullI _).1 (fullI _).2 ck_en_n) (fun d hd => by cases hd)) (fun r S9 n9 h => ri_of rfl h)) ?_
  rintro r T1 _ ⟨rfl, ⟨zT1, rfl⟩, gT1, eT1⟩
  show PQ (j_SL Ls) (j_SV xs) j_EX mm_L_law 926 [.float 5, .ref 0, .ref 46, .ref 81, .int (nI p), a5, a6, a7] [.int zT1] T1 n c s K
  refine q_pop rfl rfl ?_
  refine q_aload_n rfl rfl rfl ?_
  refine q_aload_nF rfl rfl rfl ?_
  refine q_iload rfl rfl rfl ?_
  refine q_iconst rfl rfl ?_
  refine q_iadd rfl rfl (q_tn (z := nI (p + 1)) (nI_add p 1) ?_)
  refine q_ialdF rfl rfl (sc_i hp hL (by decide)) (q_tn (sc_v hp hL (by decide)) ?_)
  obtain ⟨ob1, hob1, -⟩ := gs_obj gT1 (k := 46) rfl
  have hn1 := gs_n gT1
  refine q_cV rfl rfl (Or.inl rfl) rfl rfl rfl rfl (by omega) hob1 trivial rfl (c2 := c) (s2 := s) rfl rfl rfl rfl (pm_weak (q_kc w270 [((xs (p + 1))).toInt] gT1 ⟨rfl, ck_oku rfl rfl, trivial⟩ (ck_en_c (fullI _).1 (fullI _).2 ck_en_n) (fun d hd => by cases hd)) (fun r S9 n9 h => ri_of rfl h)) ?_
  rintro r T2 _ ⟨rfl, ⟨zT2, rfl⟩, gT2, eT2⟩
  show PQ (j_SL Ls) (j_SV xs) j_EX mm_L_law 937 [.float 5, .ref 0, .ref 46, .ref 81, .int (nI p), a5, a6, a7] [.int zT2] T2 n c s K
  refine q_pop rfl rfl ?_
  refine q_goto rfl ?_
  exact hk T2 n _ _ _ _ _ gT2 (smn_tr (smn_tr (smn_rf) (Nat.le_refl _) (smn_of eT1 hn0 rfl)) (Nat.le_refl _) (smn_of eT2 hn1 rfl)) (by omega) (by omega)
set_option maxHeartbeats 4000000 in
theorem g_on21 (hG : GS θ S n) (hp : p + 6 ≤ Ls) (hL : Ls < 2 ^ 31) (hc : c + 5 ≤ 601024) (hs : s + 124 ≤ 7293033) (hk : GKn θ Ls xs S n c s p K) : PQ (j_SL Ls) (j_SV xs) j_EX mm_L_law 941 [.float 5, .ref 0, .ref 46, .ref 81, .int (nI p), a5, a6, a7] [] S n c s K := by
  refine q_aload_n rfl rfl rfl ?_
  obtain ⟨ob0, hob0, -⟩ := gs_obj hG (k := 0) rfl
  have hn0 := gs_n hG
  refine q_cV rfl rfl (Or.inl rfl) rfl rfl rfl rfl (by omega) hob0 trivial rfl (c2 := c) (s2 := s) rfl rfl rfl rfl (pm_weak (q_kc w156 [] hG ⟨rfl, trivial⟩ ck_en_n (fun d hd => by cases hd)) (fun r S9 n9 h => ri_of rfl h)) ?_
  rintro r T1 _ ⟨rfl, ⟨zT1, rfl⟩, gT1, eT1⟩
  show PQ (j_SL Ls) (j_SV xs) j_EX mm_L_law 945 [.float 5, .ref 0, .ref 46, .ref 81, .int (nI p), a5, a6, a7] [.int zT1] T1 n c s K
  refine q_pop rfl rfl ?_
  refine q_aload_n rfl rfl rfl ?_
  obtain ⟨ob1, hob1, -⟩ := gs_obj gT1 (k := 46) rfl
  have hn1 := gs_n gT1
  refine q_cV rfl rfl (Or.inl rfl) rfl rfl rfl rfl (by omega) hob1 trivial rfl (c2 := c) (s2 := s) rfl rfl rfl rfl (pm_weak (q_kc w272 [] gT1 ⟨rfl, trivial⟩ ck_en_n (fun d hd => by cases hd)) (fun r S9 n9 h => ri_of rfl h)) ?_
  rintro r T2 _ ⟨rfl, ⟨zT2, rfl⟩, gT2, eT2⟩
  show PQ (j_SL Ls) (j_SV xs) j_EX mm_L_law 950 [.float 5, .ref 0, .ref 46, .ref 81, .int (nI p), a5, a6, a7] [.int zT2] T2 n c s K
  refine q_pop rfl rfl ?_
  refine q_goto rfl ?_
  exact hk T2 n _ _ _ _ _ gT2 (smn_tr (smn_tr (smn_rf) (Nat.le_refl _) (smn_of eT1 hn0 rfl)) (Nat.le_refl _) (smn_of eT2 hn1 rfl)) (by omega) (by omega)
set_option maxHeartbeats 4000000 in
theorem g_on22 (hG : GS θ S n) (hp : p + 6 ≤ Ls) (hL : Ls < 2 ^ 31) (hc : c + 5 ≤ 601024) (hs : s + 124 ≤ 7293033) (hk : GKn θ Ls xs S n c s p K) : PQ (j_SL Ls) (j_SV xs) j_EX mm_L_law 954 [.float 5, .ref 0, .ref 46, .ref 81, .int (nI p), a5, a6, a7] [] S n c s K := by
  refine q_aload_n rfl rfl rfl ?_
  obtain ⟨ob0, hob0, -⟩ := gs_obj hG (k := 0) rfl
  have hn0 := gs_n hG
  refine q_cV rfl rfl (Or.inl rfl) rfl rfl rfl rfl (by omega) hob0 trivial rfl (c2 := c) (s2 := s) rfl rfl rfl rfl (pm_weak (q_kc w160 [] hG ⟨rfl, trivial⟩ ck_en_n (fun d hd => by cases hd)) (fun r S9 n9 h => ri_of rfl h)) ?_
  rintro r T1 _ ⟨rfl, ⟨zT1, rfl⟩, gT1, eT1⟩
  show PQ (j_SL Ls) (j_SV xs) j_EX mm_L_law 958 [.float 5, .ref 0, .ref 46, .ref 81, .int (nI p), a5, a6, a7] [.int zT1] T1 n c s K
  refine q_pop rfl rfl ?_
  refine q_aload_n rfl rfl rfl ?_
  obtain ⟨ob1, hob1, -⟩ := gs_obj gT1 (k := 46) rfl
  have hn1 := gs_n gT1
  refine q_cV rfl rfl (Or.inl rfl) rfl rfl rfl rfl (by omega) hob1 trivial rfl (c2 := c) (s2 := s) rfl rfl rfl rfl (pm_weak (q_kc w273 [] gT1 ⟨rfl, trivial⟩ ck_en_n (fun d hd => by cases hd)) (fun r S9 n9 h => ri_of rfl h)) ?_
  rintro r T2 _ ⟨rfl, ⟨zT2, rfl⟩, gT2, eT2⟩
  show PQ (j_SL Ls) (j_SV xs) j_EX mm_L_law 963 [.float 5, .ref 0, .ref 46, .ref 81, .int (nI p), a5, a6, a7] [.int zT2] T2 n c s K
  refine q_pop rfl rfl ?_
  refine q_goto rfl ?_
  exact hk T2 n _ _ _ _ _ gT2 (smn_tr (smn_tr (smn_rf) (Nat.le_refl _) (smn_of eT1 hn0 rfl)) (Nat.le_refl _) (smn_of eT2 hn1 rfl)) (by omega) (by omega)
set_option maxHeartbeats 4000000 in
theorem g_on27 (hG : GS θ S n) (hp : p + 6 ≤ Ls) (hL : Ls < 2 ^ 31) (hc : c + 5 ≤ 601024) (hs : s + 124 ≤ 7293033) (hk : GKn θ Ls xs S n c s p K) : PQ (j_SL Ls) (j_SV xs) j_EX mm_L_law 1190 [.float 5, .ref 0, .ref 46, .ref 81, .int (nI p), a5, a6, a7] [] S n c s K := by
  refine q_aload_n rfl rfl rfl ?_
  refine q_aload_nF rfl rfl rfl ?_
  refine q_iload rfl rfl rfl ?_
  refine q_iconst rfl rfl ?_
  refine q_iadd rfl rfl (q_tn (z := nI (p + 1)) (nI_add p 1) ?_)
  refine q_ialdF rfl rfl (sc_i hp hL (by decide)) (q_tn (sc_v hp hL (by decide)) ?_)
  obtain ⟨ob0, hob0, -⟩ := gs_obj hG (k := 0) rfl
  have hn0 := gs_n hG
  refine q_cV rfl rfl (Or.inl rfl) rfl rfl rfl rfl (by omega) hob0 trivial rfl (c2 := c) (s2 := s) rfl rfl rfl rfl (c_weT hG) ?_
  rintro r T1 nT1 ⟨leT1, gT1, eT1, sT1, zT1, rfl, -⟩
  show PQ (j_SL Ls) (j_SV xs) j_EX mm_L_law 1200 [.float 5, .ref 0, .ref 46, .ref 81, .int (nI p), a5, a6, a7] [.int zT1] T1 nT1 c s K
  refine q_pop rfl rfl ?_
  refine q_aload_n rfl rfl rfl ?_
  refine q_aload_nF rfl rfl rfl ?_
  refine q_iload rfl rfl rfl ?_
  refine q_iconst rfl rfl ?_
  refine q_iadd rfl rfl (q_tn (z := nI (p + 1)) (nI_add p 1) ?_)
  refine q_ialdF rfl rfl (sc_i hp hL (by decide)) (q_tn (sc_v hp hL (by decide)) ?_)
  obtain ⟨ob1, hob1, -⟩ := gs_obj gT1 (k := 46) rfl
  have hn1 := gs_n gT1
  refine q_cV rfl rfl (Or.inl rfl) rfl rfl rfl rfl (by omega) hob1 trivial rfl (c2 := c) (s2 := s) rfl rfl rfl rfl (pm_weak (q_kc w289 [((xs (p + 1))).toInt] gT1 ⟨rfl, ck_oku rfl rfl, trivial⟩ (ck_en_c (fullI _).1 (fullI _).2 ck_en_n) (fun d hd => by cases hd)) (fun r S9 n9 h => ri_of rfl h)) ?_
  rintro r T2 _ ⟨rfl, ⟨zT2, rfl⟩, gT2, eT2⟩
  show PQ (j_SL Ls) (j_SV xs) j_EX mm_L_law 1211 [.float 5, .ref 0, .ref 46, .ref 81, .int (nI p), a5, a6, a7] [.int zT2] T2 nT1 c s K
  refine q_pop rfl rfl ?_
  refine q_goto rfl ?_
  exact hk T2 nT1 _ _ _ _ _ gT2 (smn_tr (smn_tr (smn_rf) (Nat.le_refl _) (smn_pw eT1 sT1)) (leT1) (smn_of eT2 hn1 rfl)) (by omega) (by omega)
set_option maxHeartbeats 4000000 in
theorem g_on28 (hG : GS θ S n) (hp : p + 6 ≤ Ls) (hL : Ls < 2 ^ 31) (hc : c + 5 ≤ 601024) (hs : s + 124 ≤ 7293033) (hk : GKn θ Ls xs S n c s p K) : PQ (j_SL Ls) (j_SV xs) j_EX mm_L_law 1215 [.float 5, .ref 0, .ref 46, .ref 81, .int (nI p), a5, a6, a7] [] S n c s K := by
  refine q_aload_n rfl rfl rfl ?_
  refine q_aload_nF rfl rfl rfl ?_
  refine q_iload rfl rfl rfl ?_
  refine q_iconst rfl rfl ?_
  refine q_iadd rfl rfl (q_tn (z := nI (p + 1)) (nI_add p 1) ?_)
  refine q_ialdF rfl rfl (sc_i hp hL (by decide)) (q_tn (sc_v hp hL (by decide)) ?_)
  obtain ⟨ob0, hob0, -⟩ := gs_obj hG (k := 0) rfl
  have hn0 := gs_n hG
  refine q_cV rfl rfl (Or.inl rfl) rfl rfl rfl rfl (by omega) hob0 ⟨Nat.ble_eq_true_of_le (show c + 1 ≤ 601024 by omega), Nat.ble_eq_true_of_le (show s + 6 ≤ 7293033 by omega)⟩ rfl (c2 := c + 1) (s2 := s + 6) rfl rfl rfl rfl (c_toT hG) ?_
  rintro r T1 nT1 ⟨leT1, gT1, eT1, sT1, zT1, rfl, -⟩
  show PQ (j_SL Ls) (j_SV xs) j_EX mm_L_law 1225 [.float 5, .ref 0, .ref 46, .ref 81, .int (nI p), a5, a6, a7] [.int zT1] T1 nT1 (c + 1) (s + 6) K
  refine q_pop rfl rfl ?_
  refine q_aload_n rfl rfl rfl ?_
  refine q_aload_nF rfl rfl rfl ?_
  refine q_iload rfl rfl rfl ?_
  refine q_iconst rfl rfl ?_
  refine q_iadd rfl rfl (q_tn (z := nI (p + 1)) (nI_add p 1) ?_)
  refine q_ialdF rfl rfl (sc_i hp hL (by decide)) (q_tn (sc_v hp hL (by decide)) ?_)
  obtain ⟨ob1, hob1, -⟩ := gs_obj gT1 (k := 46) rfl
  have hn1 := gs_n gT1
  refine q_cV rfl rfl (Or.inl rfl) rfl rfl rfl rfl (by omega) hob1 trivial rfl (c2 := (c + 1)) (s2 := (s + 6)) rfl rfl rfl rfl (pm_weak (q_kc w292 [((xs (p + 1))).toInt] gT1 ⟨rfl, ck_oku rfl rfl, trivial⟩ (ck_en_c (fullI _).1 (fullI _).2 ck_en_n) (fun d hd => by cases hd)) (fun r S9 n9 h => ri_of rfl h)) ?_
  rintro r T2 _ ⟨rfl, ⟨zT2, rfl⟩, gT2, eT2⟩
  show PQ (j_SL Ls) (j_SV xs) j_EX mm_L_law 1236 [.float 5, .ref 0, .ref 46, .ref 81, .int (nI p), a5, a6, a7] [.int zT2] T2 nT1 (c + 1) (s + 6) K
  refine q_pop rfl rfl ?_
  refine q_goto rfl ?_
  exact hk T2 nT1 _ _ _ _ _ gT2 (smn_tr (smn_tr (smn_rf) (Nat.le_refl _) (smn_pw eT1 sT1)) (leT1) (smn_of eT2 hn1 rfl)) (by omega) (by omega)
set_option maxHeartbeats 4000000 in
theorem g_on25 (hG : GS θ S n) (hp : p + 6 ≤ Ls) (hL : Ls < 2 ^ 31) (hc : c + 5 ≤ 601024) (hs : s + 124 ≤ 7293033) (hk : GKn θ Ls xs S n c s p K) : PQ (j_SL Ls) (j_SV xs) j_EX mm_L_law 1077 [.float 5, .ref 0, .ref 46, .ref 81, .int (nI p), a5, a6, a7] [] S n c s K := by
  have hn := gs_n hG
  obtain ⟨fs, k0, -, f7, -⟩ := gs_0 hG
  obtain ⟨f, h43, -⟩ := gs_43 hG
  obtain ⟨o, h81⟩ := gs_lng hG (k := 81) rfl
  obtain ⟨kk, v, he⟩ := el_ex hG h43 (xs (p + 1)) (xs (p + 2))
  have tail : ∀ (T : Nat → pm_E) (m : Nat), n ≤ m → GS θ T m → smn S n T → ∀ z : Int32, PQ (j_SL Ls) (j_SV xs) j_EX mm_L_law 1094 [.float 5, .ref 0, .ref 46, .ref 81, .int (nI p), a5, a6, a7] [.int z] T m (c + 1) (s + 6) K := by
    intro T m hle hT eT z
    have hm := gs_n hT
    obtain ⟨ob, hob, -⟩ := gs_obj hT (k := 46) rfl
    refine q_ist5 rfl rfl rfl rfl ?_
    refine q_aload_n rfl rfl rfl ?_
    refine q_aload_nF rfl rfl rfl ?_
    refine q_iload rfl rfl rfl ?_
    refine q_iconst rfl rfl ?_
    refine q_iadd rfl rfl (q_tn (z := nI (p + 1)) (nI_add p 1) ?_)
    refine q_ialdF rfl rfl (sc_i hp hL (by decide)) (q_tn (sc_v hp hL (by decide)) ?_)
    refine q_aload_nF rfl rfl rfl ?_
    refine q_iload rfl rfl rfl ?_
    refine q_iconst rfl rfl ?_
    refine q_iadd rfl rfl (q_tn (z := nI (p + 2)) (nI_add p 2) ?_)
    refine q_ialdF rfl rfl (sc_i hp hL (by decide)) (q_tn (sc_v hp hL (by decide)) ?_)
    refine q_cV rfl rfl (Or.inl rfl) rfl rfl rfl rfl (by omega) hob trivial rfl (c2 := c + 1) (s2 := s + 6) rfl rfl rfl rfl (pm_weak (q_kc w281 [(xs (p + 1)).toInt, (xs (p + 2)).toInt] hT ⟨rfl, ck_oku rfl rfl, ck_oku rfl rfl, trivial⟩ (ck_en_c (fullI _).1 (fullI _).2 (ck_en_c (fullI _).1 (fullI _).2 ck_en_n)) (fun d hd => by cases hd)) (fun r S9 n9 h => rl_of rfl h)) ?_
    rintro r T1 _ ⟨rfl, ⟨w, rfl⟩, g1, e1⟩
    show PQ (j_SL Ls) (j_SV xs) j_EX mm_L_law 1112 [.float 5, .ref 0, .ref 46, .ref 81, .int (nI p), .int z, a6, a7] [.long w] T1 m (c + 1) (s + 6) K
    refine q_lst6 rfl rfl rfl rfl ?_
    refine q_goto rfl ?_
    exact hk T1 m _ _ _ _ _ g1 (smn_tr eT hle (smn_of e1 hm rfl)) (by omega) (by omega)
  refine q_aload_n rfl rfl rfl ?_
  refine q_aload_nF rfl rfl rfl ?_
  refine q_iload rfl rfl rfl ?_
  refine q_iconst rfl rfl ?_
  refine q_iadd rfl rfl (q_tn (z := nI (p + 1)) (nI_add p 1) ?_)
  refine q_ialdF rfl rfl (sc_i hp hL (by decide)) (q_tn (sc_v hp hL (by decide)) ?_)
  refine q_aload_nF rfl rfl rfl ?_
  refine q_iload rfl rfl rfl ?_
  refine q_iconst rfl rfl ?_
  refine q_iadd rfl rfl (q_tn (z := nI (p + 2)) (nI_add p 2) ?_)
  refine q_ialdF rfl rfl (sc_i hp hL (by decide)) (q_tn (sc_v hp hL (by decide)) ?_)
  refine q_aload_n rfl rfl rfl ?_
  refine q_elem (by omega) k0 f7 h43 h81 he (show c + 1 ≤ 601024 by omega) (show s + 6 ≤ 7293033 by omega) (fun h => ?_) (fun h g => ?_)
  · exact tail _ _ (Nat.le_refl n) (gs_st (k := 81) (c := .inl (1, 1, .inr (.inl (vp_updL o 0 v)))) hG rfl rfl ⟨_, rfl⟩ (pk_arr h81)) ⟨fun k hk => u_ne (by simp only [List.mem_cons, List.not_mem_nil, or_false] at hk; omega), fun k h1 h2 => shp_eq (u_ne (by omega))⟩ 0
  · exact tail _ _ (Nat.le_succ n) (gs_ext hG (by omega) (fun j hj => u_ne (by omega))) ⟨fun k hk => u_ne (by simp only [List.mem_cons, List.not_mem_nil, or_false] at hk; omega), fun k h1 h2 => shp_eq (u_ne (by omega))⟩ _
end LN
