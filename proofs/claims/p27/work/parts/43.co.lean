/-! copy: the reference's and the class's -/
section CO
variable {θ : Th} {L : Nat} {xs : Nat → Int32} {S : Nat → pm_E} {n : Nat}
theorem sp_nat {sz fr m : Int32} (h0 : (0 : Int) ≤ sz.toInt) (h60 : sz.toInt ≤ 60) (h1 : ¬ m < 0) (h2 : ¬ fr < 0) (h3 : m ≤ sz - fr) : ∃ a b : Nat, fr = nI a ∧ m = nI b ∧ ((a + b : Nat) : Int) ≤ sz.toInt ∧ a ≤ 60 ∧ b ≤ 60 := by
  simp only [Int32.lt_iff_toInt_lt, Int32.le_iff_toInt_le] at h1 h2 h3
  have e0 : (0 : Int32).toInt = 0 := rfl
  have hb := (fullI fr).2
  have e2 : (sz - fr).toInt = (sz.toInt - fr.toInt).bmod 4294967296 := Int32.toInt_sub sz fr
  rw [ck_bm (by show (-2147483648 : Int) ≤ _; omega) (by show _ ≤ (2147483647 : Int); omega)] at e2
  obtain ⟨a, ha, ea⟩ := nat_of (x := fr) (b := 60) (by omega) (by omega)
  obtain ⟨b, hb', eb⟩ := nat_of (x := m) (b := 60) (by omega) (by omega)
  have q1 : fr.toInt = (a : Int) := by rw [ea]; exact nI_toInt (by omega)
  have q2 : m.toInt = (b : Int) := by rw [eb]; exact nI_toInt (by omega)
  exact ⟨a, b, ea, eb, by omega, ha, hb'⟩
theorem c_m60 (D k : Nat) : (60 : Int32) * nI D = nI (60 * D) := by
  show Int32.ofNat 60 * Int32.ofNat D = Int32.ofNat (60 * D)
  exact (Int32.ofNat_mul 60 D).symm
set_option maxHeartbeats 4000000 in
theorem l_rcopy {d i e j m : Int32} (hG : GS θ S n) : PM (j_SL L) (j_SV xs) j_EX mm_X12_copy [.ref 46, .int d, .int i, .int e, .int j, .int m] S n (fun r S' n' => n = n' ∧ (∃ z : Int32, r = some (.int z)) ∧ GS θ S' n ∧ fr1 [79, 80] S S' n) := by
  have hn := gs_n hG
  obtain ⟨fs, k46, hf⟩ := gs_obj hG (k := 46) rfl
  have f35 : fs[35]? = some (.ref 75) := fo_ref (hf 35 _ rfl) rfl
  have f38 : fs[38]? = some (.ref 78) := fo_ref (hf 38 _ rfl) rfl
  have f39 : fs[39]? = some (.ref 79) := fo_ref (hf 39 _ rfl) rfl
  have f40 : fs[40]? = some (.ref 80) := fo_ref (hf 40 _ rfl) rfl
  obtain ⟨hd, k75, hb75⟩ := gs_a1 hG (k := 75) rfl
  obtain ⟨sz, k78, hb78⟩ := gs_a1 hG (k := 78) rfl
  have fin : ∀ z : Int32, (fun (r : Option Value) (S' : Nat → pm_E) (n' : Nat) => n = n' ∧ (∃ z : Int32, r = some (.int z)) ∧ GS θ S' n ∧ fr1 [79, 80] S S' n) (some (.int z)) S n := fun z => ⟨rfl, ⟨z, rfl⟩, hG, fr1_rf⟩
  change PQ (j_SL L) (j_SV xs) j_EX mm_X12_copy 0 [.ref 46, .int d, .int i, .int e, .int j, .int m, pm_un] [] S n 0 0 _
  have s16 : PQ (j_SL L) (j_SV xs) j_EX mm_X12_copy 16 [.ref 46, .int d, .int i, .int e, .int j, .int m, pm_un] [] S n 0 0 (fun r S' n' => n = n' ∧ (∃ z : Int32, r = some (.int z)) ∧ GS θ S' n ∧ fr1 [79, 80] S S' n) := by
    refine q_iconst rfl rfl ?_
    exact q_iret rfl rfl trivial (fin _)
  refine q_aload_n rfl rfl rfl ?_
  refine q_iload_n rfl rfl rfl ?_
  refine q_cV rfl rfl (Or.inl rfl) rfl rfl rfl rfl (by omega) k46 trivial rfl rfl rfl rfl rfl (l_isShelf hn k46) ?_
  rintro r S1 n1 ⟨e1, e2, hr⟩
  subst S1 n1
  rcases hr with ⟨-, rfl⟩ | ⟨q1, rfl⟩
  · show PQ (j_SL L) (j_SV xs) j_EX mm_X12_copy 5 _ [.int 0] S n 0 0 _
    exact q_ifeq rfl rfl (fun _ => s16) (fun c => absurd rfl c)
  show PQ (j_SL L) (j_SV xs) j_EX mm_X12_copy 5 _ [.int 1] S n 0 0 _
  refine q_ifeq rfl rfl (fun c => absurd c (by decide)) (fun _ => ?_)
  refine q_aload_n rfl rfl rfl ?_
  refine q_iload_n rfl rfl rfl ?_
  refine q_cV rfl rfl (Or.inl rfl) rfl rfl rfl rfl (by omega) k46 trivial rfl rfl rfl rfl rfl (l_isShelf hn k46) ?_
  rintro r S1 n1 ⟨e1, e2, hr⟩
  subst S1 n1
  rcases hr with ⟨-, rfl⟩ | ⟨q2, rfl⟩
  · show PQ (j_SL L) (j_SV xs) j_EX mm_X12_copy 13 _ [.int 0] S n 0 0 _
    exact q_ifne rfl rfl (fun _ => s16) (fun c => absurd rfl c)
  show PQ (j_SL L) (j_SV xs) j_EX mm_X12_copy 13 _ [.int 1] S n 0 0 _
  refine q_ifne rfl rfl (fun c => absurd c (by decide)) (fun _ => ?_)
  have e7 : (7 : Int32).toInt = 7 := rfl
  have e0 : (0 : Int32).toInt = 0 := rfl
  unfold inP at q1 q2
  simp only [Int32.le_iff_toInt_le] at q1 q2
  obtain ⟨D, hD, rfl⟩ := nat_of (x := d) (b := 7) (by omega) (by omega)
  obtain ⟨E, hE, rfl⟩ := nat_of (x := e) (b := 7) (by omega) (by omega)
  have inD : pm_inb (nI D) 8 = true := q_inN (by omega) (by decide)
  have inE : pm_inb (nI E) 8 = true := q_inN (by omega) (by decide)
  have s36 : PQ (j_SL L) (j_SV xs) j_EX mm_X12_copy 36 [.ref 46, .int (nI D), .int i, .int (nI E), .int j, .int m, pm_un] [] S n 0 0 (fun r S' n' => n = n' ∧ (∃ z : Int32, r = some (.int z)) ∧ GS θ S' n ∧ fr1 [79, 80] S S' n) := by
    refine q_bipush rfl rfl ?_
    exact q_iret rfl rfl trivial (fin _)
  have s64 : PQ (j_SL L) (j_SV xs) j_EX mm_X12_copy 64 [.ref 46, .int (nI D), .int i, .int (nI E), .int j, .int m, pm_un] [] S n 0 0 (fun r S' n' => n = n' ∧ (∃ z : Int32, r = some (.int z)) ∧ GS θ S' n ∧ fr1 [79, 80] S S' n) := by
    refine q_bipush rfl rfl ?_
    exact q_iret rfl rfl trivial (fin _)
  have s108 : PQ (j_SL L) (j_SV xs) j_EX mm_X12_copy 108 [.ref 46, .int (nI D), .int i, .int (nI E), .int j, .int m, pm_un] [] S n 0 0 (fun r S' n' => n = n' ∧ (∃ z : Int32, r = some (.int z)) ∧ GS θ S' n ∧ fr1 [79, 80] S S' n) := by
    refine q_bipush rfl rfl ?_
    exact q_iret rfl rfl trivial (fin _)
  refine q_aload_n rfl rfl rfl ?_
  refine q_getf rfl rfl (by omega) k46 f35 ?_
  refine q_iload_n rfl rfl rfl ?_
  refine q_iald rfl rfl (by omega) k75 inD ?_
  refine q_ifeq rfl rfl (fun _ => s36) (fun _ => ?_)
  refine q_aload_n rfl rfl rfl ?_
  refine q_getf rfl rfl (by omega) k46 f35 ?_
  refine q_iload_n rfl rfl rfl ?_
  refine q_iald rfl rfl (by omega) k75 inE ?_
  refine q_ifne rfl rfl (fun _ => s36) (fun _ => ?_)
  refine q_aload_n rfl rfl rfl ?_
  refine q_getf rfl rfl (by omega) k46 f35 ?_
  refine q_iload_n rfl rfl rfl ?_
  refine q_iald rfl rfl (by omega) k75 inD ?_
  refine q_iconst rfl rfl ?_
  refine q_iclt rfl rfl (fun _ => s64) (fun _ => ?_)
  refine q_aload_n rfl rfl rfl ?_
  refine q_getf rfl rfl (by omega) k46 f35 ?_
  refine q_iload_n rfl rfl rfl ?_
  refine q_iald rfl rfl (by omega) k75 inD ?_
  refine q_aload_n rfl rfl rfl ?_
  refine q_getf rfl rfl (by omega) k46 f35 ?_
  refine q_iload_n rfl rfl rfl ?_
  refine q_iald rfl rfl (by omega) k75 inE ?_
  refine q_iceq rfl rfl (fun _ => ?_) (fun _ => s64)
  refine q_iload rfl rfl rfl ?_
  refine q_iflt rfl rfl (fun _ => s108) (fun cm => ?_)
  refine q_iload_n rfl rfl rfl ?_
  refine q_iflt rfl rfl (fun _ => s108) (fun ci => ?_)
  refine q_iload rfl rfl rfl ?_
  refine q_iflt rfl rfl (fun _ => s108) (fun cj => ?_)
  refine q_iload_n rfl rfl rfl ?_
  refine q_aload_n rfl rfl rfl ?_
  refine q_getf rfl rfl (by omega) k46 f38 ?_
  refine q_iload_n rfl rfl rfl ?_
  refine q_iald rfl rfl (by omega) k78 inD ?_
  refine q_iload rfl rfl rfl ?_
  refine q_isub rfl rfl ?_
  refine q_icgt rfl rfl (fun _ => s108) (fun c1 => ?_)
  refine q_iload rfl rfl rfl ?_
  refine q_aload_n rfl rfl rfl ?_
  refine q_getf rfl rfl (by omega) k46 f38 ?_
  refine q_iload_n rfl rfl rfl ?_
  refine q_iald rfl rfl (by omega) k78 inE ?_
  refine q_iload rfl rfl rfl ?_
  refine q_isub rfl rfl ?_
  refine q_icle rfl rfl (fun c2 => ?_) (fun _ => s108)
  rw [nI_clamp (by omega)] at c1 c2
  have g1 : (0 : Int) ≤ (sz D).toInt ∧ (sz D).toInt ≤ 60 := hb78 D (by omega)
  have g2 : (0 : Int) ≤ (sz E).toInt ∧ (sz E).toInt ≤ 60 := hb78 E (by omega)
  have c1' : i ≤ sz D - m := i_nlt c1
  obtain ⟨b, a, rfl, rfl, l1, hb60, ha60⟩ := sp_nat g1.1 g1.2 ci cm c1'
  obtain ⟨b', a', eb, rfl, l2, hb60', ha60'⟩ := sp_nat g2.1 g2.2 cj cm c2
  have ebb : b = b' := by
    have := congrArg Int32.toInt eb
    rw [nI_toInt (by omega), nI_toInt (by omega)] at this
    omega
  subst ebb
  have l1' : b + a ≤ 60 := by have := g1.2; omega
  have l2' : b + a' ≤ 60 := by have := g2.2; omega
  have key2 : ∀ q k : Nat, k + q = b → ∀ T : Nat → pm_E, GS θ T n → fr1 [79, 80] S T n → PQ (j_SL L) (j_SV xs) j_EX mm_X12_copy 151 [.ref 46, .int (nI D), .int (nI a), .int (nI E), .int (nI a'), .int (nI b), .int (nI k)] [] T n 0 0 (fun r S' n' => n = n' ∧ (∃ z : Int32, r = some (.int z)) ∧ GS θ S' n ∧ fr1 [79, 80] S S' n) := by
    intro q
    induction q with
    | zero =>
      intro k hk T hT eT
      refine q_iload rfl rfl rfl ?_
      refine q_iload rfl rfl rfl ?_
      refine q_icge rfl rfl (fun _ => ?_) (fun c => absurd (by
        have e : k = b := by omega
        rw [e, Int32.le_iff_toInt_le]; omega) c)
      refine q_iload rfl rfl rfl ?_
      exact q_iret rfl rfl trivial ⟨rfl, ⟨_, rfl⟩, hT, eT⟩
    | succ q ih =>
      intro k hk T hT eT
      obtain ⟨g, k79⟩ := gs_lng hT (k := 79) rfl
      obtain ⟨g', k80⟩ := gs_lng hT (k := 80) rfl
      have t46 : T 46 = .inr (10, fs) := (eT 46 (by omega) rfl).trans k46
      refine q_iload rfl rfl rfl ?_
      refine q_iload rfl rfl rfl ?_
      refine q_icge rfl rfl (fun c => absurd c (nI_ge (a := k) (b := b) (by omega) (by omega))) (fun _ => ?_)
      refine q_aload_n rfl rfl rfl ?_
      refine q_getf rfl rfl (by omega) t46 f39 ?_
      refine q_bipush rfl rfl ?_
      refine q_iload_n rfl rfl rfl ?_
      refine q_imul rfl rfl ?_
      refine q_tn (c_m60 E 0) ?_
      refine q_iload rfl rfl rfl ?_
      refine q_iadd rfl rfl ?_
      refine q_tn (nI_add _ _) ?_
      refine q_iload rfl rfl rfl ?_
      refine q_iadd rfl rfl ?_
      refine q_tn (nI_add _ _) ?_
      refine q_aload_n rfl rfl rfl ?_
      refine q_getf rfl rfl (by omega) t46 f40 ?_
      refine q_iload rfl rfl rfl ?_
      refine q_lald rfl rfl (by omega) k80 (q_inN (by omega) (by decide)) ?_
      refine q_last rfl rfl (by omega) k79 (q_inN (by omega) (by decide)) ?_
      refine q_inc6 rfl rfl rfl rfl ?_
      refine q_goto rfl ?_
      rw [show nI k + 1 = nI (k + 1) from nI_add k 1]
      exact ih (k + 1) (by omega) _ (gs_st hT rfl rfl ⟨_, rfl⟩ (pk_arr k79)) (fr1_up eT rfl)
  have key1 : ∀ q k : Nat, k + q = b → ∀ T : Nat → pm_E, GS θ T n → fr1 [79, 80] S T n → PQ (j_SL L) (j_SV xs) j_EX mm_X12_copy 114 [.ref 46, .int (nI D), .int (nI a), .int (nI E), .int (nI a'), .int (nI b), .int (nI k)] [] T n 0 0 (fun r S' n' => n = n' ∧ (∃ z : Int32, r = some (.int z)) ∧ GS θ S' n ∧ fr1 [79, 80] S S' n) := by
    intro q
    induction q with
    | zero =>
      intro k hk T hT eT
      refine q_iload rfl rfl rfl ?_
      refine q_iload rfl rfl rfl ?_
      refine q_icge rfl rfl (fun _ => ?_) (fun c => absurd (by
        have e : k = b := by omega
        rw [e, Int32.le_iff_toInt_le]; omega) c)
      refine q_iconst rfl rfl ?_
      refine q_ist6 rfl rfl rfl rfl ?_
      exact key2 b 0 (by omega) T hT eT
    | succ q ih =>
      intro k hk T hT eT
      obtain ⟨g, k79⟩ := gs_lng hT (k := 79) rfl
      obtain ⟨g', k80⟩ := gs_lng hT (k := 80) rfl
      have t46 : T 46 = .inr (10, fs) := (eT 46 (by omega) rfl).trans k46
      refine q_iload rfl rfl rfl ?_
      refine q_iload rfl rfl rfl ?_
      refine q_icge rfl rfl (fun c => absurd c (nI_ge (a := k) (b := b) (by omega) (by omega))) (fun _ => ?_)
      refine q_aload_n rfl rfl rfl ?_
      refine q_getf rfl rfl (by omega) t46 f40 ?_
      refine q_iload rfl rfl rfl ?_
      refine q_aload_n rfl rfl rfl ?_
      refine q_getf rfl rfl (by omega) t46 f39 ?_
      refine q_bipush rfl rfl ?_
      refine q_iload_n rfl rfl rfl ?_
      refine q_imul rfl rfl ?_
      refine q_tn (c_m60 D 0) ?_
      refine q_iload_n rfl rfl rfl ?_
      refine q_iadd rfl rfl ?_
      refine q_tn (nI_add _ _) ?_
      refine q_iload rfl rfl rfl ?_
      refine q_iadd rfl rfl ?_
      refine q_tn (nI_add _ _) ?_
      refine q_lald rfl rfl (by omega) k79 (q_inN (by omega) (by decide)) ?_
      refine q_last rfl rfl (by omega) k80 (q_inN (by omega) (by decide)) ?_
      refine q_inc6 rfl rfl rfl rfl ?_
      refine q_goto rfl ?_
      rw [show nI k + 1 = nI (k + 1) from nI_add k 1]
      exact ih (k + 1) (by omega) _ (gs_st hT rfl rfl ⟨_, rfl⟩ (pk_arr k80)) (fr1_up eT rfl)
  refine q_iconst rfl rfl ?_
  refine q_ist6 rfl rfl rfl rfl ?_
  exact key1 b 0 (by omega) S hG fr1_rf
end CO
