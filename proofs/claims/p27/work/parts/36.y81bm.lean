/-! the class's Bits -/
section BM
variable {L : Nat} {xs : Nat → Int32} {S : Nat → pm_E} {n : Nat} {EX : pm_M → pm_C → (pm_C → Prop) → Prop} {s : Int64}
/-- a long that has these fields -/
def e_is (s : Int64) (f : Nat → Nat) : Prop := ∀ j, j < 21 → e_D s j = f j
theorem e_is_fn {s t : Int64} {f : Nat → Nat} (h : e_is s f) (h' : e_is t f) : s = t := e_D_ext (fun i hi => (h i hi).trans (h' i hi).symm)
theorem e_pl_off {p : Nat} (hp : p < 4) : e_off (12 + p) = 36 + 4 * p ∧ e_wid (12 + p) = 4 := by
  have := (by decide +kernel : ∀ p : Fin 4, e_off (12 + p) = 36 + 4 * p ∧ e_wid (12 + p) = 4)
  exact this ⟨p, hp⟩
theorem e_ow_off {l : Nat} (hl : l < 3) : e_off (16 + l) = 52 + 2 * l ∧ e_wid (16 + l) = 2 := by
  have := (by decide +kernel : ∀ l : Fin 3, e_off (16 + l) = 52 + 2 * l ∧ e_wid (16 + l) = 2)
  exact this ⟨l, hl⟩
theorem e_bt_last (j : Nat) (hj : j < 64) : e_bt (-864691128455135233) j = !(decide (58 ≤ j) && decide (j < 60)) := by
  have h : ∀ j : Fin 64, e_bt (-864691128455135233) j = !(decide (58 ≤ j.val) && decide (j.val < 60)) := by decide +kernel
  exact h ⟨j, hj⟩
theorem b_position {h : Nat} (hh : h < 3) : PM (j_SL L) (j_SV xs) EX mm_X0_position [.long s, .int (nI h)] S n (fun r S' n' => S = S' ∧ n = n' ∧ r = some (.int (nI (e_D s (4 * h))))) := by
  obtain ⟨o0, o1, o2, o3, w0, w1, w2, w3⟩ := e_hd_off hh
  change PQ (j_SL L) (j_SV xs) EX mm_X0_position 0 [.long s, pm_un, .int (nI h)] [] S n 0 0 _
  refine q_lload_n rfl rfl rfl ?_
  refine q_bipush rfl rfl ?_
  refine q_iload_n rfl rfl rfl ?_
  refine q_imul rfl rfl (q_tn (z := nI (12 * h)) (by rw [show (12 : Int32) = nI 12 from rfl, pk_mul]) ?_)
  refine q_lushr rfl rfl ?_
  refine q_l2i rfl rfl ?_
  refine q_bipush rfl rfl ?_
  refine q_iand rfl rfl (q_tn (z := nI (e_D s (4 * h))) (by rw [show (15 : Int32) = nI (2 ^ 4 - 1) from rfl, e_b_get s _ _ (by omega) (by decide)]; unfold e_D; rw [o0, w0]) ?_)
  exact q_iret rfl rfl trivial ⟨rfl, rfl, rfl⟩
theorem b_made {h : Nat} (hh : h < 3) : PM (j_SL L) (j_SV xs) EX mm_X0_made [.long s, .int (nI h)] S n (fun r S' n' => S = S' ∧ n = n' ∧ r = some (.int (nI (e_D s (4 * h + 2))))) := by
  obtain ⟨o0, o1, o2, o3, w0, w1, w2, w3⟩ := e_hd_off hh
  change PQ (j_SL L) (j_SV xs) EX mm_X0_made 0 [.long s, pm_un, .int (nI h)] [] S n 0 0 _
  refine q_lload_n rfl rfl rfl ?_
  refine q_bipush rfl rfl ?_
  refine q_iload_n rfl rfl rfl ?_
  refine q_imul rfl rfl (q_tn (z := nI (12 * h)) (by rw [show (12 : Int32) = nI 12 from rfl, pk_mul]) ?_)
  refine q_iconst rfl rfl ?_
  refine q_iadd rfl rfl (q_tn (z := nI (12 * h + 4)) (nI_add _ 4) ?_)
  refine q_lushr rfl rfl ?_
  refine q_l2i rfl rfl ?_
  refine q_iconst rfl rfl ?_
  refine q_iand rfl rfl (q_tn (z := nI (e_D s (4 * h + 2))) (by rw [show (3 : Int32) = nI (2 ^ 2 - 1) from rfl, e_b_get s _ _ (by omega) (by decide)]; unfold e_D; rw [o2, w2]) ?_)
  exact q_iret rfl rfl trivial ⟨rfl, rfl, rfl⟩
theorem b_register {h : Nat} (hh : h < 3) : PM (j_SL L) (j_SV xs) EX mm_X0_register [.long s, .int (nI h)] S n (fun r S' n' => S = S' ∧ n = n' ∧ r = some (.int (nI (e_D s (4 * h + 1))))) := by
  obtain ⟨o0, o1, o2, o3, w0, w1, w2, w3⟩ := e_hd_off hh
  change PQ (j_SL L) (j_SV xs) EX mm_X0_register 0 [.long s, pm_un, .int (nI h)] [] S n 0 0 _
  refine q_lload_n rfl rfl rfl ?_
  refine q_bipush rfl rfl ?_
  refine q_iload_n rfl rfl rfl ?_
  refine q_imul rfl rfl (q_tn (z := nI (12 * h)) (by rw [show (12 : Int32) = nI 12 from rfl, pk_mul]) ?_)
  refine q_bipush rfl rfl ?_
  refine q_iadd rfl rfl (q_tn (z := nI (12 * h + 6)) (nI_add _ 6) ?_)
  refine q_lushr rfl rfl ?_
  refine q_l2i rfl rfl ?_
  refine q_bipush rfl rfl ?_
  refine q_iand rfl rfl (q_tn (z := nI (e_D s (4 * h + 1))) (by rw [show (15 : Int32) = nI (2 ^ 4 - 1) from rfl, e_b_get s _ _ (by omega) (by decide)]; unfold e_D; rw [o1, w1]) ?_)
  exact q_iret rfl rfl trivial ⟨rfl, rfl, rfl⟩
theorem b_sleep {h : Nat} (hh : h < 3) : PM (j_SL L) (j_SV xs) EX mm_X0_sleep [.long s, .int (nI h)] S n (fun r S' n' => S = S' ∧ n = n' ∧ r = some (.int (nI (e_D s (4 * h + 3))))) := by
  obtain ⟨o0, o1, o2, o3, w0, w1, w2, w3⟩ := e_hd_off hh
  change PQ (j_SL L) (j_SV xs) EX mm_X0_sleep 0 [.long s, pm_un, .int (nI h)] [] S n 0 0 _
  refine q_lload_n rfl rfl rfl ?_
  refine q_bipush rfl rfl ?_
  refine q_iload_n rfl rfl rfl ?_
  refine q_imul rfl rfl (q_tn (z := nI (12 * h)) (by rw [show (12 : Int32) = nI 12 from rfl, pk_mul]) ?_)
  refine q_bipush rfl rfl ?_
  refine q_iadd rfl rfl (q_tn (z := nI (12 * h + 10)) (nI_add _ 10) ?_)
  refine q_lushr rfl rfl ?_
  refine q_l2i rfl rfl ?_
  refine q_iconst rfl rfl ?_
  refine q_iand rfl rfl (q_tn (z := nI (e_D s (4 * h + 3))) (by rw [show (3 : Int32) = nI (2 ^ 2 - 1) from rfl, e_b_get s _ _ (by omega) (by decide)]; unfold e_D; rw [o3, w3]) ?_)
  exact q_iret rfl rfl trivial ⟨rfl, rfl, rfl⟩
theorem b_place {p : Nat} (hh : p < 4) : PM (j_SL L) (j_SV xs) EX mm_X0_place [.long s, .int (nI p)] S n (fun r S' n' => S = S' ∧ n = n' ∧ r = some (.int (nI (e_D s (12 + p))))) := by
  obtain ⟨o0, w0⟩ := e_pl_off hh
  change PQ (j_SL L) (j_SV xs) EX mm_X0_place 0 [.long s, pm_un, .int (nI p)] [] S n 0 0 _
  refine q_lload_n rfl rfl rfl ?_
  refine q_bipush rfl rfl ?_
  refine q_iconst rfl rfl ?_
  refine q_iload_n rfl rfl rfl ?_
  refine q_imul rfl rfl (q_tn (z := nI (4 * p)) (by rw [show (4 : Int32) = nI 4 from rfl, pk_mul]) ?_)
  refine q_iadd rfl rfl (q_tn (z := nI (36 + 4 * p)) (nI_add 36 _) ?_)
  refine q_lushr rfl rfl ?_
  refine q_l2i rfl rfl ?_
  refine q_bipush rfl rfl ?_
  refine q_iand rfl rfl (q_tn (z := nI (e_D s (12 + p))) (by rw [show (15 : Int32) = nI (2 ^ 4 - 1) from rfl, e_b_get s _ _ (by omega) (by decide)]; unfold e_D; rw [o0, w0]) ?_)
  exact q_iret rfl rfl trivial ⟨rfl, rfl, rfl⟩
theorem b_owner {l : Nat} (hh : l < 3) : PM (j_SL L) (j_SV xs) EX mm_X0_owner [.long s, .int (nI l)] S n (fun r S' n' => S = S' ∧ n = n' ∧ r = some (.int (nI (e_D s (16 + l)) - 1))) := by
  obtain ⟨o0, w0⟩ := e_ow_off hh
  change PQ (j_SL L) (j_SV xs) EX mm_X0_owner 0 [.long s, pm_un, .int (nI l)] [] S n 0 0 _
  refine q_lload_n rfl rfl rfl ?_
  refine q_bipush rfl rfl ?_
  refine q_iconst rfl rfl ?_
  refine q_iload_n rfl rfl rfl ?_
  refine q_imul rfl rfl (q_tn (z := nI (2 * l)) (by rw [show (2 : Int32) = nI 2 from rfl, pk_mul]) ?_)
  refine q_iadd rfl rfl (q_tn (z := nI (52 + 2 * l)) (nI_add 52 _) ?_)
  refine q_lushr rfl rfl ?_
  refine q_l2i rfl rfl ?_
  refine q_iconst rfl rfl ?_
  refine q_iand rfl rfl (q_tn (z := nI (e_D s (16 + l))) (by rw [show (3 : Int32) = nI (2 ^ 2 - 1) from rfl, e_b_get s _ _ (by omega) (by decide)]; unfold e_D; rw [o0, w0]) ?_)
  refine q_iconst rfl rfl ?_
  refine q_isub rfl rfl ?_
  exact q_iret rfl rfl trivial ⟨rfl, rfl, rfl⟩
theorem b_last : PM (j_SL L) (j_SV xs) EX mm_X0_last [.long s] S n (fun r S' n' => S = S' ∧ n = n' ∧ r = some (.int (nI (e_D s (19)) - 1))) := by
  change PQ (j_SL L) (j_SV xs) EX mm_X0_last 0 [.long s, pm_un] [] S n 0 0 _
  refine q_lload_n rfl rfl rfl ?_
  refine q_bipush rfl rfl ?_
  refine q_lushr (y := nI 58) rfl rfl ?_
  refine q_l2i rfl rfl ?_
  refine q_iconst rfl rfl ?_
  refine q_iand rfl rfl (q_tn (z := nI (e_D s (19))) (by rw [show (3 : Int32) = nI (2 ^ 2 - 1) from rfl, e_b_get s _ _ (by omega) (by decide)]; unfold e_D; rfl) ?_)
  refine q_iconst rfl rfl ?_
  refine q_isub rfl rfl ?_
  exact q_iret rfl rfl trivial ⟨rfl, rfl, rfl⟩
theorem b_withMade {h v : Nat} (hh : h < 3) (hv : v < 4) : PM (j_SL L) (j_SV xs) EX mm_X0_withMade [.long s, .int (nI h), .int (nI v)] S n (fun r S' n' => S = S' ∧ n = n' ∧ ∃ t : Int64, r = some (.long t) ∧ e_is t (e_up (e_D s) (4 * h + 2) v)) := by
  obtain ⟨o0, o1, o2, o3, w0, w1, w2, w3⟩ := e_hd_off hh
  change PQ (j_SL L) (j_SV xs) EX mm_X0_withMade 0 [.long s, pm_un, .int (nI h), .int (nI v), pm_un] [] S n 0 0 _
  refine q_bipush rfl rfl ?_
  refine q_iload_n rfl rfl rfl ?_
  refine q_imul rfl rfl (q_tn (z := nI (12 * h)) (by rw [show (12 : Int32) = nI 12 from rfl, pk_mul]) ?_)
  refine q_iconst rfl rfl ?_
  refine q_iadd rfl rfl (q_tn (z := nI (12 * h + 4)) (nI_add _ 4) ?_)
  refine q_ist4 rfl rfl rfl rfl ?_
  refine q_lload_n rfl rfl rfl ?_
  refine q_ldc2 rfl rfl ?_
  refine q_iload rfl rfl rfl ?_
  refine q_lshl rfl rfl ?_
  refine q_ldc2 rfl rfl ?_
  refine q_lxor rfl rfl ?_
  refine q_land rfl rfl ?_
  refine q_iload_n rfl rfl rfl ?_
  refine q_i2l rfl rfl ?_
  refine q_iload rfl rfl rfl ?_
  refine q_lshl rfl rfl ?_
  refine q_lor rfl rfl ?_
  exact q_lret rfl rfl trivial ⟨rfl, rfl, _, rfl, fun j hj => e_D_put (i := 4 * h + 2) (by omega) (by rw [w2]; exact hv) (by rw [o2, w2]; exact e_b_set e_bt_3 (by omega) (by decide) (by omega) hv) j hj⟩
theorem b_withRegister {h v : Nat} (hh : h < 3) (hv : v < 16) : PM (j_SL L) (j_SV xs) EX mm_X0_withRegister [.long s, .int (nI h), .int (nI v)] S n (fun r S' n' => S = S' ∧ n = n' ∧ ∃ t : Int64, r = some (.long t) ∧ e_is t (e_up (e_D s) (4 * h + 1) v)) := by
  obtain ⟨o0, o1, o2, o3, w0, w1, w2, w3⟩ := e_hd_off hh
  change PQ (j_SL L) (j_SV xs) EX mm_X0_withRegister 0 [.long s, pm_un, .int (nI h), .int (nI v), pm_un] [] S n 0 0 _
  refine q_bipush rfl rfl ?_
  refine q_iload_n rfl rfl rfl ?_
  refine q_imul rfl rfl (q_tn (z := nI (12 * h)) (by rw [show (12 : Int32) = nI 12 from rfl, pk_mul]) ?_)
  refine q_bipush rfl rfl ?_
  refine q_iadd rfl rfl (q_tn (z := nI (12 * h + 6)) (nI_add _ 6) ?_)
  refine q_ist4 rfl rfl rfl rfl ?_
  refine q_lload_n rfl rfl rfl ?_
  refine q_ldc2 rfl rfl ?_
  refine q_iload rfl rfl rfl ?_
  refine q_lshl rfl rfl ?_
  refine q_ldc2 rfl rfl ?_
  refine q_lxor rfl rfl ?_
  refine q_land rfl rfl ?_
  refine q_iload_n rfl rfl rfl ?_
  refine q_i2l rfl rfl ?_
  refine q_iload rfl rfl rfl ?_
  refine q_lshl rfl rfl ?_
  refine q_lor rfl rfl ?_
  exact q_lret rfl rfl trivial ⟨rfl, rfl, _, rfl, fun j hj => e_D_put (i := 4 * h + 1) (by omega) (by rw [w1]; exact hv) (by rw [o1, w1]; exact e_b_set e_bt_15 (by omega) (by decide) (by omega) hv) j hj⟩
theorem b_withSleep {h v : Nat} (hh : h < 3) (hv : v < 4) : PM (j_SL L) (j_SV xs) EX mm_X0_withSleep [.long s, .int (nI h), .int (nI v)] S n (fun r S' n' => S = S' ∧ n = n' ∧ ∃ t : Int64, r = some (.long t) ∧ e_is t (e_up (e_D s) (4 * h + 3) v)) := by
  obtain ⟨o0, o1, o2, o3, w0, w1, w2, w3⟩ := e_hd_off hh
  change PQ (j_SL L) (j_SV xs) EX mm_X0_withSleep 0 [.long s, pm_un, .int (nI h), .int (nI v), pm_un] [] S n 0 0 _
  refine q_bipush rfl rfl ?_
  refine q_iload_n rfl rfl rfl ?_
  refine q_imul rfl rfl (q_tn (z := nI (12 * h)) (by rw [show (12 : Int32) = nI 12 from rfl, pk_mul]) ?_)
  refine q_bipush rfl rfl ?_
  refine q_iadd rfl rfl (q_tn (z := nI (12 * h + 10)) (nI_add _ 10) ?_)
  refine q_ist4 rfl rfl rfl rfl ?_
  refine q_lload_n rfl rfl rfl ?_
  refine q_ldc2 rfl rfl ?_
  refine q_iload rfl rfl rfl ?_
  refine q_lshl rfl rfl ?_
  refine q_ldc2 rfl rfl ?_
  refine q_lxor rfl rfl ?_
  refine q_land rfl rfl ?_
  refine q_iload_n rfl rfl rfl ?_
  refine q_i2l rfl rfl ?_
  refine q_iload rfl rfl rfl ?_
  refine q_lshl rfl rfl ?_
  refine q_lor rfl rfl ?_
  exact q_lret rfl rfl trivial ⟨rfl, rfl, _, rfl, fun j hj => e_D_put (i := 4 * h + 3) (by omega) (by rw [w3]; exact hv) (by rw [o3, w3]; exact e_b_set e_bt_3 (by omega) (by decide) (by omega) hv) j hj⟩
theorem b_withPlace {p v : Nat} (hh : p < 4) (hv : v < 16) : PM (j_SL L) (j_SV xs) EX mm_X0_withPlace [.long s, .int (nI p), .int (nI v)] S n (fun r S' n' => S = S' ∧ n = n' ∧ ∃ t : Int64, r = some (.long t) ∧ e_is t (e_up (e_D s) (12 + p) v)) := by
  obtain ⟨o0, w0⟩ := e_pl_off hh
  change PQ (j_SL L) (j_SV xs) EX mm_X0_withPlace 0 [.long s, pm_un, .int (nI p), .int (nI v), pm_un] [] S n 0 0 _
  refine q_bipush rfl rfl ?_
  refine q_iconst rfl rfl ?_
  refine q_iload_n rfl rfl rfl ?_
  refine q_imul rfl rfl (q_tn (z := nI (4 * p)) (by rw [show (4 : Int32) = nI 4 from rfl, pk_mul]) ?_)
  refine q_iadd rfl rfl (q_tn (z := nI (36 + 4 * p)) (nI_add 36 _) ?_)
  refine q_ist4 rfl rfl rfl rfl ?_
  refine q_lload_n rfl rfl rfl ?_
  refine q_ldc2 rfl rfl ?_
  refine q_iload rfl rfl rfl ?_
  refine q_lshl rfl rfl ?_
  refine q_ldc2 rfl rfl ?_
  refine q_lxor rfl rfl ?_
  refine q_land rfl rfl ?_
  refine q_iload_n rfl rfl rfl ?_
  refine q_i2l rfl rfl ?_
  refine q_iload rfl rfl rfl ?_
  refine q_lshl rfl rfl ?_
  refine q_lor rfl rfl ?_
  exact q_lret rfl rfl trivial ⟨rfl, rfl, _, rfl, fun j hj => e_D_put (i := 12 + p) (by omega) (by rw [w0]; exact hv) (by rw [o0, w0]; exact e_b_set e_bt_15 (by omega) (by decide) (by omega) hv) j hj⟩
theorem b_withOwner {l v : Nat} (hh : l < 3) (hv : v < 4) : PM (j_SL L) (j_SV xs) EX mm_X0_withOwner [.long s, .int (nI l), .int (nI v - 1)] S n (fun r S' n' => S = S' ∧ n = n' ∧ ∃ t : Int64, r = some (.long t) ∧ e_is t (e_up (e_D s) (16 + l) v)) := by
  obtain ⟨o0, w0⟩ := e_ow_off hh
  change PQ (j_SL L) (j_SV xs) EX mm_X0_withOwner 0 [.long s, pm_un, .int (nI l), .int (nI v - 1), pm_un] [] S n 0 0 _
  refine q_bipush rfl rfl ?_
  refine q_iconst rfl rfl ?_
  refine q_iload_n rfl rfl rfl ?_
  refine q_imul rfl rfl (q_tn (z := nI (2 * l)) (by rw [show (2 : Int32) = nI 2 from rfl, pk_mul]) ?_)
  refine q_iadd rfl rfl (q_tn (z := nI (52 + 2 * l)) (nI_add 52 _) ?_)
  refine q_ist4 rfl rfl rfl rfl ?_
  refine q_lload_n rfl rfl rfl ?_
  refine q_ldc2 rfl rfl ?_
  refine q_iload rfl rfl rfl ?_
  refine q_lshl rfl rfl ?_
  refine q_ldc2 rfl rfl ?_
  refine q_lxor rfl rfl ?_
  refine q_land rfl rfl ?_
  refine q_iload_n rfl rfl rfl ?_
  refine q_iconst rfl rfl ?_
  refine q_iadd rfl rfl (q_tn (z := nI v) (Int32.sub_add_cancel (nI v) 1) ?_)
  refine q_i2l rfl rfl ?_
  refine q_iload rfl rfl rfl ?_
  refine q_lshl rfl rfl ?_
  refine q_lor rfl rfl ?_
  exact q_lret rfl rfl trivial ⟨rfl, rfl, _, rfl, fun j hj => e_D_put (i := 16 + l) (by omega) (by rw [w0]; exact hv) (by rw [o0, w0]; exact e_b_set e_bt_3 (by omega) (by decide) (by omega) hv) j hj⟩
theorem b_withPosition {h v : Nat} (hh : h < 3) (hv : v < 16) : PM (j_SL L) (j_SV xs) EX mm_X0_withPosition [.long s, .int (nI h), .int (nI v)] S n (fun r S' n' => S = S' ∧ n = n' ∧ ∃ t : Int64, r = some (.long t) ∧ e_is t (e_up (e_up (e_up (e_D s) (4 * h) v) (4 * h + 2) 0) (4 * h + 3) 0)) := by
  change PQ (j_SL L) (j_SV xs) EX mm_X0_withPosition 0 [.long s, pm_un, .int (nI h), .int (nI v), pm_un] [] S n 0 0 _
  refine q_bipush rfl rfl ?_
  refine q_iload_n rfl rfl rfl ?_
  refine q_imul rfl rfl (q_tn (z := nI (12 * h)) (by rw [show (12 : Int32) = nI 12 from rfl, pk_mul]) ?_)
  refine q_ist4 rfl rfl rfl rfl ?_
  refine q_lload_n rfl rfl rfl ?_
  refine q_ldc2 rfl rfl ?_
  refine q_iload rfl rfl rfl ?_
  refine q_lshl rfl rfl ?_
  refine q_ldc2 rfl rfl ?_
  refine q_lxor rfl rfl ?_
  refine q_land rfl rfl ?_
  refine q_iload_n rfl rfl rfl ?_
  refine q_i2l rfl rfl ?_
  refine q_iload rfl rfl rfl ?_
  refine q_lshl rfl rfl ?_
  refine q_lor rfl rfl ?_
  exact q_lret rfl rfl trivial ⟨rfl, rfl, _, rfl, fun j hj => e_D_at hh hv j hj⟩
theorem b_passed {h : Nat} (hh : h < 3) (hp : e_D s (4 * h) < 15) : PM (j_SL L) (j_SV xs) EX mm_X0_passed [.long s, .int (nI h)] S n (fun r S' n' => S = S' ∧ n = n' ∧ ∃ t : Int64, r = some (.long t) ∧ e_is t (e_up (e_up (e_up (e_D s) (4 * h) (e_D s (4 * h) + 1)) (4 * h + 2) 0) (4 * h + 3) 0)) := by
  change PQ (j_SL L) (j_SV xs) EX mm_X0_passed 0 [.long s, pm_un, .int (nI h), pm_un] [] S n 0 0 _
  refine q_bipush rfl rfl ?_
  refine q_iload_n rfl rfl rfl ?_
  refine q_imul rfl rfl (q_tn (z := nI (12 * h)) (by rw [show (12 : Int32) = nI 12 from rfl, pk_mul]) ?_)
  refine q_ist3n rfl rfl rfl rfl ?_
  refine q_lload_n rfl rfl rfl ?_
  refine q_ldc2 rfl rfl ?_
  refine q_iload_n rfl rfl rfl ?_
  refine q_lshl rfl rfl ?_
  refine q_ldc2 rfl rfl ?_
  refine q_lxor rfl rfl ?_
  refine q_land rfl rfl ?_
  refine q_lconst rfl rfl ?_
  refine q_iload_n rfl rfl rfl ?_
  refine q_lshl rfl rfl ?_
  refine q_ladd rfl rfl ?_
  exact q_lret rfl rfl trivial ⟨rfl, rfl, _, rfl, fun j hj => e_D_pass hh hp j hj⟩
theorem b_withLast {v : Nat} (hv : v < 4) : PM (j_SL L) (j_SV xs) EX mm_X0_withLast [.long s, .int (nI v - 1)] S n (fun r S' n' => S = S' ∧ n = n' ∧ ∃ t : Int64, r = some (.long t) ∧ e_is t (e_up (e_D s) 19 v)) := by
  change PQ (j_SL L) (j_SV xs) EX mm_X0_withLast 0 [.long s, pm_un, .int (nI v - 1)] [] S n 0 0 _
  refine q_lload_n rfl rfl rfl ?_
  refine q_ldc2 rfl rfl ?_
  refine q_land rfl rfl ?_
  refine q_iload_n rfl rfl rfl ?_
  refine q_iconst rfl rfl ?_
  refine q_iadd rfl rfl (q_tn (z := nI v) (Int32.sub_add_cancel (nI v) 1) ?_)
  refine q_i2l rfl rfl ?_
  refine q_bipush rfl rfl ?_
  refine q_lshl (y := nI 58) rfl rfl ?_
  refine q_lor rfl rfl ?_
  refine q_lret rfl rfl trivial ⟨rfl, rfl, _, rfl, fun j hj => e_D_put (i := 19) (by decide) hv (fun i hi => ?_) j hj⟩
  rw [e_bt_or, e_bt_and, e_bt_last i hi, e_bt_shl _ 58 (by decide), e_bt_nI v (by omega)]
  show _ = if 58 ≤ i ∧ i < 58 + 2 then _ else _
  by_cases c : 58 ≤ i
  · by_cases c2 : i < 60
    · rw [if_pos (by omega)]
      have : ¬ i < 58 := by omega
      simp [c, c2, hi, this]
      rfl
    · rw [if_neg (by omega)]
      have h5 : v.testBit (i - 58) = false := Nat.testBit_lt_two_pow (Nat.lt_of_lt_of_le (show v < 2 ^ 2 from hv) (Nat.pow_le_pow_right (show 0 < 2 by decide) (show 2 ≤ i - 58 by omega)))
      simp [c2, h5]
  · rw [if_neg (by omega)]
    have : i < 58 := by omega
    simp [c, this]
end BM
