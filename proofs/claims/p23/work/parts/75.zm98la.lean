/-! Long.bitCount counts the bits -/
section LA
variable {S : Nat → pm_E} {n : Nat} {L : Nat} {xs : Nat → Int32}
theorem e_nN_lt (s : Int64) : e_nN s < 2 ^ 64 := s.toBitVec.isLt
theorem e_nN_and (s t : Int64) : e_nN (s &&& t) = e_nN s &&& e_nN t := by
  unfold e_nN
  rw [Int64.toBitVec_and, BitVec.toNat_and]
theorem e_nN_ad2 (s t : Int64) : e_nN (s + t) = (e_nN s + e_nN t) % 2 ^ 64 := by
  unfold e_nN
  rw [Int64.toBitVec_add, BitVec.toNat_add]
theorem e_nN_sub (s t : Int64) : e_nN (s - t) = (2 ^ 64 - e_nN t + e_nN s) % 2 ^ 64 := by
  unfold e_nN
  rw [Int64.toBitVec_sub, BitVec.toNat_sub]
theorem e_nN_shr (s : Int64) (k : Nat) (hk : k < 64) : e_nN ((s.toUInt64 >>> ((nI k).toInt64.toUInt64 &&& Int64.toUInt64 63)).toInt64) = e_nN s / 2 ^ k := by
  unfold e_nN
  rw [UInt64.toBitVec_toInt64, UInt64.toBitVec_shiftRight, e_shu_and k hk, BitVec.ushiftRight_eq', BitVec.toNat_ushiftRight, BitVec.toNat_ofNat, Nat.mod_eq_of_lt (by omega), Int64.toBitVec_toUInt64, Nat.shiftRight_eq_div_pow]
theorem and_256 {a c u v : Nat} (ha : a < 256) (hc : c < 256) : (a + 256 * u) &&& (c + 256 * v) = (a &&& c) + 256 * (u &&& v) := by
  apply Nat.eq_of_testBit_eq
  intro i
  have e : ∀ a u : Nat, a < 256 → (a + 256 * u).testBit i = if i < 8 then a.testBit i else u.testBit (i - 8) := fun a u ha => by
    rw [Nat.add_comm, show (256 : Nat) = 2 ^ 8 from rfl, Nat.testBit_two_pow_mul_add u (b_lt := ha) i]
  rw [Nat.testBit_and, e a u ha, e c v hc, e (a &&& c) (u &&& v) (Nat.lt_of_le_of_lt Nat.and_le_left ha)]
  split
  · rw [Nat.testBit_and]
  · rw [Nat.testBit_and]
def nb (a0 a1 a2 a3 a4 a5 a6 a7 : Nat) : Nat := a0 + 256 * (a1 + 256 * (a2 + 256 * (a3 + 256 * (a4 + 256 * (a5 + 256 * (a6 + 256 * a7))))))
theorem nb_and {a0 a1 a2 a3 a4 a5 a6 a7 c0 c1 c2 c3 c4 c5 c6 c7 : Nat} (h0 : a0 < 256) (h1 : a1 < 256) (h2 : a2 < 256) (h3 : a3 < 256) (h4 : a4 < 256) (h5 : a5 < 256) (h6 : a6 < 256) (h7 : a7 < 256) (g0 : c0 < 256) (g1 : c1 < 256) (g2 : c2 < 256) (g3 : c3 < 256) (g4 : c4 < 256) (g5 : c5 < 256) (g6 : c6 < 256) (g7 : c7 < 256) : nb a0 a1 a2 a3 a4 a5 a6 a7 &&& nb c0 c1 c2 c3 c4 c5 c6 c7 = nb (a0 &&& c0) (a1 &&& c1) (a2 &&& c2) (a3 &&& c3) (a4 &&& c4) (a5 &&& c5) (a6 &&& c6) (a7 &&& c7) := by
  unfold nb
  rw [and_256 h0 g0, and_256 h1 g1, and_256 h2 g2, and_256 h3 g3, and_256 h4 g4, and_256 h5 g5, and_256 h6 g6]
theorem bk1 {a b : Nat} (ha : a < 256) (hb : b < 2) : (a / 2 + 128 * b) &&& 85 = (a / 2) &&& 85 := by
  have h : ∀ a : Fin 256, ∀ b : Fin 2, (a.val / 2 + 128 * b.val) &&& 85 = (a.val / 2) &&& 85 := by decide +kernel
  exact h ⟨a, ha⟩ ⟨b, hb⟩
theorem bk2 {a b : Nat} (ha : a < 256) (hb : b < 4) : (a / 4 + 64 * b) &&& 51 = (a / 4) &&& 51 := by
  have h : ∀ a : Fin 256, ∀ b : Fin 4, (a.val / 4 + 64 * b.val) &&& 51 = (a.val / 4) &&& 51 := by decide +kernel
  exact h ⟨a, ha⟩ ⟨b, hb⟩
theorem bk3 (z d : Nat) : (z + 16 * d) &&& 15 = z % 16 := by
  have h := Nat.and_two_pow_sub_one_eq_mod (z + 16 * d) 4
  have e : (2 ^ 4 - 1 : Nat) = 15 := rfl
  rw [e] at h
  rw [h]
  omega
def bq1 (a : Nat) : Nat := a - ((a / 2) &&& 85)
def bq2 (c : Nat) : Nat := (c &&& 51) + ((c / 4) &&& 51)
def bq (a : Nat) : Nat := bq2 (bq1 a)
def bp (a : Nat) : Nat := (bq a + bq a / 16) % 16
theorem bq_b {a : Nat} (ha : a < 256) : (a / 2) &&& 85 ≤ a ∧ bq1 a < 256 ∧ (bq1 a &&& 51) < 128 ∧ ((bq1 a / 4) &&& 51) < 128 ∧ bq a / 16 ≤ 4 ∧ bq a % 16 ≤ 4 ∧ bp a ≤ 8 := by
  have h : ∀ a : Fin 256, (a.val / 2) &&& 85 ≤ a.val ∧ bq1 a.val < 256 ∧ (bq1 a.val &&& 51) < 128 ∧ ((bq1 a.val / 4) &&& 51) < 128 ∧ bq a.val / 16 ≤ 4 ∧ bq a.val % 16 ≤ 4 ∧ bp a.val ≤ 8 := by decide +kernel
  exact h ⟨a, ha⟩
def cntB (b : Nat → Bool) : Nat → Nat
  | 0 => 0
  | m + 1 => cntB b m + (b m).toNat
theorem bp_cnt {a : Nat} (ha : a < 256) : bp a = cntB (fun i => a.testBit i) 8 := by
  have h : ∀ a : Fin 256, bp a.val = cntB (fun i => a.val.testBit i) 8 := by decide +kernel
  exact h ⟨a, ha⟩
theorem cntB_cg {b c : Nat → Bool} {m : Nat} (h : ∀ i, i < m → b i = c i) : cntB b m = cntB c m := by
  induction m with
  | zero => rfl
  | succ m ih =>
    show cntB b m + (b m).toNat = cntB c m + (c m).toNat
    rw [ih (fun i hi => h i (by omega)), h m (by omega)]
theorem cntB_add (b : Nat → Bool) (m k : Nat) : cntB b (m + k) = cntB b m + cntB (fun i => b (m + i)) k := by
  induction k with
  | zero => rfl
  | succ k ih =>
    show cntB b (m + k) + (b (m + k)).toNat = cntB b m + (cntB (fun i => b (m + i)) k + (b (m + k)).toNat)
    rw [ih]
    omega
theorem cntB_fld (x : Int64) (k : Nat) : cntB (fun i => e_bt x (k + i)) 8 = bp (e_fld x k 8) := by
  rw [bp_cnt (e_fld_lt x k 8)]
  refine cntB_cg (fun i hi => ?_)
  rw [e_fld_bt, decide_eq_true hi, Bool.true_and]
theorem cntB_64 (x : Int64) : cntB (e_bt x) 64 = bp (e_fld x 0 8) + bp (e_fld x 8 8) + bp (e_fld x 16 8) + bp (e_fld x 24 8) + bp (e_fld x 32 8) + bp (e_fld x 40 8) + bp (e_fld x 48 8) + bp (e_fld x 56 8) := by
  have e : ∀ m, cntB (e_bt x) (m + 8) = cntB (e_bt x) m + bp (e_fld x m 8) := fun m => by rw [cntB_add, cntB_fld]
  have e0 : cntB (e_bt x) 8 = bp (e_fld x 0 8) := by
    have := e 0
    rw [Nat.zero_add] at this
    rw [this]
    show 0 + _ = _
    omega
  rw [show (64 : Nat) = 56 + 8 from rfl, e 56, show (56 : Nat) = 48 + 8 from rfl, e 48, show (48 : Nat) = 40 + 8 from rfl, e 40, show (40 : Nat) = 32 + 8 from rfl, e 32, show (32 : Nat) = 24 + 8 from rfl, e 24, show (24 : Nat) = 16 + 8 from rfl, e 16, show (16 : Nat) = 8 + 8 from rfl, e 8, e0]
theorem nb_of (x : Int64) : e_nN x = nb (e_fld x 0 8) (e_fld x 8 8) (e_fld x 16 8) (e_fld x 24 8) (e_fld x 32 8) (e_fld x 40 8) (e_fld x 48 8) (e_fld x 56 8) := by
  have h := e_nN_lt x
  unfold e_fld nb
  generalize e_nN x = X at h
  have d : ∀ k, X / 2 ^ (k + 8) = X / 2 ^ k / 256 := fun k => by rw [Nat.pow_add, Nat.div_div_eq_div_mul]
  have e8 : X / 2 ^ 8 = X / 256 := rfl
  rw [show (56 : Nat) = 48 + 8 from rfl, d 48, show (48 : Nat) = 40 + 8 from rfl, d 40, show (40 : Nat) = 32 + 8 from rfl, d 32, show (32 : Nat) = 24 + 8 from rfl, d 24, show (24 : Nat) = 16 + 8 from rfl, d 16, show (16 : Nat) = 8 + 8 from rfl, d 8, e8, Nat.pow_zero, Nat.div_one, show (2 ^ 8 : Nat) = 256 from rfl]
  have h' : X < 18446744073709551616 := h
  omega
/-- the three steps within the bytes -/
theorem bw1 {a0 a1 a2 a3 a4 a5 a6 a7 : Nat} (h0 : a0 < 256) (h1 : a1 < 256) (h2 : a2 < 256) (h3 : a3 < 256) (h4 : a4 < 256) (h5 : a5 < 256) (h6 : a6 < 256) (h7 : a7 < 256) : (2 ^ 64 - (nb a0 a1 a2 a3 a4 a5 a6 a7 / 2 ^ 1 &&& 6148914691236517205) + nb a0 a1 a2 a3 a4 a5 a6 a7) % 2 ^ 64 = nb (bq1 a0) (bq1 a1) (bq1 a2) (bq1 a3) (bq1 a4) (bq1 a5) (bq1 a6) (bq1 a7) := by
  have e1 : nb a0 a1 a2 a3 a4 a5 a6 a7 / 2 ^ 1 = nb (a0 / 2 + 128 * (a1 % 2)) (a1 / 2 + 128 * (a2 % 2)) (a2 / 2 + 128 * (a3 % 2)) (a3 / 2 + 128 * (a4 % 2)) (a4 / 2 + 128 * (a5 % 2)) (a5 / 2 + 128 * (a6 % 2)) (a6 / 2 + 128 * (a7 % 2)) (a7 / 2) := by
    unfold nb
    omega
  have e2 : (6148914691236517205 : Nat) = nb 85 85 85 85 85 85 85 85 := rfl
  rw [e1, e2, nb_and (by omega) (by omega) (by omega) (by omega) (by omega) (by omega) (by omega) (by omega) (by decide) (by decide) (by decide) (by decide) (by decide) (by decide) (by decide) (by decide), bk1 h0 (by omega), bk1 h1 (by omega), bk1 h2 (by omega), bk1 h3 (by omega), bk1 h4 (by omega), bk1 h5 (by omega), bk1 h6 (by omega)]
  have b0 := (bq_b h0).1
  have b1 := (bq_b h1).1
  have b2 := (bq_b h2).1
  have b3 := (bq_b h3).1
  have b4 := (bq_b h4).1
  have b5 := (bq_b h5).1
  have b6 := (bq_b h6).1
  have b7 := (bq_b h7).1
  unfold bq1
  generalize a0 / 2 &&& 85 = y0 at b0 ⊢
  generalize a1 / 2 &&& 85 = y1 at b1 ⊢
  generalize a2 / 2 &&& 85 = y2 at b2 ⊢
  generalize a3 / 2 &&& 85 = y3 at b3 ⊢
  generalize a4 / 2 &&& 85 = y4 at b4 ⊢
  generalize a5 / 2 &&& 85 = y5 at b5 ⊢
  generalize a6 / 2 &&& 85 = y6 at b6 ⊢
  generalize a7 / 2 &&& 85 = y7 at b7 ⊢
  unfold nb
  omega
theorem bw2 {c0 c1 c2 c3 c4 c5 c6 c7 : Nat} (h0 : c0 < 256) (h1 : c1 < 256) (h2 : c2 < 256) (h3 : c3 < 256) (h4 : c4 < 256) (h5 : c5 < 256) (h6 : c6 < 256) (h7 : c7 < 256) (g0 : (c0 &&& 51) < 128 ∧ ((c0 / 4) &&& 51) < 128) (g1 : (c1 &&& 51) < 128 ∧ ((c1 / 4) &&& 51) < 128) (g2 : (c2 &&& 51) < 128 ∧ ((c2 / 4) &&& 51) < 128) (g3 : (c3 &&& 51) < 128 ∧ ((c3 / 4) &&& 51) < 128) (g4 : (c4 &&& 51) < 128 ∧ ((c4 / 4) &&& 51) < 128) (g5 : (c5 &&& 51) < 128 ∧ ((c5 / 4) &&& 51) < 128) (g6 : (c6 &&& 51) < 128 ∧ ((c6 / 4) &&& 51) < 128) (g7 : (c7 &&& 51) < 128 ∧ ((c7 / 4) &&& 51) < 128) : ((nb c0 c1 c2 c3 c4 c5 c6 c7 &&& 3689348814741910323) + (nb c0 c1 c2 c3 c4 c5 c6 c7 / 2 ^ 2 &&& 3689348814741910323)) % 2 ^ 64 = nb (bq2 c0) (bq2 c1) (bq2 c2) (bq2 c3) (bq2 c4) (bq2 c5) (bq2 c6) (bq2 c7) := by
  have e1 : nb c0 c1 c2 c3 c4 c5 c6 c7 / 2 ^ 2 = nb (c0 / 4 + 64 * (c1 % 4)) (c1 / 4 + 64 * (c2 % 4)) (c2 / 4 + 64 * (c3 % 4)) (c3 / 4 + 64 * (c4 % 4)) (c4 / 4 + 64 * (c5 % 4)) (c5 / 4 + 64 * (c6 % 4)) (c6 / 4 + 64 * (c7 % 4)) (c7 / 4) := by
    unfold nb
    omega
  have e2 : (3689348814741910323 : Nat) = nb 51 51 51 51 51 51 51 51 := rfl
  rw [e1, e2, nb_and h0 h1 h2 h3 h4 h5 h6 h7 (by decide) (by decide) (by decide) (by decide) (by decide) (by decide) (by decide) (by decide), nb_and (by omega) (by omega) (by omega) (by omega) (by omega) (by omega) (by omega) (by omega) (by decide) (by decide) (by decide) (by decide) (by decide) (by decide) (by decide) (by decide), bk2 h0 (by omega), bk2 h1 (by omega), bk2 h2 (by omega), bk2 h3 (by omega), bk2 h4 (by omega), bk2 h5 (by omega), bk2 h6 (by omega)]
  unfold bq2
  generalize c0 &&& 51 = y0 at g0 ⊢
  generalize c0 / 4 &&& 51 = z0 at g0 ⊢
  generalize c1 &&& 51 = y1 at g1 ⊢
  generalize c1 / 4 &&& 51 = z1 at g1 ⊢
  generalize c2 &&& 51 = y2 at g2 ⊢
  generalize c2 / 4 &&& 51 = z2 at g2 ⊢
  generalize c3 &&& 51 = y3 at g3 ⊢
  generalize c3 / 4 &&& 51 = z3 at g3 ⊢
  generalize c4 &&& 51 = y4 at g4 ⊢
  generalize c4 / 4 &&& 51 = z4 at g4 ⊢
  generalize c5 &&& 51 = y5 at g5 ⊢
  generalize c5 / 4 &&& 51 = z5 at g5 ⊢
  generalize c6 &&& 51 = y6 at g6 ⊢
  generalize c6 / 4 &&& 51 = z6 at g6 ⊢
  generalize c7 &&& 51 = y7 at g7 ⊢
  generalize c7 / 4 &&& 51 = z7 at g7 ⊢
  unfold nb
  omega
theorem bw3 {e0 e1 e2 e3 e4 e5 e6 e7 : Nat} (h0 : e0 / 16 ≤ 4 ∧ e0 % 16 ≤ 4) (h1 : e1 / 16 ≤ 4 ∧ e1 % 16 ≤ 4) (h2 : e2 / 16 ≤ 4 ∧ e2 % 16 ≤ 4) (h3 : e3 / 16 ≤ 4 ∧ e3 % 16 ≤ 4) (h4 : e4 / 16 ≤ 4 ∧ e4 % 16 ≤ 4) (h5 : e5 / 16 ≤ 4 ∧ e5 % 16 ≤ 4) (h6 : e6 / 16 ≤ 4 ∧ e6 % 16 ≤ 4) (h7 : e7 / 16 ≤ 4 ∧ e7 % 16 ≤ 4) : ((nb e0 e1 e2 e3 e4 e5 e6 e7 + nb e0 e1 e2 e3 e4 e5 e6 e7 / 2 ^ 4) % 2 ^ 64) &&& 1085102592571150095 = nb ((e0 + e0 / 16) % 16) ((e1 + e1 / 16) % 16) ((e2 + e2 / 16) % 16) ((e3 + e3 / 16) % 16) ((e4 + e4 / 16) % 16) ((e5 + e5 / 16) % 16) ((e6 + e6 / 16) % 16) ((e7 + e7 / 16) % 16) := by
  have q1 : (nb e0 e1 e2 e3 e4 e5 e6 e7 + nb e0 e1 e2 e3 e4 e5 e6 e7 / 2 ^ 4) % 2 ^ 64 = nb (e0 + e0 / 16 + 16 * (e1 % 16)) (e1 + e1 / 16 + 16 * (e2 % 16)) (e2 + e2 / 16 + 16 * (e3 % 16)) (e3 + e3 / 16 + 16 * (e4 % 16)) (e4 + e4 / 16 + 16 * (e5 % 16)) (e5 + e5 / 16 + 16 * (e6 % 16)) (e6 + e6 / 16 + 16 * (e7 % 16)) (e7 + e7 / 16 + 16 * 0) := by
    unfold nb
    omega
  have q2 : (1085102592571150095 : Nat) = nb 15 15 15 15 15 15 15 15 := rfl
  rw [q1, q2, nb_and (by omega) (by omega) (by omega) (by omega) (by omega) (by omega) (by omega) (by omega) (by decide) (by decide) (by decide) (by decide) (by decide) (by decide) (by decide) (by decide), bk3, bk3, bk3, bk3, bk3, bk3, bk3, bk3]
theorem bs2 {q0 q1 q2 q3 q4 q5 q6 q7 : Nat} (h0 : q0 ≤ 16) (h1 : q1 ≤ 16) (h2 : q2 ≤ 16) (h3 : q3 ≤ 16) (h4 : q4 ≤ 16) (h5 : q5 ≤ 16) (h6 : q6 ≤ 16) (h7 : q7 ≤ 16) : (nb q0 q1 q2 q3 q4 q5 q6 q7 + nb q0 q1 q2 q3 q4 q5 q6 q7 / 2 ^ 16) % 2 ^ 64 = nb (q0 + q2) (q1 + q3) (q2 + q4) (q3 + q5) (q4 + q6) (q5 + q7) q6 q7 := by
  have hd : nb q0 q1 q2 q3 q4 q5 q6 q7 / 2 ^ 16 = q2 + 256 * (q3 + 256 * (q4 + 256 * (q5 + 256 * (q6 + 256 * q7)))) := by
    unfold nb
    omega
  rw [hd, Nat.mod_eq_of_lt (by unfold nb; omega)]
  unfold nb
  omega
theorem bs4 {q0 q1 q2 q3 q4 q5 q6 q7 : Nat} (h0 : q0 ≤ 32) (h1 : q1 ≤ 32) (h2 : q2 ≤ 32) (h3 : q3 ≤ 32) (h4 : q4 ≤ 32) (h5 : q5 ≤ 32) (h6 : q6 ≤ 32) (h7 : q7 ≤ 32) : (nb q0 q1 q2 q3 q4 q5 q6 q7 + nb q0 q1 q2 q3 q4 q5 q6 q7 / 2 ^ 32) % 2 ^ 64 = nb (q0 + q4) (q1 + q5) (q2 + q6) (q3 + q7) q4 q5 q6 q7 := by
  have hd : nb q0 q1 q2 q3 q4 q5 q6 q7 / 2 ^ 32 = q4 + 256 * (q5 + 256 * (q6 + 256 * q7)) := by
    unfold nb
    omega
  rw [hd, Nat.mod_eq_of_lt (by unfold nb; omega)]
  unfold nb
  omega
theorem bw4 {p0 p1 p2 p3 p4 p5 p6 p7 A B C D : Nat} (h0 : p0 ≤ 8) (h1 : p1 ≤ 8) (h2 : p2 ≤ 8) (h3 : p3 ≤ 8) (h4 : p4 ≤ 8) (h5 : p5 ≤ 8) (h6 : p6 ≤ 8) (h7 : p7 ≤ 8) (eA : A = nb p0 p1 p2 p3 p4 p5 p6 p7) (eB : B = (A + A / 2 ^ 8) % 2 ^ 64) (eC : C = (B + B / 2 ^ 16) % 2 ^ 64) (eD : D = (C + C / 2 ^ 32) % 2 ^ 64) : D % 128 = p0 + p1 + p2 + p3 + p4 + p5 + p6 + p7 := by
  have hB : B = nb (p0 + p1) (p1 + p2) (p2 + p3) (p3 + p4) (p4 + p5) (p5 + p6) (p6 + p7) p7 := by
    rw [eB, eA]
    unfold nb
    omega
  have hC : C = nb (p0 + p1 + (p2 + p3)) (p1 + p2 + (p3 + p4)) (p2 + p3 + (p4 + p5)) (p3 + p4 + (p5 + p6)) (p4 + p5 + (p6 + p7)) (p5 + p6 + p7) (p6 + p7) p7 := by
    rw [eC, hB, bs2 (by omega) (by omega) (by omega) (by omega) (by omega) (by omega) (by omega) (by omega)]
  have hD : D = nb (p0 + p1 + (p2 + p3) + (p4 + p5 + (p6 + p7))) (p1 + p2 + (p3 + p4) + (p5 + p6 + p7)) (p2 + p3 + (p4 + p5) + (p6 + p7)) (p3 + p4 + (p5 + p6) + p7) (p4 + p5 + (p6 + p7)) (p5 + p6 + p7) (p6 + p7) p7 := by
    rw [eD, hC, bs4 (by omega) (by omega) (by omega) (by omega) (by omega) (by omega) (by omega) (by omega)]
  rw [hD]
  unfold nb
  omega
theorem l2i_127 (x : Int64) : x.toInt32 &&& 127 = nI (e_nN x % 128) := by
  apply Int32.toBitVec.inj
  apply BitVec.eq_of_toNat_eq
  have e : (nI (e_nN x % 128)).toBitVec = BitVec.ofNat 32 (e_nN x % 128) := rfl
  rw [e, BitVec.toNat_ofNat, Int32.toBitVec_and, BitVec.toNat_and, Int64.toBitVec_toInt32, BitVec.signExtend_eq_setWidth_of_le _ (by decide), BitVec.toNat_setWidth]
  have e7 : (127 : Int32).toBitVec.toNat = 127 := rfl
  rw [e7]
  have h := Nat.and_two_pow_sub_one_eq_mod (x.toBitVec.toNat % 2 ^ 32) 7
  have e9 : (2 ^ 7 - 1 : Nat) = 127 := rfl
  rw [e9] at h
  rw [h]
  unfold e_nN
  omega
set_option maxHeartbeats 4000000 in
theorem bc_ok (x : Int64) : PM (j_SL L) (j_SV xs) j_EX mm_J13_bitCount_95d88 [.long x] S n (fun r S' n' => S = S' ∧ n = n' ∧ r = some (.int (nI (cntB (e_bt x) 64)))) := by
  change PQ (j_SL L) (j_SV xs) j_EX mm_J13_bitCount_95d88 0 [.long x, pm_un] [] S n 0 0 _
  have h0 : e_fld x 0 8 < 256 := e_fld_lt x 0 8
  have h1 : e_fld x 8 8 < 256 := e_fld_lt x 8 8
  have h2 : e_fld x 16 8 < 256 := e_fld_lt x 16 8
  have h3 : e_fld x 24 8 < 256 := e_fld_lt x 24 8
  have h4 : e_fld x 32 8 < 256 := e_fld_lt x 32 8
  have h5 : e_fld x 40 8 < 256 := e_fld_lt x 40 8
  have h6 : e_fld x 48 8 < 256 := e_fld_lt x 48 8
  have h7 : e_fld x 56 8 < 256 := e_fld_lt x 56 8
  refine q_lload_n rfl rfl rfl ?_
  refine q_lload_n rfl rfl rfl ?_
  refine q_iconst rfl rfl ?_
  refine q_lushr rfl rfl ?_
  refine q_ldc2 rfl rfl ?_
  refine q_land rfl rfl ?_
  refine q_lsub rfl rfl ?_
  refine q_lst0n rfl rfl rfl ?_
  generalize hx1 : x - ((x.toUInt64 >>> ((1 : Int32).toInt64.toUInt64 &&& Int64.toUInt64 63)).toInt64 &&& 6148914691236517205) = x1
  have n1 : e_nN x1 = nb (bq1 (e_fld x 0 8)) (bq1 (e_fld x 8 8)) (bq1 (e_fld x 16 8)) (bq1 (e_fld x 24 8)) (bq1 (e_fld x 32 8)) (bq1 (e_fld x 40 8)) (bq1 (e_fld x 48 8)) (bq1 (e_fld x 56 8)) := by
    rw [← hx1, e_nN_sub, e_nN_and, show ((1 : Int32)) = nI 1 from rfl, e_nN_shr x 1 (by decide), nb_of x]
    exact bw1 h0 h1 h2 h3 h4 h5 h6 h7
  refine q_lload_n rfl rfl rfl ?_
  refine q_ldc2 rfl rfl ?_
  refine q_land rfl rfl ?_
  refine q_lload_n rfl rfl rfl ?_
  refine q_iconst rfl rfl ?_
  refine q_lushr rfl rfl ?_
  refine q_ldc2 rfl rfl ?_
  refine q_land rfl rfl ?_
  refine q_ladd rfl rfl ?_
  refine q_lst0n rfl rfl rfl ?_
  generalize hx2 : (x1 &&& 3689348814741910323) + ((x1.toUInt64 >>> ((2 : Int32).toInt64.toUInt64 &&& Int64.toUInt64 63)).toInt64 &&& 3689348814741910323) = x2
  have n2 : e_nN x2 = nb (bq (e_fld x 0 8)) (bq (e_fld x 8 8)) (bq (e_fld x 16 8)) (bq (e_fld x 24 8)) (bq (e_fld x 32 8)) (bq (e_fld x 40 8)) (bq (e_fld x 48 8)) (bq (e_fld x 56 8)) := by
    rw [← hx2, e_nN_ad2, e_nN_and, e_nN_and, show ((2 : Int32)) = nI 2 from rfl, e_nN_shr x1 2 (by decide), n1]
    exact bw2 (bq_b h0).2.1 (bq_b h1).2.1 (bq_b h2).2.1 (bq_b h3).2.1 (bq_b h4).2.1 (bq_b h5).2.1 (bq_b h6).2.1 (bq_b h7).2.1 ⟨(bq_b h0).2.2.1, (bq_b h0).2.2.2.1⟩ ⟨(bq_b h1).2.2.1, (bq_b h1).2.2.2.1⟩ ⟨(bq_b h2).2.2.1, (bq_b h2).2.2.2.1⟩ ⟨(bq_b h3).2.2.1, (bq_b h3).2.2.2.1⟩ ⟨(bq_b h4).2.2.1, (bq_b h4).2.2.2.1⟩ ⟨(bq_b h5).2.2.1, (bq_b h5).2.2.2.1⟩ ⟨(bq_b h6).2.2.1, (bq_b h6).2.2.2.1⟩ ⟨(bq_b h7).2.2.1, (bq_b h7).2.2.2.1⟩
  refine q_lload_n rfl rfl rfl ?_
  refine q_lload_n rfl rfl rfl ?_
  refine q_iconst rfl rfl ?_
  refine q_lushr rfl rfl ?_
  refine q_ladd rfl rfl ?_
  refine q_ldc2 rfl rfl ?_
  refine q_land rfl rfl ?_
  refine q_lst0n rfl rfl rfl ?_
  generalize hx3 : (x2 + (x2.toUInt64 >>> ((4 : Int32).toInt64.toUInt64 &&& Int64.toUInt64 63)).toInt64) &&& 1085102592571150095 = x3
  have n3 : e_nN x3 = nb (bp (e_fld x 0 8)) (bp (e_fld x 8 8)) (bp (e_fld x 16 8)) (bp (e_fld x 24 8)) (bp (e_fld x 32 8)) (bp (e_fld x 40 8)) (bp (e_fld x 48 8)) (bp (e_fld x 56 8)) := by
    rw [← hx3, e_nN_and, e_nN_ad2, show ((4 : Int32)) = nI 4 from rfl, e_nN_shr x2 4 (by decide), n2]
    exact bw3 ⟨(bq_b h0).2.2.2.2.1, (bq_b h0).2.2.2.2.2.1⟩ ⟨(bq_b h1).2.2.2.2.1, (bq_b h1).2.2.2.2.2.1⟩ ⟨(bq_b h2).2.2.2.2.1, (bq_b h2).2.2.2.2.2.1⟩ ⟨(bq_b h3).2.2.2.2.1, (bq_b h3).2.2.2.2.2.1⟩ ⟨(bq_b h4).2.2.2.2.1, (bq_b h4).2.2.2.2.2.1⟩ ⟨(bq_b h5).2.2.2.2.1, (bq_b h5).2.2.2.2.2.1⟩ ⟨(bq_b h6).2.2.2.2.1, (bq_b h6).2.2.2.2.2.1⟩ ⟨(bq_b h7).2.2.2.2.1, (bq_b h7).2.2.2.2.2.1⟩
  refine q_lload_n rfl rfl rfl ?_
  refine q_lload_n rfl rfl rfl ?_
  refine q_bipush rfl rfl ?_
  refine q_lushr rfl rfl ?_
  refine q_ladd rfl rfl ?_
  refine q_lst0n rfl rfl rfl ?_
  generalize hx4 : x3 + (x3.toUInt64 >>> ((8 : Int32).toInt64.toUInt64 &&& Int64.toUInt64 63)).toInt64 = x4
  have n4 : e_nN x4 = (e_nN x3 + e_nN x3 / 2 ^ 8) % 2 ^ 64 := by
    rw [← hx4, e_nN_ad2, show ((8 : Int32)) = nI 8 from rfl, e_nN_shr x3 8 (by decide)]
  refine q_lload_n rfl rfl rfl ?_
  refine q_lload_n rfl rfl rfl ?_
  refine q_bipush rfl rfl ?_
  refine q_lushr rfl rfl ?_
  refine q_ladd rfl rfl ?_
  refine q_lst0n rfl rfl rfl ?_
  generalize hx5 : x4 + (x4.toUInt64 >>> ((16 : Int32).toInt64.toUInt64 &&& Int64.toUInt64 63)).toInt64 = x5
  have n5 : e_nN x5 = (e_nN x4 + e_nN x4 / 2 ^ 16) % 2 ^ 64 := by
    rw [← hx5, e_nN_ad2, show ((16 : Int32)) = nI 16 from rfl, e_nN_shr x4 16 (by decide)]
  refine q_lload_n rfl rfl rfl ?_
  refine q_lload_n rfl rfl rfl ?_
  refine q_bipush rfl rfl ?_
  refine q_lushr rfl rfl ?_
  refine q_ladd rfl rfl ?_
  refine q_lst0n rfl rfl rfl ?_
  generalize hx6 : x5 + (x5.toUInt64 >>> ((32 : Int32).toInt64.toUInt64 &&& Int64.toUInt64 63)).toInt64 = x6
  have n6 : e_nN x6 = (e_nN x5 + e_nN x5 / 2 ^ 32) % 2 ^ 64 := by
    rw [← hx6, e_nN_ad2, show ((32 : Int32)) = nI 32 from rfl, e_nN_shr x5 32 (by decide)]
  refine q_lload_n rfl rfl rfl ?_
  refine q_l2i rfl rfl ?_
  refine q_bipush rfl rfl ?_
  refine q_iand rfl rfl ?_
  refine q_iret rfl rfl trivial ⟨rfl, rfl, ?_⟩
  show some (Value.int (x6.toInt32 &&& 127)) = _
  rw [l2i_127, bw4 (bq_b h0).2.2.2.2.2.2 (bq_b h1).2.2.2.2.2.2 (bq_b h2).2.2.2.2.2.2 (bq_b h3).2.2.2.2.2.2 (bq_b h4).2.2.2.2.2.2 (bq_b h5).2.2.2.2.2.2 (bq_b h6).2.2.2.2.2.2 (bq_b h7).2.2.2.2.2.2 n3 n4 n5 n6, cntB_64]
end LA
