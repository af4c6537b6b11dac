/-! can: class and reference -/
section JB
variable {θ : Th} {P : PG} {S : Nat → pm_E} {n k p v : Nat} {L : Nat} {xs : Nat → Int32} {x y z : Int32}
theorem e_bt_1 {j : Nat} (hj : j < 64) : e_bt 1 j = decide (j = 0) := by
  have h : ∀ j : Fin 64, e_bt 1 j.val = decide (j.val = 0) := by decide +kernel
  exact h ⟨j, hj⟩
theorem e_bt_0 {j : Nat} (hj : j < 64) : e_bt 0 j = false := by
  have h : ∀ j : Fin 64, e_bt 0 j.val = false := by decide +kernel
  exact h ⟨j, hj⟩
theorem c_says {e : Int64} {q : Nat} (hq : q < 64) : PM (j_SL L) (j_SV xs) j_EX mm_X11_says [.long e, .int (nI q)] S n (yn (e_bt e q = true) S n) := by
  change PQ (j_SL L) (j_SV xs) j_EX mm_X11_says 0 [.long e, pm_un, .int (nI q)] [] S n 0 0 _
  have hb : ∀ j, j < 64 → e_bt ((e.toUInt64 >>> ((nI q).toInt64.toUInt64 &&& Int64.toUInt64 63)).toInt64 &&& 1) j = (e_bt e (q + j) && decide (j = 0)) := fun j hj => by
    rw [e_bt_and, e_bt_shr e q hq, e_bt_1 hj]
  refine q_lload_n rfl rfl rfl ?_
  refine q_iload_n rfl rfl rfl ?_
  refine q_lushr rfl rfl ?_
  refine q_lconst rfl rfl ?_
  refine q_land rfl rfl ?_
  refine q_lconst rfl rfl ?_
  refine q_lcmp rfl rfl ?_
  refine q_ifeq rfl rfl (fun h => ?_) (fun h => ?_)
  · have h0 := lcmp_0.mp h
    have h1 : ¬ e_bt e q = true := fun h9 => by
      have := hb 0 (by decide)
      rw [h0, e_bt_0 (by decide), Nat.add_zero, h9] at this
      cases this
    refine q_iconst rfl rfl ?_
    exact q_iret rfl rfl rfl ⟨rfl, rfl, Or.inr ⟨h1, rfl⟩⟩
  · have h1 : e_bt e q = true := Classical.byContradiction (fun h9 => h (lcmp_0.mpr (e_bt_ext (fun j hj => by
      rw [hb j hj, e_bt_0 hj]
      by_cases c : j = 0
      · subst c
        rw [Nat.add_zero]
        cases h8 : e_bt e q
        · rfl
        · exact absurd h8 h9
      · rw [decide_eq_false c, Bool.and_false]))))
    refine q_iconst rfl rfl ?_
    refine q_goto rfl ?_
    exact q_iret rfl rfl rfl ⟨rfl, rfl, Or.inl ⟨h1, rfl⟩⟩
theorem b32_shr {e : Int32} (hv : v < 10) : (e >>> (nI v &&& 31)) &&& 1 = if b32 e v = true then 1 else 0 := by
  have hs : (nI v &&& 31).toBitVec.smod 32 = BitVec.ofNat 32 v := by
    have h : ∀ v : Fin 10, (nI v.val &&& 31).toBitVec.smod 32 = BitVec.ofNat 32 v.val := by decide +kernel
    exact h ⟨v, hv⟩
  have hb : ∀ j, j < 32 → ((e >>> (nI v &&& 31)) &&& 1).toBitVec.getLsbD j = (b32 e v && decide (j = 0)) := fun j hj => by
    have h1 : (1 : Int32).toBitVec.getLsbD j = decide (j = 0) := by
      have h : ∀ j : Fin 32, (1 : Int32).toBitVec.getLsbD j.val = decide (j.val = 0) := by decide +kernel
      exact h ⟨j, hj⟩
    rw [Int32.toBitVec_and, BitVec.getLsbD_and, h1]
    by_cases c : j = 0
    · subst c
      rw [Int32.toBitVec_shiftRight, hs, BitVec.sshiftRight_eq', BitVec.toNat_ofNat, Nat.mod_eq_of_lt (by omega), BitVec.getLsbD_sshiftRight]
      unfold b32
      have h2 : ¬ (32 ≤ 0) := by decide
      have h3 : v + 0 < 32 := by omega
      simp [h3]
      intro h9
      omega
    · rw [decide_eq_false c, Bool.and_false, Bool.and_false]
  apply Int32.toBitVec.inj
  apply BitVec.eq_of_getLsbD_eq
  intro i hi
  rw [hb i hi]
  cases h : b32 e v
  · rw [if_neg (by decide)]
    show _ = (0#32).getLsbD i
    rw [BitVec.getLsbD_zero, Bool.false_and]
  · rw [if_pos rfl, Bool.true_and]
    have h1 : ∀ j : Fin 32, decide (j.val = 0) = (1 : Int32).toBitVec.getLsbD j.val := by decide +kernel
    exact h1 ⟨i, hi⟩
def canP (P : PG) (k p v : Nat) : Prop := ∃ j, j < xN (xE P k) ∧ endP P (xS (xE P k) j) ∧ xS (xE P k) j (12 + p) = v
noncomputable def canA (P : PG) (k p v : Nat) : Int32 := match xP (xE P k) with
  | true => -5
  | false => @ite _ (canP P k p v) (Classical.propDecidable _) 1 0
def okC (x y z : Int32) : Prop := (0 ≤ x ∧ x < 5) ∧ (0 ≤ y ∧ y < 4) ∧ (0 ≤ z ∧ z < 10)
noncomputable def canR (P : PG) (x y z : Int32) : Int32 := @ite _ (okC x y z) (Classical.propDecidable _) (canA P x.toInt.toNat y.toInt.toNat z.toInt.toNat) (-1)
theorem canA_t (h : xP (xE P k) = true) : canA P k p v = -5 := by
  unfold canA
  rw [h]
theorem canA_y (h : xP (xE P k) = false) (hc : canP P k p v) : canA P k p v = 1 := by
  unfold canA
  rw [h]
  exact if_pos hc
theorem canA_n (h : xP (xE P k) = false) (hc : ¬ canP P k p v) : canA P k p v = 0 := by
  unfold canA
  rw [h]
  exact if_neg hc
theorem in_b {b : Nat} {B : Int32} (hB : B = nI (b + 1)) (hb : b < 100) (h : 0 ≤ x ∧ x < B) : ∃ k : Nat, k < b + 1 ∧ x = nI k := by
  have h1 := h.1
  have h2 := h.2
  rw [Int32.le_iff_toInt_le] at h1
  rw [hB, Int32.lt_iff_toInt_lt, nI_toInt (by omega)] at h2
  have e0 : (0 : Int32).toInt = 0 := rfl
  obtain ⟨k, hk, e⟩ := nI_rg (x := x) (m := b) (by omega) (by omega)
  exact ⟨k, by omega, e⟩
theorem canR_k (h : okC (nI k) (nI p) (nI v)) (hk : k < 5) (hp : p < 4) (hv : v < 10) : canR P (nI k) (nI p) (nI v) = canA P k p v := by
  unfold canR
  refine (if_pos h).trans ?_
  rw [nI_toInt (by omega), nI_toInt (by omega), nI_toInt (by omega), Int.toNat_natCast, Int.toNat_natCast, Int.toNat_natCast]
theorem srt_end {pic : Nat} {D : Nat → Nat} : srt P pic D = 1 ↔ endP P D := by
  constructor
  · intro h
    by_cases c : ∃ x, x < pH P ∧ mayP P pic D x
    · rw [srt_0 c] at h
      cases h
    · by_cases c2 : endP P D
      · exact c2
      · rw [srt_2 c c2] at h
        cases h
  · intro h
    exact srt_1 (fun ⟨x, hx, hm⟩ => hm.1.1 (h x hx)) h
theorem en_can {e : Int64} (hW : WFP P) (he : enOK P k e) (hp : p < 4) (hv : v < 10) : e_bt e (10 * p + v) = true ↔ canP P k p v := by
  rw [he (10 * p + v) (by omega)]
  have hX := (xe_wx (k := k) hW).1
  constructor
  · rintro ⟨j, hj, hs, p', hp', e'⟩
    have h9 := (hX.2.2.1 j hj).2.2.1 p' hp'
    have ep : p' = p := by omega
    subst ep
    exact ⟨j, hj, srt_end.mp hs, by omega⟩
  · rintro ⟨j, hj, hs, hd⟩
    exact ⟨j, hj, srt_end.mpr hs, p, hp, by rw [hd]⟩
set_option maxHeartbeats 4000000 in
theorem c_can (hG : GS θ S n) (hZ : JZ P S) : PM (j_SL L) (j_SV xs) j_EX mm_X11_can [.ref 0, .int x, .int y, .int z] S n (fun r S' n' => r = some (.int (canR P x y z))) := by
  have hn := gs_n hG
  obtain ⟨fs, k0, -, -, -⟩ := gs_0 hG
  change PQ (j_SL L) (j_SV xs) j_EX mm_X11_can 0 [.ref 0, .int x, .int y, .int z] [] S n 0 0 _
  have bad : ¬ okC x y z → PQ (j_SL L) (j_SV xs) j_EX mm_X11_can 25 [.ref 0, .int x, .int y, .int z] [] S n 0 0 (fun r S' n' => r = some (.int (canR P x y z))) := by
    intro h
    refine q_iconst rfl rfl ?_
    refine q_iret rfl rfl trivial ?_
    show some (Value.int (-1)) = some (Value.int (canR P x y z))
    unfold canR
    rw [show (@ite _ (okC x y z) (Classical.propDecidable _) (canA P x.toInt.toNat y.toInt.toNat z.toInt.toNat) (-1)) = -1 from if_neg h]
  refine q_iload_n rfl rfl rfl ?_
  refine q_iconst rfl rfl ?_
  refine q_cS rfl rfl (Or.inl rfl) rfl rfl trivial rfl rfl rfl rfl rfl c_wi ?_
  rintro r _ _ ⟨rfl, rfl, hr⟩
  rcases hr with ⟨q, rfl⟩ | ⟨qx, rfl⟩
  · show PQ (j_SL L) (j_SV xs) j_EX mm_X11_can 5 [.ref 0, .int x, .int y, .int z] [.int 0] S n 0 0 _
    exact q_ifeq rfl rfl (fun _ => bad (fun h => c_out q h.1)) (fun c => absurd rfl c)
  show PQ (j_SL L) (j_SV xs) j_EX mm_X11_can 5 [.ref 0, .int x, .int y, .int z] [.int 1] S n 0 0 _
  refine q_ifeq rfl rfl (fun c => absurd c (by decide)) (fun _ => ?_)
  refine q_iload_n rfl rfl rfl ?_
  refine q_iconst rfl rfl ?_
  refine q_cS rfl rfl (Or.inl rfl) rfl rfl trivial rfl rfl rfl rfl rfl c_wi ?_
  rintro r _ _ ⟨rfl, rfl, hr⟩
  rcases hr with ⟨q, rfl⟩ | ⟨qy, rfl⟩
  · show PQ (j_SL L) (j_SV xs) j_EX mm_X11_can 13 [.ref 0, .int x, .int y, .int z] [.int 0] S n 0 0 _
    exact q_ifeq rfl rfl (fun _ => bad (fun h => c_out q h.2.1)) (fun c => absurd rfl c)
  show PQ (j_SL L) (j_SV xs) j_EX mm_X11_can 13 [.ref 0, .int x, .int y, .int z] [.int 1] S n 0 0 _
  refine q_ifeq rfl rfl (fun c => absurd c (by decide)) (fun _ => ?_)
  refine q_iload_n rfl rfl rfl ?_
  refine q_bipush rfl rfl ?_
  refine q_cS rfl rfl (Or.inl rfl) rfl rfl trivial rfl rfl rfl rfl rfl c_wi ?_
  rintro r _ _ ⟨rfl, rfl, hr⟩
  rcases hr with ⟨q, rfl⟩ | ⟨qz, rfl⟩
  · show PQ (j_SL L) (j_SV xs) j_EX mm_X11_can 22 [.ref 0, .int x, .int y, .int z] [.int 0] S n 0 0 _
    exact q_ifne rfl rfl (fun _ => bad (fun h => c_out q h.2.2)) (fun c => absurd rfl c)
  show PQ (j_SL L) (j_SV xs) j_EX mm_X11_can 22 [.ref 0, .int x, .int y, .int z] [.int 1] S n 0 0 _
  refine q_ifne rfl rfl (fun c => absurd c (by decide)) (fun _ => ?_)
  clear bad
  have ok : okC x y z := ⟨qx, qy, qz⟩
  obtain ⟨k, hk, rfl⟩ := in_b (b := 4) rfl (by decide) qx
  obtain ⟨p, hp, rfl⟩ := in_b (b := 3) rfl (by decide) qy
  obtain ⟨v, hv, rfl⟩ := in_b (b := 9) rfl (by decide) qz
  rw [canR_k ok hk hp hv]
  refine q_aload_n rfl rfl rfl ?_
  refine q_iload_n rfl rfl rfl ?_
  refine q_cV rfl rfl (Or.inl rfl) rfl rfl rfl rfl (by omega) k0 trivial rfl rfl rfl rfl rfl (c_size (P := P) hZ.1 hn hk (gs_ts hG) (gs_oall8 hG hZ.2.1.2.2.1) (gs_oall16 hG hZ.2.1.2.2.2.1) hZ.2.1) ?_
  rintro r T _ ⟨rfl, rfl, hC, hF, sz', t44, hz⟩
  show PQ (j_SL L) (j_SV xs) j_EX mm_X11_can 32 [.ref 0, .int (nI k), .int (nI p), .int (nI v)] [.int (szR P k)] T n 0 0 _
  refine q_bipush rfl rfl ?_
  have hN := (xe_wx (k := k) hZ.1).1.2.1
  cases hp1 : xP (xE P k)
  rotate_left
  · rw [szR_t hp1, canA_t hp1]
    refine q_icne rfl rfl (fun _ => ?_) (fun h => absurd rfl h)
    refine q_bipush rfl rfl ?_
    exact q_iret rfl rfl trivial rfl
  rw [szR_f hp1]
  refine q_icne rfl rfl (fun h => ?_) (fun _ => ?_)
  · exfalso
    have e9 := congrArg Int32.toInt h
    rw [nI_toInt (by omega)] at e9
    have e5 : (-5 : Int32).toInt = -5 := rfl
    omega
  obtain ⟨ts, u0, -, -, -, -, t9⟩ := gs_ts hG
  have v0 := (hF 0 (by decide) (by omega) (by decide) (by decide)).trans u0
  obtain ⟨-, -, -, -, sz, en, a44, a45, hS, -⟩ := hC
  rw [t44] at a44
  cases a44
  have he := ((hS k hk).resolve_left hz).2 hp1
  have hc := en_can hZ.1 he hp hv
  refine q_aload_n rfl rfl rfl ?_
  refine q_getf rfl rfl (by omega) v0 t9 ?_
  refine q_iload_n rfl rfl rfl ?_
  refine q_lald rfl rfl (by omega) a45 (q_inN (by omega) (by decide)) (q_tnl (z := en k) (by rw [nI_clamp (by omega)]) ?_)
  refine q_bipush rfl rfl ?_
  refine q_iload_n rfl rfl rfl ?_
  refine q_imul rfl rfl (q_tn (z := nI (10 * p)) (by rw [show (10 : Int32) = nI 10 from rfl, pk_mul]) ?_)
  refine q_iload_n rfl rfl rfl ?_
  refine q_iadd rfl rfl (q_tn (z := nI (10 * p + v)) (nI_add _ _) ?_)
  refine q_cS rfl rfl (Or.inl rfl) rfl rfl trivial rfl rfl rfl rfl rfl (c_says (by omega)) ?_
  rintro r _ _ ⟨rfl, rfl, hr⟩
  rcases hr with ⟨h1, rfl⟩ | ⟨h1, rfl⟩
  · show PQ (j_SL L) (j_SV xs) j_EX mm_X11_can 55 [.ref 0, .int (nI k), .int (nI p), .int (nI v)] [.int 1] T n 0 0 _
    refine q_ifeq rfl rfl (fun h => absurd h (by decide)) (fun _ => ?_)
    refine q_iconst rfl rfl ?_
    refine q_goto rfl ?_
    exact q_iret rfl rfl trivial (by rw [canA_y hp1 (hc.mp h1)])
  · show PQ (j_SL L) (j_SV xs) j_EX mm_X11_can 55 [.ref 0, .int (nI k), .int (nI p), .int (nI v)] [.int 0] T n 0 0 _
    refine q_ifeq rfl rfl (fun _ => ?_) (fun h => absurd rfl h)
    refine q_iconst rfl rfl ?_
    exact q_iret rfl rfl trivial (by rw [canA_n hp1 (fun h => h1 (hc.mpr h))])
set_option maxHeartbeats 4000000 in
theorem l_canB (hG : GS θ S n) (hT : tie θ P) (hZ : JZ P S) : PM (j_SL L) (j_SV xs) j_EX mm_X12_can [.ref 46, .int x, .int y, .int z] S n (fun r S' n' => r = some (.int (canR P x y z))) := by
  have hn := gs_n hG
  obtain ⟨fs, hp⟩ := gs_jrp hG hT hZ.1 hZ.2.2
  have hp' := hp
  obtain ⟨mn, fk, fa, fn, vl, w, z0, k46, f1, f2, f3, f4, f5, f6, f7, f8, f9, f10, f11, f12, f13, f14, f15, f16, f17, f18, f19, f20, f21, -⟩ := hp'
  change PQ (j_SL L) (j_SV xs) j_EX mm_X12_can 0 [.ref 46, .int x, .int y, .int z] [] S n 0 0 _
  have bad : ¬ okC x y z → PQ (j_SL L) (j_SV xs) j_EX mm_X12_can 29 [.ref 46, .int x, .int y, .int z] [] S n 0 0 (fun r S' n' => r = some (.int (canR P x y z))) := by
    intro h
    refine q_iconst rfl rfl ?_
    refine q_iret rfl rfl trivial ?_
    show some (Value.int (-1)) = some (Value.int (canR P x y z))
    unfold canR
    rw [show (@ite _ (okC x y z) (Classical.propDecidable _) (canA P x.toInt.toNat y.toInt.toNat z.toInt.toNat) (-1)) = -1 from if_neg h]
  refine q_aload_n rfl rfl rfl ?_
  refine q_iload_n rfl rfl rfl ?_
  refine q_iconst rfl rfl ?_
  refine q_iconst rfl rfl ?_
  refine q_cV rfl rfl (Or.inl rfl) rfl rfl rfl rfl (by omega) k46 trivial rfl rfl rfl rfl rfl l_in ?_
  rintro r S1 n1 ⟨e1, e2, hr⟩
  obtain rfl := e1.symm
  obtain rfl := e2.symm
  rcases hr with ⟨q, rfl⟩ | ⟨qx, rfl⟩
  · show PQ (j_SL L) (j_SV xs) j_EX mm_X12_can 7 [.ref 46, .int x, .int y, .int z] [.int 0] S n 0 0 _
    exact q_ifeq rfl rfl (fun _ => bad (fun h => q ((inw (a := 4) (b := 5) (by decide)).mpr h.1))) (fun c => absurd rfl c)
  show PQ (j_SL L) (j_SV xs) j_EX mm_X12_can 7 [.ref 46, .int x, .int y, .int z] [.int 1] S n 0 0 _
  refine q_ifeq rfl rfl (fun c => absurd c (by decide)) (fun _ => ?_)
  refine q_aload_n rfl rfl rfl ?_
  refine q_iload_n rfl rfl rfl ?_
  refine q_cV rfl rfl (Or.inl rfl) rfl rfl rfl rfl (by omega) k46 trivial rfl rfl rfl rfl rfl (l_isPlace hn k46) ?_
  rintro r S1 n1 ⟨e1, e2, hr⟩
  obtain rfl := e1.symm
  obtain rfl := e2.symm
  rcases hr with ⟨q, rfl⟩ | ⟨qy, rfl⟩
  · show PQ (j_SL L) (j_SV xs) j_EX mm_X12_can 15 [.ref 46, .int x, .int y, .int z] [.int 0] S n 0 0 _
    exact q_ifeq rfl rfl (fun _ => bad (fun h => q ((inw (a := 3) (b := 4) (by decide)).mpr h.2.1))) (fun c => absurd rfl c)
  show PQ (j_SL L) (j_SV xs) j_EX mm_X12_can 15 [.ref 46, .int x, .int y, .int z] [.int 1] S n 0 0 _
  refine q_ifeq rfl rfl (fun c => absurd c (by decide)) (fun _ => ?_)
  refine q_aload_n rfl rfl rfl ?_
  refine q_iload_n rfl rfl rfl ?_
  refine q_iconst rfl rfl ?_
  refine q_bipush rfl rfl ?_
  refine q_cV rfl rfl (Or.inl rfl) rfl rfl rfl rfl (by omega) k46 trivial rfl rfl rfl rfl rfl l_in ?_
  rintro r S1 n1 ⟨e1, e2, hr⟩
  obtain rfl := e1.symm
  obtain rfl := e2.symm
  rcases hr with ⟨q, rfl⟩ | ⟨qz, rfl⟩
  · show PQ (j_SL L) (j_SV xs) j_EX mm_X12_can 26 [.ref 46, .int x, .int y, .int z] [.int 0] S n 0 0 _
    exact q_ifne rfl rfl (fun _ => bad (fun h => q ((inw (a := 9) (b := 10) (by decide)).mpr h.2.2))) (fun c => absurd rfl c)
  show PQ (j_SL L) (j_SV xs) j_EX mm_X12_can 26 [.ref 46, .int x, .int y, .int z] [.int 1] S n 0 0 _
  refine q_ifne rfl rfl (fun c => absurd c (by decide)) (fun _ => ?_)
  clear bad
  have ok : okC x y z := ⟨(inw (a := 4) (b := 5) (by decide)).mp qx, (inw (a := 3) (b := 4) (by decide)).mp qy, (inw (a := 9) (b := 10) (by decide)).mp qz⟩
  obtain ⟨k, hk, rfl⟩ := in_b (b := 4) rfl (by decide) ok.1
  obtain ⟨p, hp4, rfl⟩ := in_b (b := 3) rfl (by decide) ok.2.1
  obtain ⟨v, hv, rfl⟩ := in_b (b := 9) rfl (by decide) ok.2.2
  rw [canR_k ok hk hp4 hv]
  refine q_aload_n rfl rfl rfl ?_
  refine q_iload_n rfl rfl rfl ?_
  refine q_cV rfl rfl (Or.inl rfl) rfl rfl rfl rfl (by omega) k46 trivial rfl rfl rfl rfl rfl (l_spent (P := P) hZ.1 hn hk hp (gs_rws hG (by split <;> omega)) hZ.2.2) ?_
  rintro r T _ ⟨rfl, rfl, hR, -, ⟨z', t46⟩, kn', t62, hkn⟩
  show PQ (j_SL L) (j_SV xs) j_EX mm_X12_can 36 [.ref 46, .int (nI k), .int (nI p), .int (nI v)] [.int (spR P k)] T n 0 0 _
  cases hp1 : xP (xE P k)
  rotate_left
  · rw [spR_t hp1, canA_t hp1]
    refine q_ifeq rfl rfl (fun h => absurd h (by decide)) (fun _ => ?_)
    refine q_bipush rfl rfl ?_
    refine q_goto rfl ?_
    exact q_iret rfl rfl trivial rfl
  rw [spR_f hp1]
  refine q_ifeq rfl rfl (fun _ => ?_) (fun h => absurd rfl h)
  obtain ⟨-, kn, so, en, b62, b63, b64, hK, -⟩ := hR
  rw [t62] at b62
  cases b62
  have h9 := (kn_f hK hk hkn hp1).2 p hp4 v hv
  refine q_aload_n rfl rfl rfl ?_
  refine q_getf rfl rfl (by omega) t46 ((os_ne (by decide)).trans ((os_ne (by decide)).trans f21)) ?_
  refine q_iconst rfl rfl ?_
  refine q_iload_n rfl rfl rfl ?_
  refine q_imul rfl rfl (q_tn (z := nI (4 * k)) (by rw [show (4 : Int32) = nI 4 from rfl, pk_mul]) ?_)
  refine q_iload_n rfl rfl rfl ?_
  refine q_iadd rfl rfl (q_tn (z := nI (4 * k + p)) (nI_add _ _) ?_)
  refine q_iald rfl rfl (by omega) b64 (q_inN (by omega) (by decide)) (q_tn (z := en (4 * k + p)) (by rw [nI_clamp (by omega)]) ?_)
  refine q_iload_n rfl rfl rfl ?_
  refine q_ishr rfl rfl ?_
  refine q_iconst rfl rfl ?_
  refine q_iand rfl rfl ?_
  refine q_iret rfl rfl trivial ?_
  show some (Value.int (en (4 * k + p) >>> (nI v &&& 31) &&& 1)) = some (Value.int (canA P k p v))
  rw [b32_shr hv]
  by_cases c : b32 (en (4 * k + p)) v = true
  · rw [if_pos c, canA_y hp1 (h9.mp c)]
  · rw [if_neg c, canA_n hp1 (fun h => c (h9.mpr h))]
end JB
