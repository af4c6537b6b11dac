/-! the reference's rest, find, put -/
section RFP
variable {SL : Nat → Nat} {SV : Nat → Nat → Int32} {EX : pm_M → pm_C → (pm_C → Prop) → Prop} {S : Nat → pm_E} {n : Nat} {K : q_K}
def rsH (f : Nat → Int32) : Nat → Int32
  | 0 => 17
  | k + 1 => 31 * rsH f k + f k
def rsG (x : Int32) : Int32 := x ^^^ (x.toUInt32 >>> (Int32.toUInt32 13 &&& Int32.toUInt32 31)).toInt32
def rsM (x : Int32) : Int32 := rsG x - rsG x / 8192 * 8192
def rsV (f : Nat → Int32) : Nat := (rsM (rsH f 20)).toInt.natAbs
theorem rs_tm (x : Int32) : (rsM x).toInt = (rsG x).toInt.tmod 8192 := ck_tm (x := rsG x) (y := 8192) (by decide)
theorem rsV_lt (f : Nat → Int32) : rsV f < 8192 := by
  unfold rsV
  have h := ck_td (a := (rsG (rsH f 20)).toInt) (b := 8192) (by decide)
  have e := rs_tm (rsH f 20)
  omega
theorem rs_pos {f : Nat → Int32} (h : 0 ≤ rsM (rsH f 20)) : rsM (rsH f 20) * 1 = nI (rsV f) := by
  have hl := rsV_lt f
  apply Int32.toInt_inj.mp
  rw [nI_toInt (by omega)]
  rw [Int32.le_iff_toInt_le] at h
  have e0 : (0 : Int32).toInt = 0 := rfl
  have e1 : rsM (rsH f 20) * 1 = rsM (rsH f 20) := Int32.mul_one _
  rw [e1]
  unfold rsV
  omega
theorem rs_neg {f : Nat → Int32} (h : ¬ 0 ≤ rsM (rsH f 20)) : rsM (rsH f 20) * (-1) = nI (rsV f) := by
  have hl := rsV_lt f
  apply Int32.toInt_inj.mp
  rw [nI_toInt (by omega)]
  rw [Int32.le_iff_toInt_le] at h
  have e0 : (0 : Int32).toInt = 0 := rfl
  have e2 : (rsM (rsH f 20) * (-1)).toInt = ((rsM (rsH f 20)).toInt * (-1 : Int32).toInt).bmod 4294967296 := Int32.toInt_mul _ _
  have e3 : (-1 : Int32).toInt = -1 := rfl
  rw [e2, e3]
  have e4 : ((rsV f : Nat) : Int) = - (rsM (rsH f 20)).toInt := by unfold rsV; omega
  rw [ck_bm (w := (rsM (rsH f 20)).toInt * -1) (by unfold ck_lo; omega) (by unfold ck_hi; omega)]
  omega
theorem l_rest {R : Nat} {room : Int32} (hroom : room = nI R) {fs : List Value} {f : Nat → Int32} (hn : 82 ≤ n) (h46 : S 46 = .inr (10, fs)) (f9 : fs[9]? = some (.ref 53)) (h53 : S 53 = .inl (0, 20, .inl f))
    (hK : K (some (.int (nI (8192 * R + rsV f)))) S n) : PM SL SV EX mm_X12_rest [.ref 46, .int room] S n K := by
  change PQ SL SV EX mm_X12_rest 0 [.ref 46, .int room, pm_un, pm_un] [] S n 0 0 K
  subst hroom
  refine q_bipush rfl rfl ?_
  refine q_ist2n rfl rfl rfl rfl ?_
  refine q_iconst rfl rfl ?_
  refine q_ist3n rfl rfl rfl rfl ?_
  have key : ∀ m k : Nat, k + m = 20 → ∀ (y : Int32), y = nI k → PQ SL SV EX mm_X12_rest 5 [.ref 46, .int (nI R), .int (rsH f k), .int y] [] S n 0 0 K := by
    intro m
    induction m with
    | zero =>
      intro k hk y hy
      have e : k = 20 := by omega
      subst e
      have e2 : y = 20 := hy
      subst e2
      refine q_iload_n rfl rfl rfl ?_
      refine q_bipush rfl rfl ?_
      refine q_icge rfl rfl (fun _ => ?_) (fun c => absurd (by decide) c)
      refine q_sipush rfl rfl ?_
      refine q_iload_n rfl rfl rfl ?_
      refine q_imul rfl rfl (q_tn (z := nI (8192 * R)) (by rw [show (8192 : Int32) = nI 8192 from rfl, pk_mul]) ?_)
      refine q_iload_n rfl rfl rfl ?_
      refine q_iload_n rfl rfl rfl ?_
      refine q_bipush rfl rfl ?_
      refine q_iushr rfl rfl ?_
      refine q_ixor rfl rfl ?_
      refine q_sipush rfl rfl ?_
      refine q_irem rfl rfl (by decide) (q_tn (z := rsM (rsH f 20)) rfl ?_)
      refine q_iload_n rfl rfl rfl ?_
      refine q_iload_n rfl rfl rfl ?_
      refine q_bipush rfl rfl ?_
      refine q_iushr rfl rfl ?_
      refine q_ixor rfl rfl ?_
      refine q_sipush rfl rfl ?_
      refine q_irem rfl rfl (by decide) (q_tn (z := rsM (rsH f 20)) rfl ?_)
      refine q_ifge rfl rfl (fun c1 => ?_) (fun c1 => ?_)
      · refine q_iconst rfl rfl ?_
        refine q_imul rfl rfl (q_tn (z := nI (rsV f)) (rs_pos c1) ?_)
        refine q_iadd rfl rfl (q_tn (z := nI (8192 * R + rsV f)) (nI_add _ _) ?_)
        exact q_iret rfl rfl trivial hK
      · refine q_iconst rfl rfl ?_
        refine q_goto rfl ?_
        refine q_imul rfl rfl (q_tn (z := nI (rsV f)) (rs_neg c1) ?_)
        refine q_iadd rfl rfl (q_tn (z := nI (8192 * R + rsV f)) (nI_add _ _) ?_)
        exact q_iret rfl rfl trivial hK
    | succ m ih =>
      intro k hk y hy
      refine q_iload_n rfl rfl rfl ?_
      refine q_bipush rfl rfl ?_
      refine q_icge rfl rfl (fun c => absurd c ?_) (fun _ => ?_)
      · rw [hy]; exact nI_ge (a := k) (b := 20) (by omega) (by decide)
      · refine q_bipush rfl rfl ?_
        refine q_iload_n rfl rfl rfl ?_
        refine q_imul rfl rfl ?_
        refine q_aload_n rfl rfl rfl ?_
        refine q_getf rfl rfl (by omega) h46 f9 ?_
        refine q_iload_n rfl rfl rfl ?_
        subst hy
        refine q_iald rfl rfl (by omega) h53 (q_inN (by omega) (by decide)) ?_
        refine q_iadd rfl rfl (q_tn (z := rsH f (k + 1)) (by rw [nI_clamp (by omega)]; rfl) ?_)
        refine q_ist2n rfl rfl rfl rfl ?_
        refine q_inc3 rfl rfl rfl rfl ?_
        refine q_goto rfl ?_
        exact ih (k + 1) (by omega) _ (nI_1 k)
  exact key 20 0 (by omega) 0 rfl
/-- find: the chain falls -/
def fnd (g f : Nat → Int32) (B : Nat) : Nat → Nat → Prop := fun i k => ∀ j, j < k → g (20 * (B + i) + j) = f j
theorem l_find {R c : Nat} (hR : R ≤ 1) {room : Int32} (hroom : room = nI R) {fs : List Value} {f st ch nt : Nat → Int32} (hn : 82 ≤ n) (h46 : S 46 = .inr (10, fs)) (f9 : fs[9]? = some (.ref 53)) (f11 : fs[11]? = some (.ref 55)) (f14 : fs[14]? = some (.ref 58)) (f17 : fs[17]? = some (.ref 61)) (h53 : S 53 = .inl (0, 20, .inl f)) (h55 : S 55 = .inl (0, 80000, .inl st)) (h58 : S 58 = .inl (0, 4000, .inl ch)) (h61 : S 61 = .inl (0, 16384, .inl nt)) (hc : c ≤ 2000)
    (hnt : ∀ k, k < 8192 → nt (8192 * R + k) = -1 ∨ ∃ i, i < c ∧ nt (8192 * R + k) = nI i) (hch : ∀ i, i < c → ch (2000 * R + i) = -1 ∨ ∃ j, j < i ∧ ch (2000 * R + i) = nI j)
    (hK : ∀ v : Int32, (v = -1 ∨ ∃ i, i < c ∧ v = nI i) → K (some (.int v)) S n) : PM SL SV EX mm_X12_find [.ref 46, .int room] S n K := by
  change PQ SL SV EX mm_X12_find 0 [.ref 46, .int room, pm_un, pm_un, pm_un] [] S n 0 0 K
  subst hroom
  have hV := rsV_lt f
  refine q_aload_n rfl rfl rfl ?_
  refine q_getf rfl rfl (by omega) h46 f17 ?_
  refine q_aload_n rfl rfl rfl ?_
  refine q_iload_n rfl rfl rfl ?_
  refine q_cV1 rfl rfl (Or.inl rfl) rfl rfl rfl (by omega) h46 ⟨rfl, rfl⟩ rfl (fun K' hK' => l_rest rfl hn h46 f9 h53 hK') ?_
  refine q_iald rfl rfl (by omega) h61 (q_inN (by omega) (by decide)) ?_
  rw [nI_clamp (by omega)]
  refine q_ist2n rfl rfl rfl rfl ?_
  have key : ∀ m : Nat, ∀ (y b3 b4 : Value), ∀ x : Int32, (x = -1 ∨ ∃ i, i < m ∧ x = nI i) → m ≤ c → (pm_c2 b3 = false) → PQ SL SV EX mm_X12_find 11 [.ref 46, .int (nI R), .int x, b3, b4] [] S n 0 0 K := by
    intro m
    induction m with
    | zero =>
      intro y b3 b4 x hx hm hb3
      rcases hx with rfl | ⟨i, hi, -⟩
      · refine q_iload_n rfl rfl rfl ?_
        refine q_iflt rfl rfl (fun _ => ?_) (fun c => absurd (by decide) c)
        refine q_iconst rfl rfl ?_
        exact q_iret rfl rfl trivial (hK _ (Or.inl rfl))
      · omega
    | succ m ih =>
      intro y b3 b4 x hx hm hb3
      rcases hx with rfl | ⟨i, hi, rfl⟩
      · refine q_iload_n rfl rfl rfl ?_
        refine q_iflt rfl rfl (fun _ => ?_) (fun c => absurd (by decide) c)
        refine q_iconst rfl rfl ?_
        exact q_iret rfl rfl trivial (hK _ (Or.inl rfl))
      · refine q_iload_n rfl rfl rfl ?_
        refine q_iflt rfl rfl (fun c => absurd c (nI_pos (by omega))) (fun _ => ?_)
        refine q_iconst rfl rfl ?_
        refine q_ist3n rfl rfl rfl rfl ?_
        refine q_iconst rfl rfl ?_
        refine q_ist4 rfl rfl rfl rfl ?_
        have inner : ∀ m2 k : Nat, k + m2 = 20 → ∀ (sm yk : Int32), yk = nI k → (sm = 0 ∨ sm = 1) → PQ SL SV EX mm_X12_find 20 [.ref 46, .int (nI R), .int (nI i), .int sm, .int yk] [] S n 0 0 K := by
          have fin : ∀ (sm yk : Int32), (sm = 0 ∨ sm = 1) → PQ SL SV EX mm_X12_find 71 [.ref 46, .int (nI R), .int (nI i), .int sm, .int yk] [] S n 0 0 K := by
            intro sm yk hsm
            refine q_iload_n rfl rfl rfl ?_
            refine q_ifeq rfl rfl (fun _ => ?_) (fun _ => ?_)
            · refine q_aload_n rfl rfl rfl ?_
              refine q_getf rfl rfl (by omega) h46 f14 ?_
              refine q_sipush rfl rfl ?_
              refine q_iload_n rfl rfl rfl ?_
              refine q_imul rfl rfl ?_
              refine q_iload_n rfl rfl rfl ?_
              refine q_iadd rfl rfl (q_tn (z := nI (2000 * R + i)) (by rw [show (2000 : Int32) = nI 2000 from rfl, pk_mul, nI_add]) ?_)
              refine q_iald rfl rfl (by omega) h58 (q_inN (by omega) (by decide)) ?_
              rw [nI_clamp (by omega)]
              refine q_ist2n rfl rfl rfl rfl ?_
              refine q_goto rfl ?_
              refine ih (.int 0) _ _ _ ?_ (by omega) rfl
              rcases hch i (by omega) with e | ⟨j, hj, e⟩
              · exact Or.inl e
              · exact Or.inr ⟨j, by omega, e⟩
            · refine q_iload_n rfl rfl rfl ?_
              exact q_iret rfl rfl trivial (hK _ (Or.inr ⟨i, by omega, rfl⟩))
          intro m2
          induction m2 with
          | zero =>
            intro k hk sm yk hyk hsm
            have e : k = 20 := by omega
            subst e
            have e2 : yk = 20 := hyk
            subst e2
            refine q_iload rfl rfl rfl ?_
            refine q_bipush rfl rfl ?_
            exact q_icge rfl rfl (fun _ => fin _ _ hsm) (fun c => absurd (by decide) c)
          | succ m2 ih2 =>
            intro k hk sm yk hyk hsm
            refine q_iload rfl rfl rfl ?_
            refine q_bipush rfl rfl ?_
            refine q_icge rfl rfl (fun c => absurd c ?_) (fun _ => ?_)
            · rw [hyk]; exact nI_ge (a := k) (b := 20) (by omega) (by decide)
            · refine q_iload_n rfl rfl rfl ?_
              refine q_ifeq rfl rfl (fun _ => fin _ _ hsm) (fun _ => ?_)
              subst hyk
              refine q_aload_n rfl rfl rfl ?_
              refine q_getf rfl rfl (by omega) h46 f11 ?_
              refine q_bipush rfl rfl ?_
              refine q_sipush rfl rfl ?_
              refine q_iload_n rfl rfl rfl ?_
              refine q_imul rfl rfl ?_
              refine q_iload_n rfl rfl rfl ?_
              refine q_iadd rfl rfl ?_
              refine q_imul rfl rfl ?_
              refine q_iload rfl rfl rfl ?_
              refine q_iadd rfl rfl (q_tn (z := nI (20 * (2000 * R + i) + k)) (by rw [show (20 : Int32) = nI 20 from rfl, show (2000 : Int32) = nI 2000 from rfl, pk_mul, nI_add, pk_mul, nI_add]) ?_)
              refine q_iald rfl rfl (by omega) h55 (q_inN (by omega) (by decide)) ?_
              refine q_aload_n rfl rfl rfl ?_
              refine q_getf rfl rfl (by omega) h46 f9 ?_
              refine q_iload rfl rfl rfl ?_
              refine q_iald rfl rfl (by omega) h53 (q_inN (by omega) (by decide)) ?_
              refine q_icne rfl rfl (fun _ => ?_) (fun _ => ?_)
              · refine q_iconst rfl rfl ?_
                refine q_goto rfl ?_
                refine q_ist3n rfl rfl rfl rfl ?_
                refine q_inc4 rfl rfl rfl rfl ?_
                refine q_goto rfl ?_
                exact ih2 (k + 1) (by omega) _ _ (nI_1 k) (Or.inr rfl)
              · refine q_iconst rfl rfl ?_
                refine q_ist3n rfl rfl rfl rfl ?_
                refine q_inc4 rfl rfl rfl rfl ?_
                refine q_goto rfl ?_
                exact ih2 (k + 1) (by omega) _ _ (nI_1 k) (Or.inl rfl)
        exact inner 20 0 (by omega) 1 0 rfl (Or.inr rfl)
  exact key c (.int 0) _ _ _ (hnt _ hV) (Nat.le_refl c) rfl
end RFP
