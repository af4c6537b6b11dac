variable {θ : Th}
/-! the reference's length, step -/
section LEN
variable {S : Nat → pm_E} {n : Nat} {K : q_K} {SL : Nat → Nat} {SV : Nat → Nat → Int32} {EX : pm_M → pm_C → (pm_C → Prop) → Prop}
def itc (cf : Nat → Int32) (x : Int32) : Nat → Int32
  | 0 => x
  | k + 1 => cf (itc cf x k).toNatClampNeg
def LN (cf : Nat → Int32) (x : Int32) (c : Nat) : Prop := (∀ k, k < c → 0 < (itc cf x k).toInt ∧ (itc cf x k).toInt < 2000) ∧ (itc cf x c).toInt ≤ 0
theorem in_of {x : Int32} {m : Nat} (h1 : 0 ≤ x.toInt) (h2 : x.toInt < m) : pm_inb x m = true := pm_in_of (vp_in_iff.mpr ⟨h1, h2⟩)
theorem cl_of {x : Int32} (h : 0 ≤ x.toInt) : ((x.toNatClampNeg : Nat) : Int) = x.toInt := by
  have e : x.toNatClampNeg = x.toInt.toNat := rfl
  omega
theorem l_length {s : Int32} {fs : List Value} {cf : Nat → Int32} (hn : 82 ≤ n) (h46 : S 46 = .inr (10, fs)) (f12 : fs[12]? = some (.ref 56)) (h56 : S 56 = .inl (0, 4000, .inl cf)) (hb : ∀ i, i < 4000 → -1 ≤ (cf i).toInt ∧ (cf i).toInt ≤ 1999) (hx : ∀ i : Nat, 0 < i → i < 2000 → (cf i).toInt < (i : Int)) (s0 : 0 ≤ s.toInt) (s1 : s.toInt ≤ 1999)
    (hK : ∀ c : Nat, c ≤ 2000 → LN cf s c → K (some (.int (nI c))) S n) : PM SL SV EX mm_X12_length [.ref 46, .int s] S n K := by
  change PQ SL SV EX mm_X12_length 0 [.ref 46, .int s, pm_un, pm_un] [] S n 0 0 K
  refine q_iconst rfl rfl ?_
  refine q_ist2n rfl rfl rfl rfl ?_
  refine q_iload_n rfl rfl rfl ?_
  refine q_ist3n rfl rfl rfl rfl ?_
  have key : ∀ m k : Nat, (itc cf s k).toInt < (m : Int) → (∀ j, j < k → 0 < (itc cf s j).toInt ∧ (itc cf s j).toInt < 2000) → (k : Int) + (itc cf s k).toInt ≤ 1999 → -1 ≤ (itc cf s k).toInt → ∀ (y : Int32), y = nI k → PQ SL SV EX mm_X12_length 4 [.ref 46, .int s, .int y, .int (itc cf s k)] [] S n 0 0 K := by
    intro m
    induction m with
    | zero =>
      intro k hm hj hk hlo y hy
      refine q_iload_n rfl rfl rfl ?_
      have h0 : (itc cf s k) ≤ 0 := by
        rw [Int32.le_iff_toInt_le]
        have e0 : (0 : Int32).toInt = 0 := rfl
        omega
      refine q_ifle rfl rfl (fun _ => ?_) (fun c => absurd h0 c)
      refine q_iload_n rfl rfl rfl ?_
      subst hy
      exact q_iret rfl rfl trivial (hK k (by omega) ⟨hj, by omega⟩)
    | succ m ih =>
      intro k hm hj hk hlo y hy
      refine q_iload_n rfl rfl rfl ?_
      refine q_ifle rfl rfl (fun c0 => ?_) (fun c0 => ?_)
      · refine q_iload_n rfl rfl rfl ?_
        subst hy
        rw [Int32.le_iff_toInt_le] at c0
        exact q_iret rfl rfl trivial (hK k (by omega) ⟨hj, c0⟩)
      · have p0 : 0 < (itc cf s k).toInt := by
          rw [Int32.le_iff_toInt_le] at c0
          have e0 : (0 : Int32).toInt = 0 := rfl
          omega
        have cl := cl_of (x := itc cf s k) (by omega)
        subst hy
        refine q_inc2 rfl rfl rfl rfl ?_
        rw [nI_1]
        refine q_aload_n rfl rfl rfl ?_
        refine q_getf rfl rfl (by omega) h46 f12 ?_
        refine q_iload_n rfl rfl rfl ?_
        refine q_iald rfl rfl (by omega) h56 (in_of (by omega) (by omega)) ?_
        refine q_ist3n rfl rfl rfl rfl ?_
        refine q_goto rfl ?_
        have hlt := hx (itc cf s k).toNatClampNeg (by omega) (by omega)
        have hbd := hb (itc cf s k).toNatClampNeg (by omega)
        have e : itc cf s (k + 1) = cf (itc cf s k).toNatClampNeg := rfl
        rw [← e] at hlt hbd
        refine ih (k + 1) (by omega) (fun j hj2 => ?_) (by omega) (by omega) _ rfl
        rcases Nat.lt_or_ge j k with h | h
        · exact hj j h
        · have e2 : j = k := by omega
          subst e2
          exact ⟨p0, by omega⟩
  exact key (s.toInt.toNat + 1) 0 (by show s.toInt < _; omega) (fun j hj => by omega) (by show (0 : Int) + s.toInt ≤ _; omega) (by show _ ≤ s.toInt; omega) 0 rfl
end LEN
section LENW
variable {L : Nat} {xs : Nat → Int32}
theorem w_int {C : ck_Ct} {r0 : List Int} {S S' : Nat → pm_E} {n : Nat} {x : Int32} {E : ck_N} (hP : C.2.2.2.1 = [(E, (0, -2147483648, 2147483647), [])]) (hE : ck_en r0 E) (hG : GS θ S' n) (hF : fr1 C.2.2.2.2 S S' n) : KC θ C r0 S n (some (.int x)) S' n := by
  refine ⟨rfl, hG, hF, ?_⟩
  rw [hP]
  exact ⟨_, List.mem_cons_self, hE, ⟨x, rfl, fullI x⟩, fun x hx => by cases hx⟩
theorem w_length0 : ck_Val jga (XI θ) j_ft j_df (j_SL L) (j_SV xs) j_MT j_EX kh_length0 mm_X12_length := kc_of (fun r0 as S n ha hE hm hG => by
  obtain ⟨w1, as1, rfl, rfl, ha1⟩ := ck_al_c ha
  obtain ⟨w2, as2, rfl, ⟨s, rfl, es⟩, ha2⟩ := ck_al_c ha1
  cases ck_al_n ha2
  obtain ⟨fs, h46, hf⟩ := gs_obj hG (k := 46) rfl
  have hn := gs_n hG
  obtain ⟨cf, h56, b56⟩ := gs_a1 hG (k := 56) rfl
  have b := en_g hE (i := 0) rfl (ev_u es)
  dsimp only at b
  exact l_length hn h46 (fo_ref (hf 12 _ rfl) rfl) h56 b56 (xc_get hn hG.2 h56) b.1 b.2 (fun c _ _ => w_int rfl hE hG fr1_rf))
def kh_step0 : ck_Ct := ([(1, 46, 0, 0), (0, 0, 1, 0), (0, 1, 1, 0)], [], [((-2147483648), 2147483647), ((-2147483648), 2147483647)], [([((-2147483648), 2147483647), ((-2147483648), 2147483647)], (0, (-2147483648), 2147483647), [])], [46, 52, 53, 55, 56, 57, 58, 59, 60, 61, 62, 63, 64])
end LENW
