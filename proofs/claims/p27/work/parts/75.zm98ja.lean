/-! states; what a contract leaves, with what stands between calls -/
section JAX
variable {θ : Th} {P : PG} {S S' : Nat → pm_E} {n k : Nat} {L : Nat} {xs : Nat → Int32} {x : Int32}
def RIJ (θ : Th) (P : PG) (l : List Nat) (S : Nat → pm_E) (n : Nat) : q_K := fun r S' n' => n = n' ∧ (∃ z : Int32, r = some (.int z)) ∧ GJ θ P S' n ∧ fr1 l S S' n
theorem rj_of {C : ck_Ct} {r0 : List Int} {r : Option Value} {n' : Nat} (hP : C.2.2.2.1.all (fun P => Nat.beq P.2.1.1 0) = true) (h : KJ θ P C r0 S n r S' n') : RIJ θ P C.2.2.2.2 S n r S' n' := by
  obtain ⟨h1, h2, h3, P, hp, h4, h5, -⟩ := h
  have e := Nat.eq_of_beq_eq_true (List.all_eq_true.mp hP P hp)
  unfold ck_rv at h5
  rw [e] at h5
  obtain ⟨x, hx, -⟩ := h5
  exact ⟨h1.symm, ⟨x, hx⟩, h2, h3⟩
/-- what a contract leaves, and the answer that a walk found -/
theorem rj_and {Y : pm_M} {as : List Value} {l : List Nat} {v : Int32} (h1 : PM (j_SL L) (j_SV xs) j_EX Y as S n (RIJ θ P l S n)) (h2 : PM (j_SL L) (j_SV xs) j_EX Y as S n (fun r S' n' => r = some (.int v))) : PM (j_SL L) (j_SV xs) j_EX Y as S n (fun r S' n' => n = n' ∧ GJ θ P S' n ∧ fr1 l S S' n ∧ ∃ z : Int32, r = some (.int z) ∧ z = v) := pm_weak (pm_and h1 h2) (fun r S' n' h => by
  obtain ⟨⟨a, ⟨z, hz⟩, b, c⟩, -, -, d⟩ := h
  refine ⟨a, b, c, z, hz, ?_⟩
  rw [hz] at d
  cases d
  rfl)
theorem ja_gj (hG : GS θ S n) (hj : JA θ S) : ∃ f : Nat → Int32, S 2 = .inl (0, 4, .inl f) ∧ GJ θ (PGo θ f) S n := by
  obtain ⟨-, -, hQ, f, k2, hV, hZ⟩ := hj
  exact ⟨f, k2, gj_ba hG (po_tie (gs_rq hG) hQ) hZ⟩
theorem ja_back {T1 T2 : Nat → pm_E} {f : Nat → Int32} {l l' : List Nat} (hn : 82 ≤ n) (hj : JA θ S) (k2 : S 2 = .inl (0, 4, .inl f)) (g : GJ θ (PGo θ f) T2 n) (e1 : fr1 l S T1 n) (e2 : fr1 l' T1 T2 n) (q1 : [1, 2, 3, 4, 5, 6].all (fun k => !(l.contains k)) = true) (q2 : [1, 2, 3, 4, 5, 6].all (fun k => !(l'.contains k)) = true) : JA θ T2 := by
  have e : ∀ k, k ∈ [1, 2, 3, 4, 5, 6] → k < 82 → T2 k = S k := fun k hk h82 => (e2 k (by omega) (by simpa using List.all_eq_true.mp q2 k hk)).trans (e1 k (by omega) (by simpa using List.all_eq_true.mp q1 k hk))
  refine ja_z hj (fun f' k2' _ => ?_) (e 1 (by decide) (by decide)) (e 2 (by decide) (by decide)) (e 3 (by decide) (by decide)) (e 4 (by decide) (by decide)) (e 5 (by decide) (by decide)) (e 6 (by decide) (by decide))
  rw [k2] at k2'
  cases k2'
  exact (gj_ab g).2.2
noncomputable def stR (P : PG) (x : Int32) : Int32 := if 0 ≤ x ∧ x < 5 then szR P x.toInt.toNat else -1
theorem in5 (h : 0 ≤ x ∧ x < 5) : ∃ k : Nat, k < 5 ∧ x = nI k := by
  have h1 := h.1
  have h2 := h.2
  rw [Int32.le_iff_toInt_le] at h1
  rw [Int32.lt_iff_toInt_lt] at h2
  have e0 : (0 : Int32).toInt = 0 := rfl
  have e5 : (5 : Int32).toInt = 5 := rfl
  obtain ⟨k, hk, e⟩ := nI_rg (x := x) (m := 4) (by omega) (by omega)
  exact ⟨k, by omega, e⟩
theorem stR_k (hk : k < 5) (h : 0 ≤ nI k ∧ nI k < 5) : stR P (nI k) = szR P k := by
  unfold stR
  rw [if_pos h, nI_toInt (by omega), Int.toNat_natCast]
theorem c_states (hG : GS θ S n) (hZ : JZ P S) : PM (j_SL L) (j_SV xs) j_EX mm_X11_states [.ref 0, .int x] S n (fun r S' n' => r = some (.int (stR P x))) := by
  have hn := gs_n hG
  obtain ⟨fs, k0, -, -, -⟩ := gs_0 hG
  change PQ (j_SL L) (j_SV xs) j_EX mm_X11_states 0 [.ref 0, .int x] [] S n 0 0 _
  refine q_iload_n rfl rfl rfl ?_
  refine q_iconst rfl rfl ?_
  refine q_cS rfl rfl (Or.inl rfl) rfl rfl trivial rfl rfl rfl rfl rfl c_wi ?_
  rintro r _ _ ⟨rfl, rfl, hr⟩
  rcases hr with ⟨q, rfl⟩ | ⟨q, rfl⟩
  · show PQ (j_SL L) (j_SV xs) j_EX mm_X11_states 5 [.ref 0, .int x] [.int 0] S n 0 0 _
    refine q_ifeq rfl rfl (fun _ => ?_) (fun c => absurd rfl c)
    refine q_iconst rfl rfl ?_
    exact q_iret rfl rfl trivial (by unfold stR; rw [if_neg (c_out q)])
  show PQ (j_SL L) (j_SV xs) j_EX mm_X11_states 5 [.ref 0, .int x] [.int 1] S n 0 0 _
  refine q_ifeq rfl rfl (fun c => absurd c (by decide)) (fun _ => ?_)
  obtain ⟨k, hk, rfl⟩ := in5 q
  refine q_aload_n rfl rfl rfl ?_
  refine q_iload_n rfl rfl rfl ?_
  refine q_cV rfl rfl (Or.inl rfl) rfl rfl rfl rfl (by omega) k0 trivial rfl rfl rfl rfl rfl (c_size (P := P) hZ.1 hn hk (gs_ts hG) (gs_oall8 hG hZ.2.1.2.2.1) (gs_oall16 hG hZ.2.1.2.2.2.1) hZ.2.1) ?_
  rintro r T _ ⟨rfl, rfl, -⟩
  show PQ (j_SL L) (j_SV xs) j_EX mm_X11_states 13 [.ref 0, .int (nI k)] [.int (szR P k)] T n 0 0 _
  refine q_goto rfl ?_
  exact q_iret rfl rfl trivial (by rw [stR_k hk q])
/-- a picture that is known and not spent -/
theorem kn_f {kn so en : Nat → Int32} (hK : KN P kn so en) (hk : k < 5) (h0 : kn k ≠ 0) (hp : xP (xE P k) = false) : so k = nI (xN (xE P k)) ∧ ∀ p, p < 4 → enI P k (xN (xE P k)) p (en (4 * k + p)) := by
  rcases (hK k hk).resolve_left h0 with ⟨h1, -⟩ | ⟨-, -, h2, h3⟩
  · rw [hp] at h1
    cases h1
  · exact ⟨h2, h3⟩
theorem l_states (hG : GS θ S n) (hT : tie θ P) (hZ : JZ P S) : PM (j_SL L) (j_SV xs) j_EX mm_X12_states [.ref 46, .int x] S n (fun r S' n' => r = some (.int (stR P x))) := by
  have hn := gs_n hG
  obtain ⟨fs, hp⟩ := gs_jrp hG hT hZ.1 hZ.2.2
  have hp' := hp
  obtain ⟨mn, fk, fa, fn, vl, w, z, k46, f1, f2, f3, f4, f5, f6, f7, f8, f9, f10, f11, f12, f13, f14, f15, f16, f17, f18, f19, f20, f21, -⟩ := hp'
  change PQ (j_SL L) (j_SV xs) j_EX mm_X12_states 0 [.ref 46, .int x] [] S n 0 0 _
  refine q_aload_n rfl rfl rfl ?_
  refine q_iload_n rfl rfl rfl ?_
  refine q_iconst rfl rfl ?_
  refine q_iconst rfl rfl ?_
  refine q_cV rfl rfl (Or.inl rfl) rfl rfl rfl rfl (by omega) k46 trivial rfl rfl rfl rfl rfl l_in ?_
  rintro r S1 n1 ⟨e1, e2, hr⟩
  obtain rfl := e1.symm
  obtain rfl := e2.symm
  rcases hr with ⟨q, rfl⟩ | ⟨q, rfl⟩
  · show PQ (j_SL L) (j_SV xs) j_EX mm_X12_states 7 [.ref 46, .int x] [.int 0] S n 0 0 _
    refine q_ifne rfl rfl (fun _ => ?_) (fun c => absurd rfl c)
    refine q_iconst rfl rfl ?_
    exact q_iret rfl rfl trivial (by unfold stR; rw [if_neg (fun h => q ((inw (a := 4) (b := 5) (by decide)).mpr h))])
  show PQ (j_SL L) (j_SV xs) j_EX mm_X12_states 7 [.ref 46, .int x] [.int 1] S n 0 0 _
  refine q_ifne rfl rfl (fun c => absurd c (by decide)) (fun _ => ?_)
  have q' := (inw (a := 4) (b := 5) (by decide)).mp q
  obtain ⟨k, hk, rfl⟩ := in5 q'
  refine q_aload_n rfl rfl rfl ?_
  refine q_iload_n rfl rfl rfl ?_
  refine q_cV rfl rfl (Or.inl rfl) rfl rfl rfl rfl (by omega) k46 trivial rfl rfl rfl rfl rfl (l_spent (P := P) hZ.1 hn hk hp (gs_rws hG (by split <;> omega)) hZ.2.2) ?_
  rintro r T _ ⟨rfl, rfl, hR, -, ⟨z', t46⟩, kn', t62, hkn⟩
  show PQ (j_SL L) (j_SV xs) j_EX mm_X12_states 17 [.ref 46, .int (nI k)] [.int (spR P k)] T n 0 0 _
  cases hp1 : xP (xE P k)
  · rw [spR_f hp1]
    refine q_ifeq rfl rfl (fun _ => ?_) (fun h => absurd rfl h)
    obtain ⟨-, kn, so, en, b62, b63, -, hK, -⟩ := hR
    rw [t62] at b62
    cases b62
    have h9 := kn_f hK hk hkn hp1
    refine q_aload_n rfl rfl rfl ?_
    refine q_getf rfl rfl (by omega) t46 ((os_ne (by decide)).trans ((os_ne (by decide)).trans f20)) ?_
    refine q_iload_n rfl rfl rfl ?_
    refine q_iald rfl rfl (by omega) b63 (q_inN (by omega) (by decide)) (q_tn (z := nI (xN (xE P k))) (by rw [nI_clamp (by omega)]; exact h9.1) ?_)
    exact q_iret rfl rfl trivial (by rw [stR_k hk q', szR_f hp1])
  · rw [spR_t hp1]
    refine q_ifeq rfl rfl (fun h => absurd h (by decide)) (fun _ => ?_)
    refine q_bipush rfl rfl ?_
    refine q_goto rfl ?_
    exact q_iret rfl rfl trivial (by rw [stR_k hk q', szR_t hp1])
end JAX
