/-! value: class and reference -/
section VA
variable {θ : Th} {L : Nat} {xs : Nat → Int32} {S : Nat → pm_E} {n : Nat}
theorem inw {d a b : Int32} (h : b.toInt = a.toInt + 1) : inP d 0 a ↔ (0 ≤ d ∧ d < b) := by
  unfold inP
  simp only [Int32.lt_iff_toInt_lt, Int32.le_iff_toInt_le]
  have e0 : (0 : Int32).toInt = 0 := rfl
  omega
theorem inw_n {d a b : Int32} (h : b.toInt = a.toInt + 1) (q : d < 0 ∨ b ≤ d) : ¬ inP d 0 a := fun h9 => c_out q ((inw h).mp h9)
def okV (p v : Int32) : Prop := inP p 0 3 ∧ inP v 0 9
def vaR (f : Nat → Int32) (p v z : Int32) (f' : Nat → Int32) : Prop := (¬ okV p v ∧ z = -1 ∧ f' = f) ∨ (okV p v ∧ ∃ P : Nat, P < 4 ∧ p = nI P ∧ z = f P ∧ f' = upd f P v)
theorem upd_id (f : Nat → Int32) (P : Nat) : upd f P (f P) = f := by
  funext i
  unfold upd
  split
  · rename_i e
    rw [e]
  · rfl
def JV (S : Nat → pm_E) : Prop := ∃ f g : Nat → Int32, S 2 = .inl (0, 4, .inl f) ∧ S 51 = .inl (0, 4, .inl g) ∧ ∀ p, p < 4 → f p = g p
theorem va_eq {f g f' g' : Nat → Int32} {p v z z' : Int32} (h : ∀ p, p < 4 → f p = g p) (h1 : vaR f p v z f') (h2 : vaR g p v z' g') : z = z' ∧ ∀ p, p < 4 → f' p = g' p := by
  rcases h1 with ⟨a, rfl, rfl⟩ | ⟨a, P, hP, rfl, rfl, rfl⟩ <;> rcases h2 with ⟨a', rfl, rfl⟩ | ⟨a', Q, hQ, eQ, rfl, rfl⟩
  · exact ⟨rfl, h⟩
  · exact absurd a' a
  · exact absurd a a'
  · have : P = Q := by
      have := congrArg Int32.toInt eQ
      rw [nI_toInt (by omega), nI_toInt (by omega)] at this
      omega
    subst this
    refine ⟨h P hP, fun q hq => ?_⟩
    unfold upd
    split
    · rfl
    · exact h q hq
def vaZ (k : Nat) : Nat := match k with
  | 2 => 44
  | _ => 62
def vaK (k : Nat) (l : List Nat) (θ : Th) (p v : Int32) (S : Nat → pm_E) (n : Nat) : q_K := fun r S' n' => ZQ (vaZ k) S S' ∧ n = n' ∧ GS θ S' n ∧ fr1 l S S' n ∧ ∃ (z : Int32) (f f' : Nat → Int32), r = some (.int z) ∧ S k = .inl (0, 4, .inl f) ∧ S' k = .inl (0, 4, .inl f') ∧ vaR f p v z f'
set_option maxHeartbeats 4000000 in
theorem c_va {p v : Int32} (hG : GS θ S n) : PM (j_SL L) (j_SV xs) j_EX mm_X11_value [.ref 0, .int p, .int v] S n (vaK 2 [0, 2, 32, 42, 44] θ p v S n) := by
  have hn := gs_n hG
  obtain ⟨fs, k0, f0, -, -⟩ := gs_0 hG
  obtain ⟨fs1, k1, hg⟩ := gs_obj hG (k := 1) rfl
  have f11 : fs1[1]? = some (.ref 2) := fo_ref (hg 1 _ rfl) rfl
  obtain ⟨f, k2, -⟩ := gs_a1 hG (k := 2) rfl
  change PQ (j_SL L) (j_SV xs) j_EX mm_X11_value 0 [.ref 0, .int p, .int v, pm_un] [] S n 0 0 _
  have bad : ¬ okV p v → PQ (j_SL L) (j_SV xs) j_EX mm_X11_value 17 [.ref 0, .int p, .int v, pm_un] [] S n 0 0 (vaK 2 [0, 2, 32, 42, 44] θ p v S n) := by
    intro hO
    refine q_iconst rfl rfl ?_
    exact q_iret rfl rfl trivial ⟨Or.inl rfl, rfl, hG, fr1_rf, -1, f, f, rfl, k2, k2, Or.inl ⟨hO, rfl, rfl⟩⟩
  refine q_iload_n rfl rfl rfl ?_
  refine q_iconst rfl rfl ?_
  refine q_cS rfl rfl (Or.inl rfl) rfl rfl trivial rfl rfl rfl rfl rfl c_wi ?_
  rintro r _ _ ⟨rfl, rfl, hr⟩
  rcases hr with ⟨q, rfl⟩ | ⟨q, rfl⟩
  · show PQ (j_SL L) (j_SV xs) j_EX mm_X11_value 5 _ [.int 0] S n 0 0 _
    exact q_ifeq rfl rfl (fun _ => bad (fun h => inw_n (a := 3) (by decide) q h.1)) (fun c => absurd rfl c)
  show PQ (j_SL L) (j_SV xs) j_EX mm_X11_value 5 _ [.int 1] S n 0 0 _
  refine q_ifeq rfl rfl (fun c => absurd c (by decide)) (fun _ => ?_)
  refine q_iload_n rfl rfl rfl ?_
  refine q_bipush rfl rfl ?_
  refine q_cS rfl rfl (Or.inl rfl) rfl rfl trivial rfl rfl rfl rfl rfl c_wi ?_
  rintro r _ _ ⟨rfl, rfl, hr⟩
  rcases hr with ⟨q2, rfl⟩ | ⟨q2, rfl⟩
  · show PQ (j_SL L) (j_SV xs) j_EX mm_X11_value 14 _ [.int 0] S n 0 0 _
    exact q_ifne rfl rfl (fun _ => bad (fun h => inw_n (a := 9) (by decide) q2 h.2)) (fun c => absurd rfl c)
  show PQ (j_SL L) (j_SV xs) j_EX mm_X11_value 14 _ [.int 1] S n 0 0 _
  refine q_ifne rfl rfl (fun c => absurd c (by decide)) (fun _ => ?_)
  have hp := (inw (a := 3) (b := 4) (by decide)).mpr q
  have hO : okV p v := ⟨hp, (inw (a := 9) (b := 10) (by decide)).mpr q2⟩
  obtain ⟨P, hP3, rfl⟩ : ∃ P, P ≤ 3 ∧ p = nI P := by
    obtain ⟨h1, h2⟩ := hp
    rw [Int32.le_iff_toInt_le] at h1 h2
    exact nat_of h1 h2
  have hP : P < 4 := by omega
  refine q_aload_n rfl rfl rfl ?_
  refine q_getf rfl rfl (by omega) k0 f0 ?_
  refine q_getf rfl rfl (by omega) k1 f11 ?_
  refine q_iload_n rfl rfl rfl ?_
  refine q_iald rfl rfl (by omega) k2 (q_inN hP (by decide)) (q_tn (z := f P) (by rw [nI_clamp (by omega)]) ?_)
  refine q_ist3n rfl rfl rfl rfl ?_
  refine q_iload_n rfl rfl rfl ?_
  refine q_iload_n rfl rfl rfl ?_
  refine q_iceq rfl rfl (fun c0 => ?_) (fun c0 => ?_)
  · refine q_iload_n rfl rfl rfl ?_
    exact q_iret rfl rfl trivial ⟨Or.inl rfl, rfl, hG, fr1_rf, _, f, f, rfl, k2, k2, Or.inr ⟨hO, P, hP, rfl, rfl, by rw [← c0, upd_id]⟩⟩
  · refine q_aload_n rfl rfl rfl ?_
    refine q_getf rfl rfl (by omega) k0 f0 ?_
    refine q_getf rfl rfl (by omega) k1 f11 ?_
    refine q_iload_n rfl rfl rfl ?_
    refine q_iload_n rfl rfl rfl ?_
    refine q_iast rfl rfl (by omega) k2 (q_inN hP (by decide)) ?_
    rw [nI_clamp (by omega)]
    have g1 : GS θ (va_up S 2 (.inl (0, 4, .inl (upd f P v)))) n := gs_ia hG (k := 2) rfl rfl k2 (fullI v)
    refine q_aload_n rfl rfl rfl ?_
    refine q_cV rfl rfl (Or.inl rfl) rfl rfl rfl rfl (by omega) ((u_ne (by decide)).trans k0) trivial rfl rfl rfl rfl rfl (w_fgt g1) ?_
    rintro r T _ ⟨rfl, rfl, hT, eT, hzq⟩
    show PQ (j_SL L) (j_SV xs) j_EX mm_X11_value 48 _ [] T n 0 0 _
    refine q_iload_n rfl rfl rfl ?_
    exact q_iret rfl rfl trivial ⟨Or.inr ⟨hzq, Or.inr ⟨rfl, Or.inr ⟨f, _, k2, (eT 2 (by omega) rfl).trans u_eq, P, hP, fun e => c0 (e.symm.trans (if_pos rfl))⟩⟩⟩, rfl, hT, fr1_tr (l := [2]) (fr1_up fr1_rf rfl) eT rfl rfl, _, f, _, rfl, k2, (eT 2 (by omega) rfl).trans u_eq, Or.inr ⟨hO, P, hP, rfl, rfl, rfl⟩⟩
set_option maxHeartbeats 4000000 in
theorem l_rva {p v : Int32} (hG : GS θ S n) : PM (j_SL L) (j_SV xs) j_EX mm_X12_value [.ref 46, .int p, .int v] S n (vaK 51 [46, 51, 52, 54, 62, 74] θ p v S n) := by
  have hn := gs_n hG
  obtain ⟨fs, k46, hg⟩ := gs_obj hG (k := 46) rfl
  have f6 : fs[6]? = some (.ref 51) := fo_ref (hg 6 _ rfl) rfl
  obtain ⟨f, k51, -⟩ := gs_a1 hG (k := 51) rfl
  change PQ (j_SL L) (j_SV xs) j_EX mm_X12_value 0 [.ref 46, .int p, .int v, pm_un] [] S n 0 0 _
  have bad : ¬ okV p v → PQ (j_SL L) (j_SV xs) j_EX mm_X12_value 19 [.ref 46, .int p, .int v, pm_un] [] S n 0 0 (vaK 51 [46, 51, 52, 54, 62, 74] θ p v S n) := by
    intro hO
    refine q_iconst rfl rfl ?_
    exact q_iret rfl rfl trivial ⟨Or.inl rfl, rfl, hG, fr1_rf, -1, f, f, rfl, k51, k51, Or.inl ⟨hO, rfl, rfl⟩⟩
  refine q_aload_n rfl rfl rfl ?_
  refine q_iload_n rfl rfl rfl ?_
  refine q_cV rfl rfl (Or.inl rfl) rfl rfl rfl rfl (by omega) k46 trivial rfl rfl rfl rfl rfl (l_isPlace hn k46) ?_
  rintro r S1 n1 ⟨e1, e2, hr⟩
  obtain rfl := e1.symm
  obtain rfl := e2.symm
  rcases hr with ⟨q, rfl⟩ | ⟨q, rfl⟩
  · show PQ (j_SL L) (j_SV xs) j_EX mm_X12_value 5 _ [.int 0] S n 0 0 _
    exact q_ifeq rfl rfl (fun _ => bad (fun h => q h.1)) (fun c => absurd rfl c)
  show PQ (j_SL L) (j_SV xs) j_EX mm_X12_value 5 _ [.int 1] S n 0 0 _
  refine q_ifeq rfl rfl (fun c => absurd c (by decide)) (fun _ => ?_)
  refine q_aload_n rfl rfl rfl ?_
  refine q_iload_n rfl rfl rfl ?_
  refine q_iconst rfl rfl ?_
  refine q_bipush rfl rfl ?_
  refine q_cV rfl rfl (Or.inl rfl) rfl rfl rfl rfl (by omega) k46 trivial rfl rfl rfl rfl rfl l_in ?_
  rintro r S1 n1 ⟨e1, e2, hr⟩
  obtain rfl := e1.symm
  obtain rfl := e2.symm
  rcases hr with ⟨q2, rfl⟩ | ⟨q2, rfl⟩
  · show PQ (j_SL L) (j_SV xs) j_EX mm_X12_value 16 _ [.int 0] S n 0 0 _
    exact q_ifne rfl rfl (fun _ => bad (fun h => q2 h.2)) (fun c => absurd rfl c)
  show PQ (j_SL L) (j_SV xs) j_EX mm_X12_value 16 _ [.int 1] S n 0 0 _
  refine q_ifne rfl rfl (fun c => absurd c (by decide)) (fun _ => ?_)
  have hO : okV p v := ⟨q, q2⟩
  obtain ⟨P, hP3, rfl⟩ : ∃ P, P ≤ 3 ∧ p = nI P := by
    obtain ⟨h1, h2⟩ := q
    rw [Int32.le_iff_toInt_le] at h1 h2
    exact nat_of h1 h2
  have hP : P < 4 := by omega
  refine q_aload_n rfl rfl rfl ?_
  refine q_getf rfl rfl (by omega) k46 f6 ?_
  refine q_iload_n rfl rfl rfl ?_
  refine q_iald rfl rfl (by omega) k51 (q_inN hP (by decide)) (q_tn (z := f P) (by rw [nI_clamp (by omega)]) ?_)
  refine q_ist3n rfl rfl rfl rfl ?_
  refine q_iload_n rfl rfl rfl ?_
  refine q_iload_n rfl rfl rfl ?_
  refine q_icne rfl rfl (fun c0 => ?_) (fun c0 => ?_)
  · refine q_iload_n rfl rfl rfl ?_
    exact q_iret rfl rfl trivial ⟨Or.inl rfl, rfl, hG, fr1_rf, _, f, f, rfl, k51, k51, Or.inr ⟨hO, P, hP, rfl, rfl, by rw [← c0, upd_id]⟩⟩
  · refine q_aload_n rfl rfl rfl ?_
    refine q_getf rfl rfl (by omega) k46 f6 ?_
    refine q_iload_n rfl rfl rfl ?_
    refine q_iload_n rfl rfl rfl ?_
    refine q_iast rfl rfl (by omega) k51 (q_inN hP (by decide)) ?_
    rw [nI_clamp (by omega)]
    have g1 : GS θ (va_up S 51 (.inl (0, 4, .inl (upd f P v)))) n := gs_ia hG (k := 51) rfl rfl k51 (fullI v)
    refine q_aload_n rfl rfl rfl ?_
    refine q_cV rfl rfl (Or.inl rfl) rfl rfl rfl rfl (by omega) ((u_ne (by decide)).trans k46) trivial rfl rfl rfl rfl rfl (w_chg g1) ?_
    rintro r T n9 ⟨en, rfl, hT, eT, hzq⟩
    obtain rfl := en.symm
    show PQ (j_SL L) (j_SV xs) j_EX mm_X12_value 46 _ [] T n 0 0 _
    refine q_iload_n rfl rfl rfl ?_
    exact q_iret rfl rfl trivial ⟨Or.inr ⟨hzq, Or.inl ⟨rfl, Or.inr ⟨f, _, k51, (eT 51 (by omega) rfl).trans u_eq, P, hP, fun e => c0 (e.symm.trans (if_pos rfl))⟩⟩⟩, rfl, hT, fr1_tr (l := [51]) (fr1_up fr1_rf rfl) eT rfl rfl, _, f, _, rfl, k51, (eT 51 (by omega) rfl).trans u_eq, Or.inr ⟨hO, P, hP, rfl, rfl, rfl⟩⟩
end VA
