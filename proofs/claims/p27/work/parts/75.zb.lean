/-! what the shelves hold: class and reference; the reference's weight, toss, copy -/
section ZB
variable {θ : Th} {L : Nat} {xs : Nat → Int32} {S : Nat → pm_E} {n : Nat}
def shD (S : Nat → pm_E) (c : Option Nat) (h kd lk sz : Int32) : Prop := (c = none ∧ h = 0) ∨ (∃ y a b, c = some y ∧ S y = .inr (8, [.int a, .int b]) ∧ h = 1 ∧ kd = b ∧ lk = a ∧ inP b 0 12) ∨ (∃ y z len q, c = some y ∧ S y = .inr (2, [.ref z]) ∧ S z = .inl (1, len, q) ∧ len ≤ 60 ∧ h = 3 ∧ sz = nI len) ∨ (∃ y z len q, c = some y ∧ S y = .inr (7, [.ref z]) ∧ S z = .inl (3, len, q) ∧ len ≤ 60 ∧ h = 4 ∧ sz = nI len)
def JSf (S : Nat → pm_E) (f : Nat → Option Nat) (HF KF LF SF : Nat → Int32) : Prop := S 43 = sh43 f ∧ S 75 = ar8 HF ∧ S 76 = ar8 KF ∧ S 77 = ar8 LF ∧ S 78 = ar8 SF ∧ ∀ d, d < 8 → shD S (f d) (HF d) (KF d) (LF d) (SF d)
def JS (S : Nat → pm_E) : Prop := ∃ f HF KF LF SF, JSf S f HF KF LF SF
theorem shD_none {h kd lk sz : Int32} (H : shD S none h kd lk sz) : h = 0 := by
  rcases H with ⟨-, e⟩ | ⟨y, a, b, e, -⟩ | ⟨y, z, len, q, e, -⟩ | ⟨y, z, len, q, e, -⟩
  · exact e
  · cases e
  · cases e
  · cases e
theorem shD_some {y : Nat} {h kd lk sz : Int32} (H : shD S (some y) h kd lk sz) : (∃ a b, S y = .inr (8, [.int a, .int b]) ∧ h = 1 ∧ kd = b ∧ lk = a ∧ inP b 0 12) ∨ (∃ z len q, S y = .inr (2, [.ref z]) ∧ S z = .inl (1, len, q) ∧ len ≤ 60 ∧ h = 3 ∧ sz = nI len) ∨ (∃ z len q, S y = .inr (7, [.ref z]) ∧ S z = .inl (3, len, q) ∧ len ≤ 60 ∧ h = 4 ∧ sz = nI len) := by
  rcases H with ⟨e, -⟩ | ⟨y', a, b, e, H⟩ | ⟨y', z, len, q, e, H⟩ | ⟨y', z, len, q, e, H⟩
  · cases e
  · cases e
    exact Or.inl ⟨a, b, H⟩
  · cases e
    exact Or.inr (Or.inl ⟨z, len, q, H⟩)
  · cases e
    exact Or.inr (Or.inr ⟨z, len, q, H⟩)
/-- the shapes stay, so what a shelf holds stays -/
theorem shD_mono {S' : Nat → pm_E} {c : Option Nat} {h kd lk sz : Int32} (hs : ∀ k, 82 ≤ k → k < n → shp (S k) (S' k)) (hc : ∀ y, c = some y → 82 ≤ y ∧ xh (hp S n) y) (H : shD S c h kd lk sz) : shD S' c h kd lk sz := by
  rcases H with H | ⟨y, a, b, e, h1, H⟩ | ⟨y, z, len, q, e, h1, h2, H⟩ | ⟨y, z, len, q, e, h1, h2, H⟩
  · exact Or.inl H
  · obtain ⟨a1, a2⟩ := hc y e
    have hy := (xh_cs a2).1
    exact Or.inr (Or.inl ⟨y, a, b, e, (hs y a1 hy).1 _ h1, H⟩)
  · obtain ⟨a1, a2⟩ := hc y e
    obtain ⟨hy, hcs⟩ := xh_cs a2
    rcases hcs with ⟨a, b, h9⟩ | ⟨z9, l9, g9, h9, b1, b2, -⟩ | ⟨z9, l9, g9, h9, b1, b2, -⟩
    · rw [h1] at h9
      cases h9
    · rw [h1] at h9
      cases h9
      obtain ⟨q', h2'⟩ := (hs z b1 b2).2 _ _ _ h2
      exact Or.inr (Or.inr (Or.inl ⟨y, z, len, q', e, (hs y a1 hy).1 _ h1, h2', H⟩))
    · rw [h1] at h9
      cases h9
  · obtain ⟨a1, a2⟩ := hc y e
    obtain ⟨hy, hcs⟩ := xh_cs a2
    rcases hcs with ⟨a, b, h9⟩ | ⟨z9, l9, g9, h9, b1, b2, -⟩ | ⟨z9, l9, g9, h9, b1, b2, -⟩
    · rw [h1] at h9
      cases h9
    · rw [h1] at h9
      cases h9
    · rw [h1] at h9
      cases h9
      obtain ⟨q', h2'⟩ := (hs z b1 b2).2 _ _ _ h2
      exact Or.inr (Or.inr (Or.inr ⟨y, z, len, q', e, (hs y a1 hy).1 _ h1, h2', H⟩))
theorem js_hc {f : Nat → Option Nat} (hG : GS θ S n) (h43 : S 43 = sh43 f) : ∀ d, d < 8 → ∀ y, f d = some y → 82 ≤ y ∧ xh (hp S n) y := by
  obtain ⟨f0, a, b⟩ := gs_43 hG
  rw [h43] at a
  cases a
  exact b
theorem js_mono {S' : Nat → pm_E} (hG : GS θ S n) (hk : ∀ k, k ∈ [43, 75, 76, 77, 78] → S' k = S k) (hs : ∀ k, 82 ≤ k → k < n → shp (S k) (S' k)) (h : JS S) : JS S' := by
  obtain ⟨f, HF, KF, LF, SF, a, b, c, d, e, g⟩ := h
  exact ⟨f, HF, KF, LF, SF, (hk 43 (by simp)).trans a, (hk 75 (by simp)).trans b, (hk 76 (by simp)).trans c, (hk 77 (by simp)).trans d, (hk 78 (by simp)).trans e, fun i hi => shD_mono hs (js_hc hG a i hi) (g i hi)⟩
theorem js_fr {S' : Nat → pm_E} {l : List Nat} (hG : GS θ S n) (e : fr1 l S S' n) (hl : l.all (fun k => Nat.ble k 81) = true) (hm : [43, 75, 76, 77, 78].all (fun k => !(l.contains k)) = true) (h : JS S) : JS S' := by
  have hn := gs_n hG
  refine js_mono hG (fun k hk => e k ?_ ?_) (fun k h1 h2 => shp_eq (e k h2 ?_)) h
  · simp only [List.mem_cons, List.not_mem_nil, or_false] at hk
    omega
  · simpa using List.all_eq_true.mp hm k hk
  · cases hc : l.contains k
    · rfl
    · have := Nat.le_of_ble_eq_true (List.all_eq_true.mp hl k (List.contains_iff_mem.mp hc))
      omega
/-- all that a shelf's entry tells -/
theorem sh_cs {f : Nat → Option Nat} {HF KF LF SF : Nat → Int32} {D y : Nat} (hG : GS θ S n) (hJ : JSf S f HF KF LF SF) (hD : D < 8) (hfd : f D = some y) : (∃ a b, S y = .inr (8, [.int a, .int b]) ∧ HF D = 1 ∧ KF D = b ∧ LF D = a ∧ inP b 0 12) ∨ (∃ z len g, S y = .inr (2, [.ref z]) ∧ S z = .inl (1, len, .inr (.inl g)) ∧ len ≤ 60 ∧ HF D = 3 ∧ SF D = nI len) ∨ (∃ z len g, S y = .inr (7, [.ref z]) ∧ S z = .inl (3, len, .inl g) ∧ len ≤ 60 ∧ HF D = 4 ∧ SF D = nI len) := by
  obtain ⟨a, b, c, d, e, g⟩ := hJ
  have H := g D hD
  rw [hfd] at H
  obtain ⟨hy, hcs⟩ := xh_cs (js_hc hG a D hD y hfd).2
  rcases shD_some H with H | ⟨z, len, q, h1, h2, H⟩ | ⟨z, len, q, h1, h2, H⟩
  · exact Or.inl H
  · rcases hcs with ⟨a, b, h9⟩ | ⟨z9, l9, g9, h9, -, -, -, h8⟩ | ⟨z9, l9, g9, h9, -⟩
    · rw [h1] at h9
      cases h9
    · rw [h1] at h9
      cases h9
      rw [h2] at h8
      cases h8
      exact Or.inr (Or.inl ⟨z, len, g9, h1, h2, H⟩)
    · rw [h1] at h9
      cases h9
  · rcases hcs with ⟨a, b, h9⟩ | ⟨z9, l9, g9, h9, -⟩ | ⟨z9, l9, g9, h9, -, -, -, h8, -⟩
    · rw [h1] at h9
      cases h9
    · rw [h1] at h9
      cases h9
    · rw [h1] at h9
      cases h9
      rw [h2] at h8
      cases h8
      exact Or.inr (Or.inr ⟨z, len, g9, h1, h2, H⟩)
def lsR (HF : Nat → Int32) (d z : Int32) : Prop := (¬ (0 ≤ d ∧ d < 8) ∧ z = -1) ∨ ((0 ≤ d ∧ d < 8) ∧ ((HF d.toNatClampNeg = 0 ∧ z = -11) ∨ (¬ HF d.toNatClampNeg = 0 ∧ ¬ HF d.toNatClampNeg = 1 ∧ z = -12)))
def isSt (HF : Nat → Int32) (d : Int32) : Prop := (0 ≤ d ∧ d < 8) ∧ HF d.toNatClampNeg = 1
def weR (HF KF : Nat → Int32) (d z : Int32) : Prop := lsR HF d z ∨ (isSt HF d ∧ z = wgE (KF d.toNatClampNeg))
def toR (HF KF LF : Nat → Int32) (d z : Int32) : Prop := lsR HF d z ∨ (isSt HF d ∧ (((8 ≤ KF d.toNatClampNeg ∧ KF d.toNatClampNeg ≤ 11) ∧ z = LF d.toNatClampNeg) ∨ (¬ (8 ≤ KF d.toNatClampNeg ∧ KF d.toNatClampNeg ≤ 11) ∧ z = -15)))
theorem ls_st {HF : Nat → Int32} {d z : Int32} (h : lsR HF d z) (h' : isSt HF d) : False := by
  rcases h with ⟨a, -⟩ | ⟨-, ⟨b, -⟩ | ⟨-, c, -⟩⟩
  · exact a h'.1
  · rw [h'.2] at b
    exact absurd b (by decide)
  · exact c h'.2
theorem lsR_fn {HF : Nat → Int32} {d z z' : Int32} (h : lsR HF d z) (h' : lsR HF d z') : z = z' := by
  rcases h with ⟨a, rfl⟩ | ⟨a, ⟨b, rfl⟩ | ⟨b, c, rfl⟩⟩ <;> rcases h' with ⟨a', rfl⟩ | ⟨a', ⟨b', rfl⟩ | ⟨b', c', rfl⟩⟩ <;> first | rfl | exact absurd a a' | exact absurd a' a | exact absurd b b' | exact absurd b' b
theorem weR_fn {HF KF : Nat → Int32} {d z z' : Int32} (h : weR HF KF d z) (h' : weR HF KF d z') : z = z' := by
  rcases h with h | ⟨h, rfl⟩ <;> rcases h' with h' | ⟨h', rfl⟩
  · exact lsR_fn h h'
  · exact (ls_st h h').elim
  · exact (ls_st h' h).elim
  · rfl
theorem toR_fn {HF KF LF : Nat → Int32} {d z z' : Int32} (h : toR HF KF LF d z) (h' : toR HF KF LF d z') : z = z' := by
  rcases h with h | ⟨h, ⟨a, rfl⟩ | ⟨a, rfl⟩⟩ <;> rcases h' with h' | ⟨h', ⟨a', rfl⟩ | ⟨a', rfl⟩⟩ <;> first | rfl | exact lsR_fn h h' | exact (ls_st h h').elim | exact (ls_st h' h).elim | exact absurd a a' | exact absurd a' a
/-- the class -/
theorem c_weJ {f : Nat → Option Nat} {HF KF LF SF : Nat → Int32} {d : Int32} (hG : GS θ S n) (hJ : JSf S f HF KF LF SF) : PM (j_SL L) (j_SV xs) j_EX mm_X11_weight [.ref 0, .int d] S n (PW θ S n (weR HF KF d)) := by
  refine c_we2 hG hJ.1 (fun h => Or.inl (Or.inl ⟨h, rfl⟩)) (fun h h0 => Or.inl (Or.inr ⟨h, Or.inl ⟨?_, rfl⟩⟩)) (fun h y a b h1 h2 => ?_) (fun h y z h1 h2 => ?_)
  · have := hJ.2.2.2.2.2 _ (c_in8 h).2
    rw [h0] at this
    exact shD_none this
  · rcases sh_cs hG hJ (c_in8 h).2 h1 with ⟨a', b', e1, e2, e3, -⟩ | ⟨z, len, g, e1, -⟩ | ⟨z, len, g, e1, -⟩
    · rw [h2] at e1
      cases e1
      exact Or.inr ⟨⟨h, e2⟩, by rw [e3]⟩
    · rw [h2] at e1
      cases e1
    · rw [h2] at e1
      cases e1
  · refine Or.inl (Or.inr ⟨h, Or.inr ?_⟩)
    rcases sh_cs hG hJ (c_in8 h).2 h1 with ⟨a', b', e1, -⟩ | ⟨z, len, g, e1, e2, e3, e4, -⟩ | ⟨z, len, g, e1, e2, e3, e4, -⟩
    · rcases h2 with h2 | h2 <;> rw [h2] at e1 <;> cases e1
    · rw [e4]
      exact ⟨by decide, by decide, rfl⟩
    · rw [e4]
      exact ⟨by decide, by decide, rfl⟩
theorem c_toJ {f : Nat → Option Nat} {HF KF LF SF : Nat → Int32} {d : Int32} (hG : GS θ S n) (hJ : JSf S f HF KF LF SF) : PM (j_SL L) (j_SV xs) j_EX mm_X11_toss [.ref 0, .int d] S n (PW θ S n (toR HF KF LF d)) := by
  refine c_to2 hG hJ.1 (fun h => Or.inl (Or.inl ⟨h, rfl⟩)) (fun h h0 => Or.inl (Or.inr ⟨h, Or.inl ⟨?_, rfl⟩⟩)) (fun h y a b h1 h2 => ?_) (fun h y z h1 h2 => ?_)
  · have := hJ.2.2.2.2.2 _ (c_in8 h).2
    rw [h0] at this
    exact shD_none this
  · rcases sh_cs hG hJ (c_in8 h).2 h1 with ⟨a', b', e1, e2, e3, e4, -⟩ | ⟨z, len, g, e1, -⟩ | ⟨z, len, g, e1, -⟩
    · rw [h2] at e1
      cases e1
      exact ⟨fun hb => Or.inr ⟨⟨h, e2⟩, Or.inl ⟨by rw [e3]; exact hb, e4.symm⟩⟩, fun hb => Or.inr ⟨⟨h, e2⟩, Or.inr ⟨by rw [e3]; exact hb, rfl⟩⟩⟩
    · rw [h2] at e1
      cases e1
    · rw [h2] at e1
      cases e1
  · refine Or.inl (Or.inr ⟨h, Or.inr ?_⟩)
    rcases sh_cs hG hJ (c_in8 h).2 h1 with ⟨a', b', e1, -⟩ | ⟨z, len, g, e1, e2, e3, e4, -⟩ | ⟨z, len, g, e1, e2, e3, e4, -⟩
    · rcases h2 with h2 | h2 <;> rw [h2] at e1 <;> cases e1
    · rw [e4]
      exact ⟨by decide, by decide, rfl⟩
    · rw [e4]
      exact ⟨by decide, by decide, rfl⟩
def spn (a b i j m : Int32) : Prop := ¬ m < 0 ∧ ¬ i < 0 ∧ ¬ j < 0 ∧ i ≤ a - m ∧ j ≤ b - m
def cpR (HF SF : Nat → Int32) (d i e j m z : Int32) : Prop := (¬ ((0 ≤ d ∧ d < 8) ∧ (0 ≤ e ∧ e < 8)) ∧ z = -1) ∨ (((0 ≤ d ∧ d < 8) ∧ (0 ≤ e ∧ e < 8)) ∧ (((HF d.toNatClampNeg = 0 ∨ HF e.toNatClampNeg = 0) ∧ z = -11) ∨ (¬ (HF d.toNatClampNeg = 0 ∨ HF e.toNatClampNeg = 0) ∧ (((HF d.toNatClampNeg < 3 ∨ ¬ HF d.toNatClampNeg = HF e.toNatClampNeg) ∧ z = -12) ∨ (¬ (HF d.toNatClampNeg < 3 ∨ ¬ HF d.toNatClampNeg = HF e.toNatClampNeg) ∧ ((¬ spn (SF d.toNatClampNeg) (SF e.toNatClampNeg) i j m ∧ z = -13) ∨ (spn (SF d.toNatClampNeg) (SF e.toNatClampNeg) i j m ∧ z = m)))))))
theorem cpR_fn {HF SF : Nat → Int32} {d i e j m z z' : Int32} (h : cpR HF SF d i e j m z) (h' : cpR HF SF d i e j m z') : z = z' := by
  rcases h with ⟨a, rfl⟩ | ⟨a, ⟨b, rfl⟩ | ⟨b, ⟨c, rfl⟩ | ⟨c, ⟨g, rfl⟩ | ⟨g, rfl⟩⟩⟩⟩ <;> rcases h' with ⟨a', rfl⟩ | ⟨a', ⟨b', rfl⟩ | ⟨b', ⟨c', rfl⟩ | ⟨c', ⟨g', rfl⟩ | ⟨g', rfl⟩⟩⟩⟩ <;> first | rfl | exact absurd a a' | exact absurd a' a | exact absurd b b' | exact absurd b' b | exact absurd c c' | exact absurd c' c | exact absurd g g' | exact absurd g' g
theorem sp_iff {a fr m : Int32} (h0 : (0 : Int) ≤ a.toInt) (h60 : a.toInt ≤ 60) (h1 : ¬ m < 0) (h2 : ¬ fr < 0) : m ≤ a - fr ↔ fr ≤ a - m := by
  simp only [Int32.lt_iff_toInt_lt, Int32.le_iff_toInt_le] at h1 h2 ⊢
  have e0 : (0 : Int32).toInt = 0 := rfl
  have hb := (fullI fr).2
  have hm := (fullI m).2
  have e1 : (a - fr).toInt = (a.toInt - fr.toInt).bmod 4294967296 := Int32.toInt_sub a fr
  have e2 : (a - m).toInt = (a.toInt - m.toInt).bmod 4294967296 := Int32.toInt_sub a m
  rw [ck_bm (by show (-2147483648 : Int) ≤ _; omega) (by show _ ≤ (2147483647 : Int); omega)] at e1 e2
  omega
theorem sp2_iff {len len' : Nat} {i j m : Int32} (h : len ≤ 60) (h' : len' ≤ 60) : sp2 len len' i j m ↔ spn (nI len) (nI len') i j m := by
  have e := nI_toInt (n := len) (by omega)
  have e' := nI_toInt (n := len') (by omega)
  unfold sp2 spP spn
  constructor
  · rintro ⟨⟨a, b, c⟩, ⟨-, b', c'⟩⟩
    exact ⟨a, b, b', (sp_iff (by omega) (by omega) a b).mp c, (sp_iff (by omega) (by omega) a b').mp c'⟩
  · rintro ⟨a, b, b', c, c'⟩
    exact ⟨⟨a, b, (sp_iff (by omega) (by omega) a b).mpr c⟩, ⟨a, b', (sp_iff (by omega) (by omega) a b').mpr c'⟩⟩
theorem c_cpJ {f : Nat → Option Nat} {HF KF LF SF : Nat → Int32} {d i e j m : Int32} (hG : GS θ S n) (hJ : JSf S f HF KF LF SF) : PM (j_SL L) (j_SV xs) j_EX mm_X11_copy [.ref 0, .int d, .int i, .int e, .int j, .int m] S n (PW θ S n (cpR HF SF d i e j m)) := by
  refine c_cp2 hG hJ.1 (fun h => Or.inl ⟨h, rfl⟩) (fun h h' h0 => Or.inr ⟨⟨h, h'⟩, Or.inl ⟨?_, rfl⟩⟩) (fun h h' y y' h1 h2 => ?_)
  · rcases h0 with h0 | h0
    · have := hJ.2.2.2.2.2 _ (c_in8 h).2
      rw [h0] at this
      exact Or.inl (shD_none this)
    · have := hJ.2.2.2.2.2 _ (c_in8 h').2
      rw [h0] at this
      exact Or.inr (shD_none this)
  · have X := sh_cs hG hJ (c_in8 h).2 h1
    have Y := sh_cs hG hJ (c_in8 h').2 h2
    have nz : ¬ (HF d.toNatClampNeg = 0 ∨ HF e.toNatClampNeg = 0) := by
      rintro (q | q)
      · rcases X with ⟨_, _, -, e2, -⟩ | ⟨_, _, _, -, -, -, e2, -⟩ | ⟨_, _, _, -, -, -, e2, -⟩ <;> rw [e2] at q <;> exact absurd q (by decide)
      · rcases Y with ⟨_, _, -, e2, -⟩ | ⟨_, _, _, -, -, -, e2, -⟩ | ⟨_, _, _, -, -, -, e2, -⟩ <;> rw [e2] at q <;> exact absurd q (by decide)
    refine ⟨fun len len' hB => ?_, fun nL nS => ?_⟩
    · have key : ¬ (HF d.toNatClampNeg < 3 ∨ ¬ HF d.toNatClampNeg = HF e.toNatClampNeg) ∧ len ≤ 60 ∧ len' ≤ 60 ∧ SF d.toNatClampNeg = nI len ∧ SF e.toNatClampNeg = nI len' := by
        rcases hB with ⟨z, z', g, g', p1, p2, p3, p4⟩ | ⟨z, z', g, g', p1, p2, p3, p4⟩
        · rcases X with ⟨_, _, e1, -⟩ | ⟨zz, l, g1, e1, e2, e3, e4, e5⟩ | ⟨_, _, _, e1, -⟩
          · rw [p1] at e1
            cases e1
          · rw [p1] at e1
            cases e1
            rw [p3] at e2
            cases e2
            rcases Y with ⟨_, _, e1', -⟩ | ⟨zz', l', g1', e1', e2', e3', e4', e5'⟩ | ⟨_, _, _, e1', -⟩
            · rw [p2] at e1'
              cases e1'
            · rw [p2] at e1'
              cases e1'
              rw [p4] at e2'
              cases e2'
              exact ⟨by rw [e4, e4']; decide, e3, e3', e5, e5'⟩
            · rw [p2] at e1'
              cases e1'
          · rw [p1] at e1
            cases e1
        · rcases X with ⟨_, _, e1, -⟩ | ⟨_, _, _, e1, -⟩ | ⟨zz, l, g1, e1, e2, e3, e4, e5⟩
          · rw [p1] at e1
            cases e1
          · rw [p1] at e1
            cases e1
          · rw [p1] at e1
            cases e1
            rw [p3] at e2
            cases e2
            rcases Y with ⟨_, _, e1', -⟩ | ⟨_, _, _, e1', -⟩ | ⟨zz', l', g1', e1', e2', e3', e4', e5'⟩
            · rw [p2] at e1'
              cases e1'
            · rw [p2] at e1'
              cases e1'
            · rw [p2] at e1'
              cases e1'
              rw [p4] at e2'
              cases e2'
              exact ⟨by rw [e4, e4']; decide, e3, e3', e5, e5'⟩
      obtain ⟨k1, k2, k3, k4, k5⟩ := key
      refine ⟨fun hs => Or.inr ⟨⟨h, h'⟩, Or.inr ⟨nz, Or.inr ⟨k1, Or.inl ⟨?_, rfl⟩⟩⟩⟩, fun hs => Or.inr ⟨⟨h, h'⟩, Or.inr ⟨nz, Or.inr ⟨k1, Or.inr ⟨?_, rfl⟩⟩⟩⟩⟩
      · rw [k4, k5]
        exact fun h9 => hs ((sp2_iff k2 k3).mpr h9)
      · rw [k4, k5]
        exact (sp2_iff k2 k3).mp hs
    · refine Or.inr ⟨⟨h, h'⟩, Or.inr ⟨nz, Or.inl ⟨?_, rfl⟩⟩⟩
      rcases X with ⟨_, _, -, e2, -⟩ | ⟨z, len, g, e1, e2, e3, e4, e5⟩ | ⟨z, len, g, e1, e2, e3, e4, e5⟩
      · left
        rw [e2]
        decide
      · right
        rcases Y with ⟨_, _, -, e2', -⟩ | ⟨z', len', g', e1', e2', e3', e4', e5'⟩ | ⟨z', len', g', e1', e2', e3', e4', e5'⟩
        · rw [e4, e2']
          decide
        · exact absurd ⟨z, z', g, g', e1, e1', e2, e2'⟩ (nL len len')
        · rw [e4, e4']
          decide
      · right
        rcases Y with ⟨_, _, -, e2', -⟩ | ⟨z', len', g', e1', e2', e3', e4', e5'⟩ | ⟨z', len', g', e1', e2', e3', e4', e5'⟩
        · rw [e4, e2']
          decide
        · rw [e4, e4']
          decide
        · exact absurd ⟨z, z', g, g', e1, e1', e2, e2'⟩ (nS len len')
-- the reference
set_option maxHeartbeats 4000000 in
theorem l_ls {d : Int32} {HF : Nat → Int32} (hG : GS θ S n) (k75 : S 75 = ar8 HF) : PM (j_SL L) (j_SV xs) j_EX mm_X12_lacksStatement [.ref 46, .int d] S n (fun r S' n' => S = S' ∧ n = n' ∧ ∃ z : Int32, r = some (.int z) ∧ ((lsR HF d z ∧ ¬ z = 0) ∨ (isSt HF d ∧ z = 0))) := by
  have hn := gs_n hG
  obtain ⟨fs, k46, hf⟩ := gs_obj hG (k := 46) rfl
  have f35 : fs[35]? = some (.ref 75) := fo_ref (hf 35 _ rfl) rfl
  change PQ (j_SL L) (j_SV xs) j_EX mm_X12_lacksStatement 0 [.ref 46, .int d] [] S n 0 0 _
  refine q_aload_n rfl rfl rfl ?_
  refine q_iload_n rfl rfl rfl ?_
  refine q_cV rfl rfl (Or.inl rfl) rfl rfl rfl rfl (by omega) k46 trivial rfl rfl rfl rfl rfl (l_isShelf hn k46) ?_
  rintro r S1 n1 ⟨e1, e2, hr⟩
  obtain rfl := e1.symm
  obtain rfl := e2.symm
  rcases hr with ⟨q, rfl⟩ | ⟨q, rfl⟩
  · show PQ (j_SL L) (j_SV xs) j_EX mm_X12_lacksStatement 5 _ [.int 0] S n 0 0 _
    refine q_ifne rfl rfl (fun _ => ?_) (fun c => absurd rfl c)
    refine q_iconst rfl rfl ?_
    refine q_goto rfl ?_
    exact q_iret rfl rfl trivial ⟨rfl, rfl, _, rfl, Or.inl ⟨Or.inl ⟨fun h => q (in07.mpr h), rfl⟩, by decide⟩⟩
  show PQ (j_SL L) (j_SV xs) j_EX mm_X12_lacksStatement 5 _ [.int 1] S n 0 0 _
  refine q_ifne rfl rfl (fun c => absurd c (by decide)) (fun _ => ?_)
  have hd := in07.mp q
  obtain ⟨hi, -⟩ := c_in8 hd
  refine q_aload_n rfl rfl rfl ?_
  refine q_getf rfl rfl (by omega) k46 f35 ?_
  refine q_iload_n rfl rfl rfl ?_
  refine q_iald rfl rfl (by omega) k75 hi ?_
  refine q_ifne rfl rfl (fun c0 => ?_) (fun c0 => ?_)
  · refine q_bipush rfl rfl ?_
    refine q_goto rfl ?_
    exact q_iret rfl rfl trivial ⟨rfl, rfl, _, rfl, Or.inl ⟨Or.inr ⟨hd, Or.inl ⟨c0, rfl⟩⟩, by decide⟩⟩
  refine q_aload_n rfl rfl rfl ?_
  refine q_getf rfl rfl (by omega) k46 f35 ?_
  refine q_iload_n rfl rfl rfl ?_
  refine q_iald rfl rfl (by omega) k75 hi ?_
  refine q_iconst rfl rfl ?_
  refine q_iceq rfl rfl (fun c1 => ?_) (fun c1 => ?_)
  · refine q_iconst rfl rfl ?_
    exact q_iret rfl rfl trivial ⟨rfl, rfl, _, rfl, Or.inr ⟨⟨hd, c1⟩, rfl⟩⟩
  · refine q_bipush rfl rfl ?_
    refine q_goto rfl ?_
    exact q_iret rfl rfl trivial ⟨rfl, rfl, _, rfl, Or.inl ⟨Or.inr ⟨hd, Or.inr ⟨c0, c1, rfl⟩⟩, by decide⟩⟩
def wr2 (k : Int32) : Int32 := if k < 3 ∨ (5 ≤ k ∧ k ≤ 7) then 10 else 0
def wr3 (k : Int32) : Int32 := if k = 6 ∨ k = 7 then 100 else 0
def wr4 (k : Int32) : Int32 := if 8 ≤ k ∧ k ≤ 11 then 1000 else 0
def wrS (k : Int32) : Int32 := 1 + k + wr2 k + wr3 k + wr4 k
def wrE (k : Int32) : Int32 := if k = 7 ∨ k = 10 then 2 * wrS k else wrS k
theorem wr_ok {k : Int32} (h : inP k 0 12) : wrE k = wgE k := by
  obtain ⟨m, hm, rfl⟩ := kd_of h
  unfold wrE wgE wrS wg4 wg3 wg2 wr2 wr3 wr4 opf
  match m, hm with
  | 0, _ => decide
  | 1, _ => decide
  | 2, _ => decide
  | 3, _ => decide
  | 4, _ => decide
  | 5, _ => decide
  | 6, _ => decide
  | 7, _ => decide
  | 8, _ => decide
  | 9, _ => decide
  | 10, _ => decide
  | 11, _ => decide
  | 12, _ => decide
  | m + 13, h => omega
set_option maxHeartbeats 4000000 in
theorem l_rwe {d : Int32} {HF KF : Nat → Int32} (hG : GS θ S n) (k75 : S 75 = ar8 HF) (k76 : S 76 = ar8 KF) (hk : isSt HF d → inP (KF d.toNatClampNeg) 0 12) : PM (j_SL L) (j_SV xs) j_EX mm_X12_weight [.ref 46, .int d] S n (fun r S' n' => n = n' ∧ GS θ S' n ∧ fr1 [] S S' n ∧ ∃ z : Int32, r = some (.int z) ∧ weR HF KF d z) := by
  have hn := gs_n hG
  obtain ⟨fs, k46, hf⟩ := gs_obj hG (k := 46) rfl
  have f36 : fs[36]? = some (.ref 76) := fo_ref (hf 36 _ rfl) rfl
  change PQ (j_SL L) (j_SV xs) j_EX mm_X12_weight 0 [.ref 46, .int d, pm_un, pm_un] [] S n 0 0 _
  refine q_aload_n rfl rfl rfl ?_
  refine q_iload_n rfl rfl rfl ?_
  refine q_cV rfl rfl (Or.inl rfl) rfl rfl rfl rfl (by omega) k46 trivial rfl rfl rfl rfl rfl (l_ls hG k75) ?_
  rintro r _ _ ⟨rfl, rfl, z, rfl, hz⟩
  show PQ (j_SL L) (j_SV xs) j_EX mm_X12_weight 5 _ [.int z] S n 0 0 _
  refine q_ifeq rfl rfl (fun c => ?_) (fun c => ?_)
  rotate_left
  · refine q_aload_n rfl rfl rfl ?_
    refine q_iload_n rfl rfl rfl ?_
    refine q_cV rfl rfl (Or.inl rfl) rfl rfl rfl rfl (by omega) k46 trivial rfl rfl rfl rfl rfl (l_ls hG k75) ?_
    rintro r _ _ ⟨rfl, rfl, z', rfl, hz'⟩
    show PQ (j_SL L) (j_SV xs) j_EX mm_X12_weight 13 _ [.int z'] S n 0 0 _
    refine q_iret rfl rfl trivial ⟨rfl, hG, fr1_rf, _, rfl, Or.inl ?_⟩
    rcases hz' with ⟨h, -⟩ | ⟨h, rfl⟩
    · exact h
    · rcases hz with ⟨h', -⟩ | ⟨-, rfl⟩
      · exact (ls_st h' h).elim
      · exact absurd rfl c
  have hst : isSt HF d := by
    rcases hz with ⟨-, h⟩ | ⟨h, -⟩
    · exact absurd c h
    · exact h
  have hkd := hk hst
  obtain ⟨hi, -⟩ := c_in8 hst.1
  have fin : ∀ w : Int32, w = wrE (KF d.toNatClampNeg) → (fun (r : Option Value) (S' : Nat → pm_E) (n' : Nat) => n = n' ∧ GS θ S' n ∧ fr1 [] S S' n ∧ ∃ z : Int32, r = some (.int z) ∧ weR HF KF d z) (some (.int w)) S n := fun w hw => ⟨rfl, hG, fr1_rf, w, rfl, Or.inr ⟨hst, by rw [hw, wr_ok hkd]⟩⟩
  refine q_aload_n rfl rfl rfl ?_
  refine q_getf rfl rfl (by omega) k46 f36 ?_
  refine q_iload_n rfl rfl rfl ?_
  refine q_iald rfl rfl (by omega) k76 hi ?_
  generalize hK : KF d.toNatClampNeg = kk at fin
  refine q_ist2n rfl rfl rfl rfl ?_
  have s75 : PQ (j_SL L) (j_SV xs) j_EX mm_X12_weight 74 [.ref 46, .int d, .int kk, pm_un] [.int (wrS kk)] S n 0 0 (fun r S' n' => n = n' ∧ GS θ S' n ∧ fr1 [] S S' n ∧ ∃ z : Int32, r = some (.int z) ∧ weR HF KF d z) := by
    refine q_ist3n rfl rfl rfl rfl ?_
    have s87 : kk = 7 ∨ kk = 10 → PQ (j_SL L) (j_SV xs) j_EX mm_X12_weight 87 [.ref 46, .int d, .int kk, .int (wrS kk)] [] S n 0 0 (fun r S' n' => n = n' ∧ GS θ S' n ∧ fr1 [] S S' n ∧ ∃ z : Int32, r = some (.int z) ∧ weR HF KF d z) := by
      intro h
      refine q_iconst rfl rfl ?_
      refine q_iload_n rfl rfl rfl ?_
      refine q_imul rfl rfl ?_
      refine q_goto rfl ?_
      exact q_iret rfl rfl trivial (fin _ (by unfold wrE; rw [if_pos h]))
    refine q_iload_n rfl rfl rfl ?_
    refine q_bipush rfl rfl ?_
    refine q_iceq rfl rfl (fun c => s87 (Or.inl c)) (fun c1 => ?_)
    refine q_iload_n rfl rfl rfl ?_
    refine q_bipush rfl rfl ?_
    refine q_icne rfl rfl (fun c => s87 (Or.inr c)) (fun c2 => ?_)
    refine q_iload_n rfl rfl rfl ?_
    exact q_iret rfl rfl trivial (fin _ (by unfold wrE; rw [if_neg (fun h => h.elim c1 c2)]))
  have s57 : PQ (j_SL L) (j_SV xs) j_EX mm_X12_weight 57 [.ref 46, .int d, .int kk, pm_un] [.int (wr3 kk), .int (1 + kk + wr2 kk)] S n 0 0 (fun r S' n' => n = n' ∧ GS θ S' n ∧ fr1 [] S S' n ∧ ∃ z : Int32, r = some (.int z) ∧ weR HF KF d z) := by
    refine q_iadd rfl rfl ?_
    refine q_aload_n rfl rfl rfl ?_
    refine q_iload_n rfl rfl rfl ?_
    refine q_cV rfl rfl (Or.inl rfl) rfl rfl rfl rfl (by omega) k46 trivial rfl rfl rfl rfl rfl (l_hasLock hn k46) ?_
    rintro r S1 n1 ⟨g1, g2, hr⟩
    obtain rfl := g1.symm
    obtain rfl := g2.symm
    rcases hr with ⟨p1, rfl⟩ | ⟨p1, rfl⟩
    · show PQ (j_SL L) (j_SV xs) j_EX mm_X12_weight 63 _ [.int 0, .int (1 + kk + wr2 kk + wr3 kk)] S n 0 0 _
      refine q_ifeq rfl rfl (fun _ => ?_) (fun c => absurd rfl c)
      refine q_iconst rfl rfl ?_
      refine q_iadd rfl rfl (q_tn (z := wrS kk) (by unfold wrS wr4; rw [if_neg (show ¬ (8 ≤ kk ∧ kk ≤ 11) from p1)]) ?_)
      exact s75
    · show PQ (j_SL L) (j_SV xs) j_EX mm_X12_weight 63 _ [.int 1, .int (1 + kk + wr2 kk + wr3 kk)] S n 0 0 _
      refine q_ifeq rfl rfl (fun c => absurd c (by decide)) (fun _ => ?_)
      refine q_sipush rfl rfl ?_
      refine q_goto rfl ?_
      refine q_iadd rfl rfl (q_tn (z := wrS kk) (by unfold wrS wr4; rw [if_pos (show 8 ≤ kk ∧ kk ≤ 11 from p1)]) ?_)
      exact s75
  have s38 : PQ (j_SL L) (j_SV xs) j_EX mm_X12_weight 38 [.ref 46, .int d, .int kk, pm_un] [.int (wr2 kk), .int (1 + kk)] S n 0 0 (fun r S' n' => n = n' ∧ GS θ S' n ∧ fr1 [] S S' n ∧ ∃ z : Int32, r = some (.int z) ∧ weR HF KF d z) := by
    refine q_iadd rfl rfl ?_
    have s51 : kk = 6 ∨ kk = 7 → PQ (j_SL L) (j_SV xs) j_EX mm_X12_weight 51 [.ref 46, .int d, .int kk, pm_un] [.int (1 + kk + wr2 kk)] S n 0 0 (fun r S' n' => n = n' ∧ GS θ S' n ∧ fr1 [] S S' n ∧ ∃ z : Int32, r = some (.int z) ∧ weR HF KF d z) := by
      intro h
      refine q_bipush rfl rfl ?_
      refine q_goto rfl ?_
      refine q_tn (z := wr3 kk) (by unfold wr3; rw [if_pos h]) ?_
      exact s57
    refine q_iload_n rfl rfl rfl ?_
    refine q_bipush rfl rfl ?_
    refine q_iceq rfl rfl (fun c => s51 (Or.inl c)) (fun c1 => ?_)
    refine q_iload_n rfl rfl rfl ?_
    refine q_bipush rfl rfl ?_
    refine q_icne rfl rfl (fun c => s51 (Or.inr c)) (fun c2 => ?_)
    refine q_iconst rfl rfl ?_
    refine q_tn (z := wr3 kk) (by unfold wr3; rw [if_neg (fun h => h.elim c1 c2)]) ?_
    exact s57
  refine q_iconst rfl rfl ?_
  refine q_iload_n rfl rfl rfl ?_
  refine q_iadd rfl rfl ?_
  refine q_aload_n rfl rfl rfl ?_
  refine q_iload_n rfl rfl rfl ?_
  refine q_cV rfl rfl (Or.inl rfl) rfl rfl rfl rfl (by omega) k46 trivial rfl rfl rfl rfl rfl (l_hasPlace hn k46) ?_
  rintro r S1 n1 ⟨g1, g2, hr⟩
  obtain rfl := g1.symm
  obtain rfl := g2.symm
  rcases hr with ⟨p1, rfl⟩ | ⟨p1, rfl⟩
  · show PQ (j_SL L) (j_SV xs) j_EX mm_X12_weight 29 _ [.int 0, .int (1 + kk)] S n 0 0 _
    refine q_ifeq rfl rfl (fun _ => ?_) (fun c => absurd rfl c)
    refine q_iconst rfl rfl ?_
    refine q_tn (z := wr2 kk) (by unfold wr2; exact (if_neg p1).symm) ?_
    exact s38
  · show PQ (j_SL L) (j_SV xs) j_EX mm_X12_weight 29 _ [.int 1, .int (1 + kk)] S n 0 0 _
    refine q_ifeq rfl rfl (fun c => absurd c (by decide)) (fun _ => ?_)
    refine q_bipush rfl rfl ?_
    refine q_goto rfl ?_
    refine q_tn (z := wr2 kk) (by unfold wr2; exact (if_pos p1).symm) ?_
    exact s38
set_option maxHeartbeats 4000000 in
theorem l_rto {d : Int32} {HF KF LF : Nat → Int32} (hG : GS θ S n) (k75 : S 75 = ar8 HF) (k76 : S 76 = ar8 KF) (k77 : S 77 = ar8 LF) : PM (j_SL L) (j_SV xs) j_EX mm_X12_toss [.ref 46, .int d] S n (fun r S' n' => n = n' ∧ GS θ S' n ∧ fr1 [] S S' n ∧ ∃ z : Int32, r = some (.int z) ∧ toR HF KF LF d z) := by
  have hn := gs_n hG
  obtain ⟨fs, k46, hf⟩ := gs_obj hG (k := 46) rfl
  have f36 : fs[36]? = some (.ref 76) := fo_ref (hf 36 _ rfl) rfl
  have f37 : fs[37]? = some (.ref 77) := fo_ref (hf 37 _ rfl) rfl
  change PQ (j_SL L) (j_SV xs) j_EX mm_X12_toss 0 [.ref 46, .int d] [] S n 0 0 _
  refine q_aload_n rfl rfl rfl ?_
  refine q_iload_n rfl rfl rfl ?_
  refine q_cV rfl rfl (Or.inl rfl) rfl rfl rfl rfl (by omega) k46 trivial rfl rfl rfl rfl rfl (l_ls hG k75) ?_
  rintro r _ _ ⟨rfl, rfl, z, rfl, hz⟩
  show PQ (j_SL L) (j_SV xs) j_EX mm_X12_toss 5 _ [.int z] S n 0 0 _
  refine q_ifeq rfl rfl (fun c => ?_) (fun c => ?_)
  rotate_left
  · refine q_aload_n rfl rfl rfl ?_
    refine q_iload_n rfl rfl rfl ?_
    refine q_cV rfl rfl (Or.inl rfl) rfl rfl rfl rfl (by omega) k46 trivial rfl rfl rfl rfl rfl (l_ls hG k75) ?_
    rintro r _ _ ⟨rfl, rfl, z', rfl, hz'⟩
    show PQ (j_SL L) (j_SV xs) j_EX mm_X12_toss 13 _ [.int z'] S n 0 0 _
    refine q_iret rfl rfl trivial ⟨rfl, hG, fr1_rf, _, rfl, Or.inl ?_⟩
    rcases hz' with ⟨h, -⟩ | ⟨h, rfl⟩
    · exact h
    · rcases hz with ⟨h', -⟩ | ⟨-, rfl⟩
      · exact (ls_st h' h).elim
      · exact absurd rfl c
  have hst : isSt HF d := by
    rcases hz with ⟨-, h⟩ | ⟨h, -⟩
    · exact absurd c h
    · exact h
  obtain ⟨hi, -⟩ := c_in8 hst.1
  refine q_aload_n rfl rfl rfl ?_
  refine q_aload_n rfl rfl rfl ?_
  refine q_getf rfl rfl (by omega) k46 f36 ?_
  refine q_iload_n rfl rfl rfl ?_
  refine q_iald rfl rfl (by omega) k76 hi ?_
  refine q_cV rfl rfl (Or.inl rfl) rfl rfl rfl rfl (by omega) k46 trivial rfl rfl rfl rfl rfl (l_hasLock hn k46) ?_
  rintro r S1 n1 ⟨g1, g2, hr⟩
  obtain rfl := g1.symm
  obtain rfl := g2.symm
  rcases hr with ⟨p1, rfl⟩ | ⟨p1, rfl⟩
  · show PQ (j_SL L) (j_SV xs) j_EX mm_X12_toss 24 _ [.int 0] S n 0 0 _
    refine q_ifeq rfl rfl (fun _ => ?_) (fun c => absurd rfl c)
    refine q_bipush rfl rfl ?_
    exact q_iret rfl rfl trivial ⟨rfl, hG, fr1_rf, _, rfl, Or.inr ⟨hst, Or.inr ⟨p1, rfl⟩⟩⟩
  · show PQ (j_SL L) (j_SV xs) j_EX mm_X12_toss 24 _ [.int 1] S n 0 0 _
    refine q_ifeq rfl rfl (fun c => absurd c (by decide)) (fun _ => ?_)
    refine q_aload_n rfl rfl rfl ?_
    refine q_getf rfl rfl (by omega) k46 f37 ?_
    refine q_iload_n rfl rfl rfl ?_
    refine q_iald rfl rfl (by omega) k77 hi ?_
    refine q_goto rfl ?_
    exact q_iret rfl rfl trivial ⟨rfl, hG, fr1_rf, _, rfl, Or.inr ⟨hst, Or.inl ⟨p1, rfl⟩⟩⟩
set_option maxHeartbeats 4000000 in
theorem l_rcp2 {d i e j m : Int32} {hd sz : Nat → Int32} (hG : GS θ S n) (k75 : S 75 = ar8 hd) (k78 : S 78 = ar8 sz) : PM (j_SL L) (j_SV xs) j_EX mm_X12_copy [.ref 46, .int d, .int i, .int e, .int j, .int m] S n (fun r S' n' => n = n' ∧ GS θ S' n ∧ fr1 [79, 80] S S' n ∧ ∃ z : Int32, r = some (.int z) ∧ cpR hd sz d i e j m z) := by
  have hn := gs_n hG
  obtain ⟨fs, k46, hf⟩ := gs_obj hG (k := 46) rfl
  have f35 : fs[35]? = some (.ref 75) := fo_ref (hf 35 _ rfl) rfl
  have f38 : fs[38]? = some (.ref 78) := fo_ref (hf 38 _ rfl) rfl
  have f39 : fs[39]? = some (.ref 79) := fo_ref (hf 39 _ rfl) rfl
  have f40 : fs[40]? = some (.ref 80) := fo_ref (hf 40 _ rfl) rfl
  obtain ⟨sz0, a78, hb78⟩ := gs_a1 hG (k := 78) rfl
  rw [k78] at a78
  cases a78
  change PQ (j_SL L) (j_SV xs) j_EX mm_X12_copy 0 [.ref 46, .int d, .int i, .int e, .int j, .int m, pm_un] [] S n 0 0 _
  have s16 : ¬ ((0 ≤ d ∧ d < 8) ∧ (0 ≤ e ∧ e < 8)) → PQ (j_SL L) (j_SV xs) j_EX mm_X12_copy 16 [.ref 46, .int d, .int i, .int e, .int j, .int m, pm_un] [] S n 0 0 (fun r S' n' => n = n' ∧ GS θ S' n ∧ fr1 [79, 80] S S' n ∧ ∃ z : Int32, r = some (.int z) ∧ cpR hd sz d i e j m z) := by
    intro hO
    refine q_iconst rfl rfl ?_
    exact q_iret rfl rfl trivial ⟨rfl, hG, fr1_rf, _, rfl, Or.inl ⟨hO, rfl⟩⟩
  refine q_aload_n rfl rfl rfl ?_
  refine q_iload_n rfl rfl rfl ?_
  refine q_cV rfl rfl (Or.inl rfl) rfl rfl rfl rfl (by omega) k46 trivial rfl rfl rfl rfl rfl (l_isShelf hn k46) ?_
  rintro r S1 n1 ⟨e1, e2, hr⟩
  subst S1 n1
  rcases hr with ⟨q1, rfl⟩ | ⟨q1, rfl⟩
  · show PQ (j_SL L) (j_SV xs) j_EX mm_X12_copy 5 _ [.int 0] S n 0 0 _
    exact q_ifeq rfl rfl (fun _ => s16 (fun h => q1 (in07.mpr h.1))) (fun c => absurd rfl c)
  show PQ (j_SL L) (j_SV xs) j_EX mm_X12_copy 5 _ [.int 1] S n 0 0 _
  refine q_ifeq rfl rfl (fun c => absurd c (by decide)) (fun _ => ?_)
  refine q_aload_n rfl rfl rfl ?_
  refine q_iload_n rfl rfl rfl ?_
  refine q_cV rfl rfl (Or.inl rfl) rfl rfl rfl rfl (by omega) k46 trivial rfl rfl rfl rfl rfl (l_isShelf hn k46) ?_
  rintro r S1 n1 ⟨e1, e2, hr⟩
  subst S1 n1
  rcases hr with ⟨q2, rfl⟩ | ⟨q2, rfl⟩
  · show PQ (j_SL L) (j_SV xs) j_EX mm_X12_copy 13 _ [.int 0] S n 0 0 _
    exact q_ifne rfl rfl (fun _ => s16 (fun h => q2 (in07.mpr h.2))) (fun c => absurd rfl c)
  show PQ (j_SL L) (j_SV xs) j_EX mm_X12_copy 13 _ [.int 1] S n 0 0 _
  refine q_ifne rfl rfl (fun c => absurd c (by decide)) (fun _ => ?_)
  have e7 : (7 : Int32).toInt = 7 := rfl
  have e0 : (0 : Int32).toInt = 0 := rfl
  have hin : (0 ≤ d ∧ d < 8) ∧ (0 ≤ e ∧ e < 8) := ⟨in07.mp q1, in07.mp q2⟩
  unfold inP at q1 q2
  simp only [Int32.le_iff_toInt_le] at q1 q2
  obtain ⟨D, hD, rfl⟩ := nat_of (x := d) (b := 7) (by omega) (by omega)
  obtain ⟨E, hE, rfl⟩ := nat_of (x := e) (b := 7) (by omega) (by omega)
  have inD : pm_inb (nI D) 8 = true := q_inN (by omega) (by decide)
  have inE : pm_inb (nI E) 8 = true := q_inN (by omega) (by decide)
  have s36 : (hd (nI D).toNatClampNeg = 0 ∨ hd (nI E).toNatClampNeg = 0) → PQ (j_SL L) (j_SV xs) j_EX mm_X12_copy 36 [.ref 46, .int (nI D), .int i, .int (nI E), .int j, .int m, pm_un] [] S n 0 0 (fun r S' n' => n = n' ∧ GS θ S' n ∧ fr1 [79, 80] S S' n ∧ ∃ z : Int32, r = some (.int z) ∧ cpR hd sz (nI D) i (nI E) j m z) := by
    intro hO
    refine q_bipush rfl rfl ?_
    exact q_iret rfl rfl trivial ⟨rfl, hG, fr1_rf, _, rfl, Or.inr ⟨hin, Or.inl ⟨hO, rfl⟩⟩⟩
  have s64 : ¬ (hd (nI D).toNatClampNeg = 0 ∨ hd (nI E).toNatClampNeg = 0) ∧ (hd (nI D).toNatClampNeg < 3 ∨ ¬ hd (nI D).toNatClampNeg = hd (nI E).toNatClampNeg) → PQ (j_SL L) (j_SV xs) j_EX mm_X12_copy 64 [.ref 46, .int (nI D), .int i, .int (nI E), .int j, .int m, pm_un] [] S n 0 0 (fun r S' n' => n = n' ∧ GS θ S' n ∧ fr1 [79, 80] S S' n ∧ ∃ z : Int32, r = some (.int z) ∧ cpR hd sz (nI D) i (nI E) j m z) := by
    intro hO
    refine q_bipush rfl rfl ?_
    exact q_iret rfl rfl trivial ⟨rfl, hG, fr1_rf, _, rfl, Or.inr ⟨hin, Or.inr ⟨hO.1, Or.inl ⟨hO.2, rfl⟩⟩⟩⟩
  have s108 : ¬ (hd (nI D).toNatClampNeg = 0 ∨ hd (nI E).toNatClampNeg = 0) ∧ ¬ (hd (nI D).toNatClampNeg < 3 ∨ ¬ hd (nI D).toNatClampNeg = hd (nI E).toNatClampNeg) ∧ ¬ spn (sz (nI D).toNatClampNeg) (sz (nI E).toNatClampNeg) i j m → PQ (j_SL L) (j_SV xs) j_EX mm_X12_copy 108 [.ref 46, .int (nI D), .int i, .int (nI E), .int j, .int m, pm_un] [] S n 0 0 (fun r S' n' => n = n' ∧ GS θ S' n ∧ fr1 [79, 80] S S' n ∧ ∃ z : Int32, r = some (.int z) ∧ cpR hd sz (nI D) i (nI E) j m z) := by
    intro hO
    refine q_bipush rfl rfl ?_
    exact q_iret rfl rfl trivial ⟨rfl, hG, fr1_rf, _, rfl, Or.inr ⟨hin, Or.inr ⟨hO.1, Or.inr ⟨hO.2.1, Or.inl ⟨hO.2.2, rfl⟩⟩⟩⟩⟩
  refine q_aload_n rfl rfl rfl ?_
  refine q_getf rfl rfl (by omega) k46 f35 ?_
  refine q_iload_n rfl rfl rfl ?_
  refine q_iald rfl rfl (by omega) k75 inD ?_
  refine q_ifeq rfl rfl (fun c => s36 (Or.inl c)) (fun z1 => ?_)
  refine q_aload_n rfl rfl rfl ?_
  refine q_getf rfl rfl (by omega) k46 f35 ?_
  refine q_iload_n rfl rfl rfl ?_
  refine q_iald rfl rfl (by omega) k75 inE ?_
  refine q_ifne rfl rfl (fun c => s36 (Or.inr c)) (fun z2 => ?_)
  have nz : ¬ (hd (nI D).toNatClampNeg = 0 ∨ hd (nI E).toNatClampNeg = 0) := fun h => h.elim z1 z2
  refine q_aload_n rfl rfl rfl ?_
  refine q_getf rfl rfl (by omega) k46 f35 ?_
  refine q_iload_n rfl rfl rfl ?_
  refine q_iald rfl rfl (by omega) k75 inD ?_
  refine q_iconst rfl rfl ?_
  refine q_iclt rfl rfl (fun c => s64 ⟨nz, Or.inl c⟩) (fun y1 => ?_)
  refine q_aload_n rfl rfl rfl ?_
  refine q_getf rfl rfl (by omega) k46 f35 ?_
  refine q_iload_n rfl rfl rfl ?_
  refine q_iald rfl rfl (by omega) k75 inD ?_
  refine q_aload_n rfl rfl rfl ?_
  refine q_getf rfl rfl (by omega) k46 f35 ?_
  refine q_iload_n rfl rfl rfl ?_
  refine q_iald rfl rfl (by omega) k75 inE ?_
  refine q_iceq rfl rfl (fun y2 => ?_) (fun c => s64 ⟨nz, Or.inr c⟩)
  have ny : ¬ (hd (nI D).toNatClampNeg < 3 ∨ ¬ hd (nI D).toNatClampNeg = hd (nI E).toNatClampNeg) := fun h => h.elim y1 (fun h => h y2)
  refine q_iload rfl rfl rfl ?_
  refine q_iflt rfl rfl (fun c => s108 ⟨nz, ny, fun h => h.1 c⟩) (fun cm => ?_)
  refine q_iload_n rfl rfl rfl ?_
  refine q_iflt rfl rfl (fun c => s108 ⟨nz, ny, fun h => h.2.1 c⟩) (fun ci => ?_)
  refine q_iload rfl rfl rfl ?_
  refine q_iflt rfl rfl (fun c => s108 ⟨nz, ny, fun h => h.2.2.1 c⟩) (fun cj => ?_)
  refine q_iload_n rfl rfl rfl ?_
  refine q_aload_n rfl rfl rfl ?_
  refine q_getf rfl rfl (by omega) k46 f38 ?_
  refine q_iload_n rfl rfl rfl ?_
  refine q_iald rfl rfl (by omega) k78 inD ?_
  refine q_iload rfl rfl rfl ?_
  refine q_isub rfl rfl ?_
  refine q_icgt rfl rfl (fun c => s108 ⟨nz, ny, fun h => i_ab2 h.2.2.2.1 c⟩) (fun c1 => ?_)
  refine q_iload rfl rfl rfl ?_
  refine q_aload_n rfl rfl rfl ?_
  refine q_getf rfl rfl (by omega) k46 f38 ?_
  refine q_iload_n rfl rfl rfl ?_
  refine q_iald rfl rfl (by omega) k78 inE ?_
  refine q_iload rfl rfl rfl ?_
  refine q_isub rfl rfl ?_
  refine q_icle rfl rfl (fun c2 => ?_) (fun c => s108 ⟨nz, ny, fun h => c h.2.2.2.2⟩)
  have hsp : spn (sz (nI D).toNatClampNeg) (sz (nI E).toNatClampNeg) i j m := ⟨cm, ci, cj, i_nlt c1, c2⟩
  rw [nI_clamp (by omega)] at c1 c2
  have g1 : (0 : Int) ≤ (sz D).toInt ∧ (sz D).toInt ≤ 60 := hb78 D (by omega)
  have g2 : (0 : Int) ≤ (sz E).toInt ∧ (sz E).toInt ≤ 60 := hb78 E (by omega)
  have c1' : i ≤ sz D - m := i_nlt c1
  obtain ⟨b, a, rfl, rfl, l1, hb60, ha60⟩ := sp_nat g1.1 g1.2 ci cm c1'
  obtain ⟨b', a', eb, rfl, l2, hb60', ha60'⟩ := sp_nat g2.1 g2.2 cj cm c2
  have ebb : b = b' := by
    have := congrArg Int32.toInt eb
    rw [nI_toInt (by omega), nI_toInt (by omega)] at this
    omega
  subst ebb
  have l1' : b + a ≤ 60 := by have := g1.2; omega
  have l2' : b + a' ≤ 60 := by have := g2.2; omega
  have key2 : ∀ q k : Nat, k + q = b → ∀ T : Nat → pm_E, GS θ T n → fr1 [79, 80] S T n → PQ (j_SL L) (j_SV xs) j_EX mm_X12_copy 151 [.ref 46, .int (nI D), .int (nI a), .int (nI E), .int (nI a'), .int (nI b), .int (nI k)] [] T n 0 0 (fun r S' n' => n = n' ∧ GS θ S' n ∧ fr1 [79, 80] S S' n ∧ ∃ z : Int32, r = some (.int z) ∧ cpR hd sz (nI D) (nI a) (nI E) (nI a') (nI b) z) := by
    intro q
    induction q with
    | zero =>
      intro k hk T hT eT
      refine q_iload rfl rfl rfl ?_
      refine q_iload rfl rfl rfl ?_
      refine q_icge rfl rfl (fun _ => ?_) (fun c => absurd (by
        have e : k = b := by omega
        rw [e, Int32.le_iff_toInt_le]; omega) c)
      refine q_iload rfl rfl rfl ?_
      exact q_iret rfl rfl trivial ⟨rfl, hT, eT, _, rfl, Or.inr ⟨hin, Or.inr ⟨nz, Or.inr ⟨ny, Or.inr ⟨hsp, rfl⟩⟩⟩⟩⟩
    | succ q ih =>
      intro k hk T hT eT
      obtain ⟨g, k79⟩ := gs_lng hT (k := 79) rfl
      obtain ⟨g', k80⟩ := gs_lng hT (k := 80) rfl
      have t46 : T 46 = .inr (10, fs) := (eT 46 (by omega) rfl).trans k46
      refine q_iload rfl rfl rfl ?_
      refine q_iload rfl rfl rfl ?_
      refine q_icge rfl rfl (fun c => absurd c (nI_ge (a := k) (b := b) (by omega) (by omega))) (fun _ => ?_)
      refine q_aload_n rfl rfl rfl ?_
      refine q_getf rfl rfl (by omega) t46 f39 ?_
      refine q_bipush rfl rfl ?_
      refine q_iload_n rfl rfl rfl ?_
      refine q_imul rfl rfl ?_
      refine q_tn (c_m60 E 0) ?_
      refine q_iload rfl rfl rfl ?_
      refine q_iadd rfl rfl ?_
      refine q_tn (nI_add _ _) ?_
      refine q_iload rfl rfl rfl ?_
      refine q_iadd rfl rfl ?_
      refine q_tn (nI_add _ _) ?_
      refine q_aload_n rfl rfl rfl ?_
      refine q_getf rfl rfl (by omega) t46 f40 ?_
      refine q_iload rfl rfl rfl ?_
      refine q_lald rfl rfl (by omega) k80 (q_inN (by omega) (by decide)) ?_
      refine q_last rfl rfl (by omega) k79 (q_inN (by omega) (by decide)) ?_
      refine q_inc6 rfl rfl rfl rfl ?_
      refine q_goto rfl ?_
      rw [show nI k + 1 = nI (k + 1) from nI_add k 1]
      exact ih (k + 1) (by omega) _ (gs_st hT rfl rfl ⟨_, rfl⟩ (pk_arr k79)) (fr1_up eT rfl)
  have key1 : ∀ q k : Nat, k + q = b → ∀ T : Nat → pm_E, GS θ T n → fr1 [79, 80] S T n → PQ (j_SL L) (j_SV xs) j_EX mm_X12_copy 114 [.ref 46, .int (nI D), .int (nI a), .int (nI E), .int (nI a'), .int (nI b), .int (nI k)] [] T n 0 0 (fun r S' n' => n = n' ∧ GS θ S' n ∧ fr1 [79, 80] S S' n ∧ ∃ z : Int32, r = some (.int z) ∧ cpR hd sz (nI D) (nI a) (nI E) (nI a') (nI b) z) := by
    intro q
    induction q with
    | zero =>
      intro k hk T hT eT
      refine q_iload rfl rfl rfl ?_
      refine q_iload rfl rfl rfl ?_
      refine q_icge rfl rfl (fun _ => ?_) (fun c => absurd (by
        have e : k = b := by omega
        rw [e, Int32.le_iff_toInt_le]; omega) c)
      refine q_iconst rfl rfl ?_
      refine q_ist6 rfl rfl rfl rfl ?_
      exact key2 b 0 (by omega) T hT eT
    | succ q ih =>
      intro k hk T hT eT
      obtain ⟨g, k79⟩ := gs_lng hT (k := 79) rfl
      obtain ⟨g', k80⟩ := gs_lng hT (k := 80) rfl
      have t46 : T 46 = .inr (10, fs) := (eT 46 (by omega) rfl).trans k46
      refine q_iload rfl rfl rfl ?_
      refine q_iload rfl rfl rfl ?_
      refine q_icge rfl rfl (fun c => absurd c (nI_ge (a := k) (b := b) (by omega) (by omega))) (fun _ => ?_)
      refine q_aload_n rfl rfl rfl ?_
      refine q_getf rfl rfl (by omega) t46 f40 ?_
      refine q_iload rfl rfl rfl ?_
      refine q_aload_n rfl rfl rfl ?_
      refine q_getf rfl rfl (by omega) t46 f39 ?_
      refine q_bipush rfl rfl ?_
      refine q_iload_n rfl rfl rfl ?_
      refine q_imul rfl rfl ?_
      refine q_tn (c_m60 D 0) ?_
      refine q_iload_n rfl rfl rfl ?_
      refine q_iadd rfl rfl ?_
      refine q_tn (nI_add _ _) ?_
      refine q_iload rfl rfl rfl ?_
      refine q_iadd rfl rfl ?_
      refine q_tn (nI_add _ _) ?_
      refine q_lald rfl rfl (by omega) k79 (q_inN (by omega) (by decide)) ?_
      refine q_last rfl rfl (by omega) k80 (q_inN (by omega) (by decide)) ?_
      refine q_inc6 rfl rfl rfl rfl ?_
      refine q_goto rfl ?_
      rw [show nI k + 1 = nI (k + 1) from nI_add k 1]
      exact ih (k + 1) (by omega) _ (gs_st hT rfl rfl ⟨_, rfl⟩ (pk_arr k80)) (fr1_up eT rfl)
  refine q_iconst rfl rfl ?_
  refine q_ist6 rfl rfl rfl rfl ?_
  exact key1 b 0 (by omega) S hG fr1_rf
end ZB
