/-! element: the relation, through every call -/
section TE
variable {θ : Th} {L : Nat} {xs : Nat → Int32} {S T1 T2 : Nat → pm_E} {n n1 : Nat} {f : Nat → Option Nat} {HF SF : Nat → Int32} {g : Nat → Int64}
def JEr (θ : Th) (S : Nat → pm_E) : Prop := JAr θ S ∧ JE S
theorem je_cs {D y : Nat} (hG : GS θ S n) (hJ : JEf S f HF SF g) (hD : D < 8) (hfd : f D = some y) : (∃ a b, S y = .inr (8, [.int a, .int b]) ∧ HF D = 1 ∧ True) ∨ (∃ z len q, S y = .inr (2, [.ref z]) ∧ S z = .inl (1, len, .inr (.inl q)) ∧ len ≤ 60 ∧ HF D = 3 ∧ SF D = nI len) ∨ (∃ z len q, S y = .inr (7, [.ref z]) ∧ S z = .inl (3, len, .inl q) ∧ len ≤ 60 ∧ HF D = 4 ∧ SF D = nI len) := by
  rcases hJ.2.2.2.2.1 D hD with ⟨h7, -⟩ | ⟨y9, a9, b9, h7, h8, h⟩ | ⟨y9, z9, l9, q9, h7, h8, h9, h60, hH, hS, -⟩ | ⟨y9, z9, l9, q9, h7, h8, h9, h60, hH, hS, -⟩
  · rw [hfd] at h7
    cases h7
  · rw [hfd] at h7
    cases h7
    exact Or.inl ⟨a9, b9, h8, h, trivial⟩
  · rw [hfd] at h7
    cases h7
    exact Or.inr (Or.inl ⟨z9, l9, q9, h8, h9, h60, hH, hS⟩)
  · rw [hfd] at h7
    cases h7
    exact Or.inr (Or.inr ⟨z9, l9, q9, h8, h9, h60, hH, hS⟩)
theorem jed_none {D : Nat} {h sz : Int32} (H : JEd S D none h sz g) : h = 0 := by
  rcases H with ⟨-, h⟩ | ⟨_, _, _, h7, -⟩ | ⟨_, _, _, _, h7, -⟩ | ⟨_, _, _, _, h7, -⟩
  · exact h
  · cases h7
  · cases h7
  · cases h7
theorem c_cpE {d i e j m : Int32} (hG : GS θ S n) (hJ : JEf S f HF SF g) : PM (j_SL L) (j_SV xs) j_EX mm_X11_copy [.ref 0, .int d, .int i, .int e, .int j, .int m] S n (PW θ S n (cpR HF SF d i e j m)) := by
  refine c_cp2 hG hJ.1 (fun h => Or.inl ⟨h, rfl⟩) (fun h h' h0 => Or.inr ⟨⟨h, h'⟩, Or.inl ⟨?_, rfl⟩⟩) (fun h h' y y' h1 h2 => ?_)
  · rcases h0 with h0 | h0
    · have := hJ.2.2.2.2.1 _ (c_in8 h).2
      rw [h0] at this
      exact Or.inl (jed_none this)
    · have := hJ.2.2.2.2.1 _ (c_in8 h').2
      rw [h0] at this
      exact Or.inr (jed_none this)
  · have X := je_cs hG hJ (c_in8 h).2 h1
    have Y := je_cs hG hJ (c_in8 h').2 h2
    have nz : ¬ (HF d.toNatClampNeg = 0 ∨ HF e.toNatClampNeg = 0) := by
      rintro (q | q)
      · rcases X with ⟨_, _, -, e2, -⟩ | ⟨_, _, _, -, -, -, e2, -⟩ | ⟨_, _, _, -, -, -, e2, -⟩ <;> rw [e2] at q <;> exact absurd q (by decide)
      · rcases Y with ⟨_, _, -, e2, -⟩ | ⟨_, _, _, -, -, -, e2, -⟩ | ⟨_, _, _, -, -, -, e2, -⟩ <;> rw [e2] at q <;> exact absurd q (by decide)
    refine ⟨fun len len' hB => ?_, fun nL nS => ?_⟩
    · have key : ¬ (HF d.toNatClampNeg < 3 ∨ ¬ HF d.toNatClampNeg = HF e.toNatClampNeg) ∧ len ≤ 60 ∧ len' ≤ 60 ∧ SF d.toNatClampNeg = nI len ∧ SF e.toNatClampNeg = nI len' := by
        rcases hB with ⟨z, z', g, g', p1, p2, p3, p4⟩ | ⟨z, z', g, g', p1, p2, p3, p4⟩
        · rcases X with ⟨_, _, e1, -⟩ | ⟨zz, l, g1, e1, e2, e3, e4, e5⟩ | ⟨_, _, _, e1, -⟩
          · rw [p1] at e1
            cases e1
          · rw [p1] at e1
            cases e1
            rw [p3] at e2
            cases e2
            rcases Y with ⟨_, _, e1', -⟩ | ⟨zz', l', g1', e1', e2', e3', e4', e5'⟩ | ⟨_, _, _, e1', -⟩
            · rw [p2] at e1'
              cases e1'
            · rw [p2] at e1'
              cases e1'
              rw [p4] at e2'
              cases e2'
              exact ⟨by rw [e4, e4']; decide, e3, e3', e5, e5'⟩
            · rw [p2] at e1'
              cases e1'
          · rw [p1] at e1
            cases e1
        · rcases X with ⟨_, _, e1, -⟩ | ⟨_, _, _, e1, -⟩ | ⟨zz, l, g1, e1, e2, e3, e4, e5⟩
          · rw [p1] at e1
            cases e1
          · rw [p1] at e1
            cases e1
          · rw [p1] at e1
            cases e1
            rw [p3] at e2
            cases e2
            rcases Y with ⟨_, _, e1', -⟩ | ⟨_, _, _, e1', -⟩ | ⟨zz', l', g1', e1', e2', e3', e4', e5'⟩
            · rw [p2] at e1'
              cases e1'
            · rw [p2] at e1'
              cases e1'
            · rw [p2] at e1'
              cases e1'
              rw [p4] at e2'
              cases e2'
              exact ⟨by rw [e4, e4']; decide, e3, e3', e5, e5'⟩
      obtain ⟨k1, k2, k3, k4, k5⟩ := key
      refine ⟨fun hs => Or.inr ⟨⟨h, h'⟩, Or.inr ⟨nz, Or.inr ⟨k1, Or.inl ⟨?_, rfl⟩⟩⟩⟩, fun hs => Or.inr ⟨⟨h, h'⟩, Or.inr ⟨nz, Or.inr ⟨k1, Or.inr ⟨?_, rfl⟩⟩⟩⟩⟩
      · rw [k4, k5]
        exact fun h9 => hs ((sp2_iff k2 k3).mpr h9)
      · rw [k4, k5]
        exact (sp2_iff k2 k3).mp hs
    · refine Or.inr ⟨⟨h, h'⟩, Or.inr ⟨nz, Or.inl ⟨?_, rfl⟩⟩⟩
      rcases X with ⟨_, _, -, e2, -⟩ | ⟨z, len, g, e1, e2, e3, e4, e5⟩ | ⟨z, len, g, e1, e2, e3, e4, e5⟩
      · left
        rw [e2]
        decide
      · right
        rcases Y with ⟨_, _, -, e2', -⟩ | ⟨z', len', g', e1', e2', e3', e4', e5'⟩ | ⟨z', len', g', e1', e2', e3', e4', e5'⟩
        · rw [e4, e2']
          decide
        · exact absurd ⟨z, z', g, g', e1, e1', e2, e2'⟩ (nL len len')
        · rw [e4, e4']
          decide
      · right
        rcases Y with ⟨_, _, -, e2', -⟩ | ⟨z', len', g', e1', e2', e3', e4', e5'⟩ | ⟨z', len', g', e1', e2', e3', e4', e5'⟩
        · rw [e4, e2']
          decide
        · rw [e4, e4']
          decide
        · exact absurd ⟨z, z', g, g', e1, e1', e2, e2'⟩ (nS len len')
def PE (θ : Th) (S : Nat → pm_E) (n : Nat) : q_K := fun r S' n' => n ≤ n' ∧ GS θ S' n' ∧ (∀ k, k < n → S' k = S k) ∧ ∃ z : Int32, r = some (.int z)
set_option maxHeartbeats 4000000 in
theorem c_weE {d : Int32} (hG : GS θ S n) (h43 : S 43 = sh43 f) : PM (j_SL L) (j_SV xs) j_EX mm_X11_weight [.ref 0, .int d] S n (PE θ S n) := by
  have hn := gs_n hG
  obtain ⟨f0, a43, hf⟩ := gs_43 hG
  rw [h43] at a43
  cases a43
  obtain ⟨fs, k0, f0, f7, -⟩ := gs_0 hG
  have fin : ∀ u : Int32, PE θ S n (some (.int u)) S n := fun u => ⟨Nat.le_refl n, hG, fun _ _ => rfl, u, rfl⟩
  change PQ (j_SL L) (j_SV xs) j_EX mm_X11_weight 0 [.ref 0, .int d, pm_un, pm_un] [] S n 0 0 _
  refine q_iload_n rfl rfl rfl ?_
  refine q_bipush rfl rfl ?_
  refine q_cS rfl rfl (Or.inl rfl) rfl rfl trivial rfl rfl rfl rfl rfl c_wi ?_
  rintro r _ _ ⟨rfl, rfl, hr⟩
  rcases hr with ⟨q, rfl⟩ | ⟨q, rfl⟩
  · show PQ (j_SL L) (j_SV xs) j_EX mm_X11_weight 6 _ [.int 0] S n 0 0 _
    refine q_ifne rfl rfl (fun _ => ?_) (fun c => absurd rfl c)
    refine q_iconst rfl rfl ?_
    exact q_iret rfl rfl trivial (fin _)
  · show PQ (j_SL L) (j_SV xs) j_EX mm_X11_weight 6 _ [.int 1] S n 0 0 _
    refine q_ifne rfl rfl (fun c => absurd c (by decide)) (fun _ => ?_)
    obtain ⟨hin, hd8⟩ := c_in8 q
    refine q_aload_n rfl rfl rfl ?_
    refine q_getf rfl rfl (by omega) k0 f7 ?_
    refine q_iload_n rfl rfl rfl ?_
    refine q_aald rfl rfl (by omega) h43 hin ?_
    cases hfd : f d.toNatClampNeg with
    | none =>
      refine q_anl2n rfl rfl rfl rfl ?_
      refine q_aload_nN rfl rfl rfl ?_
      refine q_ifnonnullN rfl rfl ?_
      refine q_bipush rfl rfl ?_
      exact q_iret rfl rfl trivial (fin _)
    | some y =>
      obtain ⟨hy82, hxh⟩ := hf _ hd8 y hfd
      obtain ⟨hy, hcs⟩ := xh_cs hxh
      refine q_ast2n rfl rfl rfl rfl ?_
      refine q_aload_n rfl rfl rfl ?_
      refine q_ifnonnull rfl ?_
      refine q_aload_n rfl rfl rfl ?_
      rcases hcs with ⟨a, b, hs⟩ | ⟨z, len, g, hs, -⟩ | ⟨z, len, g, hs, -⟩
      · refine q_ins (idx := 317) (T := 8) rfl (by decide +kernel) hy hs rfl rfl rfl ?_
        refine q_ifeq rfl rfl (fun c => absurd c (by decide)) (fun _ => ?_)
        refine q_aload_n rfl rfl rfl ?_
        refine q_chk (idx := 317) (T := 8) rfl (by decide +kernel) hy hs rfl ?_
        refine q_ast3n rfl rfl rfl rfl ?_
        refine q_aload_n rfl rfl rfl ?_
        refine q_cV rfl rfl (Or.inl rfl) rfl rfl rfl rfl hy hs trivial rfl rfl rfl rfl rfl (c_hv2 hy hs) ?_
        rintro r _ _ ⟨rfl, rfl, rfl⟩
        show PQ (j_SL L) (j_SV xs) j_EX mm_X11_weight 41 _ [.int (wgE b)] S n 0 0 _
        refine q_goto rfl ?_
        exact q_iret rfl rfl trivial (fin _)
      · refine q_ins (idx := 317) (T := 8) rfl (by decide +kernel) hy hs rfl rfl rfl ?_
        refine q_ifeq rfl rfl (fun _ => ?_) (fun c => absurd rfl c)
        refine q_bipush rfl rfl ?_
        exact q_iret rfl rfl trivial (fin _)
      · refine q_ins (idx := 317) (T := 8) rfl (by decide +kernel) hy hs rfl rfl rfl ?_
        refine q_ifeq rfl rfl (fun _ => ?_) (fun c => absurd rfl c)
        refine q_bipush rfl rfl ?_
        exact q_iret rfl rfl trivial (fin _)
set_option maxHeartbeats 4000000 in
theorem c_toE {d : Int32} (hG : GS θ S n) (h43 : S 43 = sh43 f) : PM (j_SL L) (j_SV xs) j_EX mm_X11_toss [.ref 0, .int d] S n (PE θ S n) := by
  have hn := gs_n hG
  obtain ⟨f0, a43, hf⟩ := gs_43 hG
  rw [h43] at a43
  cases a43
  obtain ⟨fs, k0, f0, f7, -⟩ := gs_0 hG
  have fin : ∀ u : Int32, PE θ S n (some (.int u)) S n := fun u => ⟨Nat.le_refl n, hG, fun _ _ => rfl, u, rfl⟩
  change PQ (j_SL L) (j_SV xs) j_EX mm_X11_toss 0 [.ref 0, .int d, pm_un, pm_un] [] S n 0 0 _
  refine q_iload_n rfl rfl rfl ?_
  refine q_bipush rfl rfl ?_
  refine q_cS rfl rfl (Or.inl rfl) rfl rfl trivial rfl rfl rfl rfl rfl c_wi ?_
  rintro r _ _ ⟨rfl, rfl, hr⟩
  rcases hr with ⟨q, rfl⟩ | ⟨q, rfl⟩
  · show PQ (j_SL L) (j_SV xs) j_EX mm_X11_toss 6 _ [.int 0] S n 0 0 _
    refine q_ifne rfl rfl (fun _ => ?_) (fun c => absurd rfl c)
    refine q_iconst rfl rfl ?_
    exact q_iret rfl rfl trivial (fin _)
  · show PQ (j_SL L) (j_SV xs) j_EX mm_X11_toss 6 _ [.int 1] S n 0 0 _
    refine q_ifne rfl rfl (fun c => absurd c (by decide)) (fun _ => ?_)
    obtain ⟨hin, hd8⟩ := c_in8 q
    refine q_aload_n rfl rfl rfl ?_
    refine q_getf rfl rfl (by omega) k0 f7 ?_
    refine q_iload_n rfl rfl rfl ?_
    refine q_aald rfl rfl (by omega) h43 hin ?_
    cases hfd : f d.toNatClampNeg with
    | none =>
      refine q_anl2n rfl rfl rfl rfl ?_
      refine q_aload_nN rfl rfl rfl ?_
      refine q_ifnonnullN rfl rfl ?_
      refine q_bipush rfl rfl ?_
      exact q_iret rfl rfl trivial (fin _)
    | some y =>
      obtain ⟨hy82, hxh⟩ := hf _ hd8 y hfd
      obtain ⟨hy, hcs⟩ := xh_cs hxh
      refine q_ast2n rfl rfl rfl rfl ?_
      refine q_aload_n rfl rfl rfl ?_
      refine q_ifnonnull rfl ?_
      refine q_aload_n rfl rfl rfl ?_
      rcases hcs with ⟨a, b, hs⟩ | ⟨z, len, g, hs, -⟩ | ⟨z, len, g, hs, -⟩
      · refine q_ins (idx := 317) (T := 8) rfl (by decide +kernel) hy hs rfl rfl rfl ?_
        refine q_ifeq rfl rfl (fun c => absurd c (by decide)) (fun _ => ?_)
        refine q_aload_n rfl rfl rfl ?_
        refine q_chk (idx := 317) (T := 8) rfl (by decide +kernel) hy hs rfl ?_
        refine q_ast3n rfl rfl rfl rfl ?_
        refine q_aload_n rfl rfl rfl ?_
        refine q_toss hy hs (fun hb g => ?_) (fun hb => ?_)
        · refine q_goto rfl ?_
          exact q_iret rfl rfl trivial ⟨by omega, gs_ext hG (by omega) (fun j hj => u_ne (by omega)), fun k h => u_ne (by omega), _, rfl⟩
        · refine q_goto rfl ?_
          exact q_iret rfl rfl trivial (fin _)
      · refine q_ins (idx := 317) (T := 8) rfl (by decide +kernel) hy hs rfl rfl rfl ?_
        refine q_ifeq rfl rfl (fun _ => ?_) (fun c => absurd rfl c)
        refine q_bipush rfl rfl ?_
        exact q_iret rfl rfl trivial (fin _)
      · refine q_ins (idx := 317) (T := 8) rfl (by decide +kernel) hy hs rfl rfl rfl ?_
        refine q_ifeq rfl rfl (fun _ => ?_) (fun c => absurd rfl c)
        refine q_bipush rfl rfl ?_
        exact q_iret rfl rfl trivial (fin _)
theorem fr_c9 {k : Nat} {l : List Nat} (e1 : fr1 l S T1 n) (hn : 82 ≤ n) (h82 : k < 82) (q : l.contains k = false) : T1 k = S k := e1 k (by omega) q
theorem jal2_82 {j : Nat} (h : j ∈ jal2) : j < 82 ∧ j ≠ 43 ∧ j ≠ 75 ∧ j ≠ 76 ∧ j ≠ 77 ∧ j ≠ 78 ∧ j ≠ 79 ∧ j ≠ 80 := by
  have t : jal2.all (fun k => Nat.ble k 81 && (!(Nat.beq k 43) && (!(Nat.beq k 75) && (!(Nat.beq k 76) && (!(Nat.beq k 77) && (!(Nat.beq k 78) && (!(Nat.beq k 79) && !(Nat.beq k 80)))))))) = true := by decide
  have h1 := List.all_eq_true.mp t j h
  simp only [Bool.and_eq_true, Bool.not_eq_true', Nat.ble_eq] at h1
  obtain ⟨a, b1, b2, b3, b4, b5, b6, b7⟩ := h1
  have ne : ∀ x : Nat, Nat.beq j x = false → j ≠ x := fun x h9 e => by
    rw [e, show Nat.beq x x = true from Nat.beq_refl x] at h9
    cases h9
  exact ⟨by omega, ne _ b1, ne _ b2, ne _ b3, ne _ b4, ne _ b5, ne _ b6, ne _ b7⟩
theorem jar_2 {l l' : List Nat} (hn : 82 ≤ n) (hj : JAr θ S) (e1 : fr1 l S T1 n) (e2 : fr1 l' T1 T2 n) (q1 : jal2.all (fun k => !(l.contains k)) = true) (q2 : jal2.all (fun k => !(l'.contains k)) = true) : JAr θ T2 := jar_fr hj (fun j hj9 => by
  have h82 := (jal2_82 hj9).1
  exact (fr_c9 e2 hn h82 (by simpa using List.all_eq_true.mp q2 j hj9)).trans (fr_c9 e1 hn h82 (by simpa using List.all_eq_true.mp q1 j hj9)))
/-- a call that leaves all cells below n but that of the shelves, then one of the reference -/
theorem jar_3 {l : List Nat} (hn : 82 ≤ n) (hle : n ≤ n1) (hj : JAr θ S) (e1 : ∀ k, k < n → k ≠ 43 → T1 k = S k) (e2 : fr1 l T1 T2 n1) (q2 : jal2.all (fun k => !(l.contains k)) = true) : JAr θ T2 := jar_fr hj (fun j hj9 => by
  have h := jal2_82 hj9
  exact (e2 j (by omega) (by simpa using List.all_eq_true.mp q2 j hj9)).trans (e1 j (by omega) h.2.1))
theorem je_2 {l l' : List Nat} (hG : GS θ S n) (hG1 : GS θ T1 n) (hj : JE S) (e1 : fr1 l S T1 n) (e2 : fr1 l' T1 T2 n) (q1 : (l.all (fun k => Nat.ble k 81) && [43, 75, 78, 79].all (fun k => !(l.contains k))) = true) (q2 : (l'.all (fun k => Nat.ble k 81) && [43, 75, 78, 79].all (fun k => !(l'.contains k))) = true) : JE T2 := by
  rw [Bool.and_eq_true] at q1 q2
  exact je_fr1 hG1 (je_fr1 hG hj e1 q1.1 q1.2) e2 q2.1 q2.2
theorem jer_init (h : FW S) : JEr th0 S := by
  refine ⟨jar_init h, _, _, _, _, FW_43 S h, FW_75 S h, FW_78 S h, FW_79 S h, fun _ _ => Or.inl ⟨rfl, rfl⟩, fun D E z _ _ h1 _ => ?_⟩
  obtain ⟨y, t, e, -⟩ := h1
  cases e
/-- what the relation says of the run -/
theorem jer_run (hj : JAr θ S) : J2 θ S ∧ JK θ S ∧ ∃ (fs : List Value) (x : Int64) (rn : Nat → Int32), S 0 = .inr (9, fs) ∧ fs[11]? = some (.long x) ∧ S 54 = .inl (0, 20, .inl rn) ∧ (∀ i, i < 4 → rn (12 + i) = nI (e_D x (12 + i))) ∧ ∀ q, q < 3 → rn (4 * q + 1) = nI (e_D x (4 * q + 1)) := by
  obtain ⟨⟨h2, hK, hQ, f, k2, hV, hW, hr⟩, hR⟩ := hj
  obtain ⟨fs, x, rn, r0, r11, -, r54, hrn⟩ := hR f k2
  exact ⟨h2, hK, fs, x, rn, r0, r11, r54, fun i hi => (hrn _ (by omega)).trans (ra_h hW.2.1 (by omega)), fun q hq => (hrn _ (by omega)).trans (ra_k (by omega))⟩
theorem jer_keep {d w k x z z' : Int32} {x0 : Int64} {rn : Nat → Int32} {g0 : Nat → Int64} (hG : GS θ S n) (hle : n ≤ n1) (hG1 : GS θ T1 n1) (hj : JEr θ S) (e1 : ∀ j, j < n → j ≠ 43 → T1 j = S j) (e2 : fr1 [75, 76, 77, 78, 79] T1 T2 n1) (hz : kpR θ d w k x z) (hz' : kpR θ d w k x z') (h1 : (z ≠ 0 ∧ S = T1) ∨ (z = 0 ∧ ckpT θ d.toNatClampNeg w k x0 S n T1)) (h79 : T1 79 = it79 g0) (h2 : (z' ≠ 0 ∧ T1 = T2) ∨ (z' = 0 ∧ rkpT θ d.toNatClampNeg w k x g0 rn T1 T2)) (hv1 : ∀ i, i < 4 → rn (12 + i) = nI (e_D x0 (12 + i))) (hv2 : ∀ q, q < 3 → rn (4 * q + 1) = nI (e_D x0 (4 * q + 1))) : JEr θ T2 := by
  refine ⟨jar_3 (gs_n hG) hle hj.1 e1 e2 rfl, ?_⟩
  have ez := kpR_fn hz hz'
  rcases h1 with ⟨a, b⟩ | ⟨a, b⟩ <;> rcases h2 with ⟨a', b'⟩ | ⟨a', b'⟩
  · rw [← b', ← b]
    exact hj.2
  · exact absurd (ez.trans a') a
  · exact absurd (ez.symm.trans a) a'
  · have hO : kpO θ d w k x := by
      rcases hz with ⟨h, -⟩ | ⟨-, h⟩
      · exact h
      · rw [a] at h
        exact absurd h (by decide)
    exact je_keep hG hj.2 b e1 h79 b' hG1 hle (c_in8 hO.1).2 e2 hv1 hv2
theorem jer_make {d w x z z' : Int32} {g0 : Nat → Int64} (hG : GS θ S n) (hle : n ≤ n1) (hj : JEr θ S) (e1 : ∀ j, j < n → j ≠ 43 → T1 j = S j) (e2 : fr1 [75, 78, 79] T1 T2 n1) (hz : mkR d w x z) (hz' : mkR d w x z') (h79 : T1 79 = it79 g0) (h1 : (z ≠ 0 ∧ S = T1) ∨ (z = 0 ∧ mkO d w x ∧ ¬ x < 0 ∧ ∃ f, S 43 = sh43 f ∧ mkP S n f d w x T1 n1)) (h2 : (z' ≠ 0 ∧ T1 = T2) ∨ (z' = 0 ∧ ∃ hf sf : Nat → Int32, T1 75 = .inl (0, 8, .inl hf) ∧ T1 78 = .inl (0, 8, .inl sf) ∧ T2 75 = .inl (0, 8, .inl (upd hf d.toNatClampNeg w)) ∧ T2 78 = .inl (0, 8, .inl (upd sf d.toNatClampNeg x)) ∧ ∃ D, D < 8 ∧ d = nI D ∧ ∃ g, T2 79 = it79 g ∧ ioD D g0 g ∧ ∀ i, i < 60 → g (60 * D + i) = 0)) : JEr θ T2 := by
  refine ⟨jar_3 (gs_n hG) hle hj.1 e1 e2 rfl, ?_⟩
  have ez := mkR_fn hz hz'
  rcases h1 with ⟨a, b⟩ | ⟨a, hO, hx, f, b1, b2⟩ <;> rcases h2 with ⟨a', b'⟩ | ⟨a', hf, sf, c1, c2, c3, c4, D, hD, eD, g, t79, hio, hzr⟩
  · rw [← b', ← b]
    exact hj.2
  · exact absurd (ez.trans a') a
  · exact absurd (ez.symm.trans a) a'
  · exact je_make hG hj.2 hO hx b1 b2 c1 c2 c3 c4 hD eD h79 t79 hio hzr e2
/-- the class's copy: contract, answer and what it writes -/
theorem c_cp5 {d i e j m : Int32} (hG : GS θ S n) (hJ : JEf S f HF SF g) : PM (j_SL L) (j_SV xs) j_EX mm_X11_copy [.ref 0, .int d, .int i, .int e, .int j, .int m] S n (fun r S' n' => n = n' ∧ GS θ S' n ∧ (∀ k, k < 82 → S' k = S k) ∧ ∃ z : Int32, r = some (.int z) ∧ cpR HF SF d i e j m z ∧ ∃ S2, (∀ k, k < n → S' k = S2 k) ∧ ccpI S f d i e j m z S2) := by
  refine pm_weak (pm_and (c_cpE hG hJ) (c_cp4 hG hJ.1)) (fun r S' n' h => ?_)
  obtain ⟨⟨-, hG', e, -, z, hz, hR⟩, S2, eq, rfl, u, hu, hI⟩ := h
  rw [hz] at hu
  cases hu
  exact ⟨rfl, hG', e, z, hz, hR, S2, fun k hk => (hp_at eq hk).symm, hI⟩
theorem jer_copy {d i e j m z z' : Int32} {g' : Nat → Int64} (hG : GS θ S n) (hj : JAr θ S) (hJ : JEf S f HF SF g) (e1 : ∀ k, k < 82 → T1 k = S k) (e2 : fr1 [79, 80] T1 T2 n) (hz : cpR HF SF d i e j m z) (hz' : cpR HF SF d i e j m z') {S2 : Nat → pm_E} (hS2 : ∀ k, k < n → T1 k = S2 k) (h1 : ccpI S f d i e j m z S2) (t79 : T2 79 = it79 g') (h2 : cpI d i e j m z' g g') : JEr θ T2 := by
  have hn := gs_n hG
  refine ⟨jar_fr hj (fun j hj9 => ?_), je_copy hG hJ h1 h2 (cpR_fn hz hz') t79 (fun k hk hl => (e2 k hk hl).trans (hS2 k hk))⟩
  have h := jal2_82 hj9
  refine (e2 j (by omega) ?_).trans (e1 j h.1)
  cases hc : ([79, 80] : List Nat).contains j
  · rfl
  · have := List.contains_iff_mem.mp hc
    simp only [List.mem_cons, List.not_mem_nil, or_false] at this
    omega
/-- weight and toss, or another call that only adds to the heap -/
theorem jer_add {l : List Nat} (hG : GS θ S n) (hG1 : GS θ T1 n1) (hle : n ≤ n1) (hj : JEr θ S) (e1 : ∀ k, k < n → T1 k = S k) (e2 : fr1 l T1 T2 n1) (q : jal2.all (fun k => !(l.contains k)) = true) (q2 : (l.all (fun k => Nat.ble k 81) && [43, 75, 78, 79].all (fun k => !(l.contains k))) = true) : JEr θ T2 := by
  have hn := gs_n hG
  rw [Bool.and_eq_true] at q2
  exact ⟨jar_3 hn hle hj.1 (fun k h _ => e1 k h) e2 q, je_fr1 hG1 (je_fr hG hj.2 (fun k hk => e1 k (by omega))) e2 q2.1 q2.2⟩
theorem el_mid {l : List Nat} {p0 p1 : Int32} {r : Option Value} {T : Nat → pm_E} {m : Nat} (h : RL θ l S n r T m ∧ ∃ T9, hp T9 m = hp T m ∧ elK HF SF g p0 p1 S r T9 m) : n = m ∧ GS θ T n ∧ fr1 l S T n ∧ ∃ (fs : List Value) (kk : Int32) (w : Int64), r = some (.long w) ∧ T 46 = .inr (10, fs) ∧ fs[0]? = some (.int kk) ∧ elI HF SF g p0 p1 kk w := by
  obtain ⟨⟨rfl, -, hG, e⟩, T9, eq, fs, kk, w, k46, f0, hw, hI⟩ := h
  have hn := gs_n hG
  exact ⟨rfl, hG, e, fs, kk, w, hw, (hp_at eq (by omega)).symm.trans k46, f0, hI⟩
theorem lr_thr {fs : List Value} {kk : Int32} (hn : 82 ≤ n) (k46 : S 46 = .inr (10, fs)) (f0 : fs[0]? = some (.int kk)) : PM (j_SL L) (j_SV xs) j_EX mm_X12_thrown [.ref 46] S n (fun r S' n' => S = S' ∧ n = n' ∧ r = some (.int kk)) := by
  change PQ (j_SL L) (j_SV xs) j_EX mm_X12_thrown 0 [.ref 46] [] S n 0 0 _
  refine q_aload_n rfl rfl rfl ?_
  refine q_getf rfl rfl (by omega) k46 f0 ?_
  exact q_iret rfl rfl trivial ⟨rfl, rfl, rfl⟩
end TE
