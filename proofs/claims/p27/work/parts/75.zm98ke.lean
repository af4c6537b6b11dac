/-! the run's calls: both answer the same, and the run stays the same -/
section KE
variable {θ : Th} {P : PG} {S S' : Nat → pm_E} {n : Nat} {x t : Int64} {z z' a : Int32} {rn rn' : Nat → Int32} {L : Nat} {xs : Nat → Int32}
theorem rk_c {Y : pm_M} {as : List Value} {l : List Nat} {Q : Int32 → Int64 → Prop} (hn : 82 ≤ n) (h1 : PM (j_SL L) (j_SV xs) j_EX Y as S n (RIJ θ P l S n)) (h2 : PM (j_SL L) (j_SV xs) j_EX Y as S n (CP Q)) : PM (j_SL L) (j_SV xs) j_EX Y as S n (fun r S' n' => n = n' ∧ GJ θ P S' n ∧ fr1 l S S' n ∧ ∃ z : Int32, r = some (.int z) ∧ ∃ (fs' : List Value) (t : Int64), S' 0 = .inr (9, fs') ∧ fs'[11]? = some (.long t) ∧ Q z t) := pm_weak (pm_and h1 h2) (fun r S' n' h => by
  obtain ⟨⟨rfl, ⟨z, hz⟩, b, c⟩, S2, e2, fs', t, z', k0, k11, hr, hq⟩ := h
  rw [hz] at hr
  cases hr
  exact ⟨rfl, b, c, z, hz, fs', t, (hp_cell (by omega) e2).trans k0, k11, hq⟩)
theorem rk_r {Y : pm_M} {as : List Value} {l : List Nat} {Q : Int32 → (Nat → Int32) → Prop} (hn : 82 ≤ n) (h1 : PM (j_SL L) (j_SV xs) j_EX Y as S n (RIJ θ P l S n)) (h2 : PM (j_SL L) (j_SV xs) j_EX Y as S n (RP Q)) : PM (j_SL L) (j_SV xs) j_EX Y as S n (fun r S' n' => n = n' ∧ GJ θ P S' n ∧ fr1 l S S' n ∧ ∃ z : Int32, r = some (.int z) ∧ ∃ rn' : Nat → Int32, S' 54 = .inl (0, 20, .inl rn') ∧ Q z rn') := pm_weak (pm_and h1 h2) (fun r S' n' h => by
  obtain ⟨⟨rfl, ⟨z, hz⟩, b, c⟩, S2, e2, rn', z', k54, hr, hq⟩ := h
  rw [hz] at hr
  cases hr
  exact ⟨rfl, b, c, z, hz, rn', (hp_cell (by omega) e2).trans k54, hq⟩)
theorem jar_run {T1 T2 : Nat → pm_E} {f : Nat → Int32} {fs' : List Value} {l l' : List Nat} (hn : 82 ≤ n) (hj : JAr θ S) (k2 : S 2 = .inl (0, 4, .inl f)) (g : GJ θ (PGo θ f) T2 n) (e1 : fr1 l S T1 n) (e2 : fr1 l' T1 T2 n) (q1 : [1, 2, 3, 4, 5, 6].all (fun k => !(l.contains k)) = true) (q2 : [1, 2, 3, 4, 5, 6].all (fun k => !(l'.contains k)) = true) (q0 : l'.contains 0 = false) (y0 : T1 0 = .inr (9, fs')) (y11 : fs'[11]? = some (.long t)) (y54 : T2 54 = .inl (0, 20, .inl rn')) (hw : WFD (PGo θ f) 0 (e_D t) ∧ ∀ i, i < 20 → rn' i = ra (PGo θ f) (e_D t) i) : JAr θ T2 := by
  refine ⟨ja_back hn hj.1 k2 g e1 e2 q1 q2, fun f9 k29 => ?_⟩
  have e : T2 2 = S 2 := (e2 2 (by omega) (by simpa using List.all_eq_true.mp q2 2 (by decide))).trans (e1 2 (by omega) (by simpa using List.all_eq_true.mp q1 2 (by decide)))
  rw [e, k2] at k29
  cases k29
  exact ⟨fs', t, rn', (e2 0 (by omega) q0).trans y0, y11, hw.1, y54, hw.2⟩
theorem mv_eq {f : Nat → Int32} (hW : WFP P) (hx : WFD P 0 (e_D x)) (ht : WFD P 0 (e_D t)) (hrn : ∀ i, i < 20 → rn i = ra P (e_D x) i) (hf : ∀ i, i < 20 → f i = ra P (e_D t) i) (h1 : mvQ x t z) (h2 : mvR rn f z') : z = z' := by
  have h : rwE rn f ↔ x = t := by
    rw [← run_eq hW hx ht]
    exact ⟨fun h i hi => by rw [← hrn i hi, ← hf i hi]; exact h i hi, fun h i hi => by rw [hrn i hi, hf i hi]; exact h i hi⟩
  rcases h1 with ⟨a, rfl⟩ | ⟨a, rfl⟩ <;> rcases h2 with ⟨b, rfl⟩ | ⟨b, rfl⟩
  · rfl
  · exact absurd (h.mpr a) b
  · exact absurd (h.mp b) a
  · rfl
theorem start_eq (hW : WFP P) (hx : WFD P 0 (e_D x)) (hrn : ∀ i, i < 20 → rn i = ra P (e_D x) i) (h1 : sQ P x z t) (h2 : sR P rn z' rn') : z = z' ∧ WFD P 0 (e_D t) ∧ ∀ i, i < 20 → rn' i = ra P (e_D t) i := by
  obtain ⟨e, hm⟩ := h1
  obtain ⟨f, hf, hr, hm'⟩ := h2
  have ht : WFD P 0 (e_D t) := by
    rw [e]
    exact wfd_nrm hW.2.1 (wf_fir hW)
  have hf' : ∀ i, i < 20 → f i = ra P (e_D t) i := fun i hi => by
    rw [e]
    exact hf i hi
  exact ⟨mv_eq hW hx ht hrn hf' hm hm', ht, fun i hi => (hr i hi).trans (hf' i hi)⟩
theorem go_eq (hW : WFP P) (hx : WFD P 0 (e_D x)) (hrn : ∀ i, i < 20 → rn i = ra P (e_D x) i) (h1 : gQ P x a z t) (h2 : gR P (e_D x) rn a z' rn') : z = z' ∧ WFD P 0 (e_D t) ∧ ∀ i, i < 20 → rn' i = ra P (e_D t) i := by
  have h3 := hW.2.1
  rcases h1 with ⟨a1, rfl, rfl⟩ | ⟨X, hX, ea, h⟩ <;> rcases h2 with ⟨b1, b2, rfl⟩ | ⟨Y, hY, eb, h'⟩
  · exact ⟨rfl, hx, fun i hi => (b2 i hi).trans (hrn i hi)⟩
  · exact absurd (by rw [eb]; exact hPn hW hY) a1
  · exact absurd (by rw [ea]; exact hPn hW hX) b1
  · have e := nI_inj (by omega) (by omega) (ea.symm.trans eb)
    subst e
    rcases h with ⟨c, rfl, rfl⟩ | ⟨c, d, rfl⟩ <;> rcases h' with ⟨c', d', rfl⟩ | ⟨c', d', rfl⟩
    · exact ⟨rfl, hx, fun i hi => (d' i hi).trans (hrn i hi)⟩
    · exact absurd c' c
    · exact absurd c c'
    · have e := is_nrm d
      refine ⟨rfl, ?_, fun i hi => ?_⟩
      · rw [e]
        exact wfd_nrm h3 (wf_aft hW hx hX c)
      · rw [e, ra_nrm hi]
        exact d' i hi
theorem lead_eq (hW : WFP P) (hx : WFD P 0 (e_D x)) (hrn : ∀ i, i < 20 → rn i = ra P (e_D x) i) (h1 : lQ P x a z t) (h2 : lR P rn a z' rn') : z = z' ∧ WFD P 0 (e_D t) ∧ ∀ i, i < 20 → rn' i = ra P (e_D t) i := by
  have hN := (xe_wx (k := 0) hW).1.2.1
  obtain ⟨q, b, c⟩ := h1
  obtain ⟨q', b', c'⟩ := h2
  have e := rf_fn hW b b'
  subst e
  rcases c with ⟨c, rfl, rfl⟩ | ⟨c, s, hs, ea, e, hm⟩ <;> rcases c' with ⟨c', d', rfl⟩ | ⟨c', s', f, hs', ea', hf, hr, hm'⟩
  · exact ⟨rfl, hx, fun i hi => (d' i hi).trans (hrn i hi)⟩
  · exact absurd c' c
  · exact absurd c c'
  · have es := nI_inj (by omega) (by omega) (ea.symm.trans ea')
    subst es
    have ht : WFD P 0 (e_D t) := by
      rw [e]
      exact (xe_wx (k := 0) hW).1.2.2.1 s hs
    have hf' : ∀ i, i < 20 → f i = ra P (e_D t) i := fun i hi => by
      rw [e]
      exact hf i hi
    exact ⟨mv_eq hW hx ht hrn hf' hm hm', ht, fun i hi => (hr i hi).trans (hf' i hi)⟩
end KE
