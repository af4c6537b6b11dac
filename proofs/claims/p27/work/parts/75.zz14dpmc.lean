/-! THE PURE MACHINE AND THE REAL ONE: calls -/
section PMC
variable {ft : Nat → Nat → FieldType} {df : Nat → List Value} {SL : Nat → Nat} {SV : Nat → Nat → Int32} {MT : Nat → Option pm_M} {EX : pm_M → pm_C → (pm_C → Prop) → Prop}
variable {mem memN : Nat → Cond → Bool} {HO : String} {tbl nst : List Cond} {cl : List vw_C} {SN : List (String × String)} {HN : String} {XP : Launch → State → Heap → Prop}
variable {D : va_G} {tc : Nat → ClassId} {z : Nat} {sa : Nat → Nat}
theorem pm_N_moved {s U : State} (hn : ∀ w ∈ nst, pm_isN w = true) (hW : s.WarmedH U.vm) (h : pm_N nst HN s) : pm_N nst HN U := by
  refine ⟨fun w hw => ?_, h.2.moved hW.alike⟩
  have h1 := h.1 w hw
  have h2 := hn w hw
  unfold pm_isN at h2
  split at h2
  · exact va_Nw.warmF hW h1
  · exact va_Nw.warmM hW h1
  · exact va_Nw.warmC hW h1
  · cases h2
theorem pm_St_moved {s U : State} {H0 H1 : Heap} (hvm : s.vm.Alike U.vm) (hq : ∀ a : Nat, a < H0.size → ¬ pm_A z a → H1[a]? = H0[a]?) (h : pm_St SL SV SN z sa s H0) : pm_St SL SV SN z sa U H1 :=
  ⟨fun j q hj => ((h.1 j q hj).kept hq).moved hvm, fun j => ((h.2 j).kept hq).moved hvm⟩
theorem pm_U_of {l : Launch} {s U : State} {h : pm_H} {H : Heap} {locs : List Loc} (hn : ∀ w ∈ nst, pm_isN w = true) (hK : va_K D cl (pm_tys HN tc) s) (hSt : pm_St SL SV SN z sa s s.heap) (hN : pm_N nst HN s) (hz : z ≤ s.heap.size) (hJ : pm_J cl D tc z sa h H) (hS : va_S (pm_A z) s.heap H locs) (hXg : (∀ (l : Launch) (s U : State) (H H1 : Heap), s.WarmedH U.vm → (∀ a : Nat, a < H.size → ¬ pm_A z a → H1[a]? = H[a]?) → XP l s H → XP l U H1)) (hxp : XP l s s.heap) (hU : U.heap = H) (hW : s.WarmedH U.vm) : pm_U SL SV nst cl SN HN XP D tc z sa l h U := by
  refine ⟨by rw [hU]; exact hJ, va_K.moved hW.alike hK, ?_, pm_N_moved hn hW hN, ?_, ?_⟩
  · rw [hU]; exact pm_St_moved hW.alike hS.2.1 hSt
  · rw [hU]; exact Nat.le_trans hz hS.1
  · rw [hU]; exact hXg l s U s.heap H hW hS.2.1 hxp
theorem pm_N_vm {s U : State} (hn : ∀ w ∈ nst, pm_isN w = true) (hvm : s.vm = U.vm) (h : pm_N nst HN s) : pm_N nst HN U := by
  refine ⟨fun w hw => va_Nw.same ?_ hvm (h.1 w hw), h.2.moved (by rw [hvm]; exact Vm.Alike.refl _)⟩
  have h2 := hn w hw
  unfold pm_isN at h2
  split at h2
  · rfl
  · rfl
  · rfl
  · cases h2
theorem pm_blind {l : Launch} (hXg : (∀ (l : Launch) (s U : State) (H H1 : Heap), s.WarmedH U.vm → (∀ a : Nat, a < H.size → ¬ pm_A z a → H1[a]? = H[a]?) → XP l s H → XP l U H1)) (hn : ∀ w ∈ nst, pm_isN w = true) (av : List Value) (h : pm_H) : FrameBlind (va_Pc av (pm_U SL SV nst cl SN HN XP D tc z sa l h)) := by
  intro a U g mk q
  obtain ⟨q0, q1, q2, q3, q4, q5, q6⟩ := q
  exact ⟨q0, q1, va_K.moved (u := U) (U := U.calling g mk a) (Vm.Alike.refl U.vm) q2, pm_St_moved (U := U.calling g mk a) (Vm.Alike.refl U.vm) (fun _ _ _ => rfl) q3, pm_N_vm (s := U) (U := U.calling g mk a) hn rfl q4, q5, hXg l U (U.calling g mk a) U.heap U.heap (State.WarmedH.refl U) (fun _ _ _ => rfl) q6⟩
theorem pm_good (hg : ∀ w ∈ tbl, goodWord w = true) {c : Cond} (hc : c ∈ tbl) : GoodIn tbl (c :: tbl) := by
  intro w hw
  rcases List.mem_cons.mp hw with rfl | h
  · exact ⟨hc, good_of_word (hg _ hc)⟩
  · exact ⟨h, good_of_word (hg _ h)⟩
theorem pm_goodA (hg : ∀ w ∈ tbl, goodWord w = true) {ws : List Cond} {c : Cond} (hc : c ∈ tbl) (hws : ∀ w ∈ ws, w ∈ tbl) : GoodIn tbl (ws ++ (c :: tbl)) := by
  intro w hw
  rcases List.mem_append.mp hw with h | h
  · exact ⟨hws w h, good_of_word (hg _ (hws w h))⟩
  · exact pm_good hg hc w h
section
variable {p : Program} {l : Launch} {e : Env} {R : Room} {s : State} {m : MethodId} {args : Array Value} {below : List Frame} {meth : Method} {c : Code} {H : Heap} {locs : List Loc} {cells slots : Nat} {Q : State → Prop}
variable {pc : Nat} {ls : Array Slot} {rest st0 : List Value} {a : Array Value} {mc ms : Nat}
theorem pm_go {K' : pm_K} (hr : va_Run p l e R s m args below meth c H locs cells slots mc ms (F0 m pc ls st0) rest (pm_Qc cl D tc z sa K' a) (pm_A z)) (hS : va_S (pm_A z) s.heap H locs)
    (kk : ∀ (r : Option Value) (h' : pm_H) (H1 : Heap) (locs1 : List Loc), K' r h' → pm_J cl D tc z sa h' H1 → va_S (pm_A z) s.heap H1 locs1 → W p l e R s m args below meth c H1 locs1 (cells + mc) (slots + ms) Q (F0 m (pc + 3) ls ((r.map (pm_tr z sa)).toList ++ rest))) : W p l e R s m args below meth c H locs cells slots Q (F0 m pc ls st0) := by
  intro T hT X
  obtain ⟨v, st₀, t, T', L, h0, X', hL, e1, e2, ⟨⟨r, h', hv, hp, hb⟩, hz, hk⟩, st⟩ := hr T hT X
  cases hv
  rw [h0] at hz hk
  obtain ⟨t2, a1, b1⟩ := kk r h' T'.heap (locs ++ L) hp (by rw [e1]; exact hb)
    ⟨Nat.le_trans hS.1 (by rw [e1]; exact hz), fun q h1 h2 => by rw [e1, hk q (Nat.lt_of_lt_of_le h1 hS.1) h2]; exact hS.2.1 q h1 h2, fun q hq => by
      rcases List.mem_append.mp hq with h | h
      · exact hS.2.2 q h
      · exact hL q h⟩ T' rfl X'
  exact ⟨t2, st t2 a1, b1⟩
end
theorem pm_met {l : Launch} {Y : pm_M} {as : List Value} {h : pm_H} {K : pm_K} (hwf : pm_wf MT mem memN HO tbl cl SN HN Y) (hlen : pm_cat as ≤ pm_nl Y) (hs : pm_Snd SL SV MT mem memN HO tbl nst cl SN HN XP D tc z sa Y (0, pm_en (pm_nl Y) as, [], h, 0, 0) K) : pm_Met SL SV tbl nst cl SN HN XP D tc z sa l Y as h K := by
  unfold pm_Met
  refine Met.ofW (cc := pm_cd Y) (maxL := pm_nl Y) (ret := pm_rt Y) hwf.1.1 rfl ?_
  intro p e s m args below meth c s₁ B hml hv
  obtain ⟨rfl, hJ, hK, hSt, hN, hz, hxp⟩ := hv
  have hts := atoms_spec (ws := Cond.code (pm_nm Y) (pm_cd Y) (pm_nl Y) (pm_rt Y) :: tbl) B.pre
  have hown : s.vm.findClass (pm_nm Y).cls = some m.cls := findClass_of_methodNamed B.named
  have hname : (pm_nm Y).name = "<init>" → meth.name = "<init>" := fun h9 => by rw [← h9]; exact (name_of_methodNamed B.named B.method).1
  have hlocks := B.notSynchronized
  rw [lg_entry_eq]
  have key := hs p l e s m (as.map (pm_tr z sa)).toArray below meth c s.heap [] _ (MQ below (pm_Qc cl D tc z sa K) (as.map (pm_tr z sa)).toArray s (pm_rm Y).cells (pm_rm Y).slots (pm_A z)) ⟨B.exec, B.bytes, B.returns, hml, hown, fun w hw => hts w (List.mem_cons_of_mem _ hw), hlocks, hname, hK, hSt, hN, hz, hxp⟩ hwf.2.2.2.2.2.2.2 (pm_Lv_en z sa as hlen) hJ va_S.rf (Nat.zero_le _) (Nat.zero_le _) ?_
  · exact key
  · intro v h' H' locs' pc' ls' hKv hJ' hS' hend
    have hq : ∀ t : State, t.heap = H' → s.WarmedH t.vm → pm_Qc cl D tc z sa K (as.map (pm_tr z sa)).toArray s (.returned (v.map (pm_tr z sa))) t := fun t ht hW => ⟨⟨v, h', rfl, hKv, by rw [ht]; exact hJ'⟩, hS'.F ht⟩
    have hr := B.returns
    cases v with
    | none =>
      obtain ⟨hd, ht⟩ := hend
      exact W.vret B.exec B.bytes (by rw [hr]; exact ht) hq hS'.2.2 hd hlocks
    | some w =>
      cases w with
      | int x =>
        obtain ⟨hd, ty, ht, hn⟩ := hend
        exact W.zret B.exec B.bytes (by rw [hr]; exact ht) hn hq hS'.2.2 hd hlocks
      | long x =>
        obtain ⟨hd, ht⟩ := hend
        exact W.lret B.exec B.bytes (by rw [hr]; exact ht) hq hS'.2.2 hd hlocks
      | null =>
        obtain ⟨hd, n, ht⟩ := hend
        exact W.aret B.exec B.bytes (by rw [hr]; exact ht) (Or.inl ⟨n, rfl⟩) (Or.inl rfl) hq hS'.2.2 hd hlocks
      | ref x =>
        obtain ⟨hd, n, ht⟩ := hend
        exact W.aret B.exec B.bytes (by rw [hr]; exact ht) (Or.inl ⟨n, rfl⟩) (Or.inr ⟨_, rfl⟩) hq hS'.2.2 hd hlocks
      | float x => exact hend.elim
      | double x => exact hend.elim
      | retAddr x => exact hend.elim
theorem pm_wt_of {M : pm_M} (h : pm_wtb MT mem memN HO cl SN HN M = true) : pm_wt MT mem memN HO cl SN HN M := by
  intro pc q hq
  rcases Nat.lt_or_ge pc (pm_bd M) with hl | hl
  · have h1 := List.all_eq_true.mp h pc (List.mem_range.mpr hl)
    rw [hq] at h1
    simp only [Bool.and_eq_true, decide_eq_true_eq] at h1
    exact h1
  · unfold pm_look at hq
    have e : Nat.ble (pc + 1) (pm_bd M) = false := by
      cases hb : Nat.ble (pc + 1) (pm_bd M) with
      | false => rfl
      | true => have := Nat.le_of_ble_eq_true hb; omega
    rw [e] at hq
    cases hq
end PMC
