/-- what a throw needs, at the law's entry -/
theorem x_D_l : ∀ w ∈ x_D, w ∈ lw_tbl := by decide +kernel
theorem x_D_t : ∀ w ∈ x_D, w.onTables = true := by decide +kernel
theorem x_NC_F : ∀ q ∈ x_NC, Cond.not (.castable q.1 q.2) ∈ j_F := by decide +kernel
theorem x_start {p : Program} {s : State} {m : MethodId} {meth : Method} {c : Code} (l : Launch) (hfl : l.stackTraces = false) {b L : Nat} {xs : Nat → Int32} (C0 : lw_At p s m meth c b L xs) : x_F s.heap.size l s s.heap := by
  obtain ⟨-, -, -, -, -, hts, -, -, -, hgv⟩ := C0
  have hF : ∀ w ∈ j_F, w.before #[Value.ref b] s = true := flat_of_before _ hgv
  have hAz : ∀ a : Nat, a < s.heap.size → ¬ pm_A s.heap.size a := fun a h1 h2 => absurd h2 (Nat.not_le.mpr h1)
  have hg : ∀ (i : Nat) (w : Cond), lw_tbl[i]? = some w → w.before #[Value.ref b] s = true := fun i w h => hts w (List.mem_of_getElem? h)
  obtain ⟨a2, -, -, -, h2, -⟩ := Cond.exactly_spec (hF (.exactly (.string "TurnSchool" 292) "java/lang/String") (by decide +kernel))
  obtain ⟨a3, -, -, -, h3, -⟩ := Cond.exactly_spec (hF (.exactly (.string "TurnSchool" 305) "java/lang/String") (by decide +kernel))
  obtain ⟨a8, -, -, -, h8, -⟩ := Cond.exactly_spec (hF (.exactly (.string "TurnSchool$Statement" 24) "java/lang/String") (by decide +kernel))
  exact ⟨hfl, ⟨a2, vk_R.of (hg 1033 _ (by decide +kernel)) h2⟩, ⟨a3, vk_R.of (hg 1040 _ (by decide +kernel)) h3⟩, ⟨a8, vk_R.of (hg 988 _ (by decide +kernel)) h8⟩,
    vx_Zqof (hg 975 _ (by decide +kernel)) (hg 100 _ (by decide +kernel)) (hF (.isRef (.static "java/lang/Throwable" "UNASSIGNED_STACK" "[Ljava/lang/StackTraceElement;")) (by decide +kernel)) hAz,
    vx_Zqof (hg 977 _ (by decide +kernel)) (hg 100 _ (by decide +kernel)) (hF (.isRef (.static "java/lang/Throwable" "SUPPRESSED_SENTINEL" "Ljava/util/List;")) (by decide +kernel)) hAz,
    fun q hq => va_Nc.of (hF _ (x_NC_F q hq)), fun w hw => va_Nw.of (x_D_t w hw) (hts w (x_D_l w hw))⟩
