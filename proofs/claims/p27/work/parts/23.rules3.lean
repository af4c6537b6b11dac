section QX
variable {SL : Nat → Nat} {SV : Nat → Nat → Int32} {EX : pm_M → pm_C → (pm_C → Prop) → Prop} {M : pm_M} {pc q len a b : Nat} {v : Value} {L st rest : List Value} {S : Nat → pm_E} {n c s : Nat} {K : q_K}
theorem q_tn {x z : Int32} (h : x = z) (k : PQ SL SV EX M pc L (.int z :: st) S n c s K) : PQ SL SV EX M pc L (.int x :: st) S n c s K := h ▸ k
theorem q_tnl {x z : Int64} (h : x = z) (k : PQ SL SV EX M pc L (.long z :: st) S n c s K) : PQ SL SV EX M pc L (.long x :: st) S n c s K := h ▸ k
theorem q_tv {x z : Value} (h : x = z) (k : PQ SL SV EX M pc L (z :: st) S n c s K) : PQ SL SV EX M pc L (x :: st) S n c s K := h ▸ k
theorem q_tS {S2 : Nat → pm_E} (h : S = S2) (k : PQ SL SV EX M pc L st S2 n c s K) : PQ SL SV EX M pc L st S n c s K := h ▸ k
theorem q_ialdX {j : UInt32} {i x : Int32} (hl : pm_look M pc = some (.iaload, len, a, b, v)) (hq : pc + len = q) (hi : pm_inb i (SL j.toNat) = true) (hx : SV j.toNat i.toNatClampNeg = x) (kk : PQ SL SV EX M q L (.int x :: st) S n c s K) : PQ SL SV EX M pc L (.int i :: .float j :: st) S n c s K := q_ialdF hl hq hi (by rw [hx]; exact kk)
theorem q_alenX {j : UInt32} {x : Int32} (hl : pm_look M pc = some (.arraylength, len, a, b, v)) (hq : pc + len = q) (hx : Int32.ofNat (SL j.toNat) = x) (kk : PQ SL SV EX M q L (.int x :: st) S n c s K) : PQ SL SV EX M pc L (.float j :: st) S n c s K := q_alenF hl hq (by rw [hx]; exact kk)
theorem q_icc0 {i0 : Int} {x d z : Int32} (hl : pm_look M pc = some (.iinc 0 i0, len, a, b, .int d)) (hq : pc + len = q) (hk : Nat.ble 1 (pm_nl M) = true) (hz : x + d = z) (kk : PQ SL SV EX M q (.int z :: rest) st S n c s K) : PQ SL SV EX M pc (.int x :: rest) st S n c s K := q_inc0 hl hq hk (by rw [hz]; exact kk)
theorem q_icc1 {a0 : Value} {i0 : Int} {x d z : Int32} (hl : pm_look M pc = some (.iinc 1 i0, len, a, b, .int d)) (hq : pc + len = q) (hk : Nat.ble 2 (pm_nl M) = true) (hc : pm_c2 a0 = false) (hz : x + d = z) (kk : PQ SL SV EX M q (a0 :: .int z :: rest) st S n c s K) : PQ SL SV EX M pc (a0 :: .int x :: rest) st S n c s K := q_inc1 hl hq hk hc (by rw [hz]; exact kk)
theorem q_icc2 {a0 a1 : Value} {i0 : Int} {x d z : Int32} (hl : pm_look M pc = some (.iinc 2 i0, len, a, b, .int d)) (hq : pc + len = q) (hk : Nat.ble 3 (pm_nl M) = true) (hc : pm_c2 a1 = false) (hz : x + d = z) (kk : PQ SL SV EX M q (a0 :: a1 :: .int z :: rest) st S n c s K) : PQ SL SV EX M pc (a0 :: a1 :: .int x :: rest) st S n c s K := q_inc2 hl hq hk hc (by rw [hz]; exact kk)
theorem q_icc3 {a0 a1 a2 : Value} {i0 : Int} {x d z : Int32} (hl : pm_look M pc = some (.iinc 3 i0, len, a, b, .int d)) (hq : pc + len = q) (hk : Nat.ble 4 (pm_nl M) = true) (hc : pm_c2 a2 = false) (hz : x + d = z) (kk : PQ SL SV EX M q (a0 :: a1 :: a2 :: .int z :: rest) st S n c s K) : PQ SL SV EX M pc (a0 :: a1 :: a2 :: .int x :: rest) st S n c s K := q_inc3 hl hq hk hc (by rw [hz]; exact kk)
theorem q_icc4 {a0 a1 a2 a3 : Value} {i0 : Int} {x d z : Int32} (hl : pm_look M pc = some (.iinc 4 i0, len, a, b, .int d)) (hq : pc + len = q) (hk : Nat.ble 5 (pm_nl M) = true) (hc : pm_c2 a3 = false) (hz : x + d = z) (kk : PQ SL SV EX M q (a0 :: a1 :: a2 :: a3 :: .int z :: rest) st S n c s K) : PQ SL SV EX M pc (a0 :: a1 :: a2 :: a3 :: .int x :: rest) st S n c s K := q_inc4 hl hq hk hc (by rw [hz]; exact kk)
theorem q_icc5 {a0 a1 a2 a3 a4 : Value} {i0 : Int} {x d z : Int32} (hl : pm_look M pc = some (.iinc 5 i0, len, a, b, .int d)) (hq : pc + len = q) (hk : Nat.ble 6 (pm_nl M) = true) (hc : pm_c2 a4 = false) (hz : x + d = z) (kk : PQ SL SV EX M q (a0 :: a1 :: a2 :: a3 :: a4 :: .int z :: rest) st S n c s K) : PQ SL SV EX M pc (a0 :: a1 :: a2 :: a3 :: a4 :: .int x :: rest) st S n c s K := q_inc5 hl hq hk hc (by rw [hz]; exact kk)
theorem q_icc6 {a0 a1 a2 a3 a4 a5 : Value} {i0 : Int} {x d z : Int32} (hl : pm_look M pc = some (.iinc 6 i0, len, a, b, .int d)) (hq : pc + len = q) (hk : Nat.ble 7 (pm_nl M) = true) (hc : pm_c2 a5 = false) (hz : x + d = z) (kk : PQ SL SV EX M q (a0 :: a1 :: a2 :: a3 :: a4 :: a5 :: .int z :: rest) st S n c s K) : PQ SL SV EX M pc (a0 :: a1 :: a2 :: a3 :: a4 :: a5 :: .int x :: rest) st S n c s K := q_inc6 hl hq hk hc (by rw [hz]; exact kk)
theorem q_icc7 {a0 a1 a2 a3 a4 a5 a6 : Value} {i0 : Int} {x d z : Int32} (hl : pm_look M pc = some (.iinc 7 i0, len, a, b, .int d)) (hq : pc + len = q) (hk : Nat.ble 8 (pm_nl M) = true) (hc : pm_c2 a6 = false) (hz : x + d = z) (kk : PQ SL SV EX M q (a0 :: a1 :: a2 :: a3 :: a4 :: a5 :: a6 :: .int z :: rest) st S n c s K) : PQ SL SV EX M pc (a0 :: a1 :: a2 :: a3 :: a4 :: a5 :: a6 :: .int x :: rest) st S n c s K := q_inc7 hl hq hk hc (by rw [hz]; exact kk)
theorem q_icc8 {a0 a1 a2 a3 a4 a5 a6 a7 : Value} {i0 : Int} {x d z : Int32} (hl : pm_look M pc = some (.iinc 8 i0, len, a, b, .int d)) (hq : pc + len = q) (hk : Nat.ble 9 (pm_nl M) = true) (hc : pm_c2 a7 = false) (hz : x + d = z) (kk : PQ SL SV EX M q (a0 :: a1 :: a2 :: a3 :: a4 :: a5 :: a6 :: a7 :: .int z :: rest) st S n c s K) : PQ SL SV EX M pc (a0 :: a1 :: a2 :: a3 :: a4 :: a5 :: a6 :: a7 :: .int x :: rest) st S n c s K := q_inc8 hl hq hk hc (by rw [hz]; exact kk)
theorem q_icc9 {a0 a1 a2 a3 a4 a5 a6 a7 a8 : Value} {i0 : Int} {x d z : Int32} (hl : pm_look M pc = some (.iinc 9 i0, len, a, b, .int d)) (hq : pc + len = q) (hk : Nat.ble 10 (pm_nl M) = true) (hc : pm_c2 a8 = false) (hz : x + d = z) (kk : PQ SL SV EX M q (a0 :: a1 :: a2 :: a3 :: a4 :: a5 :: a6 :: a7 :: a8 :: .int z :: rest) st S n c s K) : PQ SL SV EX M pc (a0 :: a1 :: a2 :: a3 :: a4 :: a5 :: a6 :: a7 :: a8 :: .int x :: rest) st S n c s K := q_inc9 hl hq hk hc (by rw [hz]; exact kk)
theorem q_icc10 {a0 a1 a2 a3 a4 a5 a6 a7 a8 a9 : Value} {i0 : Int} {x d z : Int32} (hl : pm_look M pc = some (.iinc 10 i0, len, a, b, .int d)) (hq : pc + len = q) (hk : Nat.ble 11 (pm_nl M) = true) (hc : pm_c2 a9 = false) (hz : x + d = z) (kk : PQ SL SV EX M q (a0 :: a1 :: a2 :: a3 :: a4 :: a5 :: a6 :: a7 :: a8 :: a9 :: .int z :: rest) st S n c s K) : PQ SL SV EX M pc (a0 :: a1 :: a2 :: a3 :: a4 :: a5 :: a6 :: a7 :: a8 :: a9 :: .int x :: rest) st S n c s K := q_inc10 hl hq hk hc (by rw [hz]; exact kk)
theorem q_icc11 {a0 a1 a2 a3 a4 a5 a6 a7 a8 a9 a10 : Value} {i0 : Int} {x d z : Int32} (hl : pm_look M pc = some (.iinc 11 i0, len, a, b, .int d)) (hq : pc + len = q) (hk : Nat.ble 12 (pm_nl M) = true) (hc : pm_c2 a10 = false) (hz : x + d = z) (kk : PQ SL SV EX M q (a0 :: a1 :: a2 :: a3 :: a4 :: a5 :: a6 :: a7 :: a8 :: a9 :: a10 :: .int z :: rest) st S n c s K) : PQ SL SV EX M pc (a0 :: a1 :: a2 :: a3 :: a4 :: a5 :: a6 :: a7 :: a8 :: a9 :: a10 :: .int x :: rest) st S n c s K := q_inc11 hl hq hk hc (by rw [hz]; exact kk)
theorem q_icc12 {a0 a1 a2 a3 a4 a5 a6 a7 a8 a9 a10 a11 : Value} {i0 : Int} {x d z : Int32} (hl : pm_look M pc = some (.iinc 12 i0, len, a, b, .int d)) (hq : pc + len = q) (hk : Nat.ble 13 (pm_nl M) = true) (hc : pm_c2 a11 = false) (hz : x + d = z) (kk : PQ SL SV EX M q (a0 :: a1 :: a2 :: a3 :: a4 :: a5 :: a6 :: a7 :: a8 :: a9 :: a10 :: a11 :: .int z :: rest) st S n c s K) : PQ SL SV EX M pc (a0 :: a1 :: a2 :: a3 :: a4 :: a5 :: a6 :: a7 :: a8 :: a9 :: a10 :: a11 :: .int x :: rest) st S n c s K := q_inc12 hl hq hk hc (by rw [hz]; exact kk)
theorem q_icc13 {a0 a1 a2 a3 a4 a5 a6 a7 a8 a9 a10 a11 a12 : Value} {i0 : Int} {x d z : Int32} (hl : pm_look M pc = some (.iinc 13 i0, len, a, b, .int d)) (hq : pc + len = q) (hk : Nat.ble 14 (pm_nl M) = true) (hc : pm_c2 a12 = false) (hz : x + d = z) (kk : PQ SL SV EX M q (a0 :: a1 :: a2 :: a3 :: a4 :: a5 :: a6 :: a7 :: a8 :: a9 :: a10 :: a11 :: a12 :: .int z :: rest) st S n c s K) : PQ SL SV EX M pc (a0 :: a1 :: a2 :: a3 :: a4 :: a5 :: a6 :: a7 :: a8 :: a9 :: a10 :: a11 :: a12 :: .int x :: rest) st S n c s K := q_inc13 hl hq hk hc (by rw [hz]; exact kk)
theorem q_nV0 {i0 : Nat} {Y : pm_M} {o : Nat} (hl : pm_look M pc = some (.invokevirtual i0, len, a, b, .retAddr 0)) (hY : j_MT a = some Y) (hkd : b = 0 ∨ b = 3) (hr : (Nat.ble ((pm_rm Y).frames + 1) (pm_rm M).frames && Nat.ble (8 + (pm_nl Y + 11) + (pm_rm Y).locals) (pm_rm M).locals) = true) (hcat : (Nat.ble (pm_cat st) 8 && Nat.ble (pm_cat [] + 1) (pm_nl Y)) = true) {fs : List Value} {ci : Nat} (hci : pm_ci Y = ci) (hk : o < n) (hs : S o = .inr (ci, fs)) (hz : (pm_rm Y).cells = 0 ∧ (pm_rm Y).slots = 0) (hq : pc + 3 = q)
    (hm : PM SL SV EX Y [.ref o] S n (fun r S' n' => ∃ w0, r = some w0 ∧ PQ SL SV EX M q L (w0 :: st) S' n' c s K)) : PQ SL SV EX M pc L (.ref o :: st) S n c s K :=
  q_cV (o := o) (K' := (fun r S' n' => ∃ w0, r = some w0 ∧ PQ SL SV EX M q L (w0 :: st) S' n' c s K)) (as := [.ref o]) (rest := st) hl hY hkd hr (by simp) hcat hci hk hs (by unfold pm_cs; rw [hz.1, hz.2]; exact trivial) hq (by rw [hz.1]) (by rw [hz.2]) (by simp) (by simp) hm (by rintro r S' n' ⟨w0, rfl, h⟩; exact h)
theorem q_nV0A {i0 : Nat} {Y : pm_M} {o : Nat} (hl : pm_look M pc = some (.invokevirtual i0, len, a, b, .retAddr 0)) (hY : j_MT a = some Y) (hkd : b = 0 ∨ b = 3) (hr : (Nat.ble ((pm_rm Y).frames + 1) (pm_rm M).frames && Nat.ble (8 + (pm_nl Y + 11) + (pm_rm Y).locals) (pm_rm M).locals) = true) (hcat : (Nat.ble (pm_cat st) 8 && Nat.ble (pm_cat [] + 1) (pm_nl Y)) = true) {fs : List Value} {ci : Nat} (hci : pm_ci Y = ci) (hk : o < n) (hs : S o = .inr (ci, fs)) (hcs : pm_all (pm_cs M Y c s)) {c2 s2 : Nat} (hc2 : c + (pm_rm Y).cells = c2) (hs2 : s + (pm_rm Y).slots = s2) (hq : pc + 3 = q)
    (hm : PM SL SV EX Y [.ref o] S n (fun r S' n' => ∃ w0, r = some w0 ∧ PQ SL SV EX M q L (w0 :: st) S' n' c2 s2 K)) : PQ SL SV EX M pc L (.ref o :: st) S n c s K :=
  q_cV (o := o) (K' := (fun r S' n' => ∃ w0, r = some w0 ∧ PQ SL SV EX M q L (w0 :: st) S' n' c2 s2 K)) (as := [.ref o]) (rest := st) hl hY hkd hr (by simp) hcat hci hk hs hcs hq hc2 hs2 (by simp) (by simp) hm (by rintro r S' n' ⟨w0, rfl, h⟩; exact h)
theorem q_nV0v {i0 : Nat} {Y : pm_M} {o : Nat} (hl : pm_look M pc = some (.invokevirtual i0, len, a, b, .retAddr 0)) (hY : j_MT a = some Y) (hkd : b = 0 ∨ b = 3) (hr : (Nat.ble ((pm_rm Y).frames + 1) (pm_rm M).frames && Nat.ble (8 + (pm_nl Y + 11) + (pm_rm Y).locals) (pm_rm M).locals) = true) (hcat : (Nat.ble (pm_cat st) 8 && Nat.ble (pm_cat [] + 1) (pm_nl Y)) = true) {fs : List Value} {ci : Nat} (hci : pm_ci Y = ci) (hk : o < n) (hs : S o = .inr (ci, fs)) (hz : (pm_rm Y).cells = 0 ∧ (pm_rm Y).slots = 0) (hq : pc + 3 = q)
    (hm : PM SL SV EX Y [.ref o] S n (fun r S' n' => r = none ∧ PQ SL SV EX M q L st S' n' c s K)) : PQ SL SV EX M pc L (.ref o :: st) S n c s K :=
  q_cV (o := o) (K' := (fun r S' n' => r = none ∧ PQ SL SV EX M q L st S' n' c s K)) (as := [.ref o]) (rest := st) hl hY hkd hr (by simp) hcat hci hk hs (by unfold pm_cs; rw [hz.1, hz.2]; exact trivial) hq (by rw [hz.1]) (by rw [hz.2]) (by simp) (by simp) hm (by rintro r S' n' ⟨rfl, h⟩; exact h)
theorem q_nV0vA {i0 : Nat} {Y : pm_M} {o : Nat} (hl : pm_look M pc = some (.invokevirtual i0, len, a, b, .retAddr 0)) (hY : j_MT a = some Y) (hkd : b = 0 ∨ b = 3) (hr : (Nat.ble ((pm_rm Y).frames + 1) (pm_rm M).frames && Nat.ble (8 + (pm_nl Y + 11) + (pm_rm Y).locals) (pm_rm M).locals) = true) (hcat : (Nat.ble (pm_cat st) 8 && Nat.ble (pm_cat [] + 1) (pm_nl Y)) = true) {fs : List Value} {ci : Nat} (hci : pm_ci Y = ci) (hk : o < n) (hs : S o = .inr (ci, fs)) (hcs : pm_all (pm_cs M Y c s)) {c2 s2 : Nat} (hc2 : c + (pm_rm Y).cells = c2) (hs2 : s + (pm_rm Y).slots = s2) (hq : pc + 3 = q)
    (hm : PM SL SV EX Y [.ref o] S n (fun r S' n' => r = none ∧ PQ SL SV EX M q L st S' n' c2 s2 K)) : PQ SL SV EX M pc L (.ref o :: st) S n c s K :=
  q_cV (o := o) (K' := (fun r S' n' => r = none ∧ PQ SL SV EX M q L st S' n' c2 s2 K)) (as := [.ref o]) (rest := st) hl hY hkd hr (by simp) hcat hci hk hs hcs hq hc2 hs2 (by simp) (by simp) hm (by rintro r S' n' ⟨rfl, h⟩; exact h)
theorem q_nI0v {i0 : Nat} {Y : pm_M} {o : Nat} (hl : pm_look M pc = some (.invokespecial i0, len, a, b, .retAddr 0)) (hY : j_MT a = some Y) (hkd : b = 2 ∨ b = 5) (hr : (Nat.ble ((pm_rm Y).frames + 1) (pm_rm M).frames && Nat.ble (8 + (pm_nl Y + 11) + (pm_rm Y).locals) (pm_rm M).locals) = true) (hcat : (Nat.ble (pm_cat st) 8 && Nat.ble (pm_cat [] + 1) (pm_nl Y)) = true)  (hz : (pm_rm Y).cells = 0 ∧ (pm_rm Y).slots = 0) (hq : pc + 3 = q)
    (hm : PM SL SV EX Y [.ref o] S n (fun r S' n' => r = none ∧ PQ SL SV EX M q L st S' n' c s K)) : PQ SL SV EX M pc L (.ref o :: st) S n c s K :=
  q_cI (o := o) (K' := (fun r S' n' => r = none ∧ PQ SL SV EX M q L st S' n' c s K)) (as := [.ref o]) (rest := st) hl hY hkd hr (by simp) hcat (by unfold pm_cs; rw [hz.1, hz.2]; exact trivial) hq (by rw [hz.1]) (by rw [hz.2]) (by simp) (by simp) hm (by rintro r S' n' ⟨rfl, h⟩; exact h)
theorem q_nI0vA {i0 : Nat} {Y : pm_M} {o : Nat} (hl : pm_look M pc = some (.invokespecial i0, len, a, b, .retAddr 0)) (hY : j_MT a = some Y) (hkd : b = 2 ∨ b = 5) (hr : (Nat.ble ((pm_rm Y).frames + 1) (pm_rm M).frames && Nat.ble (8 + (pm_nl Y + 11) + (pm_rm Y).locals) (pm_rm M).locals) = true) (hcat : (Nat.ble (pm_cat st) 8 && Nat.ble (pm_cat [] + 1) (pm_nl Y)) = true)  (hcs : pm_all (pm_cs M Y c s)) {c2 s2 : Nat} (hc2 : c + (pm_rm Y).cells = c2) (hs2 : s + (pm_rm Y).slots = s2) (hq : pc + 3 = q)
    (hm : PM SL SV EX Y [.ref o] S n (fun r S' n' => r = none ∧ PQ SL SV EX M q L st S' n' c2 s2 K)) : PQ SL SV EX M pc L (.ref o :: st) S n c s K :=
  q_cI (o := o) (K' := (fun r S' n' => r = none ∧ PQ SL SV EX M q L st S' n' c2 s2 K)) (as := [.ref o]) (rest := st) hl hY hkd hr (by simp) hcat hcs hq hc2 hs2 (by simp) (by simp) hm (by rintro r S' n' ⟨rfl, h⟩; exact h)
theorem q_nS0 {i0 : Nat} {Y : pm_M} (hl : pm_look M pc = some (.invokestatic i0, len, a, b, .retAddr 0)) (hY : j_MT a = some Y) (hkd : b = 1 ∨ b = 4) (hr : (Nat.ble ((pm_rm Y).frames + 1) (pm_rm M).frames && Nat.ble (8 + (pm_nl Y + 11) + (pm_rm Y).locals) (pm_rm M).locals) = true) (hcat : (Nat.ble (pm_cat st) 8 && (Nat.ble 0 (st).length && Nat.ble (pm_cat []) (pm_nl Y))) = true)  (hz : (pm_rm Y).cells = 0 ∧ (pm_rm Y).slots = 0) (hq : pc + 3 = q)
    (hm : PM SL SV EX Y [] S n (fun r S' n' => ∃ w0, r = some w0 ∧ PQ SL SV EX M q L (w0 :: st) S' n' c s K)) : PQ SL SV EX M pc L (st) S n c s K :=
  q_cS (K' := (fun r S' n' => ∃ w0, r = some w0 ∧ PQ SL SV EX M q L (w0 :: st) S' n' c s K)) (as := []) (rest := st) hl hY hkd hr hcat (by unfold pm_cs; rw [hz.1, hz.2]; exact trivial) hq (by rw [hz.1]) (by rw [hz.2]) (by simp) (by simp) hm (by rintro r S' n' ⟨w0, rfl, h⟩; exact h)
theorem q_nS0A {i0 : Nat} {Y : pm_M} (hl : pm_look M pc = some (.invokestatic i0, len, a, b, .retAddr 0)) (hY : j_MT a = some Y) (hkd : b = 1 ∨ b = 4) (hr : (Nat.ble ((pm_rm Y).frames + 1) (pm_rm M).frames && Nat.ble (8 + (pm_nl Y + 11) + (pm_rm Y).locals) (pm_rm M).locals) = true) (hcat : (Nat.ble (pm_cat st) 8 && (Nat.ble 0 (st).length && Nat.ble (pm_cat []) (pm_nl Y))) = true)  (hcs : pm_all (pm_cs M Y c s)) {c2 s2 : Nat} (hc2 : c + (pm_rm Y).cells = c2) (hs2 : s + (pm_rm Y).slots = s2) (hq : pc + 3 = q)
    (hm : PM SL SV EX Y [] S n (fun r S' n' => ∃ w0, r = some w0 ∧ PQ SL SV EX M q L (w0 :: st) S' n' c2 s2 K)) : PQ SL SV EX M pc L (st) S n c s K :=
  q_cS (K' := (fun r S' n' => ∃ w0, r = some w0 ∧ PQ SL SV EX M q L (w0 :: st) S' n' c2 s2 K)) (as := []) (rest := st) hl hY hkd hr hcat hcs hq hc2 hs2 (by simp) (by simp) hm (by rintro r S' n' ⟨w0, rfl, h⟩; exact h)
theorem q_nS0v {i0 : Nat} {Y : pm_M} (hl : pm_look M pc = some (.invokestatic i0, len, a, b, .retAddr 0)) (hY : j_MT a = some Y) (hkd : b = 1 ∨ b = 4) (hr : (Nat.ble ((pm_rm Y).frames + 1) (pm_rm M).frames && Nat.ble (8 + (pm_nl Y + 11) + (pm_rm Y).locals) (pm_rm M).locals) = true) (hcat : (Nat.ble (pm_cat st) 8 && (Nat.ble 0 (st).length && Nat.ble (pm_cat []) (pm_nl Y))) = true)  (hz : (pm_rm Y).cells = 0 ∧ (pm_rm Y).slots = 0) (hq : pc + 3 = q)
    (hm : PM SL SV EX Y [] S n (fun r S' n' => r = none ∧ PQ SL SV EX M q L st S' n' c s K)) : PQ SL SV EX M pc L (st) S n c s K :=
  q_cS (K' := (fun r S' n' => r = none ∧ PQ SL SV EX M q L st S' n' c s K)) (as := []) (rest := st) hl hY hkd hr hcat (by unfold pm_cs; rw [hz.1, hz.2]; exact trivial) hq (by rw [hz.1]) (by rw [hz.2]) (by simp) (by simp) hm (by rintro r S' n' ⟨rfl, h⟩; exact h)
theorem q_nS0vA {i0 : Nat} {Y : pm_M} (hl : pm_look M pc = some (.invokestatic i0, len, a, b, .retAddr 0)) (hY : j_MT a = some Y) (hkd : b = 1 ∨ b = 4) (hr : (Nat.ble ((pm_rm Y).frames + 1) (pm_rm M).frames && Nat.ble (8 + (pm_nl Y + 11) + (pm_rm Y).locals) (pm_rm M).locals) = true) (hcat : (Nat.ble (pm_cat st) 8 && (Nat.ble 0 (st).length && Nat.ble (pm_cat []) (pm_nl Y))) = true)  (hcs : pm_all (pm_cs M Y c s)) {c2 s2 : Nat} (hc2 : c + (pm_rm Y).cells = c2) (hs2 : s + (pm_rm Y).slots = s2) (hq : pc + 3 = q)
    (hm : PM SL SV EX Y [] S n (fun r S' n' => r = none ∧ PQ SL SV EX M q L st S' n' c2 s2 K)) : PQ SL SV EX M pc L (st) S n c s K :=
  q_cS (K' := (fun r S' n' => r = none ∧ PQ SL SV EX M q L st S' n' c2 s2 K)) (as := []) (rest := st) hl hY hkd hr hcat hcs hq hc2 hs2 (by simp) (by simp) hm (by rintro r S' n' ⟨rfl, h⟩; exact h)
theorem q_nV1 {i0 : Nat} {Y : pm_M} {o : Nat} {w1 : Value} (hl : pm_look M pc = some (.invokevirtual i0, len, a, b, .retAddr 1)) (hY : j_MT a = some Y) (hkd : b = 0 ∨ b = 3) (hr : (Nat.ble ((pm_rm Y).frames + 1) (pm_rm M).frames && Nat.ble (8 + (pm_nl Y + 11) + (pm_rm Y).locals) (pm_rm M).locals) = true) (hcat : (Nat.ble (pm_cat st) 8 && Nat.ble (pm_cat [w1] + 1) (pm_nl Y)) = true) {fs : List Value} {ci : Nat} (hci : pm_ci Y = ci) (hk : o < n) (hs : S o = .inr (ci, fs)) (hz : (pm_rm Y).cells = 0 ∧ (pm_rm Y).slots = 0) (hq : pc + 3 = q)
    (hm : PM SL SV EX Y [.ref o, w1] S n (fun r S' n' => ∃ w0, r = some w0 ∧ PQ SL SV EX M q L (w0 :: st) S' n' c s K)) : PQ SL SV EX M pc L (w1 :: .ref o :: st) S n c s K :=
  q_cV (o := o) (K' := (fun r S' n' => ∃ w0, r = some w0 ∧ PQ SL SV EX M q L (w0 :: st) S' n' c s K)) (as := [.ref o, w1]) (rest := st) hl hY hkd hr (by simp) hcat hci hk hs (by unfold pm_cs; rw [hz.1, hz.2]; exact trivial) hq (by rw [hz.1]) (by rw [hz.2]) (by simp) (by simp) hm (by rintro r S' n' ⟨w0, rfl, h⟩; exact h)
theorem q_nV1A {i0 : Nat} {Y : pm_M} {o : Nat} {w1 : Value} (hl : pm_look M pc = some (.invokevirtual i0, len, a, b, .retAddr 1)) (hY : j_MT a = some Y) (hkd : b = 0 ∨ b = 3) (hr : (Nat.ble ((pm_rm Y).frames + 1) (pm_rm M).frames && Nat.ble (8 + (pm_nl Y + 11) + (pm_rm Y).locals) (pm_rm M).locals) = true) (hcat : (Nat.ble (pm_cat st) 8 && Nat.ble (pm_cat [w1] + 1) (pm_nl Y)) = true) {fs : List Value} {ci : Nat} (hci : pm_ci Y = ci) (hk : o < n) (hs : S o = .inr (ci, fs)) (hcs : pm_all (pm_cs M Y c s)) {c2 s2 : Nat} (hc2 : c + (pm_rm Y).cells = c2) (hs2 : s + (pm_rm Y).slots = s2) (hq : pc + 3 = q)
    (hm : PM SL SV EX Y [.ref o, w1] S n (fun r S' n' => ∃ w0, r = some w0 ∧ PQ SL SV EX M q L (w0 :: st) S' n' c2 s2 K)) : PQ SL SV EX M pc L (w1 :: .ref o :: st) S n c s K :=
  q_cV (o := o) (K' := (fun r S' n' => ∃ w0, r = some w0 ∧ PQ SL SV EX M q L (w0 :: st) S' n' c2 s2 K)) (as := [.ref o, w1]) (rest := st) hl hY hkd hr (by simp) hcat hci hk hs hcs hq hc2 hs2 (by simp) (by simp) hm (by rintro r S' n' ⟨w0, rfl, h⟩; exact h)
theorem q_nV1v {i0 : Nat} {Y : pm_M} {o : Nat} {w1 : Value} (hl : pm_look M pc = some (.invokevirtual i0, len, a, b, .retAddr 1)) (hY : j_MT a = some Y) (hkd : b = 0 ∨ b = 3) (hr : (Nat.ble ((pm_rm Y).frames + 1) (pm_rm M).frames && Nat.ble (8 + (pm_nl Y + 11) + (pm_rm Y).locals) (pm_rm M).locals) = true) (hcat : (Nat.ble (pm_cat st) 8 && Nat.ble (pm_cat [w1] + 1) (pm_nl Y)) = true) {fs : List Value} {ci : Nat} (hci : pm_ci Y = ci) (hk : o < n) (hs : S o = .inr (ci, fs)) (hz : (pm_rm Y).cells = 0 ∧ (pm_rm Y).slots = 0) (hq : pc + 3 = q)
    (hm : PM SL SV EX Y [.ref o, w1] S n (fun r S' n' => r = none ∧ PQ SL SV EX M q L st S' n' c s K)) : PQ SL SV EX M pc L (w1 :: .ref o :: st) S n c s K :=
  q_cV (o := o) (K' := (fun r S' n' => r = none ∧ PQ SL SV EX M q L st S' n' c s K)) (as := [.ref o, w1]) (rest := st) hl hY hkd hr (by simp) hcat hci hk hs (by unfold pm_cs; rw [hz.1, hz.2]; exact trivial) hq (by rw [hz.1]) (by rw [hz.2]) (by simp) (by simp) hm (by rintro r S' n' ⟨rfl, h⟩; exact h)
theorem q_nV1vA {i0 : Nat} {Y : pm_M} {o : Nat} {w1 : Value} (hl : pm_look M pc = some (.invokevirtual i0, len, a, b, .retAddr 1)) (hY : j_MT a = some Y) (hkd : b = 0 ∨ b = 3) (hr : (Nat.ble ((pm_rm Y).frames + 1) (pm_rm M).frames && Nat.ble (8 + (pm_nl Y + 11) + (pm_rm Y).locals) (pm_rm M).locals) = true) (hcat : (Nat.ble (pm_cat st) 8 && Nat.ble (pm_cat [w1] + 1) (pm_nl Y)) = true) {fs : List Value} {ci : Nat} (hci : pm_ci Y = ci) (hk : o < n) (hs : S o = .inr (ci, fs)) (hcs : pm_all (pm_cs M Y c s)) {c2 s2 : Nat} (hc2 : c + (pm_rm Y).cells = c2) (hs2 : s + (pm_rm Y).slots = s2) (hq : pc + 3 = q)
    (hm : PM SL SV EX Y [.ref o, w1] S n (fun r S' n' => r = none ∧ PQ SL SV EX M q L st S' n' c2 s2 K)) : PQ SL SV EX M pc L (w1 :: .ref o :: st) S n c s K :=
  q_cV (o := o) (K' := (fun r S' n' => r = none ∧ PQ SL SV EX M q L st S' n' c2 s2 K)) (as := [.ref o, w1]) (rest := st) hl hY hkd hr (by simp) hcat hci hk hs hcs hq hc2 hs2 (by simp) (by simp) hm (by rintro r S' n' ⟨rfl, h⟩; exact h)
theorem q_nI1v {i0 : Nat} {Y : pm_M} {o : Nat} {w1 : Value} (hl : pm_look M pc = some (.invokespecial i0, len, a, b, .retAddr 1)) (hY : j_MT a = some Y) (hkd : b = 2 ∨ b = 5) (hr : (Nat.ble ((pm_rm Y).frames + 1) (pm_rm M).frames && Nat.ble (8 + (pm_nl Y + 11) + (pm_rm Y).locals) (pm_rm M).locals) = true) (hcat : (Nat.ble (pm_cat st) 8 && Nat.ble (pm_cat [w1] + 1) (pm_nl Y)) = true)  (hz : (pm_rm Y).cells = 0 ∧ (pm_rm Y).slots = 0) (hq : pc + 3 = q)
    (hm : PM SL SV EX Y [.ref o, w1] S n (fun r S' n' => r = none ∧ PQ SL SV EX M q L st S' n' c s K)) : PQ SL SV EX M pc L (w1 :: .ref o :: st) S n c s K :=
  q_cI (o := o) (K' := (fun r S' n' => r = none ∧ PQ SL SV EX M q L st S' n' c s K)) (as := [.ref o, w1]) (rest := st) hl hY hkd hr (by simp) hcat (by unfold pm_cs; rw [hz.1, hz.2]; exact trivial) hq (by rw [hz.1]) (by rw [hz.2]) (by simp) (by simp) hm (by rintro r S' n' ⟨rfl, h⟩; exact h)
theorem q_nI1vA {i0 : Nat} {Y : pm_M} {o : Nat} {w1 : Value} (hl : pm_look M pc = some (.invokespecial i0, len, a, b, .retAddr 1)) (hY : j_MT a = some Y) (hkd : b = 2 ∨ b = 5) (hr : (Nat.ble ((pm_rm Y).frames + 1) (pm_rm M).frames && Nat.ble (8 + (pm_nl Y + 11) + (pm_rm Y).locals) (pm_rm M).locals) = true) (hcat : (Nat.ble (pm_cat st) 8 && Nat.ble (pm_cat [w1] + 1) (pm_nl Y)) = true)  (hcs : pm_all (pm_cs M Y c s)) {c2 s2 : Nat} (hc2 : c + (pm_rm Y).cells = c2) (hs2 : s + (pm_rm Y).slots = s2) (hq : pc + 3 = q)
    (hm : PM SL SV EX Y [.ref o, w1] S n (fun r S' n' => r = none ∧ PQ SL SV EX M q L st S' n' c2 s2 K)) : PQ SL SV EX M pc L (w1 :: .ref o :: st) S n c s K :=
  q_cI (o := o) (K' := (fun r S' n' => r = none ∧ PQ SL SV EX M q L st S' n' c2 s2 K)) (as := [.ref o, w1]) (rest := st) hl hY hkd hr (by simp) hcat hcs hq hc2 hs2 (by simp) (by simp) hm (by rintro r S' n' ⟨rfl, h⟩; exact h)
theorem q_nS1 {i0 : Nat} {Y : pm_M} {w1 : Value} (hl : pm_look M pc = some (.invokestatic i0, len, a, b, .retAddr 1)) (hY : j_MT a = some Y) (hkd : b = 1 ∨ b = 4) (hr : (Nat.ble ((pm_rm Y).frames + 1) (pm_rm M).frames && Nat.ble (8 + (pm_nl Y + 11) + (pm_rm Y).locals) (pm_rm M).locals) = true) (hcat : (Nat.ble (pm_cat st) 8 && (Nat.ble 1 (w1 :: st).length && Nat.ble (pm_cat [w1]) (pm_nl Y))) = true)  (hz : (pm_rm Y).cells = 0 ∧ (pm_rm Y).slots = 0) (hq : pc + 3 = q)
    (hm : PM SL SV EX Y [w1] S n (fun r S' n' => ∃ w0, r = some w0 ∧ PQ SL SV EX M q L (w0 :: st) S' n' c s K)) : PQ SL SV EX M pc L (w1 :: st) S n c s K :=
  q_cS (K' := (fun r S' n' => ∃ w0, r = some w0 ∧ PQ SL SV EX M q L (w0 :: st) S' n' c s K)) (as := [w1]) (rest := st) hl hY hkd hr hcat (by unfold pm_cs; rw [hz.1, hz.2]; exact trivial) hq (by rw [hz.1]) (by rw [hz.2]) (by simp) (by simp) hm (by rintro r S' n' ⟨w0, rfl, h⟩; exact h)
theorem q_nS1A {i0 : Nat} {Y : pm_M} {w1 : Value} (hl : pm_look M pc = some (.invokestatic i0, len, a, b, .retAddr 1)) (hY : j_MT a = some Y) (hkd : b = 1 ∨ b = 4) (hr : (Nat.ble ((pm_rm Y).frames + 1) (pm_rm M).frames && Nat.ble (8 + (pm_nl Y + 11) + (pm_rm Y).locals) (pm_rm M).locals) = true) (hcat : (Nat.ble (pm_cat st) 8 && (Nat.ble 1 (w1 :: st).length && Nat.ble (pm_cat [w1]) (pm_nl Y))) = true)  (hcs : pm_all (pm_cs M Y c s)) {c2 s2 : Nat} (hc2 : c + (pm_rm Y).cells = c2) (hs2 : s + (pm_rm Y).slots = s2) (hq : pc + 3 = q)
    (hm : PM SL SV EX Y [w1] S n (fun r S' n' => ∃ w0, r = some w0 ∧ PQ SL SV EX M q L (w0 :: st) S' n' c2 s2 K)) : PQ SL SV EX M pc L (w1 :: st) S n c s K :=
  q_cS (K' := (fun r S' n' => ∃ w0, r = some w0 ∧ PQ SL SV EX M q L (w0 :: st) S' n' c2 s2 K)) (as := [w1]) (rest := st) hl hY hkd hr hcat hcs hq hc2 hs2 (by simp) (by simp) hm (by rintro r S' n' ⟨w0, rfl, h⟩; exact h)
theorem q_nS1v {i0 : Nat} {Y : pm_M} {w1 : Value} (hl : pm_look M pc = some (.invokestatic i0, len, a, b, .retAddr 1)) (hY : j_MT a = some Y) (hkd : b = 1 ∨ b = 4) (hr : (Nat.ble ((pm_rm Y).frames + 1) (pm_rm M).frames && Nat.ble (8 + (pm_nl Y + 11) + (pm_rm Y).locals) (pm_rm M).locals) = true) (hcat : (Nat.ble (pm_cat st) 8 && (Nat.ble 1 (w1 :: st).length && Nat.ble (pm_cat [w1]) (pm_nl Y))) = true)  (hz : (pm_rm Y).cells = 0 ∧ (pm_rm Y).slots = 0) (hq : pc + 3 = q)
    (hm : PM SL SV EX Y [w1] S n (fun r S' n' => r = none ∧ PQ SL SV EX M q L st S' n' c s K)) : PQ SL SV EX M pc L (w1 :: st) S n c s K :=
  q_cS (K' := (fun r S' n' => r = none ∧ PQ SL SV EX M q L st S' n' c s K)) (as := [w1]) (rest := st) hl hY hkd hr hcat (by unfold pm_cs; rw [hz.1, hz.2]; exact trivial) hq (by rw [hz.1]) (by rw [hz.2]) (by simp) (by simp) hm (by rintro r S' n' ⟨rfl, h⟩; exact h)
theorem q_nS1vA {i0 : Nat} {Y : pm_M} {w1 : Value} (hl : pm_look M pc = some (.invokestatic i0, len, a, b, .retAddr 1)) (hY : j_MT a = some Y) (hkd : b = 1 ∨ b = 4) (hr : (Nat.ble ((pm_rm Y).frames + 1) (pm_rm M).frames && Nat.ble (8 + (pm_nl Y + 11) + (pm_rm Y).locals) (pm_rm M).locals) = true) (hcat : (Nat.ble (pm_cat st) 8 && (Nat.ble 1 (w1 :: st).length && Nat.ble (pm_cat [w1]) (pm_nl Y))) = true)  (hcs : pm_all (pm_cs M Y c s)) {c2 s2 : Nat} (hc2 : c + (pm_rm Y).cells = c2) (hs2 : s + (pm_rm Y).slots = s2) (hq : pc + 3 = q)
    (hm : PM SL SV EX Y [w1] S n (fun r S' n' => r = none ∧ PQ SL SV EX M q L st S' n' c2 s2 K)) : PQ SL SV EX M pc L (w1 :: st) S n c s K :=
  q_cS (K' := (fun r S' n' => r = none ∧ PQ SL SV EX M q L st S' n' c2 s2 K)) (as := [w1]) (rest := st) hl hY hkd hr hcat hcs hq hc2 hs2 (by simp) (by simp) hm (by rintro r S' n' ⟨rfl, h⟩; exact h)
theorem q_nV2 {i0 : Nat} {Y : pm_M} {o : Nat} {w1 w2 : Value} (hl : pm_look M pc = some (.invokevirtual i0, len, a, b, .retAddr 2)) (hY : j_MT a = some Y) (hkd : b = 0 ∨ b = 3) (hr : (Nat.ble ((pm_rm Y).frames + 1) (pm_rm M).frames && Nat.ble (8 + (pm_nl Y + 11) + (pm_rm Y).locals) (pm_rm M).locals) = true) (hcat : (Nat.ble (pm_cat st) 8 && Nat.ble (pm_cat [w2, w1] + 1) (pm_nl Y)) = true) {fs : List Value} {ci : Nat} (hci : pm_ci Y = ci) (hk : o < n) (hs : S o = .inr (ci, fs)) (hz : (pm_rm Y).cells = 0 ∧ (pm_rm Y).slots = 0) (hq : pc + 3 = q)
    (hm : PM SL SV EX Y [.ref o, w1, w2] S n (fun r S' n' => ∃ w0, r = some w0 ∧ PQ SL SV EX M q L (w0 :: st) S' n' c s K)) : PQ SL SV EX M pc L (w2 :: w1 :: .ref o :: st) S n c s K :=
  q_cV (o := o) (K' := (fun r S' n' => ∃ w0, r = some w0 ∧ PQ SL SV EX M q L (w0 :: st) S' n' c s K)) (as := [.ref o, w1, w2]) (rest := st) hl hY hkd hr (by simp) hcat hci hk hs (by unfold pm_cs; rw [hz.1, hz.2]; exact trivial) hq (by rw [hz.1]) (by rw [hz.2]) (by simp) (by simp) hm (by rintro r S' n' ⟨w0, rfl, h⟩; exact h)
theorem q_nV2A {i0 : Nat} {Y : pm_M} {o : Nat} {w1 w2 : Value} (hl : pm_look M pc = some (.invokevirtual i0, len, a, b, .retAddr 2)) (hY : j_MT a = some Y) (hkd : b = 0 ∨ b = 3) (hr : (Nat.ble ((pm_rm Y).frames + 1) (pm_rm M).frames && Nat.ble (8 + (pm_nl Y + 11) + (pm_rm Y).locals) (pm_rm M).locals) = true) (hcat : (Nat.ble (pm_cat st) 8 && Nat.ble (pm_cat [w2, w1] + 1) (pm_nl Y)) = true) {fs : List Value} {ci : Nat} (hci : pm_ci Y = ci) (hk : o < n) (hs : S o = .inr (ci, fs)) (hcs : pm_all (pm_cs M Y c s)) {c2 s2 : Nat} (hc2 : c + (pm_rm Y).cells = c2) (hs2 : s + (pm_rm Y).slots = s2) (hq : pc + 3 = q)
    (hm : PM SL SV EX Y [.ref o, w1, w2] S n (fun r S' n' => ∃ w0, r = some w0 ∧ PQ SL SV EX M q L (w0 :: st) S' n' c2 s2 K)) : PQ SL SV EX M pc L (w2 :: w1 :: .ref o :: st) S n c s K :=
  q_cV (o := o) (K' := (fun r S' n' => ∃ w0, r = some w0 ∧ PQ SL SV EX M q L (w0 :: st) S' n' c2 s2 K)) (as := [.ref o, w1, w2]) (rest := st) hl hY hkd hr (by simp) hcat hci hk hs hcs hq hc2 hs2 (by simp) (by simp) hm (by rintro r S' n' ⟨w0, rfl, h⟩; exact h)
theorem q_nV2v {i0 : Nat} {Y : pm_M} {o : Nat} {w1 w2 : Value} (hl : pm_look M pc = some (.invokevirtual i0, len, a, b, .retAddr 2)) (hY : j_MT a = some Y) (hkd : b = 0 ∨ b = 3) (hr : (Nat.ble ((pm_rm Y).frames + 1) (pm_rm M).frames && Nat.ble (8 + (pm_nl Y + 11) + (pm_rm Y).locals) (pm_rm M).locals) = true) (hcat : (Nat.ble (pm_cat st) 8 && Nat.ble (pm_cat [w2, w1] + 1) (pm_nl Y)) = true) {fs : List Value} {ci : Nat} (hci : pm_ci Y = ci) (hk : o < n) (hs : S o = .inr (ci, fs)) (hz : (pm_rm Y).cells = 0 ∧ (pm_rm Y).slots = 0) (hq : pc + 3 = q)
    (hm : PM SL SV EX Y [.ref o, w1, w2] S n (fun r S' n' => r = none ∧ PQ SL SV EX M q L st S' n' c s K)) : PQ SL SV EX M pc L (w2 :: w1 :: .ref o :: st) S n c s K :=
  q_cV (o := o) (K' := (fun r S' n' => r = none ∧ PQ SL SV EX M q L st S' n' c s K)) (as := [.ref o, w1, w2]) (rest := st) hl hY hkd hr (by simp) hcat hci hk hs (by unfold pm_cs; rw [hz.1, hz.2]; exact trivial) hq (by rw [hz.1]) (by rw [hz.2]) (by simp) (by simp) hm (by rintro r S' n' ⟨rfl, h⟩; exact h)
theorem q_nV2vA {i0 : Nat} {Y : pm_M} {o : Nat} {w1 w2 : Value} (hl : pm_look M pc = some (.invokevirtual i0, len, a, b, .retAddr 2)) (hY : j_MT a = some Y) (hkd : b = 0 ∨ b = 3) (hr : (Nat.ble ((pm_rm Y).frames + 1) (pm_rm M).frames && Nat.ble (8 + (pm_nl Y + 11) + (pm_rm Y).locals) (pm_rm M).locals) = true) (hcat : (Nat.ble (pm_cat st) 8 && Nat.ble (pm_cat [w2, w1] + 1) (pm_nl Y)) = true) {fs : List Value} {ci : Nat} (hci : pm_ci Y = ci) (hk : o < n) (hs : S o = .inr (ci, fs)) (hcs : pm_all (pm_cs M Y c s)) {c2 s2 : Nat} (hc2 : c + (pm_rm Y).cells = c2) (hs2 : s + (pm_rm Y).slots = s2) (hq : pc + 3 = q)
    (hm : PM SL SV EX Y [.ref o, w1, w2] S n (fun r S' n' => r = none ∧ PQ SL SV EX M q L st S' n' c2 s2 K)) : PQ SL SV EX M pc L (w2 :: w1 :: .ref o :: st) S n c s K :=
  q_cV (o := o) (K' := (fun r S' n' => r = none ∧ PQ SL SV EX M q L st S' n' c2 s2 K)) (as := [.ref o, w1, w2]) (rest := st) hl hY hkd hr (by simp) hcat hci hk hs hcs hq hc2 hs2 (by simp) (by simp) hm (by rintro r S' n' ⟨rfl, h⟩; exact h)
theorem q_nI2v {i0 : Nat} {Y : pm_M} {o : Nat} {w1 w2 : Value} (hl : pm_look M pc = some (.invokespecial i0, len, a, b, .retAddr 2)) (hY : j_MT a = some Y) (hkd : b = 2 ∨ b = 5) (hr : (Nat.ble ((pm_rm Y).frames + 1) (pm_rm M).frames && Nat.ble (8 + (pm_nl Y + 11) + (pm_rm Y).locals) (pm_rm M).locals) = true) (hcat : (Nat.ble (pm_cat st) 8 && Nat.ble (pm_cat [w2, w1] + 1) (pm_nl Y)) = true)  (hz : (pm_rm Y).cells = 0 ∧ (pm_rm Y).slots = 0) (hq : pc + 3 = q)
    (hm : PM SL SV EX Y [.ref o, w1, w2] S n (fun r S' n' => r = none ∧ PQ SL SV EX M q L st S' n' c s K)) : PQ SL SV EX M pc L (w2 :: w1 :: .ref o :: st) S n c s K :=
  q_cI (o := o) (K' := (fun r S' n' => r = none ∧ PQ SL SV EX M q L st S' n' c s K)) (as := [.ref o, w1, w2]) (rest := st) hl hY hkd hr (by simp) hcat (by unfold pm_cs; rw [hz.1, hz.2]; exact trivial) hq (by rw [hz.1]) (by rw [hz.2]) (by simp) (by simp) hm (by rintro r S' n' ⟨rfl, h⟩; exact h)
theorem q_nI2vA {i0 : Nat} {Y : pm_M} {o : Nat} {w1 w2 : Value} (hl : pm_look M pc = some (.invokespecial i0, len, a, b, .retAddr 2)) (hY : j_MT a = some Y) (hkd : b = 2 ∨ b = 5) (hr : (Nat.ble ((pm_rm Y).frames + 1) (pm_rm M).frames && Nat.ble (8 + (pm_nl Y + 11) + (pm_rm Y).locals) (pm_rm M).locals) = true) (hcat : (Nat.ble (pm_cat st) 8 && Nat.ble (pm_cat [w2, w1] + 1) (pm_nl Y)) = true)  (hcs : pm_all (pm_cs M Y c s)) {c2 s2 : Nat} (hc2 : c + (pm_rm Y).cells = c2) (hs2 : s + (pm_rm Y).slots = s2) (hq : pc + 3 = q)
    (hm : PM SL SV EX Y [.ref o, w1, w2] S n (fun r S' n' => r = none ∧ PQ SL SV EX M q L st S' n' c2 s2 K)) : PQ SL SV EX M pc L (w2 :: w1 :: .ref o :: st) S n c s K :=
  q_cI (o := o) (K' := (fun r S' n' => r = none ∧ PQ SL SV EX M q L st S' n' c2 s2 K)) (as := [.ref o, w1, w2]) (rest := st) hl hY hkd hr (by simp) hcat hcs hq hc2 hs2 (by simp) (by simp) hm (by rintro r S' n' ⟨rfl, h⟩; exact h)
theorem q_nS2 {i0 : Nat} {Y : pm_M} {w1 w2 : Value} (hl : pm_look M pc = some (.invokestatic i0, len, a, b, .retAddr 2)) (hY : j_MT a = some Y) (hkd : b = 1 ∨ b = 4) (hr : (Nat.ble ((pm_rm Y).frames + 1) (pm_rm M).frames && Nat.ble (8 + (pm_nl Y + 11) + (pm_rm Y).locals) (pm_rm M).locals) = true) (hcat : (Nat.ble (pm_cat st) 8 && (Nat.ble 2 (w2 :: w1 :: st).length && Nat.ble (pm_cat [w2, w1]) (pm_nl Y))) = true)  (hz : (pm_rm Y).cells = 0 ∧ (pm_rm Y).slots = 0) (hq : pc + 3 = q)
    (hm : PM SL SV EX Y [w1, w2] S n (fun r S' n' => ∃ w0, r = some w0 ∧ PQ SL SV EX M q L (w0 :: st) S' n' c s K)) : PQ SL SV EX M pc L (w2 :: w1 :: st) S n c s K :=
  q_cS (K' := (fun r S' n' => ∃ w0, r = some w0 ∧ PQ SL SV EX M q L (w0 :: st) S' n' c s K)) (as := [w1, w2]) (rest := st) hl hY hkd hr hcat (by unfold pm_cs; rw [hz.1, hz.2]; exact trivial) hq (by rw [hz.1]) (by rw [hz.2]) (by simp) (by simp) hm (by rintro r S' n' ⟨w0, rfl, h⟩; exact h)
theorem q_nS2A {i0 : Nat} {Y : pm_M} {w1 w2 : Value} (hl : pm_look M pc = some (.invokestatic i0, len, a, b, .retAddr 2)) (hY : j_MT a = some Y) (hkd : b = 1 ∨ b = 4) (hr : (Nat.ble ((pm_rm Y).frames + 1) (pm_rm M).frames && Nat.ble (8 + (pm_nl Y + 11) + (pm_rm Y).locals) (pm_rm M).locals) = true) (hcat : (Nat.ble (pm_cat st) 8 && (Nat.ble 2 (w2 :: w1 :: st).length && Nat.ble (pm_cat [w2, w1]) (pm_nl Y))) = true)  (hcs : pm_all (pm_cs M Y c s)) {c2 s2 : Nat} (hc2 : c + (pm_rm Y).cells = c2) (hs2 : s + (pm_rm Y).slots = s2) (hq : pc + 3 = q)
    (hm : PM SL SV EX Y [w1, w2] S n (fun r S' n' => ∃ w0, r = some w0 ∧ PQ SL SV EX M q L (w0 :: st) S' n' c2 s2 K)) : PQ SL SV EX M pc L (w2 :: w1 :: st) S n c s K :=
  q_cS (K' := (fun r S' n' => ∃ w0, r = some w0 ∧ PQ SL SV EX M q L (w0 :: st) S' n' c2 s2 K)) (as := [w1, w2]) (rest := st) hl hY hkd hr hcat hcs hq hc2 hs2 (by simp) (by simp) hm (by rintro r S' n' ⟨w0, rfl, h⟩; exact h)
theorem q_nS2v {i0 : Nat} {Y : pm_M} {w1 w2 : Value} (hl : pm_look M pc = some (.invokestatic i0, len, a, b, .retAddr 2)) (hY : j_MT a = some Y) (hkd : b = 1 ∨ b = 4) (hr : (Nat.ble ((pm_rm Y).frames + 1) (pm_rm M).frames && Nat.ble (8 + (pm_nl Y + 11) + (pm_rm Y).locals) (pm_rm M).locals) = true) (hcat : (Nat.ble (pm_cat st) 8 && (Nat.ble 2 (w2 :: w1 :: st).length && Nat.ble (pm_cat [w2, w1]) (pm_nl Y))) = true)  (hz : (pm_rm Y).cells = 0 ∧ (pm_rm Y).slots = 0) (hq : pc + 3 = q)
    (hm : PM SL SV EX Y [w1, w2] S n (fun r S' n' => r = none ∧ PQ SL SV EX M q L st S' n' c s K)) : PQ SL SV EX M pc L (w2 :: w1 :: st) S n c s K :=
  q_cS (K' := (fun r S' n' => r = none ∧ PQ SL SV EX M q L st S' n' c s K)) (as := [w1, w2]) (rest := st) hl hY hkd hr hcat (by unfold pm_cs; rw [hz.1, hz.2]; exact trivial) hq (by rw [hz.1]) (by rw [hz.2]) (by simp) (by simp) hm (by rintro r S' n' ⟨rfl, h⟩; exact h)
theorem q_nS2vA {i0 : Nat} {Y : pm_M} {w1 w2 : Value} (hl : pm_look M pc = some (.invokestatic i0, len, a, b, .retAddr 2)) (hY : j_MT a = some Y) (hkd : b = 1 ∨ b = 4) (hr : (Nat.ble ((pm_rm Y).frames + 1) (pm_rm M).frames && Nat.ble (8 + (pm_nl Y + 11) + (pm_rm Y).locals) (pm_rm M).locals) = true) (hcat : (Nat.ble (pm_cat st) 8 && (Nat.ble 2 (w2 :: w1 :: st).length && Nat.ble (pm_cat [w2, w1]) (pm_nl Y))) = true)  (hcs : pm_all (pm_cs M Y c s)) {c2 s2 : Nat} (hc2 : c + (pm_rm Y).cells = c2) (hs2 : s + (pm_rm Y).slots = s2) (hq : pc + 3 = q)
    (hm : PM SL SV EX Y [w1, w2] S n (fun r S' n' => r = none ∧ PQ SL SV EX M q L st S' n' c2 s2 K)) : PQ SL SV EX M pc L (w2 :: w1 :: st) S n c s K :=
  q_cS (K' := (fun r S' n' => r = none ∧ PQ SL SV EX M q L st S' n' c2 s2 K)) (as := [w1, w2]) (rest := st) hl hY hkd hr hcat hcs hq hc2 hs2 (by simp) (by simp) hm (by rintro r S' n' ⟨rfl, h⟩; exact h)
theorem q_nV3 {i0 : Nat} {Y : pm_M} {o : Nat} {w1 w2 w3 : Value} (hl : pm_look M pc = some (.invokevirtual i0, len, a, b, .retAddr 3)) (hY : j_MT a = some Y) (hkd : b = 0 ∨ b = 3) (hr : (Nat.ble ((pm_rm Y).frames + 1) (pm_rm M).frames && Nat.ble (8 + (pm_nl Y + 11) + (pm_rm Y).locals) (pm_rm M).locals) = true) (hcat : (Nat.ble (pm_cat st) 8 && Nat.ble (pm_cat [w3, w2, w1] + 1) (pm_nl Y)) = true) {fs : List Value} {ci : Nat} (hci : pm_ci Y = ci) (hk : o < n) (hs : S o = .inr (ci, fs)) (hz : (pm_rm Y).cells = 0 ∧ (pm_rm Y).slots = 0) (hq : pc + 3 = q)
    (hm : PM SL SV EX Y [.ref o, w1, w2, w3] S n (fun r S' n' => ∃ w0, r = some w0 ∧ PQ SL SV EX M q L (w0 :: st) S' n' c s K)) : PQ SL SV EX M pc L (w3 :: w2 :: w1 :: .ref o :: st) S n c s K :=
  q_cV (o := o) (K' := (fun r S' n' => ∃ w0, r = some w0 ∧ PQ SL SV EX M q L (w0 :: st) S' n' c s K)) (as := [.ref o, w1, w2, w3]) (rest := st) hl hY hkd hr (by simp) hcat hci hk hs (by unfold pm_cs; rw [hz.1, hz.2]; exact trivial) hq (by rw [hz.1]) (by rw [hz.2]) (by simp) (by simp) hm (by rintro r S' n' ⟨w0, rfl, h⟩; exact h)
theorem q_nV3A {i0 : Nat} {Y : pm_M} {o : Nat} {w1 w2 w3 : Value} (hl : pm_look M pc = some (.invokevirtual i0, len, a, b, .retAddr 3)) (hY : j_MT a = some Y) (hkd : b = 0 ∨ b = 3) (hr : (Nat.ble ((pm_rm Y).frames + 1) (pm_rm M).frames && Nat.ble (8 + (pm_nl Y + 11) + (pm_rm Y).locals) (pm_rm M).locals) = true) (hcat : (Nat.ble (pm_cat st) 8 && Nat.ble (pm_cat [w3, w2, w1] + 1) (pm_nl Y)) = true) {fs : List Value} {ci : Nat} (hci : pm_ci Y = ci) (hk : o < n) (hs : S o = .inr (ci, fs)) (hcs : pm_all (pm_cs M Y c s)) {c2 s2 : Nat} (hc2 : c + (pm_rm Y).cells = c2) (hs2 : s + (pm_rm Y).slots = s2) (hq : pc + 3 = q)
    (hm : PM SL SV EX Y [.ref o, w1, w2, w3] S n (fun r S' n' => ∃ w0, r = some w0 ∧ PQ SL SV EX M q L (w0 :: st) S' n' c2 s2 K)) : PQ SL SV EX M pc L (w3 :: w2 :: w1 :: .ref o :: st) S n c s K :=
  q_cV (o := o) (K' := (fun r S' n' => ∃ w0, r = some w0 ∧ PQ SL SV EX M q L (w0 :: st) S' n' c2 s2 K)) (as := [.ref o, w1, w2, w3]) (rest := st) hl hY hkd hr (by simp) hcat hci hk hs hcs hq hc2 hs2 (by simp) (by simp) hm (by rintro r S' n' ⟨w0, rfl, h⟩; exact h)
theorem q_nV3v {i0 : Nat} {Y : pm_M} {o : Nat} {w1 w2 w3 : Value} (hl : pm_look M pc = some (.invokevirtual i0, len, a, b, .retAddr 3)) (hY : j_MT a = some Y) (hkd : b = 0 ∨ b = 3) (hr : (Nat.ble ((pm_rm Y).frames + 1) (pm_rm M).frames && Nat.ble (8 + (pm_nl Y + 11) + (pm_rm Y).locals) (pm_rm M).locals) = true) (hcat : (Nat.ble (pm_cat st) 8 && Nat.ble (pm_cat [w3, w2, w1] + 1) (pm_nl Y)) = true) {fs : List Value} {ci : Nat} (hci : pm_ci Y = ci) (hk : o < n) (hs : S o = .inr (ci, fs)) (hz : (pm_rm Y).cells = 0 ∧ (pm_rm Y).slots = 0) (hq : pc + 3 = q)
    (hm : PM SL SV EX Y [.ref o, w1, w2, w3] S n (fun r S' n' => r = none ∧ PQ SL SV EX M q L st S' n' c s K)) : PQ SL SV EX M pc L (w3 :: w2 :: w1 :: .ref o :: st) S n c s K :=
  q_cV (o := o) (K' := (fun r S' n' => r = none ∧ PQ SL SV EX M q L st S' n' c s K)) (as := [.ref o, w1, w2, w3]) (rest := st) hl hY hkd hr (by simp) hcat hci hk hs (by unfold pm_cs; rw [hz.1, hz.2]; exact trivial) hq (by rw [hz.1]) (by rw [hz.2]) (by simp) (by simp) hm (by rintro r S' n' ⟨rfl, h⟩; exact h)
theorem q_nV3vA {i0 : Nat} {Y : pm_M} {o : Nat} {w1 w2 w3 : Value} (hl : pm_look M pc = some (.invokevirtual i0, len, a, b, .retAddr 3)) (hY : j_MT a = some Y) (hkd : b = 0 ∨ b = 3) (hr : (Nat.ble ((pm_rm Y).frames + 1) (pm_rm M).frames && Nat.ble (8 + (pm_nl Y + 11) + (pm_rm Y).locals) (pm_rm M).locals) = true) (hcat : (Nat.ble (pm_cat st) 8 && Nat.ble (pm_cat [w3, w2, w1] + 1) (pm_nl Y)) = true) {fs : List Value} {ci : Nat} (hci : pm_ci Y = ci) (hk : o < n) (hs : S o = .inr (ci, fs)) (hcs : pm_all (pm_cs M Y c s)) {c2 s2 : Nat} (hc2 : c + (pm_rm Y).cells = c2) (hs2 : s + (pm_rm Y).slots = s2) (hq : pc + 3 = q)
    (hm : PM SL SV EX Y [.ref o, w1, w2, w3] S n (fun r S' n' => r = none ∧ PQ SL SV EX M q L st S' n' c2 s2 K)) : PQ SL SV EX M pc L (w3 :: w2 :: w1 :: .ref o :: st) S n c s K :=
  q_cV (o := o) (K' := (fun r S' n' => r = none ∧ PQ SL SV EX M q L st S' n' c2 s2 K)) (as := [.ref o, w1, w2, w3]) (rest := st) hl hY hkd hr (by simp) hcat hci hk hs hcs hq hc2 hs2 (by simp) (by simp) hm (by rintro r S' n' ⟨rfl, h⟩; exact h)
theorem q_nS3 {i0 : Nat} {Y : pm_M} {w1 w2 w3 : Value} (hl : pm_look M pc = some (.invokestatic i0, len, a, b, .retAddr 3)) (hY : j_MT a = some Y) (hkd : b = 1 ∨ b = 4) (hr : (Nat.ble ((pm_rm Y).frames + 1) (pm_rm M).frames && Nat.ble (8 + (pm_nl Y + 11) + (pm_rm Y).locals) (pm_rm M).locals) = true) (hcat : (Nat.ble (pm_cat st) 8 && (Nat.ble 3 (w3 :: w2 :: w1 :: st).length && Nat.ble (pm_cat [w3, w2, w1]) (pm_nl Y))) = true)  (hz : (pm_rm Y).cells = 0 ∧ (pm_rm Y).slots = 0) (hq : pc + 3 = q)
    (hm : PM SL SV EX Y [w1, w2, w3] S n (fun r S' n' => ∃ w0, r = some w0 ∧ PQ SL SV EX M q L (w0 :: st) S' n' c s K)) : PQ SL SV EX M pc L (w3 :: w2 :: w1 :: st) S n c s K :=
  q_cS (K' := (fun r S' n' => ∃ w0, r = some w0 ∧ PQ SL SV EX M q L (w0 :: st) S' n' c s K)) (as := [w1, w2, w3]) (rest := st) hl hY hkd hr hcat (by unfold pm_cs; rw [hz.1, hz.2]; exact trivial) hq (by rw [hz.1]) (by rw [hz.2]) (by simp) (by simp) hm (by rintro r S' n' ⟨w0, rfl, h⟩; exact h)
theorem q_nS3A {i0 : Nat} {Y : pm_M} {w1 w2 w3 : Value} (hl : pm_look M pc = some (.invokestatic i0, len, a, b, .retAddr 3)) (hY : j_MT a = some Y) (hkd : b = 1 ∨ b = 4) (hr : (Nat.ble ((pm_rm Y).frames + 1) (pm_rm M).frames && Nat.ble (8 + (pm_nl Y + 11) + (pm_rm Y).locals) (pm_rm M).locals) = true) (hcat : (Nat.ble (pm_cat st) 8 && (Nat.ble 3 (w3 :: w2 :: w1 :: st).length && Nat.ble (pm_cat [w3, w2, w1]) (pm_nl Y))) = true)  (hcs : pm_all (pm_cs M Y c s)) {c2 s2 : Nat} (hc2 : c + (pm_rm Y).cells = c2) (hs2 : s + (pm_rm Y).slots = s2) (hq : pc + 3 = q)
    (hm : PM SL SV EX Y [w1, w2, w3] S n (fun r S' n' => ∃ w0, r = some w0 ∧ PQ SL SV EX M q L (w0 :: st) S' n' c2 s2 K)) : PQ SL SV EX M pc L (w3 :: w2 :: w1 :: st) S n c s K :=
  q_cS (K' := (fun r S' n' => ∃ w0, r = some w0 ∧ PQ SL SV EX M q L (w0 :: st) S' n' c2 s2 K)) (as := [w1, w2, w3]) (rest := st) hl hY hkd hr hcat hcs hq hc2 hs2 (by simp) (by simp) hm (by rintro r S' n' ⟨w0, rfl, h⟩; exact h)
theorem q_nS3v {i0 : Nat} {Y : pm_M} {w1 w2 w3 : Value} (hl : pm_look M pc = some (.invokestatic i0, len, a, b, .retAddr 3)) (hY : j_MT a = some Y) (hkd : b = 1 ∨ b = 4) (hr : (Nat.ble ((pm_rm Y).frames + 1) (pm_rm M).frames && Nat.ble (8 + (pm_nl Y + 11) + (pm_rm Y).locals) (pm_rm M).locals) = true) (hcat : (Nat.ble (pm_cat st) 8 && (Nat.ble 3 (w3 :: w2 :: w1 :: st).length && Nat.ble (pm_cat [w3, w2, w1]) (pm_nl Y))) = true)  (hz : (pm_rm Y).cells = 0 ∧ (pm_rm Y).slots = 0) (hq : pc + 3 = q)
    (hm : PM SL SV EX Y [w1, w2, w3] S n (fun r S' n' => r = none ∧ PQ SL SV EX M q L st S' n' c s K)) : PQ SL SV EX M pc L (w3 :: w2 :: w1 :: st) S n c s K :=
  q_cS (K' := (fun r S' n' => r = none ∧ PQ SL SV EX M q L st S' n' c s K)) (as := [w1, w2, w3]) (rest := st) hl hY hkd hr hcat (by unfold pm_cs; rw [hz.1, hz.2]; exact trivial) hq (by rw [hz.1]) (by rw [hz.2]) (by simp) (by simp) hm (by rintro r S' n' ⟨rfl, h⟩; exact h)
theorem q_nS3vA {i0 : Nat} {Y : pm_M} {w1 w2 w3 : Value} (hl : pm_look M pc = some (.invokestatic i0, len, a, b, .retAddr 3)) (hY : j_MT a = some Y) (hkd : b = 1 ∨ b = 4) (hr : (Nat.ble ((pm_rm Y).frames + 1) (pm_rm M).frames && Nat.ble (8 + (pm_nl Y + 11) + (pm_rm Y).locals) (pm_rm M).locals) = true) (hcat : (Nat.ble (pm_cat st) 8 && (Nat.ble 3 (w3 :: w2 :: w1 :: st).length && Nat.ble (pm_cat [w3, w2, w1]) (pm_nl Y))) = true)  (hcs : pm_all (pm_cs M Y c s)) {c2 s2 : Nat} (hc2 : c + (pm_rm Y).cells = c2) (hs2 : s + (pm_rm Y).slots = s2) (hq : pc + 3 = q)
    (hm : PM SL SV EX Y [w1, w2, w3] S n (fun r S' n' => r = none ∧ PQ SL SV EX M q L st S' n' c2 s2 K)) : PQ SL SV EX M pc L (w3 :: w2 :: w1 :: st) S n c s K :=
  q_cS (K' := (fun r S' n' => r = none ∧ PQ SL SV EX M q L st S' n' c2 s2 K)) (as := [w1, w2, w3]) (rest := st) hl hY hkd hr hcat hcs hq hc2 hs2 (by simp) (by simp) hm (by rintro r S' n' ⟨rfl, h⟩; exact h)
theorem q_nV4 {i0 : Nat} {Y : pm_M} {o : Nat} {w1 w2 w3 w4 : Value} (hl : pm_look M pc = some (.invokevirtual i0, len, a, b, .retAddr 4)) (hY : j_MT a = some Y) (hkd : b = 0 ∨ b = 3) (hr : (Nat.ble ((pm_rm Y).frames + 1) (pm_rm M).frames && Nat.ble (8 + (pm_nl Y + 11) + (pm_rm Y).locals) (pm_rm M).locals) = true) (hcat : (Nat.ble (pm_cat st) 8 && Nat.ble (pm_cat [w4, w3, w2, w1] + 1) (pm_nl Y)) = true) {fs : List Value} {ci : Nat} (hci : pm_ci Y = ci) (hk : o < n) (hs : S o = .inr (ci, fs)) (hz : (pm_rm Y).cells = 0 ∧ (pm_rm Y).slots = 0) (hq : pc + 3 = q)
    (hm : PM SL SV EX Y [.ref o, w1, w2, w3, w4] S n (fun r S' n' => ∃ w0, r = some w0 ∧ PQ SL SV EX M q L (w0 :: st) S' n' c s K)) : PQ SL SV EX M pc L (w4 :: w3 :: w2 :: w1 :: .ref o :: st) S n c s K :=
  q_cV (o := o) (K' := (fun r S' n' => ∃ w0, r = some w0 ∧ PQ SL SV EX M q L (w0 :: st) S' n' c s K)) (as := [.ref o, w1, w2, w3, w4]) (rest := st) hl hY hkd hr (by simp) hcat hci hk hs (by unfold pm_cs; rw [hz.1, hz.2]; exact trivial) hq (by rw [hz.1]) (by rw [hz.2]) (by simp) (by simp) hm (by rintro r S' n' ⟨w0, rfl, h⟩; exact h)
theorem q_nV4A {i0 : Nat} {Y : pm_M} {o : Nat} {w1 w2 w3 w4 : Value} (hl : pm_look M pc = some (.invokevirtual i0, len, a, b, .retAddr 4)) (hY : j_MT a = some Y) (hkd : b = 0 ∨ b = 3) (hr : (Nat.ble ((pm_rm Y).frames + 1) (pm_rm M).frames && Nat.ble (8 + (pm_nl Y + 11) + (pm_rm Y).locals) (pm_rm M).locals) = true) (hcat : (Nat.ble (pm_cat st) 8 && Nat.ble (pm_cat [w4, w3, w2, w1] + 1) (pm_nl Y)) = true) {fs : List Value} {ci : Nat} (hci : pm_ci Y = ci) (hk : o < n) (hs : S o = .inr (ci, fs)) (hcs : pm_all (pm_cs M Y c s)) {c2 s2 : Nat} (hc2 : c + (pm_rm Y).cells = c2) (hs2 : s + (pm_rm Y).slots = s2) (hq : pc + 3 = q)
    (hm : PM SL SV EX Y [.ref o, w1, w2, w3, w4] S n (fun r S' n' => ∃ w0, r = some w0 ∧ PQ SL SV EX M q L (w0 :: st) S' n' c2 s2 K)) : PQ SL SV EX M pc L (w4 :: w3 :: w2 :: w1 :: .ref o :: st) S n c s K :=
  q_cV (o := o) (K' := (fun r S' n' => ∃ w0, r = some w0 ∧ PQ SL SV EX M q L (w0 :: st) S' n' c2 s2 K)) (as := [.ref o, w1, w2, w3, w4]) (rest := st) hl hY hkd hr (by simp) hcat hci hk hs hcs hq hc2 hs2 (by simp) (by simp) hm (by rintro r S' n' ⟨w0, rfl, h⟩; exact h)
theorem q_nV4v {i0 : Nat} {Y : pm_M} {o : Nat} {w1 w2 w3 w4 : Value} (hl : pm_look M pc = some (.invokevirtual i0, len, a, b, .retAddr 4)) (hY : j_MT a = some Y) (hkd : b = 0 ∨ b = 3) (hr : (Nat.ble ((pm_rm Y).frames + 1) (pm_rm M).frames && Nat.ble (8 + (pm_nl Y + 11) + (pm_rm Y).locals) (pm_rm M).locals) = true) (hcat : (Nat.ble (pm_cat st) 8 && Nat.ble (pm_cat [w4, w3, w2, w1] + 1) (pm_nl Y)) = true) {fs : List Value} {ci : Nat} (hci : pm_ci Y = ci) (hk : o < n) (hs : S o = .inr (ci, fs)) (hz : (pm_rm Y).cells = 0 ∧ (pm_rm Y).slots = 0) (hq : pc + 3 = q)
    (hm : PM SL SV EX Y [.ref o, w1, w2, w3, w4] S n (fun r S' n' => r = none ∧ PQ SL SV EX M q L st S' n' c s K)) : PQ SL SV EX M pc L (w4 :: w3 :: w2 :: w1 :: .ref o :: st) S n c s K :=
  q_cV (o := o) (K' := (fun r S' n' => r = none ∧ PQ SL SV EX M q L st S' n' c s K)) (as := [.ref o, w1, w2, w3, w4]) (rest := st) hl hY hkd hr (by simp) hcat hci hk hs (by unfold pm_cs; rw [hz.1, hz.2]; exact trivial) hq (by rw [hz.1]) (by rw [hz.2]) (by simp) (by simp) hm (by rintro r S' n' ⟨rfl, h⟩; exact h)
theorem q_nV4vA {i0 : Nat} {Y : pm_M} {o : Nat} {w1 w2 w3 w4 : Value} (hl : pm_look M pc = some (.invokevirtual i0, len, a, b, .retAddr 4)) (hY : j_MT a = some Y) (hkd : b = 0 ∨ b = 3) (hr : (Nat.ble ((pm_rm Y).frames + 1) (pm_rm M).frames && Nat.ble (8 + (pm_nl Y + 11) + (pm_rm Y).locals) (pm_rm M).locals) = true) (hcat : (Nat.ble (pm_cat st) 8 && Nat.ble (pm_cat [w4, w3, w2, w1] + 1) (pm_nl Y)) = true) {fs : List Value} {ci : Nat} (hci : pm_ci Y = ci) (hk : o < n) (hs : S o = .inr (ci, fs)) (hcs : pm_all (pm_cs M Y c s)) {c2 s2 : Nat} (hc2 : c + (pm_rm Y).cells = c2) (hs2 : s + (pm_rm Y).slots = s2) (hq : pc + 3 = q)
    (hm : PM SL SV EX Y [.ref o, w1, w2, w3, w4] S n (fun r S' n' => r = none ∧ PQ SL SV EX M q L st S' n' c2 s2 K)) : PQ SL SV EX M pc L (w4 :: w3 :: w2 :: w1 :: .ref o :: st) S n c s K :=
  q_cV (o := o) (K' := (fun r S' n' => r = none ∧ PQ SL SV EX M q L st S' n' c2 s2 K)) (as := [.ref o, w1, w2, w3, w4]) (rest := st) hl hY hkd hr (by simp) hcat hci hk hs hcs hq hc2 hs2 (by simp) (by simp) hm (by rintro r S' n' ⟨rfl, h⟩; exact h)
theorem q_nS4 {i0 : Nat} {Y : pm_M} {w1 w2 w3 w4 : Value} (hl : pm_look M pc = some (.invokestatic i0, len, a, b, .retAddr 4)) (hY : j_MT a = some Y) (hkd : b = 1 ∨ b = 4) (hr : (Nat.ble ((pm_rm Y).frames + 1) (pm_rm M).frames && Nat.ble (8 + (pm_nl Y + 11) + (pm_rm Y).locals) (pm_rm M).locals) = true) (hcat : (Nat.ble (pm_cat st) 8 && (Nat.ble 4 (w4 :: w3 :: w2 :: w1 :: st).length && Nat.ble (pm_cat [w4, w3, w2, w1]) (pm_nl Y))) = true)  (hz : (pm_rm Y).cells = 0 ∧ (pm_rm Y).slots = 0) (hq : pc + 3 = q)
    (hm : PM SL SV EX Y [w1, w2, w3, w4] S n (fun r S' n' => ∃ w0, r = some w0 ∧ PQ SL SV EX M q L (w0 :: st) S' n' c s K)) : PQ SL SV EX M pc L (w4 :: w3 :: w2 :: w1 :: st) S n c s K :=
  q_cS (K' := (fun r S' n' => ∃ w0, r = some w0 ∧ PQ SL SV EX M q L (w0 :: st) S' n' c s K)) (as := [w1, w2, w3, w4]) (rest := st) hl hY hkd hr hcat (by unfold pm_cs; rw [hz.1, hz.2]; exact trivial) hq (by rw [hz.1]) (by rw [hz.2]) (by simp) (by simp) hm (by rintro r S' n' ⟨w0, rfl, h⟩; exact h)
theorem q_nS4A {i0 : Nat} {Y : pm_M} {w1 w2 w3 w4 : Value} (hl : pm_look M pc = some (.invokestatic i0, len, a, b, .retAddr 4)) (hY : j_MT a = some Y) (hkd : b = 1 ∨ b = 4) (hr : (Nat.ble ((pm_rm Y).frames + 1) (pm_rm M).frames && Nat.ble (8 + (pm_nl Y + 11) + (pm_rm Y).locals) (pm_rm M).locals) = true) (hcat : (Nat.ble (pm_cat st) 8 && (Nat.ble 4 (w4 :: w3 :: w2 :: w1 :: st).length && Nat.ble (pm_cat [w4, w3, w2, w1]) (pm_nl Y))) = true)  (hcs : pm_all (pm_cs M Y c s)) {c2 s2 : Nat} (hc2 : c + (pm_rm Y).cells = c2) (hs2 : s + (pm_rm Y).slots = s2) (hq : pc + 3 = q)
    (hm : PM SL SV EX Y [w1, w2, w3, w4] S n (fun r S' n' => ∃ w0, r = some w0 ∧ PQ SL SV EX M q L (w0 :: st) S' n' c2 s2 K)) : PQ SL SV EX M pc L (w4 :: w3 :: w2 :: w1 :: st) S n c s K :=
  q_cS (K' := (fun r S' n' => ∃ w0, r = some w0 ∧ PQ SL SV EX M q L (w0 :: st) S' n' c2 s2 K)) (as := [w1, w2, w3, w4]) (rest := st) hl hY hkd hr hcat hcs hq hc2 hs2 (by simp) (by simp) hm (by rintro r S' n' ⟨w0, rfl, h⟩; exact h)
theorem q_nS4v {i0 : Nat} {Y : pm_M} {w1 w2 w3 w4 : Value} (hl : pm_look M pc = some (.invokestatic i0, len, a, b, .retAddr 4)) (hY : j_MT a = some Y) (hkd : b = 1 ∨ b = 4) (hr : (Nat.ble ((pm_rm Y).frames + 1) (pm_rm M).frames && Nat.ble (8 + (pm_nl Y + 11) + (pm_rm Y).locals) (pm_rm M).locals) = true) (hcat : (Nat.ble (pm_cat st) 8 && (Nat.ble 4 (w4 :: w3 :: w2 :: w1 :: st).length && Nat.ble (pm_cat [w4, w3, w2, w1]) (pm_nl Y))) = true)  (hz : (pm_rm Y).cells = 0 ∧ (pm_rm Y).slots = 0) (hq : pc + 3 = q)
    (hm : PM SL SV EX Y [w1, w2, w3, w4] S n (fun r S' n' => r = none ∧ PQ SL SV EX M q L st S' n' c s K)) : PQ SL SV EX M pc L (w4 :: w3 :: w2 :: w1 :: st) S n c s K :=
  q_cS (K' := (fun r S' n' => r = none ∧ PQ SL SV EX M q L st S' n' c s K)) (as := [w1, w2, w3, w4]) (rest := st) hl hY hkd hr hcat (by unfold pm_cs; rw [hz.1, hz.2]; exact trivial) hq (by rw [hz.1]) (by rw [hz.2]) (by simp) (by simp) hm (by rintro r S' n' ⟨rfl, h⟩; exact h)
theorem q_nS4vA {i0 : Nat} {Y : pm_M} {w1 w2 w3 w4 : Value} (hl : pm_look M pc = some (.invokestatic i0, len, a, b, .retAddr 4)) (hY : j_MT a = some Y) (hkd : b = 1 ∨ b = 4) (hr : (Nat.ble ((pm_rm Y).frames + 1) (pm_rm M).frames && Nat.ble (8 + (pm_nl Y + 11) + (pm_rm Y).locals) (pm_rm M).locals) = true) (hcat : (Nat.ble (pm_cat st) 8 && (Nat.ble 4 (w4 :: w3 :: w2 :: w1 :: st).length && Nat.ble (pm_cat [w4, w3, w2, w1]) (pm_nl Y))) = true)  (hcs : pm_all (pm_cs M Y c s)) {c2 s2 : Nat} (hc2 : c + (pm_rm Y).cells = c2) (hs2 : s + (pm_rm Y).slots = s2) (hq : pc + 3 = q)
    (hm : PM SL SV EX Y [w1, w2, w3, w4] S n (fun r S' n' => r = none ∧ PQ SL SV EX M q L st S' n' c2 s2 K)) : PQ SL SV EX M pc L (w4 :: w3 :: w2 :: w1 :: st) S n c s K :=
  q_cS (K' := (fun r S' n' => r = none ∧ PQ SL SV EX M q L st S' n' c2 s2 K)) (as := [w1, w2, w3, w4]) (rest := st) hl hY hkd hr hcat hcs hq hc2 hs2 (by simp) (by simp) hm (by rintro r S' n' ⟨rfl, h⟩; exact h)
theorem q_nV5 {i0 : Nat} {Y : pm_M} {o : Nat} {w1 w2 w3 w4 w5 : Value} (hl : pm_look M pc = some (.invokevirtual i0, len, a, b, .retAddr 5)) (hY : j_MT a = some Y) (hkd : b = 0 ∨ b = 3) (hr : (Nat.ble ((pm_rm Y).frames + 1) (pm_rm M).frames && Nat.ble (8 + (pm_nl Y + 11) + (pm_rm Y).locals) (pm_rm M).locals) = true) (hcat : (Nat.ble (pm_cat st) 8 && Nat.ble (pm_cat [w5, w4, w3, w2, w1] + 1) (pm_nl Y)) = true) {fs : List Value} {ci : Nat} (hci : pm_ci Y = ci) (hk : o < n) (hs : S o = .inr (ci, fs)) (hz : (pm_rm Y).cells = 0 ∧ (pm_rm Y).slots = 0) (hq : pc + 3 = q)
    (hm : PM SL SV EX Y [.ref o, w1, w2, w3, w4, w5] S n (fun r S' n' => ∃ w0, r = some w0 ∧ PQ SL SV EX M q L (w0 :: st) S' n' c s K)) : PQ SL SV EX M pc L (w5 :: w4 :: w3 :: w2 :: w1 :: .ref o :: st) S n c s K :=
  q_cV (o := o) (K' := (fun r S' n' => ∃ w0, r = some w0 ∧ PQ SL SV EX M q L (w0 :: st) S' n' c s K)) (as := [.ref o, w1, w2, w3, w4, w5]) (rest := st) hl hY hkd hr (by simp) hcat hci hk hs (by unfold pm_cs; rw [hz.1, hz.2]; exact trivial) hq (by rw [hz.1]) (by rw [hz.2]) (by simp) (by simp) hm (by rintro r S' n' ⟨w0, rfl, h⟩; exact h)
theorem q_nV5A {i0 : Nat} {Y : pm_M} {o : Nat} {w1 w2 w3 w4 w5 : Value} (hl : pm_look M pc = some (.invokevirtual i0, len, a, b, .retAddr 5)) (hY : j_MT a = some Y) (hkd : b = 0 ∨ b = 3) (hr : (Nat.ble ((pm_rm Y).frames + 1) (pm_rm M).frames && Nat.ble (8 + (pm_nl Y + 11) + (pm_rm Y).locals) (pm_rm M).locals) = true) (hcat : (Nat.ble (pm_cat st) 8 && Nat.ble (pm_cat [w5, w4, w3, w2, w1] + 1) (pm_nl Y)) = true) {fs : List Value} {ci : Nat} (hci : pm_ci Y = ci) (hk : o < n) (hs : S o = .inr (ci, fs)) (hcs : pm_all (pm_cs M Y c s)) {c2 s2 : Nat} (hc2 : c + (pm_rm Y).cells = c2) (hs2 : s + (pm_rm Y).slots = s2) (hq : pc + 3 = q)
    (hm : PM SL SV EX Y [.ref o, w1, w2, w3, w4, w5] S n (fun r S' n' => ∃ w0, r = some w0 ∧ PQ SL SV EX M q L (w0 :: st) S' n' c2 s2 K)) : PQ SL SV EX M pc L (w5 :: w4 :: w3 :: w2 :: w1 :: .ref o :: st) S n c s K :=
  q_cV (o := o) (K' := (fun r S' n' => ∃ w0, r = some w0 ∧ PQ SL SV EX M q L (w0 :: st) S' n' c2 s2 K)) (as := [.ref o, w1, w2, w3, w4, w5]) (rest := st) hl hY hkd hr (by simp) hcat hci hk hs hcs hq hc2 hs2 (by simp) (by simp) hm (by rintro r S' n' ⟨w0, rfl, h⟩; exact h)
theorem q_nV5v {i0 : Nat} {Y : pm_M} {o : Nat} {w1 w2 w3 w4 w5 : Value} (hl : pm_look M pc = some (.invokevirtual i0, len, a, b, .retAddr 5)) (hY : j_MT a = some Y) (hkd : b = 0 ∨ b = 3) (hr : (Nat.ble ((pm_rm Y).frames + 1) (pm_rm M).frames && Nat.ble (8 + (pm_nl Y + 11) + (pm_rm Y).locals) (pm_rm M).locals) = true) (hcat : (Nat.ble (pm_cat st) 8 && Nat.ble (pm_cat [w5, w4, w3, w2, w1] + 1) (pm_nl Y)) = true) {fs : List Value} {ci : Nat} (hci : pm_ci Y = ci) (hk : o < n) (hs : S o = .inr (ci, fs)) (hz : (pm_rm Y).cells = 0 ∧ (pm_rm Y).slots = 0) (hq : pc + 3 = q)
    (hm : PM SL SV EX Y [.ref o, w1, w2, w3, w4, w5] S n (fun r S' n' => r = none ∧ PQ SL SV EX M q L st S' n' c s K)) : PQ SL SV EX M pc L (w5 :: w4 :: w3 :: w2 :: w1 :: .ref o :: st) S n c s K :=
  q_cV (o := o) (K' := (fun r S' n' => r = none ∧ PQ SL SV EX M q L st S' n' c s K)) (as := [.ref o, w1, w2, w3, w4, w5]) (rest := st) hl hY hkd hr (by simp) hcat hci hk hs (by unfold pm_cs; rw [hz.1, hz.2]; exact trivial) hq (by rw [hz.1]) (by rw [hz.2]) (by simp) (by simp) hm (by rintro r S' n' ⟨rfl, h⟩; exact h)
theorem q_nV5vA {i0 : Nat} {Y : pm_M} {o : Nat} {w1 w2 w3 w4 w5 : Value} (hl : pm_look M pc = some (.invokevirtual i0, len, a, b, .retAddr 5)) (hY : j_MT a = some Y) (hkd : b = 0 ∨ b = 3) (hr : (Nat.ble ((pm_rm Y).frames + 1) (pm_rm M).frames && Nat.ble (8 + (pm_nl Y + 11) + (pm_rm Y).locals) (pm_rm M).locals) = true) (hcat : (Nat.ble (pm_cat st) 8 && Nat.ble (pm_cat [w5, w4, w3, w2, w1] + 1) (pm_nl Y)) = true) {fs : List Value} {ci : Nat} (hci : pm_ci Y = ci) (hk : o < n) (hs : S o = .inr (ci, fs)) (hcs : pm_all (pm_cs M Y c s)) {c2 s2 : Nat} (hc2 : c + (pm_rm Y).cells = c2) (hs2 : s + (pm_rm Y).slots = s2) (hq : pc + 3 = q)
    (hm : PM SL SV EX Y [.ref o, w1, w2, w3, w4, w5] S n (fun r S' n' => r = none ∧ PQ SL SV EX M q L st S' n' c2 s2 K)) : PQ SL SV EX M pc L (w5 :: w4 :: w3 :: w2 :: w1 :: .ref o :: st) S n c s K :=
  q_cV (o := o) (K' := (fun r S' n' => r = none ∧ PQ SL SV EX M q L st S' n' c2 s2 K)) (as := [.ref o, w1, w2, w3, w4, w5]) (rest := st) hl hY hkd hr (by simp) hcat hci hk hs hcs hq hc2 hs2 (by simp) (by simp) hm (by rintro r S' n' ⟨rfl, h⟩; exact h)
theorem q_nS5 {i0 : Nat} {Y : pm_M} {w1 w2 w3 w4 w5 : Value} (hl : pm_look M pc = some (.invokestatic i0, len, a, b, .retAddr 5)) (hY : j_MT a = some Y) (hkd : b = 1 ∨ b = 4) (hr : (Nat.ble ((pm_rm Y).frames + 1) (pm_rm M).frames && Nat.ble (8 + (pm_nl Y + 11) + (pm_rm Y).locals) (pm_rm M).locals) = true) (hcat : (Nat.ble (pm_cat st) 8 && (Nat.ble 5 (w5 :: w4 :: w3 :: w2 :: w1 :: st).length && Nat.ble (pm_cat [w5, w4, w3, w2, w1]) (pm_nl Y))) = true)  (hz : (pm_rm Y).cells = 0 ∧ (pm_rm Y).slots = 0) (hq : pc + 3 = q)
    (hm : PM SL SV EX Y [w1, w2, w3, w4, w5] S n (fun r S' n' => ∃ w0, r = some w0 ∧ PQ SL SV EX M q L (w0 :: st) S' n' c s K)) : PQ SL SV EX M pc L (w5 :: w4 :: w3 :: w2 :: w1 :: st) S n c s K :=
  q_cS (K' := (fun r S' n' => ∃ w0, r = some w0 ∧ PQ SL SV EX M q L (w0 :: st) S' n' c s K)) (as := [w1, w2, w3, w4, w5]) (rest := st) hl hY hkd hr hcat (by unfold pm_cs; rw [hz.1, hz.2]; exact trivial) hq (by rw [hz.1]) (by rw [hz.2]) (by simp) (by simp) hm (by rintro r S' n' ⟨w0, rfl, h⟩; exact h)
theorem q_nS5A {i0 : Nat} {Y : pm_M} {w1 w2 w3 w4 w5 : Value} (hl : pm_look M pc = some (.invokestatic i0, len, a, b, .retAddr 5)) (hY : j_MT a = some Y) (hkd : b = 1 ∨ b = 4) (hr : (Nat.ble ((pm_rm Y).frames + 1) (pm_rm M).frames && Nat.ble (8 + (pm_nl Y + 11) + (pm_rm Y).locals) (pm_rm M).locals) = true) (hcat : (Nat.ble (pm_cat st) 8 && (Nat.ble 5 (w5 :: w4 :: w3 :: w2 :: w1 :: st).length && Nat.ble (pm_cat [w5, w4, w3, w2, w1]) (pm_nl Y))) = true)  (hcs : pm_all (pm_cs M Y c s)) {c2 s2 : Nat} (hc2 : c + (pm_rm Y).cells = c2) (hs2 : s + (pm_rm Y).slots = s2) (hq : pc + 3 = q)
    (hm : PM SL SV EX Y [w1, w2, w3, w4, w5] S n (fun r S' n' => ∃ w0, r = some w0 ∧ PQ SL SV EX M q L (w0 :: st) S' n' c2 s2 K)) : PQ SL SV EX M pc L (w5 :: w4 :: w3 :: w2 :: w1 :: st) S n c s K :=
  q_cS (K' := (fun r S' n' => ∃ w0, r = some w0 ∧ PQ SL SV EX M q L (w0 :: st) S' n' c2 s2 K)) (as := [w1, w2, w3, w4, w5]) (rest := st) hl hY hkd hr hcat hcs hq hc2 hs2 (by simp) (by simp) hm (by rintro r S' n' ⟨w0, rfl, h⟩; exact h)
theorem q_nS5v {i0 : Nat} {Y : pm_M} {w1 w2 w3 w4 w5 : Value} (hl : pm_look M pc = some (.invokestatic i0, len, a, b, .retAddr 5)) (hY : j_MT a = some Y) (hkd : b = 1 ∨ b = 4) (hr : (Nat.ble ((pm_rm Y).frames + 1) (pm_rm M).frames && Nat.ble (8 + (pm_nl Y + 11) + (pm_rm Y).locals) (pm_rm M).locals) = true) (hcat : (Nat.ble (pm_cat st) 8 && (Nat.ble 5 (w5 :: w4 :: w3 :: w2 :: w1 :: st).length && Nat.ble (pm_cat [w5, w4, w3, w2, w1]) (pm_nl Y))) = true)  (hz : (pm_rm Y).cells = 0 ∧ (pm_rm Y).slots = 0) (hq : pc + 3 = q)
    (hm : PM SL SV EX Y [w1, w2, w3, w4, w5] S n (fun r S' n' => r = none ∧ PQ SL SV EX M q L st S' n' c s K)) : PQ SL SV EX M pc L (w5 :: w4 :: w3 :: w2 :: w1 :: st) S n c s K :=
  q_cS (K' := (fun r S' n' => r = none ∧ PQ SL SV EX M q L st S' n' c s K)) (as := [w1, w2, w3, w4, w5]) (rest := st) hl hY hkd hr hcat (by unfold pm_cs; rw [hz.1, hz.2]; exact trivial) hq (by rw [hz.1]) (by rw [hz.2]) (by simp) (by simp) hm (by rintro r S' n' ⟨rfl, h⟩; exact h)
theorem q_nS5vA {i0 : Nat} {Y : pm_M} {w1 w2 w3 w4 w5 : Value} (hl : pm_look M pc = some (.invokestatic i0, len, a, b, .retAddr 5)) (hY : j_MT a = some Y) (hkd : b = 1 ∨ b = 4) (hr : (Nat.ble ((pm_rm Y).frames + 1) (pm_rm M).frames && Nat.ble (8 + (pm_nl Y + 11) + (pm_rm Y).locals) (pm_rm M).locals) = true) (hcat : (Nat.ble (pm_cat st) 8 && (Nat.ble 5 (w5 :: w4 :: w3 :: w2 :: w1 :: st).length && Nat.ble (pm_cat [w5, w4, w3, w2, w1]) (pm_nl Y))) = true)  (hcs : pm_all (pm_cs M Y c s)) {c2 s2 : Nat} (hc2 : c + (pm_rm Y).cells = c2) (hs2 : s + (pm_rm Y).slots = s2) (hq : pc + 3 = q)
    (hm : PM SL SV EX Y [w1, w2, w3, w4, w5] S n (fun r S' n' => r = none ∧ PQ SL SV EX M q L st S' n' c2 s2 K)) : PQ SL SV EX M pc L (w5 :: w4 :: w3 :: w2 :: w1 :: st) S n c s K :=
  q_cS (K' := (fun r S' n' => r = none ∧ PQ SL SV EX M q L st S' n' c2 s2 K)) (as := [w1, w2, w3, w4, w5]) (rest := st) hl hY hkd hr hcat hcs hq hc2 hs2 (by simp) (by simp) hm (by rintro r S' n' ⟨rfl, h⟩; exact h)
end QX
theorem i_lt_t {x B k : Int32} (h : x ≤ B) (e : decide (B < k) = true) : x < k := by
  have e := of_decide_eq_true e
  rw [Int32.lt_iff_toInt_lt] at *
  rw [Int32.le_iff_toInt_le] at h
  omega
theorem i_lt_f {x B k : Int32} (h : B ≤ x) (e : decide (k ≤ B) = true) : ¬ x < k := by
  have e := of_decide_eq_true e
  rw [Int32.le_iff_toInt_le] at *
  rw [Int32.lt_iff_toInt_lt]
  omega
theorem i_ge_t {x B k : Int32} (h : B ≤ x) (e : decide (k ≤ B) = true) : k ≤ x := by
  have e := of_decide_eq_true e
  rw [Int32.le_iff_toInt_le] at *
  omega
theorem i_ge_f {x B k : Int32} (h : x ≤ B) (e : decide (B < k) = true) : ¬ k ≤ x := by
  have e := of_decide_eq_true e
  rw [Int32.le_iff_toInt_le] at *
  rw [Int32.lt_iff_toInt_lt] at e
  omega
theorem i_gt_t {x B k : Int32} (h : B ≤ x) (e : decide (k < B) = true) : k < x := by
  have e := of_decide_eq_true e
  rw [Int32.lt_iff_toInt_lt] at *
  rw [Int32.le_iff_toInt_le] at h
  omega
theorem i_gt_f {x B k : Int32} (h : x ≤ B) (e : decide (B ≤ k) = true) : ¬ k < x := by
  have e := of_decide_eq_true e
  rw [Int32.le_iff_toInt_le] at *
  rw [Int32.lt_iff_toInt_lt]
  omega
theorem i_le_t {x B k : Int32} (h : x ≤ B) (e : decide (B ≤ k) = true) : x ≤ k := by
  have e := of_decide_eq_true e
  rw [Int32.le_iff_toInt_le] at *
  omega
theorem i_le_f {x B k : Int32} (h : B ≤ x) (e : decide (k < B) = true) : ¬ x ≤ k := by
  have e := of_decide_eq_true e
  rw [Int32.le_iff_toInt_le] at *
  rw [Int32.lt_iff_toInt_lt] at e
  omega
theorem i_eq_fg {x B k : Int32} (h : B ≤ x) (e : decide (k < B) = true) : ¬ x = k := fun q => i_le_f h e (by rw [q]; exact Int32.le_refl k)
theorem i_eq_fl {x B k : Int32} (h : x ≤ B) (e : decide (B < k) = true) : ¬ x = k := fun q => i_ge_f h e (by rw [q]; exact Int32.le_refl k)
theorem i_ltle {x k B : Int32} (h : x < k) (e : decide (B.toInt + 1 = k.toInt) = true) : x ≤ B := by
  have e := of_decide_eq_true e
  rw [Int32.le_iff_toInt_le]
  rw [Int32.lt_iff_toInt_lt] at h
  omega
theorem i_ltge {x k B : Int32} (h : k < x) (e : decide (k.toInt + 1 = B.toInt) = true) : B ≤ x := by
  have e := of_decide_eq_true e
  rw [Int32.le_iff_toInt_le]
  rw [Int32.lt_iff_toInt_lt] at h
  omega
theorem i_nlt {x k : Int32} (h : ¬ x < k) : k ≤ x := by
  rw [Int32.lt_iff_toInt_lt] at h
  rw [Int32.le_iff_toInt_le]
  omega
theorem i_nle {x k : Int32} (h : ¬ x ≤ k) : k < x := by
  rw [Int32.le_iff_toInt_le] at h
  rw [Int32.lt_iff_toInt_lt]
  omega
theorem i_m1s {x B : Int32} (h : B ≤ x) (e : decide (0 ≤ B) = true) : (-1) - x ≤ -1 := by
  have e := of_decide_eq_true e
  rw [Int32.le_iff_toInt_le] at *
  have e0 : (0 : Int32).toInt = 0 := rfl
  have e1 : (-1 : Int32).toInt = -1 := rfl
  have hx : x.toInt < 2 ^ 31 := Int32.toInt_lt x
  have h2 : ((-1 : Int32) - x).toInt = ((-1 : Int32).toInt - x.toInt).bmod (2 ^ 32) := Int32.toInt_sub _ _
  rw [h2, e1]
  have h3 : ((-1 : Int) - x.toInt).bmod (2 ^ 32) = -1 - x.toInt := by
    rw [Int.bmod_eq_of_le (by omega) (by omega)]
  omega
theorem i_in {x B : Int32} {m : Nat} (h : 0 ≤ x) (h2 : x ≤ B) (e : decide (B.toInt < m) = true) : pm_inb x m = true := by
  have e := of_decide_eq_true e
  apply pm_in_of
  rw [vp_in_iff]
  rw [Int32.le_iff_toInt_le] at *
  have e0 : (0 : Int32).toInt = 0 := rfl
  omega
theorem i_en0 {x : Int32} (h : 0 ≤ x) (h2 : x ≤ 0) : x = 0 := by
  obtain ⟨j, hj, rfl⟩ := nI_of2 (M := 0) (n := 0) rfl (fun q => i_ge_f (x := x) (B := -1) (k := 0) (i_ltle q rfl) rfl h) h2
  match j, hj with
  | 0, _ => exact rfl
  | j + 1, h => omega
theorem i_en1 {x : Int32} (h : 0 ≤ x) (h2 : x ≤ 1) : x = 0 ∨ x = 1 := by
  obtain ⟨j, hj, rfl⟩ := nI_of2 (M := 1) (n := 1) rfl (fun q => i_ge_f (x := x) (B := -1) (k := 0) (i_ltle q rfl) rfl h) h2
  match j, hj with
  | 0, _ => exact Or.inl rfl
  | 1, _ => exact Or.inr (rfl)
  | j + 2, h => omega
theorem i_en2 {x : Int32} (h : 0 ≤ x) (h2 : x ≤ 2) : x = 0 ∨ x = 1 ∨ x = 2 := by
  obtain ⟨j, hj, rfl⟩ := nI_of2 (M := 2) (n := 2) rfl (fun q => i_ge_f (x := x) (B := -1) (k := 0) (i_ltle q rfl) rfl h) h2
  match j, hj with
  | 0, _ => exact Or.inl rfl
  | 1, _ => exact Or.inr (Or.inl rfl)
  | 2, _ => exact Or.inr (Or.inr (rfl))
  | j + 3, h => omega
theorem i_en3 {x : Int32} (h : 0 ≤ x) (h2 : x ≤ 3) : x = 0 ∨ x = 1 ∨ x = 2 ∨ x = 3 := by
  obtain ⟨j, hj, rfl⟩ := nI_of2 (M := 3) (n := 3) rfl (fun q => i_ge_f (x := x) (B := -1) (k := 0) (i_ltle q rfl) rfl h) h2
  match j, hj with
  | 0, _ => exact Or.inl rfl
  | 1, _ => exact Or.inr (Or.inl rfl)
  | 2, _ => exact Or.inr (Or.inr (Or.inl rfl))
  | 3, _ => exact Or.inr (Or.inr (Or.inr (rfl)))
  | j + 4, h => omega
theorem i_en4 {x : Int32} (h : 0 ≤ x) (h2 : x ≤ 4) : x = 0 ∨ x = 1 ∨ x = 2 ∨ x = 3 ∨ x = 4 := by
  obtain ⟨j, hj, rfl⟩ := nI_of2 (M := 4) (n := 4) rfl (fun q => i_ge_f (x := x) (B := -1) (k := 0) (i_ltle q rfl) rfl h) h2
  match j, hj with
  | 0, _ => exact Or.inl rfl
  | 1, _ => exact Or.inr (Or.inl rfl)
  | 2, _ => exact Or.inr (Or.inr (Or.inl rfl))
  | 3, _ => exact Or.inr (Or.inr (Or.inr (Or.inl rfl)))
  | 4, _ => exact Or.inr (Or.inr (Or.inr (Or.inr (rfl))))
  | j + 5, h => omega
theorem i_en5 {x : Int32} (h : 0 ≤ x) (h2 : x ≤ 5) : x = 0 ∨ x = 1 ∨ x = 2 ∨ x = 3 ∨ x = 4 ∨ x = 5 := by
  obtain ⟨j, hj, rfl⟩ := nI_of2 (M := 5) (n := 5) rfl (fun q => i_ge_f (x := x) (B := -1) (k := 0) (i_ltle q rfl) rfl h) h2
  match j, hj with
  | 0, _ => exact Or.inl rfl
  | 1, _ => exact Or.inr (Or.inl rfl)
  | 2, _ => exact Or.inr (Or.inr (Or.inl rfl))
  | 3, _ => exact Or.inr (Or.inr (Or.inr (Or.inl rfl)))
  | 4, _ => exact Or.inr (Or.inr (Or.inr (Or.inr (Or.inl rfl))))
  | 5, _ => exact Or.inr (Or.inr (Or.inr (Or.inr (Or.inr (rfl)))))
  | j + 6, h => omega
theorem i_en6 {x : Int32} (h : 0 ≤ x) (h2 : x ≤ 6) : x = 0 ∨ x = 1 ∨ x = 2 ∨ x = 3 ∨ x = 4 ∨ x = 5 ∨ x = 6 := by
  obtain ⟨j, hj, rfl⟩ := nI_of2 (M := 6) (n := 6) rfl (fun q => i_ge_f (x := x) (B := -1) (k := 0) (i_ltle q rfl) rfl h) h2
  match j, hj with
  | 0, _ => exact Or.inl rfl
  | 1, _ => exact Or.inr (Or.inl rfl)
  | 2, _ => exact Or.inr (Or.inr (Or.inl rfl))
  | 3, _ => exact Or.inr (Or.inr (Or.inr (Or.inl rfl)))
  | 4, _ => exact Or.inr (Or.inr (Or.inr (Or.inr (Or.inl rfl))))
  | 5, _ => exact Or.inr (Or.inr (Or.inr (Or.inr (Or.inr (Or.inl rfl)))))
  | 6, _ => exact Or.inr (Or.inr (Or.inr (Or.inr (Or.inr (Or.inr (rfl))))))
  | j + 7, h => omega
theorem i_en7 {x : Int32} (h : 0 ≤ x) (h2 : x ≤ 7) : x = 0 ∨ x = 1 ∨ x = 2 ∨ x = 3 ∨ x = 4 ∨ x = 5 ∨ x = 6 ∨ x = 7 := by
  obtain ⟨j, hj, rfl⟩ := nI_of2 (M := 7) (n := 7) rfl (fun q => i_ge_f (x := x) (B := -1) (k := 0) (i_ltle q rfl) rfl h) h2
  match j, hj with
  | 0, _ => exact Or.inl rfl
  | 1, _ => exact Or.inr (Or.inl rfl)
  | 2, _ => exact Or.inr (Or.inr (Or.inl rfl))
  | 3, _ => exact Or.inr (Or.inr (Or.inr (Or.inl rfl)))
  | 4, _ => exact Or.inr (Or.inr (Or.inr (Or.inr (Or.inl rfl))))
  | 5, _ => exact Or.inr (Or.inr (Or.inr (Or.inr (Or.inr (Or.inl rfl)))))
  | 6, _ => exact Or.inr (Or.inr (Or.inr (Or.inr (Or.inr (Or.inr (Or.inl rfl))))))
  | 7, _ => exact Or.inr (Or.inr (Or.inr (Or.inr (Or.inr (Or.inr (Or.inr (rfl)))))))
  | j + 8, h => omega
theorem i_en8 {x : Int32} (h : 0 ≤ x) (h2 : x ≤ 8) : x = 0 ∨ x = 1 ∨ x = 2 ∨ x = 3 ∨ x = 4 ∨ x = 5 ∨ x = 6 ∨ x = 7 ∨ x = 8 := by
  obtain ⟨j, hj, rfl⟩ := nI_of2 (M := 8) (n := 8) rfl (fun q => i_ge_f (x := x) (B := -1) (k := 0) (i_ltle q rfl) rfl h) h2
  match j, hj with
  | 0, _ => exact Or.inl rfl
  | 1, _ => exact Or.inr (Or.inl rfl)
  | 2, _ => exact Or.inr (Or.inr (Or.inl rfl))
  | 3, _ => exact Or.inr (Or.inr (Or.inr (Or.inl rfl)))
  | 4, _ => exact Or.inr (Or.inr (Or.inr (Or.inr (Or.inl rfl))))
  | 5, _ => exact Or.inr (Or.inr (Or.inr (Or.inr (Or.inr (Or.inl rfl)))))
  | 6, _ => exact Or.inr (Or.inr (Or.inr (Or.inr (Or.inr (Or.inr (Or.inl rfl))))))
  | 7, _ => exact Or.inr (Or.inr (Or.inr (Or.inr (Or.inr (Or.inr (Or.inr (Or.inl rfl)))))))
  | 8, _ => exact Or.inr (Or.inr (Or.inr (Or.inr (Or.inr (Or.inr (Or.inr (Or.inr (rfl))))))))
  | j + 9, h => omega
theorem i_en9 {x : Int32} (h : 0 ≤ x) (h2 : x ≤ 9) : x = 0 ∨ x = 1 ∨ x = 2 ∨ x = 3 ∨ x = 4 ∨ x = 5 ∨ x = 6 ∨ x = 7 ∨ x = 8 ∨ x = 9 := by
  obtain ⟨j, hj, rfl⟩ := nI_of2 (M := 9) (n := 9) rfl (fun q => i_ge_f (x := x) (B := -1) (k := 0) (i_ltle q rfl) rfl h) h2
  match j, hj with
  | 0, _ => exact Or.inl rfl
  | 1, _ => exact Or.inr (Or.inl rfl)
  | 2, _ => exact Or.inr (Or.inr (Or.inl rfl))
  | 3, _ => exact Or.inr (Or.inr (Or.inr (Or.inl rfl)))
  | 4, _ => exact Or.inr (Or.inr (Or.inr (Or.inr (Or.inl rfl))))
  | 5, _ => exact Or.inr (Or.inr (Or.inr (Or.inr (Or.inr (Or.inl rfl)))))
  | 6, _ => exact Or.inr (Or.inr (Or.inr (Or.inr (Or.inr (Or.inr (Or.inl rfl))))))
  | 7, _ => exact Or.inr (Or.inr (Or.inr (Or.inr (Or.inr (Or.inr (Or.inr (Or.inl rfl)))))))
  | 8, _ => exact Or.inr (Or.inr (Or.inr (Or.inr (Or.inr (Or.inr (Or.inr (Or.inr (Or.inl rfl))))))))
  | 9, _ => exact Or.inr (Or.inr (Or.inr (Or.inr (Or.inr (Or.inr (Or.inr (Or.inr (Or.inr (rfl)))))))))
  | j + 10, h => omega
theorem i_en10 {x : Int32} (h : 0 ≤ x) (h2 : x ≤ 10) : x = 0 ∨ x = 1 ∨ x = 2 ∨ x = 3 ∨ x = 4 ∨ x = 5 ∨ x = 6 ∨ x = 7 ∨ x = 8 ∨ x = 9 ∨ x = 10 := by
  obtain ⟨j, hj, rfl⟩ := nI_of2 (M := 10) (n := 10) rfl (fun q => i_ge_f (x := x) (B := -1) (k := 0) (i_ltle q rfl) rfl h) h2
  match j, hj with
  | 0, _ => exact Or.inl rfl
  | 1, _ => exact Or.inr (Or.inl rfl)
  | 2, _ => exact Or.inr (Or.inr (Or.inl rfl))
  | 3, _ => exact Or.inr (Or.inr (Or.inr (Or.inl rfl)))
  | 4, _ => exact Or.inr (Or.inr (Or.inr (Or.inr (Or.inl rfl))))
  | 5, _ => exact Or.inr (Or.inr (Or.inr (Or.inr (Or.inr (Or.inl rfl)))))
  | 6, _ => exact Or.inr (Or.inr (Or.inr (Or.inr (Or.inr (Or.inr (Or.inl rfl))))))
  | 7, _ => exact Or.inr (Or.inr (Or.inr (Or.inr (Or.inr (Or.inr (Or.inr (Or.inl rfl)))))))
  | 8, _ => exact Or.inr (Or.inr (Or.inr (Or.inr (Or.inr (Or.inr (Or.inr (Or.inr (Or.inl rfl))))))))
  | 9, _ => exact Or.inr (Or.inr (Or.inr (Or.inr (Or.inr (Or.inr (Or.inr (Or.inr (Or.inr (Or.inl rfl)))))))))
  | 10, _ => exact Or.inr (Or.inr (Or.inr (Or.inr (Or.inr (Or.inr (Or.inr (Or.inr (Or.inr (Or.inr (rfl))))))))))
  | j + 11, h => omega
theorem i_en11 {x : Int32} (h : 0 ≤ x) (h2 : x ≤ 11) : x = 0 ∨ x = 1 ∨ x = 2 ∨ x = 3 ∨ x = 4 ∨ x = 5 ∨ x = 6 ∨ x = 7 ∨ x = 8 ∨ x = 9 ∨ x = 10 ∨ x = 11 := by
  obtain ⟨j, hj, rfl⟩ := nI_of2 (M := 11) (n := 11) rfl (fun q => i_ge_f (x := x) (B := -1) (k := 0) (i_ltle q rfl) rfl h) h2
  match j, hj with
  | 0, _ => exact Or.inl rfl
  | 1, _ => exact Or.inr (Or.inl rfl)
  | 2, _ => exact Or.inr (Or.inr (Or.inl rfl))
  | 3, _ => exact Or.inr (Or.inr (Or.inr (Or.inl rfl)))
  | 4, _ => exact Or.inr (Or.inr (Or.inr (Or.inr (Or.inl rfl))))
  | 5, _ => exact Or.inr (Or.inr (Or.inr (Or.inr (Or.inr (Or.inl rfl)))))
  | 6, _ => exact Or.inr (Or.inr (Or.inr (Or.inr (Or.inr (Or.inr (Or.inl rfl))))))
  | 7, _ => exact Or.inr (Or.inr (Or.inr (Or.inr (Or.inr (Or.inr (Or.inr (Or.inl rfl)))))))
  | 8, _ => exact Or.inr (Or.inr (Or.inr (Or.inr (Or.inr (Or.inr (Or.inr (Or.inr (Or.inl rfl))))))))
  | 9, _ => exact Or.inr (Or.inr (Or.inr (Or.inr (Or.inr (Or.inr (Or.inr (Or.inr (Or.inr (Or.inl rfl)))))))))
  | 10, _ => exact Or.inr (Or.inr (Or.inr (Or.inr (Or.inr (Or.inr (Or.inr (Or.inr (Or.inr (Or.inr (Or.inl rfl))))))))))
  | 11, _ => exact Or.inr (Or.inr (Or.inr (Or.inr (Or.inr (Or.inr (Or.inr (Or.inr (Or.inr (Or.inr (Or.inr (rfl)))))))))))
  | j + 12, h => omega
theorem i_en12 {x : Int32} (h : 0 ≤ x) (h2 : x ≤ 12) : x = 0 ∨ x = 1 ∨ x = 2 ∨ x = 3 ∨ x = 4 ∨ x = 5 ∨ x = 6 ∨ x = 7 ∨ x = 8 ∨ x = 9 ∨ x = 10 ∨ x = 11 ∨ x = 12 := by
  obtain ⟨j, hj, rfl⟩ := nI_of2 (M := 12) (n := 12) rfl (fun q => i_ge_f (x := x) (B := -1) (k := 0) (i_ltle q rfl) rfl h) h2
  match j, hj with
  | 0, _ => exact Or.inl rfl
  | 1, _ => exact Or.inr (Or.inl rfl)
  | 2, _ => exact Or.inr (Or.inr (Or.inl rfl))
  | 3, _ => exact Or.inr (Or.inr (Or.inr (Or.inl rfl)))
  | 4, _ => exact Or.inr (Or.inr (Or.inr (Or.inr (Or.inl rfl))))
  | 5, _ => exact Or.inr (Or.inr (Or.inr (Or.inr (Or.inr (Or.inl rfl)))))
  | 6, _ => exact Or.inr (Or.inr (Or.inr (Or.inr (Or.inr (Or.inr (Or.inl rfl))))))
  | 7, _ => exact Or.inr (Or.inr (Or.inr (Or.inr (Or.inr (Or.inr (Or.inr (Or.inl rfl)))))))
  | 8, _ => exact Or.inr (Or.inr (Or.inr (Or.inr (Or.inr (Or.inr (Or.inr (Or.inr (Or.inl rfl))))))))
  | 9, _ => exact Or.inr (Or.inr (Or.inr (Or.inr (Or.inr (Or.inr (Or.inr (Or.inr (Or.inr (Or.inl rfl)))))))))
  | 10, _ => exact Or.inr (Or.inr (Or.inr (Or.inr (Or.inr (Or.inr (Or.inr (Or.inr (Or.inr (Or.inr (Or.inl rfl))))))))))
  | 11, _ => exact Or.inr (Or.inr (Or.inr (Or.inr (Or.inr (Or.inr (Or.inr (Or.inr (Or.inr (Or.inr (Or.inr (Or.inl rfl)))))))))))
  | 12, _ => exact Or.inr (Or.inr (Or.inr (Or.inr (Or.inr (Or.inr (Or.inr (Or.inr (Or.inr (Or.inr (Or.inr (Or.inr (rfl))))))))))))
  | j + 13, h => omega
