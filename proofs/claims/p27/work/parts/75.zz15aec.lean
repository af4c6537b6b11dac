/-! a method's table against its bytes in one walk -/
section EC
def hB : List UInt8 → Nat
  | [] => 256
  | b :: _ => b.toNat
def tB : List UInt8 → List UInt8
  | [] => []
  | _ :: t => t
theorem hB_dr {L : List UInt8} {p b : Nat} (h : hB (L.drop p) = b) (hb : b < 256) : ∃ h : p < L.length, (L[p]).toNat = b := by
  by_cases hp : p < L.length
  · rw [List.drop_eq_getElem_cons hp] at h
    exact ⟨hp, h⟩
  · rw [List.drop_eq_nil_of_le (by omega)] at h
    have h' : 256 = b := h
    omega
theorem tB_dr {L : List UInt8} {p : Nat} : tB (L.drop p) = L.drop (p + 1) := by
  by_cases hp : p < L.length
  · rw [List.drop_eq_getElem_cons hp]
    rfl
  · rw [List.drop_eq_nil_of_le (by omega), List.drop_eq_nil_of_le (by omega)]
    rfl
theorem bd_at {α β : Type} {c : ByteArray} {r : Decoder α} {f : α → Decoder β} {p s : Nat} {a : α} (h : r c p = .ok (a, s)) : (r >>= f) c p = f a c s := by
  show (r c p >>= fun x => match x with | (a, s) => f a c s) = _
  rw [h]
  rfl
theorem mp_at {α β : Type} {c : ByteArray} {r : Decoder α} {f : α → β} {p s : Nat} {a : α} (h : r c p = .ok (a, s)) : (f <$> r) c p = .ok (f a, s) := by
  show (r c p >>= fun x => match x with | (a, s) => pure (f a, s)) = _
  rw [h]
  rfl
theorem u1_at {L : List UInt8} {p b : Nat} (h : hB (L.drop p) = b) (hb : b < 256) : (Reader.u1 : Decoder Nat) ⟨⟨L⟩⟩ p = .ok (b, p + 1) := by
  obtain ⟨hp, e⟩ := hB_dr h hb
  have hp' : p < (ByteArray.mk ⟨L⟩).size := hp
  have e1 : (Reader.u1 : Decoder Nat) ⟨⟨L⟩⟩ p = (if h : p < (ByteArray.mk ⟨L⟩).size then (do set (p + 1); pure ((ByteArray.mk ⟨L⟩)[p]'h).toNat : Decoder Nat) else throw (HasTruncated.truncated p)) ⟨⟨L⟩⟩ p := rfl
  rw [e1, dif_pos hp', ← e]
  rfl
theorem u2_at {L : List UInt8} {p a b : Nat} (h : hB (L.drop p) = a) (ha : a < 256) (h2 : hB (L.drop (p + 1)) = b) (hb : b < 256) : (Reader.u2 : Decoder Nat) ⟨⟨L⟩⟩ p = .ok (a * 256 + b, p + 2) := (bd_at (u1_at h ha)).trans ((bd_at (u1_at h2 hb)).trans rfl)
theorem s1_at {L : List UInt8} {p b : Nat} (h : hB (L.drop p) = b) (hb : b < 256) : (Reader.s1 : Decoder Int) ⟨⟨L⟩⟩ p = .ok (Reader.signed 8 b, p + 1) := mp_at (u1_at h hb)
theorem s2_at {L : List UInt8} {p a b : Nat} (h : hB (L.drop p) = a) (ha : a < 256) (h2 : hB (L.drop (p + 1)) = b) (hb : b < 256) : (Reader.s2 : Decoder Int) ⟨⟨L⟩⟩ p = .ok (Reader.signed 16 (a * 256 + b), p + 2) := mp_at (u2_at h ha h2 hb)
theorem in_at {c : ByteArray} {p s b : Nat} {α : Type} {I : Decoder α} (F : Nat → Decoder α) (hF : I = Reader.u1 >>= F) (h : (Reader.u1 : Decoder Nat) c p = .ok (b, s)) : I c p = F b c s := by
  rw [hF]
  exact bd_at h
theorem dc_at {c : ByteArray} {p len : Nat} {i : Instr} (h : Decoder.instr p c p = .ok (i, p + len)) : decode c p = .ok (i, len) := by
  show (Decoder.instr p c p >>= fun x => match x with | (i, n) => pure (i, n - p)) = _
  rw [h]
  show Except.ok (i, p + len - p) = _
  rw [Nat.add_sub_cancel_left]
theorem dn1 {a b : Bool} (h : (a && b) = true) : a = true := (Bool.and_eq_true_iff.mp h).1
theorem dn2 {a b : Bool} (h : (a && b) = true) : b = true := (Bool.and_eq_true_iff.mp h).2
def dk (b0 b1 b2 : Nat) (i : Instr) : Bool := match i with
  | .aaload => Nat.beq b0 50
  | .aastore => Nat.beq b0 83
  | .aconst_null => Nat.beq b0 1
  | .areturn => Nat.beq b0 176
  | .arraylength => Nat.beq b0 190
  | .athrow => Nat.beq b0 191
  | .baload => Nat.beq b0 51
  | .bastore => Nat.beq b0 84
  | .dup => Nat.beq b0 89
  | .dup2 => Nat.beq b0 92
  | .dup_x1 => Nat.beq b0 90
  | .dup_x2 => Nat.beq b0 91
  | .i2l => Nat.beq b0 133
  | .i2s => Nat.beq b0 147
  | .iadd => Nat.beq b0 96
  | .iaload => Nat.beq b0 46
  | .iand => Nat.beq b0 126
  | .iastore => Nat.beq b0 79
  | .idiv => Nat.beq b0 108
  | .imul => Nat.beq b0 104
  | .ior => Nat.beq b0 128
  | .irem => Nat.beq b0 112
  | .ireturn => Nat.beq b0 172
  | .ishl => Nat.beq b0 120
  | .ishr => Nat.beq b0 122
  | .isub => Nat.beq b0 100
  | .iushr => Nat.beq b0 124
  | .ixor => Nat.beq b0 130
  | .l2i => Nat.beq b0 136
  | .ladd => Nat.beq b0 97
  | .laload => Nat.beq b0 47
  | .land => Nat.beq b0 127
  | .lastore => Nat.beq b0 80
  | .lcmp => Nat.beq b0 148
  | .lmul => Nat.beq b0 105
  | .lor => Nat.beq b0 129
  | .lreturn => Nat.beq b0 173
  | .lshl => Nat.beq b0 121
  | .lsub => Nat.beq b0 101
  | .lushr => Nat.beq b0 125
  | .lxor => Nat.beq b0 131
  | .pop => Nat.beq b0 87
  | .return_ => Nat.beq b0 177
  | .saload => Nat.beq b0 53
  | .sastore => Nat.beq b0 86
  | .aload_n n => Nat.beq b0 (42 + n.val)
  | .astore_n n => Nat.beq b0 (75 + n.val)
  | .iload_n n => Nat.beq b0 (26 + n.val)
  | .istore_n n => Nat.beq b0 (59 + n.val)
  | .lload_n n => Nat.beq b0 (30 + n.val)
  | .lstore_n n => Nat.beq b0 (63 + n.val)
  | .lconst n => Nat.beq b0 (9 + n.val)
  | .aload n => Nat.beq b0 25 && (Nat.beq b1 n && Nat.blt b1 256)
  | .astore n => Nat.beq b0 58 && (Nat.beq b1 n && Nat.blt b1 256)
  | .iload n => Nat.beq b0 21 && (Nat.beq b1 n && Nat.blt b1 256)
  | .istore n => Nat.beq b0 54 && (Nat.beq b1 n && Nat.blt b1 256)
  | .lload n => Nat.beq b0 22 && (Nat.beq b1 n && Nat.blt b1 256)
  | .lstore n => Nat.beq b0 55 && (Nat.beq b1 n && Nat.blt b1 256)
  | .ldc n => Nat.beq b0 18 && (Nat.beq b1 n && Nat.blt b1 256)
  | .anewarray n => Nat.beq b0 189 && (Nat.beq (b1 * 256 + b2) n && (Nat.blt b1 256 && Nat.blt b2 256))
  | .checkcast n => Nat.beq b0 192 && (Nat.beq (b1 * 256 + b2) n && (Nat.blt b1 256 && Nat.blt b2 256))
  | .getfield n => Nat.beq b0 180 && (Nat.beq (b1 * 256 + b2) n && (Nat.blt b1 256 && Nat.blt b2 256))
  | .getstatic n => Nat.beq b0 178 && (Nat.beq (b1 * 256 + b2) n && (Nat.blt b1 256 && Nat.blt b2 256))
  | .instanceof n => Nat.beq b0 193 && (Nat.beq (b1 * 256 + b2) n && (Nat.blt b1 256 && Nat.blt b2 256))
  | .invokespecial n => Nat.beq b0 183 && (Nat.beq (b1 * 256 + b2) n && (Nat.blt b1 256 && Nat.blt b2 256))
  | .invokestatic n => Nat.beq b0 184 && (Nat.beq (b1 * 256 + b2) n && (Nat.blt b1 256 && Nat.blt b2 256))
  | .invokevirtual n => Nat.beq b0 182 && (Nat.beq (b1 * 256 + b2) n && (Nat.blt b1 256 && Nat.blt b2 256))
  | .ldc2_w n => Nat.beq b0 20 && (Nat.beq (b1 * 256 + b2) n && (Nat.blt b1 256 && Nat.blt b2 256))
  | .ldc_w n => Nat.beq b0 19 && (Nat.beq (b1 * 256 + b2) n && (Nat.blt b1 256 && Nat.blt b2 256))
  | .new n => Nat.beq b0 187 && (Nat.beq (b1 * 256 + b2) n && (Nat.blt b1 256 && Nat.blt b2 256))
  | .putfield n => Nat.beq b0 181 && (Nat.beq (b1 * 256 + b2) n && (Nat.blt b1 256 && Nat.blt b2 256))
  | .goto n => Nat.beq b0 167 && (decide (Reader.signed 16 (b1 * 256 + b2) = n) && (Nat.blt b1 256 && Nat.blt b2 256))
  | .ifnonnull n => Nat.beq b0 199 && (decide (Reader.signed 16 (b1 * 256 + b2) = n) && (Nat.blt b1 256 && Nat.blt b2 256))
  | .ifnull n => Nat.beq b0 198 && (decide (Reader.signed 16 (b1 * 256 + b2) = n) && (Nat.blt b1 256 && Nat.blt b2 256))
  | .sipush n => Nat.beq b0 17 && (decide (Reader.signed 16 (b1 * 256 + b2) = n) && (Nat.blt b1 256 && Nat.blt b2 256))
  | .ifCond .eq n => Nat.beq b0 153 && (decide (Reader.signed 16 (b1 * 256 + b2) = n) && (Nat.blt b1 256 && Nat.blt b2 256))
  | .ifCond .ne n => Nat.beq b0 154 && (decide (Reader.signed 16 (b1 * 256 + b2) = n) && (Nat.blt b1 256 && Nat.blt b2 256))
  | .ifCond .lt n => Nat.beq b0 155 && (decide (Reader.signed 16 (b1 * 256 + b2) = n) && (Nat.blt b1 256 && Nat.blt b2 256))
  | .ifCond .ge n => Nat.beq b0 156 && (decide (Reader.signed 16 (b1 * 256 + b2) = n) && (Nat.blt b1 256 && Nat.blt b2 256))
  | .ifCond .gt n => Nat.beq b0 157 && (decide (Reader.signed 16 (b1 * 256 + b2) = n) && (Nat.blt b1 256 && Nat.blt b2 256))
  | .ifCond .le n => Nat.beq b0 158 && (decide (Reader.signed 16 (b1 * 256 + b2) = n) && (Nat.blt b1 256 && Nat.blt b2 256))
  | .if_icmp .eq n => Nat.beq b0 159 && (decide (Reader.signed 16 (b1 * 256 + b2) = n) && (Nat.blt b1 256 && Nat.blt b2 256))
  | .if_icmp .ne n => Nat.beq b0 160 && (decide (Reader.signed 16 (b1 * 256 + b2) = n) && (Nat.blt b1 256 && Nat.blt b2 256))
  | .if_icmp .lt n => Nat.beq b0 161 && (decide (Reader.signed 16 (b1 * 256 + b2) = n) && (Nat.blt b1 256 && Nat.blt b2 256))
  | .if_icmp .ge n => Nat.beq b0 162 && (decide (Reader.signed 16 (b1 * 256 + b2) = n) && (Nat.blt b1 256 && Nat.blt b2 256))
  | .if_icmp .gt n => Nat.beq b0 163 && (decide (Reader.signed 16 (b1 * 256 + b2) = n) && (Nat.blt b1 256 && Nat.blt b2 256))
  | .if_icmp .le n => Nat.beq b0 164 && (decide (Reader.signed 16 (b1 * 256 + b2) = n) && (Nat.blt b1 256 && Nat.blt b2 256))
  | .bipush n => Nat.beq b0 16 && (decide (Reader.signed 8 b1 = n) && Nat.blt b1 256)
  | .iinc k n => Nat.beq b0 132 && ((Nat.beq b1 k && decide (Reader.signed 8 b2 = n)) && (Nat.blt b1 256 && Nat.blt b2 256))
  | .newarray .short => Nat.beq b0 188 && Nat.beq b1 9
  | .newarray .long => Nat.beq b0 188 && Nat.beq b1 11
  | .newarray .boolean => Nat.beq b0 188 && Nat.beq b1 4
  | .newarray .int => Nat.beq b0 188 && Nat.beq b1 10
  | .iconst n => Nat.ble 2 b0 && (Nat.ble b0 8 && decide ((b0 : Int) = n + 3))
  | _ => false
def dl (i : Instr) : Nat := match i with
  | .aload n => 2
  | .astore n => 2
  | .iload n => 2
  | .istore n => 2
  | .lload n => 2
  | .lstore n => 2
  | .ldc n => 2
  | .anewarray n => 3
  | .checkcast n => 3
  | .getfield n => 3
  | .getstatic n => 3
  | .instanceof n => 3
  | .invokespecial n => 3
  | .invokestatic n => 3
  | .invokevirtual n => 3
  | .ldc2_w n => 3
  | .ldc_w n => 3
  | .new n => 3
  | .putfield n => 3
  | .goto n => 3
  | .ifnonnull n => 3
  | .ifnull n => 3
  | .sipush n => 3
  | .ifCond .eq n => 3
  | .ifCond .ne n => 3
  | .ifCond .lt n => 3
  | .ifCond .ge n => 3
  | .ifCond .gt n => 3
  | .ifCond .le n => 3
  | .if_icmp .eq n => 3
  | .if_icmp .ne n => 3
  | .if_icmp .lt n => 3
  | .if_icmp .ge n => 3
  | .if_icmp .gt n => 3
  | .if_icmp .le n => 3
  | .bipush n => 2
  | .iinc k n => 3
  | .newarray .short => 2
  | .newarray .long => 2
  | .newarray .boolean => 2
  | .newarray .int => 2
  | _ => 1
set_option maxHeartbeats 8000000 in
theorem dk_ok {L : List UInt8} {p b0 b1 b2 : Nat} (h0 : hB (L.drop p) = b0) (h1 : hB (L.drop (p + 1)) = b1) (h2 : hB (L.drop (p + 1 + 1)) = b2) (i : Instr) (h : dk b0 b1 b2 i = true) : decode ⟨⟨L⟩⟩ p = .ok (i, dl i) := by
  unfold dk at h
  split at h
  · exact dc_at (len := 1) ((in_at _ rfl (u1_at (b := 50) (h0.trans (Nat.eq_of_beq_eq_true h)) (by decide))).trans rfl)
  · exact dc_at (len := 1) ((in_at _ rfl (u1_at (b := 83) (h0.trans (Nat.eq_of_beq_eq_true h)) (by decide))).trans rfl)
  · exact dc_at (len := 1) ((in_at _ rfl (u1_at (b := 1) (h0.trans (Nat.eq_of_beq_eq_true h)) (by decide))).trans rfl)
  · exact dc_at (len := 1) ((in_at _ rfl (u1_at (b := 176) (h0.trans (Nat.eq_of_beq_eq_true h)) (by decide))).trans rfl)
  · exact dc_at (len := 1) ((in_at _ rfl (u1_at (b := 190) (h0.trans (Nat.eq_of_beq_eq_true h)) (by decide))).trans rfl)
  · exact dc_at (len := 1) ((in_at _ rfl (u1_at (b := 191) (h0.trans (Nat.eq_of_beq_eq_true h)) (by decide))).trans rfl)
  · exact dc_at (len := 1) ((in_at _ rfl (u1_at (b := 51) (h0.trans (Nat.eq_of_beq_eq_true h)) (by decide))).trans rfl)
  · exact dc_at (len := 1) ((in_at _ rfl (u1_at (b := 84) (h0.trans (Nat.eq_of_beq_eq_true h)) (by decide))).trans rfl)
  · exact dc_at (len := 1) ((in_at _ rfl (u1_at (b := 89) (h0.trans (Nat.eq_of_beq_eq_true h)) (by decide))).trans rfl)
  · exact dc_at (len := 1) ((in_at _ rfl (u1_at (b := 92) (h0.trans (Nat.eq_of_beq_eq_true h)) (by decide))).trans rfl)
  · exact dc_at (len := 1) ((in_at _ rfl (u1_at (b := 90) (h0.trans (Nat.eq_of_beq_eq_true h)) (by decide))).trans rfl)
  · exact dc_at (len := 1) ((in_at _ rfl (u1_at (b := 91) (h0.trans (Nat.eq_of_beq_eq_true h)) (by decide))).trans rfl)
  · exact dc_at (len := 1) ((in_at _ rfl (u1_at (b := 133) (h0.trans (Nat.eq_of_beq_eq_true h)) (by decide))).trans rfl)
  · exact dc_at (len := 1) ((in_at _ rfl (u1_at (b := 147) (h0.trans (Nat.eq_of_beq_eq_true h)) (by decide))).trans rfl)
  · exact dc_at (len := 1) ((in_at _ rfl (u1_at (b := 96) (h0.trans (Nat.eq_of_beq_eq_true h)) (by decide))).trans rfl)
  · exact dc_at (len := 1) ((in_at _ rfl (u1_at (b := 46) (h0.trans (Nat.eq_of_beq_eq_true h)) (by decide))).trans rfl)
  · exact dc_at (len := 1) ((in_at _ rfl (u1_at (b := 126) (h0.trans (Nat.eq_of_beq_eq_true h)) (by decide))).trans rfl)
  · exact dc_at (len := 1) ((in_at _ rfl (u1_at (b := 79) (h0.trans (Nat.eq_of_beq_eq_true h)) (by decide))).trans rfl)
  · exact dc_at (len := 1) ((in_at _ rfl (u1_at (b := 108) (h0.trans (Nat.eq_of_beq_eq_true h)) (by decide))).trans rfl)
  · exact dc_at (len := 1) ((in_at _ rfl (u1_at (b := 104) (h0.trans (Nat.eq_of_beq_eq_true h)) (by decide))).trans rfl)
  · exact dc_at (len := 1) ((in_at _ rfl (u1_at (b := 128) (h0.trans (Nat.eq_of_beq_eq_true h)) (by decide))).trans rfl)
  · exact dc_at (len := 1) ((in_at _ rfl (u1_at (b := 112) (h0.trans (Nat.eq_of_beq_eq_true h)) (by decide))).trans rfl)
  · exact dc_at (len := 1) ((in_at _ rfl (u1_at (b := 172) (h0.trans (Nat.eq_of_beq_eq_true h)) (by decide))).trans rfl)
  · exact dc_at (len := 1) ((in_at _ rfl (u1_at (b := 120) (h0.trans (Nat.eq_of_beq_eq_true h)) (by decide))).trans rfl)
  · exact dc_at (len := 1) ((in_at _ rfl (u1_at (b := 122) (h0.trans (Nat.eq_of_beq_eq_true h)) (by decide))).trans rfl)
  · exact dc_at (len := 1) ((in_at _ rfl (u1_at (b := 100) (h0.trans (Nat.eq_of_beq_eq_true h)) (by decide))).trans rfl)
  · exact dc_at (len := 1) ((in_at _ rfl (u1_at (b := 124) (h0.trans (Nat.eq_of_beq_eq_true h)) (by decide))).trans rfl)
  · exact dc_at (len := 1) ((in_at _ rfl (u1_at (b := 130) (h0.trans (Nat.eq_of_beq_eq_true h)) (by decide))).trans rfl)
  · exact dc_at (len := 1) ((in_at _ rfl (u1_at (b := 136) (h0.trans (Nat.eq_of_beq_eq_true h)) (by decide))).trans rfl)
  · exact dc_at (len := 1) ((in_at _ rfl (u1_at (b := 97) (h0.trans (Nat.eq_of_beq_eq_true h)) (by decide))).trans rfl)
  · exact dc_at (len := 1) ((in_at _ rfl (u1_at (b := 47) (h0.trans (Nat.eq_of_beq_eq_true h)) (by decide))).trans rfl)
  · exact dc_at (len := 1) ((in_at _ rfl (u1_at (b := 127) (h0.trans (Nat.eq_of_beq_eq_true h)) (by decide))).trans rfl)
  · exact dc_at (len := 1) ((in_at _ rfl (u1_at (b := 80) (h0.trans (Nat.eq_of_beq_eq_true h)) (by decide))).trans rfl)
  · exact dc_at (len := 1) ((in_at _ rfl (u1_at (b := 148) (h0.trans (Nat.eq_of_beq_eq_true h)) (by decide))).trans rfl)
  · exact dc_at (len := 1) ((in_at _ rfl (u1_at (b := 105) (h0.trans (Nat.eq_of_beq_eq_true h)) (by decide))).trans rfl)
  · exact dc_at (len := 1) ((in_at _ rfl (u1_at (b := 129) (h0.trans (Nat.eq_of_beq_eq_true h)) (by decide))).trans rfl)
  · exact dc_at (len := 1) ((in_at _ rfl (u1_at (b := 173) (h0.trans (Nat.eq_of_beq_eq_true h)) (by decide))).trans rfl)
  · exact dc_at (len := 1) ((in_at _ rfl (u1_at (b := 121) (h0.trans (Nat.eq_of_beq_eq_true h)) (by decide))).trans rfl)
  · exact dc_at (len := 1) ((in_at _ rfl (u1_at (b := 101) (h0.trans (Nat.eq_of_beq_eq_true h)) (by decide))).trans rfl)
  · exact dc_at (len := 1) ((in_at _ rfl (u1_at (b := 125) (h0.trans (Nat.eq_of_beq_eq_true h)) (by decide))).trans rfl)
  · exact dc_at (len := 1) ((in_at _ rfl (u1_at (b := 131) (h0.trans (Nat.eq_of_beq_eq_true h)) (by decide))).trans rfl)
  · exact dc_at (len := 1) ((in_at _ rfl (u1_at (b := 87) (h0.trans (Nat.eq_of_beq_eq_true h)) (by decide))).trans rfl)
  · exact dc_at (len := 1) ((in_at _ rfl (u1_at (b := 177) (h0.trans (Nat.eq_of_beq_eq_true h)) (by decide))).trans rfl)
  · exact dc_at (len := 1) ((in_at _ rfl (u1_at (b := 53) (h0.trans (Nat.eq_of_beq_eq_true h)) (by decide))).trans rfl)
  · exact dc_at (len := 1) ((in_at _ rfl (u1_at (b := 86) (h0.trans (Nat.eq_of_beq_eq_true h)) (by decide))).trans rfl)
  · rename_i n
    exact (match n, h with
      | ⟨0, _⟩, h => dc_at (len := 1) ((in_at _ rfl (u1_at (b := 42) (h0.trans (Nat.eq_of_beq_eq_true h)) (by decide))).trans rfl)
      | ⟨1, _⟩, h => dc_at (len := 1) ((in_at _ rfl (u1_at (b := 43) (h0.trans (Nat.eq_of_beq_eq_true h)) (by decide))).trans rfl)
      | ⟨2, _⟩, h => dc_at (len := 1) ((in_at _ rfl (u1_at (b := 44) (h0.trans (Nat.eq_of_beq_eq_true h)) (by decide))).trans rfl)
      | ⟨3, _⟩, h => dc_at (len := 1) ((in_at _ rfl (u1_at (b := 45) (h0.trans (Nat.eq_of_beq_eq_true h)) (by decide))).trans rfl)
      | ⟨k + 4, hk⟩, _ => absurd hk (by omega))
  · rename_i n
    exact (match n, h with
      | ⟨0, _⟩, h => dc_at (len := 1) ((in_at _ rfl (u1_at (b := 75) (h0.trans (Nat.eq_of_beq_eq_true h)) (by decide))).trans rfl)
      | ⟨1, _⟩, h => dc_at (len := 1) ((in_at _ rfl (u1_at (b := 76) (h0.trans (Nat.eq_of_beq_eq_true h)) (by decide))).trans rfl)
      | ⟨2, _⟩, h => dc_at (len := 1) ((in_at _ rfl (u1_at (b := 77) (h0.trans (Nat.eq_of_beq_eq_true h)) (by decide))).trans rfl)
      | ⟨3, _⟩, h => dc_at (len := 1) ((in_at _ rfl (u1_at (b := 78) (h0.trans (Nat.eq_of_beq_eq_true h)) (by decide))).trans rfl)
      | ⟨k + 4, hk⟩, _ => absurd hk (by omega))
  · rename_i n
    exact (match n, h with
      | ⟨0, _⟩, h => dc_at (len := 1) ((in_at _ rfl (u1_at (b := 26) (h0.trans (Nat.eq_of_beq_eq_true h)) (by decide))).trans rfl)
      | ⟨1, _⟩, h => dc_at (len := 1) ((in_at _ rfl (u1_at (b := 27) (h0.trans (Nat.eq_of_beq_eq_true h)) (by decide))).trans rfl)
      | ⟨2, _⟩, h => dc_at (len := 1) ((in_at _ rfl (u1_at (b := 28) (h0.trans (Nat.eq_of_beq_eq_true h)) (by decide))).trans rfl)
      | ⟨3, _⟩, h => dc_at (len := 1) ((in_at _ rfl (u1_at (b := 29) (h0.trans (Nat.eq_of_beq_eq_true h)) (by decide))).trans rfl)
      | ⟨k + 4, hk⟩, _ => absurd hk (by omega))
  · rename_i n
    exact (match n, h with
      | ⟨0, _⟩, h => dc_at (len := 1) ((in_at _ rfl (u1_at (b := 59) (h0.trans (Nat.eq_of_beq_eq_true h)) (by decide))).trans rfl)
      | ⟨1, _⟩, h => dc_at (len := 1) ((in_at _ rfl (u1_at (b := 60) (h0.trans (Nat.eq_of_beq_eq_true h)) (by decide))).trans rfl)
      | ⟨2, _⟩, h => dc_at (len := 1) ((in_at _ rfl (u1_at (b := 61) (h0.trans (Nat.eq_of_beq_eq_true h)) (by decide))).trans rfl)
      | ⟨3, _⟩, h => dc_at (len := 1) ((in_at _ rfl (u1_at (b := 62) (h0.trans (Nat.eq_of_beq_eq_true h)) (by decide))).trans rfl)
      | ⟨k + 4, hk⟩, _ => absurd hk (by omega))
  · rename_i n
    exact (match n, h with
      | ⟨0, _⟩, h => dc_at (len := 1) ((in_at _ rfl (u1_at (b := 30) (h0.trans (Nat.eq_of_beq_eq_true h)) (by decide))).trans rfl)
      | ⟨1, _⟩, h => dc_at (len := 1) ((in_at _ rfl (u1_at (b := 31) (h0.trans (Nat.eq_of_beq_eq_true h)) (by decide))).trans rfl)
      | ⟨2, _⟩, h => dc_at (len := 1) ((in_at _ rfl (u1_at (b := 32) (h0.trans (Nat.eq_of_beq_eq_true h)) (by decide))).trans rfl)
      | ⟨3, _⟩, h => dc_at (len := 1) ((in_at _ rfl (u1_at (b := 33) (h0.trans (Nat.eq_of_beq_eq_true h)) (by decide))).trans rfl)
      | ⟨k + 4, hk⟩, _ => absurd hk (by omega))
  · rename_i n
    exact (match n, h with
      | ⟨0, _⟩, h => dc_at (len := 1) ((in_at _ rfl (u1_at (b := 63) (h0.trans (Nat.eq_of_beq_eq_true h)) (by decide))).trans rfl)
      | ⟨1, _⟩, h => dc_at (len := 1) ((in_at _ rfl (u1_at (b := 64) (h0.trans (Nat.eq_of_beq_eq_true h)) (by decide))).trans rfl)
      | ⟨2, _⟩, h => dc_at (len := 1) ((in_at _ rfl (u1_at (b := 65) (h0.trans (Nat.eq_of_beq_eq_true h)) (by decide))).trans rfl)
      | ⟨3, _⟩, h => dc_at (len := 1) ((in_at _ rfl (u1_at (b := 66) (h0.trans (Nat.eq_of_beq_eq_true h)) (by decide))).trans rfl)
      | ⟨k + 4, hk⟩, _ => absurd hk (by omega))
  · rename_i n
    exact (match n, h with
      | ⟨0, _⟩, h => dc_at (len := 1) ((in_at _ rfl (u1_at (b := 9) (h0.trans (Nat.eq_of_beq_eq_true h)) (by decide))).trans rfl)
      | ⟨1, _⟩, h => dc_at (len := 1) ((in_at _ rfl (u1_at (b := 10) (h0.trans (Nat.eq_of_beq_eq_true h)) (by decide))).trans rfl)
      | ⟨k + 2, hk⟩, _ => absurd hk (by omega))
  · rename_i n
    exact dc_at (len := 2) (by
    obtain rfl := Nat.eq_of_beq_eq_true (dn1 (dn2 h))
    exact (in_at _ rfl (u1_at (b := 25) (h0.trans (Nat.eq_of_beq_eq_true (dn1 h))) (by decide))).trans ((bd_at (f := fun x => pure (Instr.aload x)) (u1_at h1 (Nat.le_of_ble_eq_true (dn2 (dn2 h))))).trans rfl))
  · rename_i n
    exact dc_at (len := 2) (by
    obtain rfl := Nat.eq_of_beq_eq_true (dn1 (dn2 h))
    exact (in_at _ rfl (u1_at (b := 58) (h0.trans (Nat.eq_of_beq_eq_true (dn1 h))) (by decide))).trans ((bd_at (f := fun x => pure (Instr.astore x)) (u1_at h1 (Nat.le_of_ble_eq_true (dn2 (dn2 h))))).trans rfl))
  · rename_i n
    exact dc_at (len := 2) (by
    obtain rfl := Nat.eq_of_beq_eq_true (dn1 (dn2 h))
    exact (in_at _ rfl (u1_at (b := 21) (h0.trans (Nat.eq_of_beq_eq_true (dn1 h))) (by decide))).trans ((bd_at (f := fun x => pure (Instr.iload x)) (u1_at h1 (Nat.le_of_ble_eq_true (dn2 (dn2 h))))).trans rfl))
  · rename_i n
    exact dc_at (len := 2) (by
    obtain rfl := Nat.eq_of_beq_eq_true (dn1 (dn2 h))
    exact (in_at _ rfl (u1_at (b := 54) (h0.trans (Nat.eq_of_beq_eq_true (dn1 h))) (by decide))).trans ((bd_at (f := fun x => pure (Instr.istore x)) (u1_at h1 (Nat.le_of_ble_eq_true (dn2 (dn2 h))))).trans rfl))
  · rename_i n
    exact dc_at (len := 2) (by
    obtain rfl := Nat.eq_of_beq_eq_true (dn1 (dn2 h))
    exact (in_at _ rfl (u1_at (b := 22) (h0.trans (Nat.eq_of_beq_eq_true (dn1 h))) (by decide))).trans ((bd_at (f := fun x => pure (Instr.lload x)) (u1_at h1 (Nat.le_of_ble_eq_true (dn2 (dn2 h))))).trans rfl))
  · rename_i n
    exact dc_at (len := 2) (by
    obtain rfl := Nat.eq_of_beq_eq_true (dn1 (dn2 h))
    exact (in_at _ rfl (u1_at (b := 55) (h0.trans (Nat.eq_of_beq_eq_true (dn1 h))) (by decide))).trans ((bd_at (f := fun x => pure (Instr.lstore x)) (u1_at h1 (Nat.le_of_ble_eq_true (dn2 (dn2 h))))).trans rfl))
  · rename_i n
    exact dc_at (len := 2) (by
    obtain rfl := Nat.eq_of_beq_eq_true (dn1 (dn2 h))
    exact (in_at _ rfl (u1_at (b := 18) (h0.trans (Nat.eq_of_beq_eq_true (dn1 h))) (by decide))).trans ((bd_at (f := fun x => pure (Instr.ldc x)) (u1_at h1 (Nat.le_of_ble_eq_true (dn2 (dn2 h))))).trans rfl))
  · rename_i n
    exact dc_at (len := 3) (by
    obtain rfl := Nat.eq_of_beq_eq_true (dn1 (dn2 h))
    exact (in_at _ rfl (u1_at (b := 189) (h0.trans (Nat.eq_of_beq_eq_true (dn1 h))) (by decide))).trans ((bd_at (f := fun x => pure (Instr.anewarray x)) (u2_at h1 (Nat.le_of_ble_eq_true (dn1 (dn2 (dn2 h)))) h2 (Nat.le_of_ble_eq_true (dn2 (dn2 (dn2 h)))))).trans rfl))
  · rename_i n
    exact dc_at (len := 3) (by
    obtain rfl := Nat.eq_of_beq_eq_true (dn1 (dn2 h))
    exact (in_at _ rfl (u1_at (b := 192) (h0.trans (Nat.eq_of_beq_eq_true (dn1 h))) (by decide))).trans ((bd_at (f := fun x => pure (Instr.checkcast x)) (u2_at h1 (Nat.le_of_ble_eq_true (dn1 (dn2 (dn2 h)))) h2 (Nat.le_of_ble_eq_true (dn2 (dn2 (dn2 h)))))).trans rfl))
  · rename_i n
    exact dc_at (len := 3) (by
    obtain rfl := Nat.eq_of_beq_eq_true (dn1 (dn2 h))
    exact (in_at _ rfl (u1_at (b := 180) (h0.trans (Nat.eq_of_beq_eq_true (dn1 h))) (by decide))).trans ((bd_at (f := fun x => pure (Instr.getfield x)) (u2_at h1 (Nat.le_of_ble_eq_true (dn1 (dn2 (dn2 h)))) h2 (Nat.le_of_ble_eq_true (dn2 (dn2 (dn2 h)))))).trans rfl))
  · rename_i n
    exact dc_at (len := 3) (by
    obtain rfl := Nat.eq_of_beq_eq_true (dn1 (dn2 h))
    exact (in_at _ rfl (u1_at (b := 178) (h0.trans (Nat.eq_of_beq_eq_true (dn1 h))) (by decide))).trans ((bd_at (f := fun x => pure (Instr.getstatic x)) (u2_at h1 (Nat.le_of_ble_eq_true (dn1 (dn2 (dn2 h)))) h2 (Nat.le_of_ble_eq_true (dn2 (dn2 (dn2 h)))))).trans rfl))
  · rename_i n
    exact dc_at (len := 3) (by
    obtain rfl := Nat.eq_of_beq_eq_true (dn1 (dn2 h))
    exact (in_at _ rfl (u1_at (b := 193) (h0.trans (Nat.eq_of_beq_eq_true (dn1 h))) (by decide))).trans ((bd_at (f := fun x => pure (Instr.instanceof x)) (u2_at h1 (Nat.le_of_ble_eq_true (dn1 (dn2 (dn2 h)))) h2 (Nat.le_of_ble_eq_true (dn2 (dn2 (dn2 h)))))).trans rfl))
  · rename_i n
    exact dc_at (len := 3) (by
    obtain rfl := Nat.eq_of_beq_eq_true (dn1 (dn2 h))
    exact (in_at _ rfl (u1_at (b := 183) (h0.trans (Nat.eq_of_beq_eq_true (dn1 h))) (by decide))).trans ((bd_at (f := fun x => pure (Instr.invokespecial x)) (u2_at h1 (Nat.le_of_ble_eq_true (dn1 (dn2 (dn2 h)))) h2 (Nat.le_of_ble_eq_true (dn2 (dn2 (dn2 h)))))).trans rfl))
  · rename_i n
    exact dc_at (len := 3) (by
    obtain rfl := Nat.eq_of_beq_eq_true (dn1 (dn2 h))
    exact (in_at _ rfl (u1_at (b := 184) (h0.trans (Nat.eq_of_beq_eq_true (dn1 h))) (by decide))).trans ((bd_at (f := fun x => pure (Instr.invokestatic x)) (u2_at h1 (Nat.le_of_ble_eq_true (dn1 (dn2 (dn2 h)))) h2 (Nat.le_of_ble_eq_true (dn2 (dn2 (dn2 h)))))).trans rfl))
  · rename_i n
    exact dc_at (len := 3) (by
    obtain rfl := Nat.eq_of_beq_eq_true (dn1 (dn2 h))
    exact (in_at _ rfl (u1_at (b := 182) (h0.trans (Nat.eq_of_beq_eq_true (dn1 h))) (by decide))).trans ((bd_at (f := fun x => pure (Instr.invokevirtual x)) (u2_at h1 (Nat.le_of_ble_eq_true (dn1 (dn2 (dn2 h)))) h2 (Nat.le_of_ble_eq_true (dn2 (dn2 (dn2 h)))))).trans rfl))
  · rename_i n
    exact dc_at (len := 3) (by
    obtain rfl := Nat.eq_of_beq_eq_true (dn1 (dn2 h))
    exact (in_at _ rfl (u1_at (b := 20) (h0.trans (Nat.eq_of_beq_eq_true (dn1 h))) (by decide))).trans ((bd_at (f := fun x => pure (Instr.ldc2_w x)) (u2_at h1 (Nat.le_of_ble_eq_true (dn1 (dn2 (dn2 h)))) h2 (Nat.le_of_ble_eq_true (dn2 (dn2 (dn2 h)))))).trans rfl))
  · rename_i n
    exact dc_at (len := 3) (by
    obtain rfl := Nat.eq_of_beq_eq_true (dn1 (dn2 h))
    exact (in_at _ rfl (u1_at (b := 19) (h0.trans (Nat.eq_of_beq_eq_true (dn1 h))) (by decide))).trans ((bd_at (f := fun x => pure (Instr.ldc_w x)) (u2_at h1 (Nat.le_of_ble_eq_true (dn1 (dn2 (dn2 h)))) h2 (Nat.le_of_ble_eq_true (dn2 (dn2 (dn2 h)))))).trans rfl))
  · rename_i n
    exact dc_at (len := 3) (by
    obtain rfl := Nat.eq_of_beq_eq_true (dn1 (dn2 h))
    exact (in_at _ rfl (u1_at (b := 187) (h0.trans (Nat.eq_of_beq_eq_true (dn1 h))) (by decide))).trans ((bd_at (f := fun x => pure (Instr.new x)) (u2_at h1 (Nat.le_of_ble_eq_true (dn1 (dn2 (dn2 h)))) h2 (Nat.le_of_ble_eq_true (dn2 (dn2 (dn2 h)))))).trans rfl))
  · rename_i n
    exact dc_at (len := 3) (by
    obtain rfl := Nat.eq_of_beq_eq_true (dn1 (dn2 h))
    exact (in_at _ rfl (u1_at (b := 181) (h0.trans (Nat.eq_of_beq_eq_true (dn1 h))) (by decide))).trans ((bd_at (f := fun x => pure (Instr.putfield x)) (u2_at h1 (Nat.le_of_ble_eq_true (dn1 (dn2 (dn2 h)))) h2 (Nat.le_of_ble_eq_true (dn2 (dn2 (dn2 h)))))).trans rfl))
  · rename_i n
    exact dc_at (len := 3) (by
    obtain rfl := of_decide_eq_true (dn1 (dn2 h))
    exact (in_at _ rfl (u1_at (b := 167) (h0.trans (Nat.eq_of_beq_eq_true (dn1 h))) (by decide))).trans ((bd_at (f := fun x => pure (Instr.goto x)) (s2_at h1 (Nat.le_of_ble_eq_true (dn1 (dn2 (dn2 h)))) h2 (Nat.le_of_ble_eq_true (dn2 (dn2 (dn2 h)))))).trans rfl))
  · rename_i n
    exact dc_at (len := 3) (by
    obtain rfl := of_decide_eq_true (dn1 (dn2 h))
    exact (in_at _ rfl (u1_at (b := 199) (h0.trans (Nat.eq_of_beq_eq_true (dn1 h))) (by decide))).trans ((bd_at (f := fun x => pure (Instr.ifnonnull x)) (s2_at h1 (Nat.le_of_ble_eq_true (dn1 (dn2 (dn2 h)))) h2 (Nat.le_of_ble_eq_true (dn2 (dn2 (dn2 h)))))).trans rfl))
  · rename_i n
    exact dc_at (len := 3) (by
    obtain rfl := of_decide_eq_true (dn1 (dn2 h))
    exact (in_at _ rfl (u1_at (b := 198) (h0.trans (Nat.eq_of_beq_eq_true (dn1 h))) (by decide))).trans ((bd_at (f := fun x => pure (Instr.ifnull x)) (s2_at h1 (Nat.le_of_ble_eq_true (dn1 (dn2 (dn2 h)))) h2 (Nat.le_of_ble_eq_true (dn2 (dn2 (dn2 h)))))).trans rfl))
  · rename_i n
    exact dc_at (len := 3) (by
    obtain rfl := of_decide_eq_true (dn1 (dn2 h))
    exact (in_at _ rfl (u1_at (b := 17) (h0.trans (Nat.eq_of_beq_eq_true (dn1 h))) (by decide))).trans ((bd_at (f := fun x => pure (Instr.sipush x)) (s2_at h1 (Nat.le_of_ble_eq_true (dn1 (dn2 (dn2 h)))) h2 (Nat.le_of_ble_eq_true (dn2 (dn2 (dn2 h)))))).trans rfl))
  · rename_i n
    exact dc_at (len := 3) (by
    obtain rfl := of_decide_eq_true (dn1 (dn2 h))
    exact (in_at _ rfl (u1_at (b := 153) (h0.trans (Nat.eq_of_beq_eq_true (dn1 h))) (by decide))).trans ((bd_at (f := fun x => pure (Instr.ifCond .eq x)) (s2_at h1 (Nat.le_of_ble_eq_true (dn1 (dn2 (dn2 h)))) h2 (Nat.le_of_ble_eq_true (dn2 (dn2 (dn2 h)))))).trans rfl))
  · rename_i n
    exact dc_at (len := 3) (by
    obtain rfl := of_decide_eq_true (dn1 (dn2 h))
    exact (in_at _ rfl (u1_at (b := 154) (h0.trans (Nat.eq_of_beq_eq_true (dn1 h))) (by decide))).trans ((bd_at (f := fun x => pure (Instr.ifCond .ne x)) (s2_at h1 (Nat.le_of_ble_eq_true (dn1 (dn2 (dn2 h)))) h2 (Nat.le_of_ble_eq_true (dn2 (dn2 (dn2 h)))))).trans rfl))
  · rename_i n
    exact dc_at (len := 3) (by
    obtain rfl := of_decide_eq_true (dn1 (dn2 h))
    exact (in_at _ rfl (u1_at (b := 155) (h0.trans (Nat.eq_of_beq_eq_true (dn1 h))) (by decide))).trans ((bd_at (f := fun x => pure (Instr.ifCond .lt x)) (s2_at h1 (Nat.le_of_ble_eq_true (dn1 (dn2 (dn2 h)))) h2 (Nat.le_of_ble_eq_true (dn2 (dn2 (dn2 h)))))).trans rfl))
  · rename_i n
    exact dc_at (len := 3) (by
    obtain rfl := of_decide_eq_true (dn1 (dn2 h))
    exact (in_at _ rfl (u1_at (b := 156) (h0.trans (Nat.eq_of_beq_eq_true (dn1 h))) (by decide))).trans ((bd_at (f := fun x => pure (Instr.ifCond .ge x)) (s2_at h1 (Nat.le_of_ble_eq_true (dn1 (dn2 (dn2 h)))) h2 (Nat.le_of_ble_eq_true (dn2 (dn2 (dn2 h)))))).trans rfl))
  · rename_i n
    exact dc_at (len := 3) (by
    obtain rfl := of_decide_eq_true (dn1 (dn2 h))
    exact (in_at _ rfl (u1_at (b := 157) (h0.trans (Nat.eq_of_beq_eq_true (dn1 h))) (by decide))).trans ((bd_at (f := fun x => pure (Instr.ifCond .gt x)) (s2_at h1 (Nat.le_of_ble_eq_true (dn1 (dn2 (dn2 h)))) h2 (Nat.le_of_ble_eq_true (dn2 (dn2 (dn2 h)))))).trans rfl))
  · rename_i n
    exact dc_at (len := 3) (by
    obtain rfl := of_decide_eq_true (dn1 (dn2 h))
    exact (in_at _ rfl (u1_at (b := 158) (h0.trans (Nat.eq_of_beq_eq_true (dn1 h))) (by decide))).trans ((bd_at (f := fun x => pure (Instr.ifCond .le x)) (s2_at h1 (Nat.le_of_ble_eq_true (dn1 (dn2 (dn2 h)))) h2 (Nat.le_of_ble_eq_true (dn2 (dn2 (dn2 h)))))).trans rfl))
  · rename_i n
    exact dc_at (len := 3) (by
    obtain rfl := of_decide_eq_true (dn1 (dn2 h))
    exact (in_at _ rfl (u1_at (b := 159) (h0.trans (Nat.eq_of_beq_eq_true (dn1 h))) (by decide))).trans ((bd_at (f := fun x => pure (Instr.if_icmp .eq x)) (s2_at h1 (Nat.le_of_ble_eq_true (dn1 (dn2 (dn2 h)))) h2 (Nat.le_of_ble_eq_true (dn2 (dn2 (dn2 h)))))).trans rfl))
  · rename_i n
    exact dc_at (len := 3) (by
    obtain rfl := of_decide_eq_true (dn1 (dn2 h))
    exact (in_at _ rfl (u1_at (b := 160) (h0.trans (Nat.eq_of_beq_eq_true (dn1 h))) (by decide))).trans ((bd_at (f := fun x => pure (Instr.if_icmp .ne x)) (s2_at h1 (Nat.le_of_ble_eq_true (dn1 (dn2 (dn2 h)))) h2 (Nat.le_of_ble_eq_true (dn2 (dn2 (dn2 h)))))).trans rfl))
  · rename_i n
    exact dc_at (len := 3) (by
    obtain rfl := of_decide_eq_true (dn1 (dn2 h))
    exact (in_at _ rfl (u1_at (b := 161) (h0.trans (Nat.eq_of_beq_eq_true (dn1 h))) (by decide))).trans ((bd_at (f := fun x => pure (Instr.if_icmp .lt x)) (s2_at h1 (Nat.le_of_ble_eq_true (dn1 (dn2 (dn2 h)))) h2 (Nat.le_of_ble_eq_true (dn2 (dn2 (dn2 h)))))).trans rfl))
  · rename_i n
    exact dc_at (len := 3) (by
    obtain rfl := of_decide_eq_true (dn1 (dn2 h))
    exact (in_at _ rfl (u1_at (b := 162) (h0.trans (Nat.eq_of_beq_eq_true (dn1 h))) (by decide))).trans ((bd_at (f := fun x => pure (Instr.if_icmp .ge x)) (s2_at h1 (Nat.le_of_ble_eq_true (dn1 (dn2 (dn2 h)))) h2 (Nat.le_of_ble_eq_true (dn2 (dn2 (dn2 h)))))).trans rfl))
  · rename_i n
    exact dc_at (len := 3) (by
    obtain rfl := of_decide_eq_true (dn1 (dn2 h))
    exact (in_at _ rfl (u1_at (b := 163) (h0.trans (Nat.eq_of_beq_eq_true (dn1 h))) (by decide))).trans ((bd_at (f := fun x => pure (Instr.if_icmp .gt x)) (s2_at h1 (Nat.le_of_ble_eq_true (dn1 (dn2 (dn2 h)))) h2 (Nat.le_of_ble_eq_true (dn2 (dn2 (dn2 h)))))).trans rfl))
  · rename_i n
    exact dc_at (len := 3) (by
    obtain rfl := of_decide_eq_true (dn1 (dn2 h))
    exact (in_at _ rfl (u1_at (b := 164) (h0.trans (Nat.eq_of_beq_eq_true (dn1 h))) (by decide))).trans ((bd_at (f := fun x => pure (Instr.if_icmp .le x)) (s2_at h1 (Nat.le_of_ble_eq_true (dn1 (dn2 (dn2 h)))) h2 (Nat.le_of_ble_eq_true (dn2 (dn2 (dn2 h)))))).trans rfl))
  · rename_i n
    exact dc_at (len := 2) (by
    obtain rfl := of_decide_eq_true (dn1 (dn2 h))
    exact (in_at _ rfl (u1_at (b := 16) (h0.trans (Nat.eq_of_beq_eq_true (dn1 h))) (by decide))).trans ((bd_at (f := fun x => pure (Instr.bipush x)) (s1_at h1 (Nat.le_of_ble_eq_true (dn2 (dn2 h))))).trans rfl))
  · rename_i k n
    exact dc_at (len := 3) (by
    obtain rfl := Nat.eq_of_beq_eq_true (dn1 (dn1 (dn2 h)))
    obtain rfl := of_decide_eq_true (dn2 (dn1 (dn2 h)))
    exact (in_at _ rfl (u1_at (b := 132) (h0.trans (Nat.eq_of_beq_eq_true (dn1 h))) (by decide))).trans ((bd_at (f := fun x => (Reader.s1 : Decoder Int) >>= fun y => pure (Instr.iinc x y)) (u1_at h1 (Nat.le_of_ble_eq_true (dn1 (dn2 (dn2 h)))))).trans ((bd_at (s1_at h2 (Nat.le_of_ble_eq_true (dn2 (dn2 (dn2 h)))))).trans rfl)))
  · exact dc_at (len := 2) ((in_at _ rfl (u1_at (b := 188) (h0.trans (Nat.eq_of_beq_eq_true (dn1 h))) (by decide))).trans ((in_at _ rfl (u1_at (b := 9) (h1.trans (Nat.eq_of_beq_eq_true (dn2 h))) (by decide))).trans rfl))
  · exact dc_at (len := 2) ((in_at _ rfl (u1_at (b := 188) (h0.trans (Nat.eq_of_beq_eq_true (dn1 h))) (by decide))).trans ((in_at _ rfl (u1_at (b := 11) (h1.trans (Nat.eq_of_beq_eq_true (dn2 h))) (by decide))).trans rfl))
  · exact dc_at (len := 2) ((in_at _ rfl (u1_at (b := 188) (h0.trans (Nat.eq_of_beq_eq_true (dn1 h))) (by decide))).trans ((in_at _ rfl (u1_at (b := 4) (h1.trans (Nat.eq_of_beq_eq_true (dn2 h))) (by decide))).trans rfl))
  · exact dc_at (len := 2) ((in_at _ rfl (u1_at (b := 188) (h0.trans (Nat.eq_of_beq_eq_true (dn1 h))) (by decide))).trans ((in_at _ rfl (u1_at (b := 10) (h1.trans (Nat.eq_of_beq_eq_true (dn2 h))) (by decide))).trans rfl))
  · rename_i n
    exact dc_at (len := 1) (by
    have a1 := Nat.le_of_ble_eq_true (dn1 h)
    have a2 := Nat.le_of_ble_eq_true (dn1 (dn2 h))
    have a3 : (b0 : Int) = n + 3 := of_decide_eq_true (dn2 (dn2 h))
    rcases (show (b0 = 2 ∧ n = -1) ∨ (b0 = 3 ∧ n = 0) ∨ (b0 = 4 ∧ n = 1) ∨ (b0 = 5 ∧ n = 2) ∨ (b0 = 6 ∧ n = 3) ∨ (b0 = 7 ∧ n = 4) ∨ (b0 = 8 ∧ n = 5) by omega) with ⟨e, rfl⟩ | ⟨e, rfl⟩ | ⟨e, rfl⟩ | ⟨e, rfl⟩ | ⟨e, rfl⟩ | ⟨e, rfl⟩ | ⟨e, rfl⟩
    · exact (in_at _ rfl (u1_at (b := 2) (h0.trans e) (by decide))).trans rfl
    · exact (in_at _ rfl (u1_at (b := 3) (h0.trans e) (by decide))).trans rfl
    · exact (in_at _ rfl (u1_at (b := 4) (h0.trans e) (by decide))).trans rfl
    · exact (in_at _ rfl (u1_at (b := 5) (h0.trans e) (by decide))).trans rfl
    · exact (in_at _ rfl (u1_at (b := 6) (h0.trans e) (by decide))).trans rfl
    · exact (in_at _ rfl (u1_at (b := 7) (h0.trans e) (by decide))).trans rfl
    · exact (in_at _ rfl (u1_at (b := 8) (h0.trans e) (by decide))).trans rfl)
  · cases h
def fck (R : Nat → pm_I → Bool) (M : pm_M) : List UInt8 → Nat → Bool
  | [], _ => true
  | b :: t, pc => (match pm_look M pc with
    | none => true
    | some q => (match dk b.toNat (hB t) (hB (tB t)) q.1 && Nat.beq q.2.1 (dl q.1) with
      | true => true
      | false => decide (decode (pm_cd M) pc = .ok (q.1, q.2.1))) && R pc q) && fck R M t (pc + 1)
theorem fck_ok {R : Nat → pm_I → Bool} {M : pm_M} {L : List UInt8} (hc : pm_cd M = ⟨⟨L⟩⟩) : ∀ (l : List UInt8) (pc : Nat), l = L.drop pc → fck R M l pc = true → ∀ (pc' : Nat) (q : pm_I), pc ≤ pc' → pc' < L.length → pm_look M pc' = some q → decode (pm_cd M) pc' = .ok (q.1, q.2.1) ∧ R pc' q = true := by
  intro l
  induction l with
  | nil =>
    intro pc e _ pc' q h1 h2 _
    have h := congrArg List.length e
    rw [List.length_drop] at h
    have h' : 0 = L.length - pc := h
    omega
  | cons b t ih =>
    intro pc e h pc' q h1 h2 hl
    unfold fck at h
    have et : t = L.drop (pc + 1) := by
      rw [← tB_dr, ← e]
      rfl
    by_cases e9 : pc' = pc
    · subst e9
      have h3 := dn1 h
      rw [hl] at h3
      dsimp only at h3
      refine ⟨?_, dn2 h3⟩
      have h4 := dn1 h3
      cases h5 : dk b.toNat (hB t) (hB (tB t)) q.1 && Nat.beq q.2.1 (dl q.1)
      · rw [h5] at h4
        exact of_decide_eq_true h4
      · have h6 := dk_ok (L := L) (p := pc') (b0 := b.toNat) (b1 := hB t) (b2 := hB (tB t)) (by rw [← e]; rfl) (by rw [← et]) (by rw [← tB_dr, ← et]) q.1 (dn1 h5)
        rw [hc, h6, Nat.eq_of_beq_eq_true (dn2 h5)]
    · exact ih (pc + 1) et (dn2 h) pc' q (by omega) h2 hl
theorem pm_wt_fc {R : Nat → pm_I → Bool} {M : pm_M} (h : (Nat.ble (pm_bd M) (pm_cd M).data.toList.length && fck R M (pm_cd M).data.toList 0) = true) : ∀ (pc : Nat) (q : pm_I), pm_look M pc = some q → decode (pm_cd M) pc = .ok (q.1, q.2.1) ∧ R pc q = true := by
  intro pc q hq
  have hl : pc < pm_bd M := by
    rcases Nat.lt_or_ge pc (pm_bd M) with hl | hl
    · exact hl
    · unfold pm_look at hq
      have e : Nat.ble (pc + 1) (pm_bd M) = false := by
        cases hb : Nat.ble (pc + 1) (pm_bd M) with
        | false => rfl
        | true => have := Nat.le_of_ble_eq_true hb; omega
      rw [e] at hq
      cases hq
  have h1 := Nat.le_of_ble_eq_true (dn1 h)
  exact fck_ok (L := (pm_cd M).data.toList) rfl _ 0 rfl (dn2 h) pc q (Nat.zero_le _) (by omega) hq
end EC
