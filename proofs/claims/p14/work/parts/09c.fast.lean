/-! ===== instructions read once over ===== -/
theorem fdr {l : List UInt8} {p : Nat} {x : UInt8} {r : List UInt8} (h : l.drop p = x :: r) : l.drop (p + 1) = r := by
  have e : l.drop (p + 1) = (l.drop p).drop 1 := by rw [List.drop_drop]
  rw [e, h]
  rfl
theorem fu1 {cc : ByteArray} {p : Nat} {x : UInt8} {l : List UInt8} (h : cc.data.toList.drop p = x :: l) : (Reader.u1 : Decoder Nat) cc p = .ok (x.toNat, p + 1) := by
  have hp : p < cc.data.toList.length := by
    rcases Nat.lt_or_ge p cc.data.toList.length with z | z
    · exact z
    · rw [List.drop_eq_nil_of_le z] at h; cases h
  have hp2 : p < cc.size := hp
  have hx : cc[p] = x := by
    have e := List.drop_eq_getElem_cons hp
    rw [h] at e
    exact (List.cons.inj e).1.symm
  show (dite (p < cc.size) (fun h => (do set (p + 1); pure cc[p].toNat : Decoder Nat)) (fun _ => throw (HasTruncated.truncated p))) cc p = _
  rw [dif_pos hp2]
  show Except.ok (cc[p].toNat, p + 1) = _
  rw [hx]
theorem fbn {α β : Type} {m : Decoder α} {f : α → Decoder β} {cc : ByteArray} {p q : Nat} {a : α} (h : m cc p = .ok (a, q)) : (m >>= f) cc p = f a cc q := by
  have e : (m >>= f) cc p = Except.bind (m cc p) (fun r => f r.1 cc r.2) := rfl
  rw [e, h]
  rfl
theorem fu2 {cc : ByteArray} {p : Nat} {x y : UInt8} {l : List UInt8} (h : cc.data.toList.drop p = x :: y :: l) : (Reader.u2 : Decoder Nat) cc p = .ok (x.toNat * 256 + y.toNat, p + 2) := by
  unfold Reader.u2
  rw [fbn (fu1 h), fbn (fu1 (fdr h))]
  rfl
theorem fs1 {cc : ByteArray} {p : Nat} {x : UInt8} {l : List UInt8} (h : cc.data.toList.drop p = x :: l) : (Reader.s1 : Decoder Int) cc p = .ok (Reader.signed 8 x.toNat, p + 1) := by
  have e : (Reader.s1 : Decoder Int) cc p = Except.bind ((Reader.u1 : Decoder Nat) cc p) (fun r => .ok (Reader.signed 8 r.1, r.2)) := rfl
  rw [e, fu1 h]
  rfl
theorem fs2 {cc : ByteArray} {p : Nat} {x y : UInt8} {l : List UInt8} (h : cc.data.toList.drop p = x :: y :: l) : (Reader.s2 : Decoder Int) cc p = .ok (Reader.signed 16 (x.toNat * 256 + y.toNat), p + 2) := by
  have e : (Reader.s2 : Decoder Int) cc p = Except.bind ((Reader.u2 : Decoder Nat) cc p) (fun r => .ok (Reader.signed 16 r.1, r.2)) := rfl
  rw [e, fu2 h]
  rfl
theorem fF_ex (pc : Nat) : ∃ F : Nat → Decoder Instr, Decoder.instr pc = (Reader.u1 >>= F) ∧ F 46 = (pure .iaload : Decoder Instr) ∧ F 47 = (pure .laload : Decoder Instr) ∧ F 50 = (pure .aaload : Decoder Instr) ∧ F 51 = (pure .baload : Decoder Instr) ∧ F 79 = (pure .iastore : Decoder Instr) ∧ F 80 = (pure .lastore : Decoder Instr) ∧ F 83 = (pure .aastore : Decoder Instr) ∧ F 84 = (pure .bastore : Decoder Instr) ∧ F 87 = (pure .pop : Decoder Instr) ∧ F 89 = (pure .dup : Decoder Instr) ∧ F 92 = (pure .dup2 : Decoder Instr) ∧ F 96 = (pure .iadd : Decoder Instr) ∧ F 97 = (pure .ladd : Decoder Instr) ∧ F 100 = (pure .isub : Decoder Instr) ∧ F 101 = (pure .lsub : Decoder Instr) ∧ F 104 = (pure .imul : Decoder Instr) ∧ F 108 = (pure .idiv : Decoder Instr) ∧ F 110 = (pure .fdiv : Decoder Instr) ∧ F 111 = (pure .ddiv : Decoder Instr) ∧ F 112 = (pure .irem : Decoder Instr) ∧ F 116 = (pure .ineg : Decoder Instr) ∧ F 117 = (pure .lneg : Decoder Instr) ∧ F 120 = (pure .ishl : Decoder Instr) ∧ F 121 = (pure .lshl : Decoder Instr) ∧ F 122 = (pure .ishr : Decoder Instr) ∧ F 123 = (pure .lshr : Decoder Instr) ∧ F 124 = (pure .iushr : Decoder Instr) ∧ F 125 = (pure .lushr : Decoder Instr) ∧ F 126 = (pure .iand : Decoder Instr) ∧ F 127 = (pure .land : Decoder Instr) ∧ F 128 = (pure .ior : Decoder Instr) ∧ F 129 = (pure .lor : Decoder Instr) ∧ F 130 = (pure .ixor : Decoder Instr) ∧ F 133 = (pure .i2l : Decoder Instr) ∧ F 134 = (pure .i2f : Decoder Instr) ∧ F 135 = (pure .i2d : Decoder Instr) ∧ F 136 = (pure .l2i : Decoder Instr) ∧ F 141 = (pure .f2d : Decoder Instr) ∧ F 145 = (pure .i2b : Decoder Instr) ∧ F 148 = (pure .lcmp : Decoder Instr) ∧ F 172 = (pure .ireturn : Decoder Instr) ∧ F 173 = (pure .lreturn : Decoder Instr) ∧ F 174 = (pure .freturn : Decoder Instr) ∧ F 175 = (pure .dreturn : Decoder Instr) ∧ F 177 = (pure .return_ : Decoder Instr) ∧ F 190 = (pure .arraylength : Decoder Instr) ∧ F 191 = (pure .athrow : Decoder Instr) ∧ F 26 = (pure (.iload_n 0) : Decoder Instr) ∧ F 27 = (pure (.iload_n 1) : Decoder Instr) ∧ F 28 = (pure (.iload_n 2) : Decoder Instr) ∧ F 29 = (pure (.iload_n 3) : Decoder Instr) ∧ F 30 = (pure (.lload_n 0) : Decoder Instr) ∧ F 31 = (pure (.lload_n 1) : Decoder Instr) ∧ F 32 = (pure (.lload_n 2) : Decoder Instr) ∧ F 33 = (pure (.lload_n 3) : Decoder Instr) ∧ F 38 = (pure (.dload_n 0) : Decoder Instr) ∧ F 39 = (pure (.dload_n 1) : Decoder Instr) ∧ F 40 = (pure (.dload_n 2) : Decoder Instr) ∧ F 41 = (pure (.dload_n 3) : Decoder Instr) ∧ F 42 = (pure (.aload_n 0) : Decoder Instr) ∧ F 43 = (pure (.aload_n 1) : Decoder Instr) ∧ F 44 = (pure (.aload_n 2) : Decoder Instr) ∧ F 45 = (pure (.aload_n 3) : Decoder Instr) ∧ F 59 = (pure (.istore_n 0) : Decoder Instr) ∧ F 60 = (pure (.istore_n 1) : Decoder Instr) ∧ F 61 = (pure (.istore_n 2) : Decoder Instr) ∧ F 62 = (pure (.istore_n 3) : Decoder Instr) ∧ F 63 = (pure (.lstore_n 0) : Decoder Instr) ∧ F 64 = (pure (.lstore_n 1) : Decoder Instr) ∧ F 65 = (pure (.lstore_n 2) : Decoder Instr) ∧ F 66 = (pure (.lstore_n 3) : Decoder Instr) ∧ F 71 = (pure (.dstore_n 0) : Decoder Instr) ∧ F 72 = (pure (.dstore_n 1) : Decoder Instr) ∧ F 73 = (pure (.dstore_n 2) : Decoder Instr) ∧ F 74 = (pure (.dstore_n 3) : Decoder Instr) ∧ F 75 = (pure (.astore_n 0) : Decoder Instr) ∧ F 76 = (pure (.astore_n 1) : Decoder Instr) ∧ F 77 = (pure (.astore_n 2) : Decoder Instr) ∧ F 78 = (pure (.astore_n 3) : Decoder Instr) ∧ F 2 = (pure (.iconst (-1)) : Decoder Instr) ∧ F 3 = (pure (.iconst 0) : Decoder Instr) ∧ F 4 = (pure (.iconst 1) : Decoder Instr) ∧ F 5 = (pure (.iconst 2) : Decoder Instr) ∧ F 6 = (pure (.iconst 3) : Decoder Instr) ∧ F 7 = (pure (.iconst 4) : Decoder Instr) ∧ F 8 = (pure (.iconst 5) : Decoder Instr) ∧ F 9 = (pure (.lconst 0) : Decoder Instr) ∧ F 10 = (pure (.lconst 1) : Decoder Instr) ∧ F 18 = (Reader.u1 >>= fun a => pure (.ldc a) : Decoder Instr) ∧ F 21 = (Reader.u1 >>= fun a => pure (.iload a) : Decoder Instr) ∧ F 22 = (Reader.u1 >>= fun a => pure (.lload a) : Decoder Instr) ∧ F 24 = (Reader.u1 >>= fun a => pure (.dload a) : Decoder Instr) ∧ F 25 = (Reader.u1 >>= fun a => pure (.aload a) : Decoder Instr) ∧ F 54 = (Reader.u1 >>= fun a => pure (.istore a) : Decoder Instr) ∧ F 55 = (Reader.u1 >>= fun a => pure (.lstore a) : Decoder Instr) ∧ F 57 = (Reader.u1 >>= fun a => pure (.dstore a) : Decoder Instr) ∧ F 58 = (Reader.u1 >>= fun a => pure (.astore a) : Decoder Instr) ∧ F 19 = (Reader.u2 >>= fun a => pure (.ldc_w a) : Decoder Instr) ∧ F 20 = (Reader.u2 >>= fun a => pure (.ldc2_w a) : Decoder Instr) ∧ F 180 = (Reader.u2 >>= fun a => pure (.getfield a) : Decoder Instr) ∧ F 181 = (Reader.u2 >>= fun a => pure (.putfield a) : Decoder Instr) ∧ F 182 = (Reader.u2 >>= fun a => pure (.invokevirtual a) : Decoder Instr) ∧ F 183 = (Reader.u2 >>= fun a => pure (.invokespecial a) : Decoder Instr) ∧ F 184 = (Reader.u2 >>= fun a => pure (.invokestatic a) : Decoder Instr) ∧ F 187 = (Reader.u2 >>= fun a => pure (.new a) : Decoder Instr) ∧ F 189 = (Reader.u2 >>= fun a => pure (.anewarray a) : Decoder Instr) ∧ F 167 = (Reader.s2 >>= fun a => pure (.goto a) : Decoder Instr) ∧ F 198 = (Reader.s2 >>= fun a => pure (.ifnull a) : Decoder Instr) ∧ F 199 = (Reader.s2 >>= fun a => pure (.ifnonnull a) : Decoder Instr) ∧ F 153 = (Reader.s2 >>= fun a => pure (.ifCond .eq a) : Decoder Instr) ∧ F 154 = (Reader.s2 >>= fun a => pure (.ifCond .ne a) : Decoder Instr) ∧ F 155 = (Reader.s2 >>= fun a => pure (.ifCond .lt a) : Decoder Instr) ∧ F 156 = (Reader.s2 >>= fun a => pure (.ifCond .ge a) : Decoder Instr) ∧ F 157 = (Reader.s2 >>= fun a => pure (.ifCond .gt a) : Decoder Instr) ∧ F 158 = (Reader.s2 >>= fun a => pure (.ifCond .le a) : Decoder Instr) ∧ F 159 = (Reader.s2 >>= fun a => pure (.if_icmp .eq a) : Decoder Instr) ∧ F 160 = (Reader.s2 >>= fun a => pure (.if_icmp .ne a) : Decoder Instr) ∧ F 161 = (Reader.s2 >>= fun a => pure (.if_icmp .lt a) : Decoder Instr) ∧ F 162 = (Reader.s2 >>= fun a => pure (.if_icmp .ge a) : Decoder Instr) ∧ F 163 = (Reader.s2 >>= fun a => pure (.if_icmp .gt a) : Decoder Instr) ∧ F 164 = (Reader.s2 >>= fun a => pure (.if_icmp .le a) : Decoder Instr) ∧ F 16 = (Reader.s1 >>= fun a => pure (.bipush a) : Decoder Instr) ∧ F 17 = (Reader.s2 >>= fun a => pure (.sipush a) : Decoder Instr) ∧ F 132 = (Reader.u1 >>= fun a => Reader.s1 >>= fun b => pure (.iinc a b) : Decoder Instr) := ⟨_, rfl, rfl, rfl, rfl, rfl, rfl, rfl, rfl, rfl, rfl, rfl, rfl, rfl, rfl, rfl, rfl, rfl, rfl, rfl, rfl, rfl, rfl, rfl, rfl, rfl, rfl, rfl, rfl, rfl, rfl, rfl, rfl, rfl, rfl, rfl, rfl, rfl, rfl, rfl, rfl, rfl, rfl, rfl, rfl, rfl, rfl, rfl, rfl, rfl, rfl, rfl, rfl, rfl, rfl, rfl, rfl, rfl, rfl, rfl, rfl, rfl, rfl, rfl, rfl, rfl, rfl, rfl, rfl, rfl, rfl, rfl, rfl, rfl, rfl, rfl, rfl, rfl, rfl, rfl, rfl, rfl, rfl, rfl, rfl, rfl, rfl, rfl, rfl, rfl, rfl, rfl, rfl, rfl, rfl, rfl, rfl, rfl, rfl, rfl, rfl, rfl, rfl, rfl, rfl, rfl, rfl, rfl, rfl, rfl, rfl, rfl, rfl, rfl, rfl, rfl, rfl, rfl, rfl, rfl, rfl, rfl, rfl, rfl, rfl, rfl⟩
noncomputable def fS8 (l : List UInt8) (v : Int) : Bool := match l with
  | x :: _ => decide (Reader.signed 8 x.toNat = v)
  | [] => false
noncomputable def fS16 (l : List UInt8) (v : Int) : Bool := match l with
  | x :: y :: _ => decide (Reader.signed 16 (x.toNat * 256 + y.toNat) = v)
  | _ => false
noncomputable def fU8 (l : List UInt8) (v : Nat) : Bool := match l with
  | x :: _ => Nat.beq x.toNat v
  | [] => false
noncomputable def fU16 (l : List UInt8) (v : Nat) : Bool := match l with
  | x :: y :: _ => Nat.beq (x.toNat * 256 + y.toNat) v
  | _ => false
noncomputable def fCo : Jvm.ClassFile.Cond → Nat
  | .eq => 0
  | .ne => 1
  | .lt => 2
  | .ge => 3
  | .gt => 4
  | .le => 5
noncomputable def fchk (i : Instr) (o : Nat) (l : List UInt8) : Bool := match i with
  | .iaload => Nat.beq o 46
  | .laload => Nat.beq o 47
  | .aaload => Nat.beq o 50
  | .baload => Nat.beq o 51
  | .iastore => Nat.beq o 79
  | .lastore => Nat.beq o 80
  | .aastore => Nat.beq o 83
  | .bastore => Nat.beq o 84
  | .pop => Nat.beq o 87
  | .dup => Nat.beq o 89
  | .dup2 => Nat.beq o 92
  | .iadd => Nat.beq o 96
  | .ladd => Nat.beq o 97
  | .isub => Nat.beq o 100
  | .lsub => Nat.beq o 101
  | .imul => Nat.beq o 104
  | .idiv => Nat.beq o 108
  | .fdiv => Nat.beq o 110
  | .ddiv => Nat.beq o 111
  | .irem => Nat.beq o 112
  | .ineg => Nat.beq o 116
  | .lneg => Nat.beq o 117
  | .ishl => Nat.beq o 120
  | .lshl => Nat.beq o 121
  | .ishr => Nat.beq o 122
  | .lshr => Nat.beq o 123
  | .iushr => Nat.beq o 124
  | .lushr => Nat.beq o 125
  | .iand => Nat.beq o 126
  | .land => Nat.beq o 127
  | .ior => Nat.beq o 128
  | .lor => Nat.beq o 129
  | .ixor => Nat.beq o 130
  | .i2l => Nat.beq o 133
  | .i2f => Nat.beq o 134
  | .i2d => Nat.beq o 135
  | .l2i => Nat.beq o 136
  | .f2d => Nat.beq o 141
  | .i2b => Nat.beq o 145
  | .lcmp => Nat.beq o 148
  | .ireturn => Nat.beq o 172
  | .lreturn => Nat.beq o 173
  | .freturn => Nat.beq o 174
  | .dreturn => Nat.beq o 175
  | .return_ => Nat.beq o 177
  | .arraylength => Nat.beq o 190
  | .athrow => Nat.beq o 191
  | .iload_n n => Nat.beq o (26 + (n : Nat))
  | .lload_n n => Nat.beq o (30 + (n : Nat))
  | .dload_n n => Nat.beq o (38 + (n : Nat))
  | .aload_n n => Nat.beq o (42 + (n : Nat))
  | .istore_n n => Nat.beq o (59 + (n : Nat))
  | .lstore_n n => Nat.beq o (63 + (n : Nat))
  | .dstore_n n => Nat.beq o (71 + (n : Nat))
  | .astore_n n => Nat.beq o (75 + (n : Nat))
  | .iconst v => Nat.ble 2 o && (Nat.ble o 8 && decide ((o : Int) = v + 3))
  | .lconst n => Nat.beq o (9 + (n : Nat))
  | .ldc a => Nat.beq o 18 && fU8 l a
  | .iload a => Nat.beq o 21 && fU8 l a
  | .lload a => Nat.beq o 22 && fU8 l a
  | .dload a => Nat.beq o 24 && fU8 l a
  | .aload a => Nat.beq o 25 && fU8 l a
  | .istore a => Nat.beq o 54 && fU8 l a
  | .lstore a => Nat.beq o 55 && fU8 l a
  | .dstore a => Nat.beq o 57 && fU8 l a
  | .astore a => Nat.beq o 58 && fU8 l a
  | .ldc_w a => Nat.beq o 19 && fU16 l a
  | .ldc2_w a => Nat.beq o 20 && fU16 l a
  | .getfield a => Nat.beq o 180 && fU16 l a
  | .putfield a => Nat.beq o 181 && fU16 l a
  | .invokevirtual a => Nat.beq o 182 && fU16 l a
  | .invokespecial a => Nat.beq o 183 && fU16 l a
  | .invokestatic a => Nat.beq o 184 && fU16 l a
  | .new a => Nat.beq o 187 && fU16 l a
  | .anewarray a => Nat.beq o 189 && fU16 l a
  | .goto a => Nat.beq o 167 && fS16 l a
  | .ifnull a => Nat.beq o 198 && fS16 l a
  | .ifnonnull a => Nat.beq o 199 && fS16 l a
  | .ifCond c a => Nat.beq o (153 + fCo c) && fS16 l a
  | .if_icmp c a => Nat.beq o (159 + fCo c) && fS16 l a
  | .bipush a => Nat.beq o 16 && fS8 l a
  | .sipush a => Nat.beq o 17 && fS16 l a
  | .iinc k a => Nat.beq o 132 && (match l with
    | x :: r => Nat.beq x.toNat k && fS8 r a
    | [] => false)
  | _ => false
theorem fS8_s {l : List UInt8} {v : Int} (h : fS8 l v = true) : ∃ x r, l = x :: r ∧ Reader.signed 8 x.toNat = v := by
  unfold fS8 at h
  split at h
  · next x r => exact ⟨x, r, rfl, of_decide_eq_true h⟩
  · cases h
theorem fS16_s {l : List UInt8} {v : Int} (h : fS16 l v = true) : ∃ x y r, l = x :: y :: r ∧ Reader.signed 16 (x.toNat * 256 + y.toNat) = v := by
  unfold fS16 at h
  split at h
  · next x y r => exact ⟨x, y, r, rfl, of_decide_eq_true h⟩
  · cases h
theorem fU8_s {l : List UInt8} {v : Nat} (h : fU8 l v = true) : ∃ x r, l = x :: r ∧ x.toNat = v := by
  unfold fU8 at h
  split at h
  · next x r => exact ⟨x, r, rfl, Nat.eq_of_beq_eq_true h⟩
  · cases h
theorem fU16_s {l : List UInt8} {v : Nat} (h : fU16 l v = true) : ∃ x y r, l = x :: y :: r ∧ x.toNat * 256 + y.toNat = v := by
  unfold fU16 at h
  split at h
  · next x y r => exact ⟨x, y, r, rfl, Nat.eq_of_beq_eq_true h⟩
  · cases h
section FD
variable {cc : ByteArray} {pc : Nat} {x : UInt8} {l : List UInt8} {F : Nat → Decoder Instr}
theorem fgo {i : Instr} {n : Nat} (hF : Decoder.instr pc = (Reader.u1 >>= F)) (h : cc.data.toList.drop pc = x :: l) (e : F x.toNat cc (pc + 1) = .ok (i, pc + n)) : decode cc pc = .ok (i, n) := by
  have e1 : decode cc pc = Except.bind (Decoder.instr pc cc pc) (fun r => .ok (r.1, r.2 - pc)) := rfl
  rw [e1, hF, fbn (fu1 h), e]
  show Except.ok (i, pc + n - pc) = _
  rw [Nat.add_sub_cancel_left]
theorem fg0 {i : Instr} {o : Nat} (hF : Decoder.instr pc = (Reader.u1 >>= F)) (h : cc.data.toList.drop pc = x :: l) (ho : x.toNat = o) (f : F o = Pure.pure i) : decode cc pc = .ok (i, 1) := by
  refine fgo hF h ?_
  rw [ho, f]
  rfl
theorem fgU1 {g : Nat → Instr} {o v : Nat} (hF : Decoder.instr pc = (Reader.u1 >>= F)) (h : cc.data.toList.drop pc = x :: l) (ho : x.toNat = o) (f : F o = (Reader.u1 >>= fun a => Pure.pure (g a))) (hv : fU8 l v = true) : decode cc pc = .ok (g v, 2) := by
  obtain ⟨y, r, rfl, e⟩ := fU8_s hv
  refine fgo hF h ?_
  rw [ho, f, fbn (fu1 (fdr h)), e]
  rfl
theorem fgU2 {g : Nat → Instr} {o v : Nat} (hF : Decoder.instr pc = (Reader.u1 >>= F)) (h : cc.data.toList.drop pc = x :: l) (ho : x.toNat = o) (f : F o = (Reader.u2 >>= fun a => Pure.pure (g a))) (hv : fU16 l v = true) : decode cc pc = .ok (g v, 3) := by
  obtain ⟨y, z, r, rfl, e⟩ := fU16_s hv
  refine fgo hF h ?_
  rw [ho, f, fbn (fu2 (fdr h)), e]
  rfl
theorem fgS1 {g : Int → Instr} {o : Nat} {v : Int} (hF : Decoder.instr pc = (Reader.u1 >>= F)) (h : cc.data.toList.drop pc = x :: l) (ho : x.toNat = o) (f : F o = (Reader.s1 >>= fun a => Pure.pure (g a))) (hv : fS8 l v = true) : decode cc pc = .ok (g v, 2) := by
  obtain ⟨y, r, rfl, e⟩ := fS8_s hv
  refine fgo hF h ?_
  rw [ho, f, fbn (fs1 (fdr h)), e]
  rfl
theorem fgS2 {g : Int → Instr} {o : Nat} {v : Int} (hF : Decoder.instr pc = (Reader.u1 >>= F)) (h : cc.data.toList.drop pc = x :: l) (ho : x.toNat = o) (f : F o = (Reader.s2 >>= fun a => Pure.pure (g a))) (hv : fS16 l v = true) : decode cc pc = .ok (g v, 3) := by
  obtain ⟨y, z, r, rfl, e⟩ := fS16_s hv
  refine fgo hF h ?_
  rw [ho, f, fbn (fs2 (fdr h)), e]
  rfl
theorem fgI {o k : Nat} {v : Int} (hF : Decoder.instr pc = (Reader.u1 >>= F)) (h : cc.data.toList.drop pc = x :: l) (ho : x.toNat = o) (f : F o = (Reader.u1 >>= fun a => Reader.s1 >>= fun b => Pure.pure (.iinc a b))) {y : UInt8} {r : List UInt8} (hl : l = y :: r) (hk : y.toNat = k) (hv : fS8 r v = true) : decode cc pc = .ok (.iinc k v, 3) := by
  obtain ⟨z, r, rfl, e⟩ := fS8_s hv
  subst hl
  refine fgo hF h ?_
  rw [ho, f, fbn (fu1 (fdr h)), fbn (fs1 (fdr (fdr h))), e, hk]
  rfl
end FD
theorem fchk_s {cc : ByteArray} {pc : Nat} {x : UInt8} {l : List UInt8} {i : Instr} (h : cc.data.toList.drop pc = x :: l) (hk : fchk i x.toNat l = true) : ∃ n, decode cc pc = .ok (i, n) ∧ (amSz i = 0 ∨ n = amSz i) := by
  obtain ⟨F, hF, f46, f47, f50, f51, f79, f80, f83, f84, f87, f89, f92, f96, f97, f100, f101, f104, f108, f110, f111, f112, f116, f117, f120, f121, f122, f123, f124, f125, f126, f127, f128, f129, f130, f133, f134, f135, f136, f141, f145, f148, f172, f173, f174, f175, f177, f190, f191, f26, f27, f28, f29, f30, f31, f32, f33, f38, f39, f40, f41, f42, f43, f44, f45, f59, f60, f61, f62, f63, f64, f65, f66, f71, f72, f73, f74, f75, f76, f77, f78, f2, f3, f4, f5, f6, f7, f8, f9, f10, f18, f21, f22, f24, f25, f54, f55, f57, f58, f19, f20, f180, f181, f182, f183, f184, f187, f189, f167, f198, f199, f153, f154, f155, f156, f157, f158, f159, f160, f161, f162, f163, f164, f16, f17, f132⟩ := fF_ex pc
  cases i
  case iaload => exact ⟨1, fg0 hF h (Nat.eq_of_beq_eq_true hk) f46, Or.inr rfl⟩
  case laload => exact ⟨1, fg0 hF h (Nat.eq_of_beq_eq_true hk) f47, Or.inr rfl⟩
  case aaload => exact ⟨1, fg0 hF h (Nat.eq_of_beq_eq_true hk) f50, Or.inr rfl⟩
  case baload => exact ⟨1, fg0 hF h (Nat.eq_of_beq_eq_true hk) f51, Or.inr rfl⟩
  case iastore => exact ⟨1, fg0 hF h (Nat.eq_of_beq_eq_true hk) f79, Or.inr rfl⟩
  case lastore => exact ⟨1, fg0 hF h (Nat.eq_of_beq_eq_true hk) f80, Or.inr rfl⟩
  case aastore => exact ⟨1, fg0 hF h (Nat.eq_of_beq_eq_true hk) f83, Or.inr rfl⟩
  case bastore => exact ⟨1, fg0 hF h (Nat.eq_of_beq_eq_true hk) f84, Or.inr rfl⟩
  case pop => exact ⟨1, fg0 hF h (Nat.eq_of_beq_eq_true hk) f87, Or.inr rfl⟩
  case dup => exact ⟨1, fg0 hF h (Nat.eq_of_beq_eq_true hk) f89, Or.inr rfl⟩
  case dup2 => exact ⟨1, fg0 hF h (Nat.eq_of_beq_eq_true hk) f92, Or.inr rfl⟩
  case iadd => exact ⟨1, fg0 hF h (Nat.eq_of_beq_eq_true hk) f96, Or.inr rfl⟩
  case ladd => exact ⟨1, fg0 hF h (Nat.eq_of_beq_eq_true hk) f97, Or.inr rfl⟩
  case isub => exact ⟨1, fg0 hF h (Nat.eq_of_beq_eq_true hk) f100, Or.inr rfl⟩
  case lsub => exact ⟨1, fg0 hF h (Nat.eq_of_beq_eq_true hk) f101, Or.inr rfl⟩
  case imul => exact ⟨1, fg0 hF h (Nat.eq_of_beq_eq_true hk) f104, Or.inr rfl⟩
  case idiv => exact ⟨1, fg0 hF h (Nat.eq_of_beq_eq_true hk) f108, Or.inr rfl⟩
  case fdiv => exact ⟨1, fg0 hF h (Nat.eq_of_beq_eq_true hk) f110, Or.inr rfl⟩
  case ddiv => exact ⟨1, fg0 hF h (Nat.eq_of_beq_eq_true hk) f111, Or.inr rfl⟩
  case irem => exact ⟨1, fg0 hF h (Nat.eq_of_beq_eq_true hk) f112, Or.inr rfl⟩
  case ineg => exact ⟨1, fg0 hF h (Nat.eq_of_beq_eq_true hk) f116, Or.inr rfl⟩
  case lneg => exact ⟨1, fg0 hF h (Nat.eq_of_beq_eq_true hk) f117, Or.inr rfl⟩
  case ishl => exact ⟨1, fg0 hF h (Nat.eq_of_beq_eq_true hk) f120, Or.inr rfl⟩
  case lshl => exact ⟨1, fg0 hF h (Nat.eq_of_beq_eq_true hk) f121, Or.inr rfl⟩
  case ishr => exact ⟨1, fg0 hF h (Nat.eq_of_beq_eq_true hk) f122, Or.inr rfl⟩
  case lshr => exact ⟨1, fg0 hF h (Nat.eq_of_beq_eq_true hk) f123, Or.inr rfl⟩
  case iushr => exact ⟨1, fg0 hF h (Nat.eq_of_beq_eq_true hk) f124, Or.inr rfl⟩
  case lushr => exact ⟨1, fg0 hF h (Nat.eq_of_beq_eq_true hk) f125, Or.inr rfl⟩
  case iand => exact ⟨1, fg0 hF h (Nat.eq_of_beq_eq_true hk) f126, Or.inr rfl⟩
  case land => exact ⟨1, fg0 hF h (Nat.eq_of_beq_eq_true hk) f127, Or.inr rfl⟩
  case ior => exact ⟨1, fg0 hF h (Nat.eq_of_beq_eq_true hk) f128, Or.inr rfl⟩
  case lor => exact ⟨1, fg0 hF h (Nat.eq_of_beq_eq_true hk) f129, Or.inr rfl⟩
  case ixor => exact ⟨1, fg0 hF h (Nat.eq_of_beq_eq_true hk) f130, Or.inr rfl⟩
  case i2l => exact ⟨1, fg0 hF h (Nat.eq_of_beq_eq_true hk) f133, Or.inr rfl⟩
  case i2f => exact ⟨1, fg0 hF h (Nat.eq_of_beq_eq_true hk) f134, Or.inr rfl⟩
  case i2d => exact ⟨1, fg0 hF h (Nat.eq_of_beq_eq_true hk) f135, Or.inr rfl⟩
  case l2i => exact ⟨1, fg0 hF h (Nat.eq_of_beq_eq_true hk) f136, Or.inr rfl⟩
  case f2d => exact ⟨1, fg0 hF h (Nat.eq_of_beq_eq_true hk) f141, Or.inr rfl⟩
  case i2b => exact ⟨1, fg0 hF h (Nat.eq_of_beq_eq_true hk) f145, Or.inr rfl⟩
  case lcmp => exact ⟨1, fg0 hF h (Nat.eq_of_beq_eq_true hk) f148, Or.inr rfl⟩
  case ireturn => exact ⟨1, fg0 hF h (Nat.eq_of_beq_eq_true hk) f172, Or.inr rfl⟩
  case lreturn => exact ⟨1, fg0 hF h (Nat.eq_of_beq_eq_true hk) f173, Or.inr rfl⟩
  case freturn => exact ⟨1, fg0 hF h (Nat.eq_of_beq_eq_true hk) f174, Or.inr rfl⟩
  case dreturn => exact ⟨1, fg0 hF h (Nat.eq_of_beq_eq_true hk) f175, Or.inr rfl⟩
  case return_ => exact ⟨1, fg0 hF h (Nat.eq_of_beq_eq_true hk) f177, Or.inr rfl⟩
  case arraylength => exact ⟨1, fg0 hF h (Nat.eq_of_beq_eq_true hk) f190, Or.inr rfl⟩
  case athrow => exact ⟨1, fg0 hF h (Nat.eq_of_beq_eq_true hk) f191, Or.inr rfl⟩
  case iload_n n =>
    obtain ⟨n, hn⟩ := n
    have hk := Nat.eq_of_beq_eq_true hk
    have : n = 0 ∨ n = 1 ∨ n = 2 ∨ n = 3 := by omega
    rcases this with rfl | rfl | rfl | rfl
    · exact ⟨1, fg0 hF h (o := 26) hk f26, Or.inr rfl⟩
    · exact ⟨1, fg0 hF h (o := 27) hk f27, Or.inr rfl⟩
    · exact ⟨1, fg0 hF h (o := 28) hk f28, Or.inr rfl⟩
    · exact ⟨1, fg0 hF h (o := 29) hk f29, Or.inr rfl⟩
  case lload_n n =>
    obtain ⟨n, hn⟩ := n
    have hk := Nat.eq_of_beq_eq_true hk
    have : n = 0 ∨ n = 1 ∨ n = 2 ∨ n = 3 := by omega
    rcases this with rfl | rfl | rfl | rfl
    · exact ⟨1, fg0 hF h (o := 30) hk f30, Or.inr rfl⟩
    · exact ⟨1, fg0 hF h (o := 31) hk f31, Or.inr rfl⟩
    · exact ⟨1, fg0 hF h (o := 32) hk f32, Or.inr rfl⟩
    · exact ⟨1, fg0 hF h (o := 33) hk f33, Or.inr rfl⟩
  case dload_n n =>
    obtain ⟨n, hn⟩ := n
    have hk := Nat.eq_of_beq_eq_true hk
    have : n = 0 ∨ n = 1 ∨ n = 2 ∨ n = 3 := by omega
    rcases this with rfl | rfl | rfl | rfl
    · exact ⟨1, fg0 hF h (o := 38) hk f38, Or.inr rfl⟩
    · exact ⟨1, fg0 hF h (o := 39) hk f39, Or.inr rfl⟩
    · exact ⟨1, fg0 hF h (o := 40) hk f40, Or.inr rfl⟩
    · exact ⟨1, fg0 hF h (o := 41) hk f41, Or.inr rfl⟩
  case aload_n n =>
    obtain ⟨n, hn⟩ := n
    have hk := Nat.eq_of_beq_eq_true hk
    have : n = 0 ∨ n = 1 ∨ n = 2 ∨ n = 3 := by omega
    rcases this with rfl | rfl | rfl | rfl
    · exact ⟨1, fg0 hF h (o := 42) hk f42, Or.inr rfl⟩
    · exact ⟨1, fg0 hF h (o := 43) hk f43, Or.inr rfl⟩
    · exact ⟨1, fg0 hF h (o := 44) hk f44, Or.inr rfl⟩
    · exact ⟨1, fg0 hF h (o := 45) hk f45, Or.inr rfl⟩
  case istore_n n =>
    obtain ⟨n, hn⟩ := n
    have hk := Nat.eq_of_beq_eq_true hk
    have : n = 0 ∨ n = 1 ∨ n = 2 ∨ n = 3 := by omega
    rcases this with rfl | rfl | rfl | rfl
    · exact ⟨1, fg0 hF h (o := 59) hk f59, Or.inr rfl⟩
    · exact ⟨1, fg0 hF h (o := 60) hk f60, Or.inr rfl⟩
    · exact ⟨1, fg0 hF h (o := 61) hk f61, Or.inr rfl⟩
    · exact ⟨1, fg0 hF h (o := 62) hk f62, Or.inr rfl⟩
  case lstore_n n =>
    obtain ⟨n, hn⟩ := n
    have hk := Nat.eq_of_beq_eq_true hk
    have : n = 0 ∨ n = 1 ∨ n = 2 ∨ n = 3 := by omega
    rcases this with rfl | rfl | rfl | rfl
    · exact ⟨1, fg0 hF h (o := 63) hk f63, Or.inr rfl⟩
    · exact ⟨1, fg0 hF h (o := 64) hk f64, Or.inr rfl⟩
    · exact ⟨1, fg0 hF h (o := 65) hk f65, Or.inr rfl⟩
    · exact ⟨1, fg0 hF h (o := 66) hk f66, Or.inr rfl⟩
  case dstore_n n =>
    obtain ⟨n, hn⟩ := n
    have hk := Nat.eq_of_beq_eq_true hk
    have : n = 0 ∨ n = 1 ∨ n = 2 ∨ n = 3 := by omega
    rcases this with rfl | rfl | rfl | rfl
    · exact ⟨1, fg0 hF h (o := 71) hk f71, Or.inr rfl⟩
    · exact ⟨1, fg0 hF h (o := 72) hk f72, Or.inr rfl⟩
    · exact ⟨1, fg0 hF h (o := 73) hk f73, Or.inr rfl⟩
    · exact ⟨1, fg0 hF h (o := 74) hk f74, Or.inr rfl⟩
  case astore_n n =>
    obtain ⟨n, hn⟩ := n
    have hk := Nat.eq_of_beq_eq_true hk
    have : n = 0 ∨ n = 1 ∨ n = 2 ∨ n = 3 := by omega
    rcases this with rfl | rfl | rfl | rfl
    · exact ⟨1, fg0 hF h (o := 75) hk f75, Or.inr rfl⟩
    · exact ⟨1, fg0 hF h (o := 76) hk f76, Or.inr rfl⟩
    · exact ⟨1, fg0 hF h (o := 77) hk f77, Or.inr rfl⟩
    · exact ⟨1, fg0 hF h (o := 78) hk f78, Or.inr rfl⟩
  case lconst n =>
    obtain ⟨n, hn⟩ := n
    have hk := Nat.eq_of_beq_eq_true hk
    have : n = 0 ∨ n = 1 := by omega
    rcases this with rfl | rfl
    · exact ⟨1, fg0 hF h (o := 9) hk f9, Or.inr rfl⟩
    · exact ⟨1, fg0 hF h (o := 10) hk f10, Or.inr rfl⟩
  case iconst v =>
    obtain ⟨k1, k2⟩ := Bool.and_eq_true_iff.mp hk
    obtain ⟨k2, k3⟩ := Bool.and_eq_true_iff.mp k2
    have k1 := Nat.le_of_ble_eq_true k1
    have k2 := Nat.le_of_ble_eq_true k2
    have k3 := of_decide_eq_true k3
    have : (x.toNat = 2 ∧ v = -1) ∨ (x.toNat = 3 ∧ v = 0) ∨ (x.toNat = 4 ∧ v = 1) ∨ (x.toNat = 5 ∧ v = 2) ∨ (x.toNat = 6 ∧ v = 3) ∨ (x.toNat = 7 ∧ v = 4) ∨ (x.toNat = 8 ∧ v = 5) := by omega
    rcases this with ⟨e, rfl⟩ | ⟨e, rfl⟩ | ⟨e, rfl⟩ | ⟨e, rfl⟩ | ⟨e, rfl⟩ | ⟨e, rfl⟩ | ⟨e, rfl⟩
    · exact ⟨1, fg0 hF h e f2, Or.inr rfl⟩
    · exact ⟨1, fg0 hF h e f3, Or.inr rfl⟩
    · exact ⟨1, fg0 hF h e f4, Or.inr rfl⟩
    · exact ⟨1, fg0 hF h e f5, Or.inr rfl⟩
    · exact ⟨1, fg0 hF h e f6, Or.inr rfl⟩
    · exact ⟨1, fg0 hF h e f7, Or.inr rfl⟩
    · exact ⟨1, fg0 hF h e f8, Or.inr rfl⟩
  case ldc a => exact ⟨2, fgU1 hF h (g := .ldc) (Nat.eq_of_beq_eq_true (Bool.and_eq_true_iff.mp hk).1) f18 (Bool.and_eq_true_iff.mp hk).2, Or.inr rfl⟩
  case iload a => exact ⟨2, fgU1 hF h (g := .iload) (Nat.eq_of_beq_eq_true (Bool.and_eq_true_iff.mp hk).1) f21 (Bool.and_eq_true_iff.mp hk).2, Or.inr rfl⟩
  case lload a => exact ⟨2, fgU1 hF h (g := .lload) (Nat.eq_of_beq_eq_true (Bool.and_eq_true_iff.mp hk).1) f22 (Bool.and_eq_true_iff.mp hk).2, Or.inr rfl⟩
  case dload a => exact ⟨2, fgU1 hF h (g := .dload) (Nat.eq_of_beq_eq_true (Bool.and_eq_true_iff.mp hk).1) f24 (Bool.and_eq_true_iff.mp hk).2, Or.inr rfl⟩
  case aload a => exact ⟨2, fgU1 hF h (g := .aload) (Nat.eq_of_beq_eq_true (Bool.and_eq_true_iff.mp hk).1) f25 (Bool.and_eq_true_iff.mp hk).2, Or.inr rfl⟩
  case istore a => exact ⟨2, fgU1 hF h (g := .istore) (Nat.eq_of_beq_eq_true (Bool.and_eq_true_iff.mp hk).1) f54 (Bool.and_eq_true_iff.mp hk).2, Or.inr rfl⟩
  case lstore a => exact ⟨2, fgU1 hF h (g := .lstore) (Nat.eq_of_beq_eq_true (Bool.and_eq_true_iff.mp hk).1) f55 (Bool.and_eq_true_iff.mp hk).2, Or.inr rfl⟩
  case dstore a => exact ⟨2, fgU1 hF h (g := .dstore) (Nat.eq_of_beq_eq_true (Bool.and_eq_true_iff.mp hk).1) f57 (Bool.and_eq_true_iff.mp hk).2, Or.inr rfl⟩
  case astore a => exact ⟨2, fgU1 hF h (g := .astore) (Nat.eq_of_beq_eq_true (Bool.and_eq_true_iff.mp hk).1) f58 (Bool.and_eq_true_iff.mp hk).2, Or.inr rfl⟩
  case ldc_w a => exact ⟨3, fgU2 hF h (g := .ldc_w) (Nat.eq_of_beq_eq_true (Bool.and_eq_true_iff.mp hk).1) f19 (Bool.and_eq_true_iff.mp hk).2, Or.inr rfl⟩
  case ldc2_w a => exact ⟨3, fgU2 hF h (g := .ldc2_w) (Nat.eq_of_beq_eq_true (Bool.and_eq_true_iff.mp hk).1) f20 (Bool.and_eq_true_iff.mp hk).2, Or.inr rfl⟩
  case getfield a => exact ⟨3, fgU2 hF h (g := .getfield) (Nat.eq_of_beq_eq_true (Bool.and_eq_true_iff.mp hk).1) f180 (Bool.and_eq_true_iff.mp hk).2, Or.inr rfl⟩
  case putfield a => exact ⟨3, fgU2 hF h (g := .putfield) (Nat.eq_of_beq_eq_true (Bool.and_eq_true_iff.mp hk).1) f181 (Bool.and_eq_true_iff.mp hk).2, Or.inr rfl⟩
  case invokevirtual a => exact ⟨3, fgU2 hF h (g := .invokevirtual) (Nat.eq_of_beq_eq_true (Bool.and_eq_true_iff.mp hk).1) f182 (Bool.and_eq_true_iff.mp hk).2, Or.inr rfl⟩
  case invokespecial a => exact ⟨3, fgU2 hF h (g := .invokespecial) (Nat.eq_of_beq_eq_true (Bool.and_eq_true_iff.mp hk).1) f183 (Bool.and_eq_true_iff.mp hk).2, Or.inr rfl⟩
  case invokestatic a => exact ⟨3, fgU2 hF h (g := .invokestatic) (Nat.eq_of_beq_eq_true (Bool.and_eq_true_iff.mp hk).1) f184 (Bool.and_eq_true_iff.mp hk).2, Or.inr rfl⟩
  case new a => exact ⟨3, fgU2 hF h (g := .new) (Nat.eq_of_beq_eq_true (Bool.and_eq_true_iff.mp hk).1) f187 (Bool.and_eq_true_iff.mp hk).2, Or.inr rfl⟩
  case anewarray a => exact ⟨3, fgU2 hF h (g := .anewarray) (Nat.eq_of_beq_eq_true (Bool.and_eq_true_iff.mp hk).1) f189 (Bool.and_eq_true_iff.mp hk).2, Or.inr rfl⟩
  case goto a => exact ⟨3, fgS2 hF h (g := .goto) (Nat.eq_of_beq_eq_true (Bool.and_eq_true_iff.mp hk).1) f167 (Bool.and_eq_true_iff.mp hk).2, Or.inr rfl⟩
  case ifnull a => exact ⟨3, fgS2 hF h (g := .ifnull) (Nat.eq_of_beq_eq_true (Bool.and_eq_true_iff.mp hk).1) f198 (Bool.and_eq_true_iff.mp hk).2, Or.inr rfl⟩
  case ifnonnull a => exact ⟨3, fgS2 hF h (g := .ifnonnull) (Nat.eq_of_beq_eq_true (Bool.and_eq_true_iff.mp hk).1) f199 (Bool.and_eq_true_iff.mp hk).2, Or.inr rfl⟩
  case bipush a => exact ⟨2, fgS1 hF h (g := .bipush) (Nat.eq_of_beq_eq_true (Bool.and_eq_true_iff.mp hk).1) f16 (Bool.and_eq_true_iff.mp hk).2, Or.inr rfl⟩
  case sipush a => exact ⟨3, fgS2 hF h (g := .sipush) (Nat.eq_of_beq_eq_true (Bool.and_eq_true_iff.mp hk).1) f17 (Bool.and_eq_true_iff.mp hk).2, Or.inr rfl⟩
  case ifCond c a =>
    obtain ⟨k1, k2⟩ := Bool.and_eq_true_iff.mp hk
    have k1 := Nat.eq_of_beq_eq_true k1
    cases c
    case eq => exact ⟨3, fgS2 hF h (g := .ifCond .eq) k1 f153 k2, Or.inr rfl⟩
    case ne => exact ⟨3, fgS2 hF h (g := .ifCond .ne) k1 f154 k2, Or.inr rfl⟩
    case lt => exact ⟨3, fgS2 hF h (g := .ifCond .lt) k1 f155 k2, Or.inr rfl⟩
    case ge => exact ⟨3, fgS2 hF h (g := .ifCond .ge) k1 f156 k2, Or.inr rfl⟩
    case gt => exact ⟨3, fgS2 hF h (g := .ifCond .gt) k1 f157 k2, Or.inr rfl⟩
    case le => exact ⟨3, fgS2 hF h (g := .ifCond .le) k1 f158 k2, Or.inr rfl⟩
  case if_icmp c a =>
    obtain ⟨k1, k2⟩ := Bool.and_eq_true_iff.mp hk
    have k1 := Nat.eq_of_beq_eq_true k1
    cases c
    case eq => exact ⟨3, fgS2 hF h (g := .if_icmp .eq) k1 f159 k2, Or.inr rfl⟩
    case ne => exact ⟨3, fgS2 hF h (g := .if_icmp .ne) k1 f160 k2, Or.inr rfl⟩
    case lt => exact ⟨3, fgS2 hF h (g := .if_icmp .lt) k1 f161 k2, Or.inr rfl⟩
    case ge => exact ⟨3, fgS2 hF h (g := .if_icmp .ge) k1 f162 k2, Or.inr rfl⟩
    case gt => exact ⟨3, fgS2 hF h (g := .if_icmp .gt) k1 f163 k2, Or.inr rfl⟩
    case le => exact ⟨3, fgS2 hF h (g := .if_icmp .le) k1 f164 k2, Or.inr rfl⟩
  case iinc k a =>
    obtain ⟨k1, k2⟩ := Bool.and_eq_true_iff.mp hk
    have k1 := Nat.eq_of_beq_eq_true k1
    split at k2
    · next y r =>
      obtain ⟨k2, k3⟩ := Bool.and_eq_true_iff.mp k2
      exact ⟨3, fgI hF h k1 f132 rfl (Nat.eq_of_beq_eq_true k2) k3, Or.inr rfl⟩
    · cases k2
  all_goals cases hk
/-- a row of instructions, from one place on -/
noncomputable def fwk (cc : ByteArray) : amP → Nat → List UInt8 → Bool
  | [], _, _ => true
  | q :: r, p, l => Nat.ble p q.1 && (match l.drop (q.1 - p) with
    | x :: l1 => (fchk q.2.1 x.toNat l1 || amDecB cc q.1 q.2.1) && fwk cc r q.1 (x :: l1)
    | [] => false)
theorem fwk_s {cc : ByteArray} : ∀ {cs : amP} {p : Nat} {l : List UInt8}, fwk cc cs p l = true → l = cc.data.toList.drop p → ∀ q ∈ cs, ∃ n, decode cc q.1 = .ok (q.2.1, n) ∧ (amSz q.2.1 = 0 ∨ n = amSz q.2.1)
  | [], _, _, _, _, q, hq => by cases hq
  | q' :: r, p, l, h, hl, q, hq => by
    unfold fwk at h
    obtain ⟨h1, h2⟩ := Bool.and_eq_true_iff.mp h
    have h1 := Nat.le_of_ble_eq_true h1
    split at h2
    · next x l1 e =>
      have e1 : cc.data.toList.drop q'.1 = x :: l1 := by
        rw [← e, hl, List.drop_drop]
        congr 1
        omega
      obtain ⟨h3, h4⟩ := Bool.and_eq_true_iff.mp h2
      rcases List.mem_cons.mp hq with rfl | hq
      · rcases Bool.or_eq_true_iff.mp h3 with z | z
        · exact fchk_s e1 z
        · exact amDecB_s z
      · exact fwk_s h4 e1.symm q hq
    · cases h2
/-! ===== the words that are wanted, in the order of their places ===== -/
noncomputable def fget {α : Type} (l : List α) : Nat → Option α := List.rec (motive := fun _ => Nat → Option α) (fun _ => none) (fun a _ ih n => Nat.rec (motive := fun _ => Option α) (some a) (fun m _ => ih m) n) l
theorem fget_eq {α : Type} : ∀ (l : List α) (n : Nat), fget l n = l[n]?
  | [], n => rfl
  | a :: r, 0 => rfl
  | a :: r, n + 1 => fget_eq r n
noncomputable def fdrop {α : Type} (l : List α) : Nat → List α := List.rec (motive := fun _ => Nat → List α) (fun _ => []) (fun a r ih n => Nat.rec (motive := fun _ => List α) (a :: r) (fun m _ => ih m) n) l
theorem fdrop_eq {α : Type} : ∀ (l : List α) (n : Nat), fdrop l n = l.drop n
  | [], n => (List.drop_nil).symm
  | a :: r, 0 => rfl
  | a :: r, n + 1 => fdrop_eq r n
abbrev rQ : Type := Nat × Nat × Nat × Nat × Nat × Nat
noncomputable def reqW (O : List String) (X : Nat → Option amN) (G : Nat → Option amM) (kd o k a b : Nat) : Option Jvm.Cond := match kd with
  | 1 => (match O[o]?, X a with
    | some own, some N => some (Jvm.Cond.methodLink own k N.1)
    | _, _ => none)
  | 2 => (match O[o]?, vwCl[a]? with
    | some own, some c => some (Jvm.Cond.fieldLink own k (c.2.1 b).1 (c.2.1 b).2.1 (c.2.1 b).2.2.1)
    | _, _ => none)
  | 4 => (match X a with
    | some N => some (Jvm.Cond.instanceMethod N.1)
    | none => none)
  | 5 => (match X a with
    | some N => some (Jvm.Cond.selects N.1.cls N.1 N.1)
    | none => none)
  | 6 => (match X a with
    | some N => some (Jvm.Cond.initialized N.1.cls)
    | none => none)
  | 9 => (match X a with
    | some N => some (Jvm.Cond.static N.1)
    | none => none)
  | _ => none
noncomputable def mck (O : List String) (X : Nat → Option amN) (G : Nat → Option amM) : List rQ → Nat → List Jvm.Cond → Bool
  | [], _, _ => true
  | r :: t, p, l => Nat.ble p r.1 && (match l.drop (r.1 - p) with
    | w :: l1 => (match reqW O X G r.2.1 r.2.2.1 r.2.2.2.1 r.2.2.2.2.1 r.2.2.2.2.2 with
      | some w2 => goodWord w2 && decide (w2 = w)
      | none => false) && mck O X G t r.1 (w :: l1)
    | [] => false)
abbrev rqT (O : List String) (X : Nat → Option amN) (G : Nat → Option amM) (kd o k a b : Nat) : Prop := ∃ w, reqW O X G kd o k a b = some w ∧ w ∈ amWL
theorem mck_s {O : List String} {X : Nat → Option amN} {G : Nat → Option amM} : ∀ {R : List rQ} {p : Nat} {l : List Jvm.Cond}, mck O X G R p l = true → (∀ w, w ∈ l → w ∈ lw_tbl) → ∀ r, r ∈ R → rqT O X G r.2.1 r.2.2.1 r.2.2.2.1 r.2.2.2.2.1 r.2.2.2.2.2
  | [], _, _, _, _, r, hr => absurd hr (by simp)
  | q :: t, p, l, h, hl, r, hr => by
    unfold mck at h
    obtain ⟨-, h⟩ := Bool.and_eq_true_iff.mp h
    split at h
    · next w l1 e =>
      obtain ⟨h1, h2⟩ := Bool.and_eq_true_iff.mp h
      have hm : ∀ v, v ∈ w :: l1 → v ∈ lw_tbl := fun v hv => hl v (List.mem_of_mem_drop (i := q.1 - p) (by rw [e]; exact hv))
      rcases List.mem_cons.mp hr with rfl | hr
      · split at h1
        · next w2 e2 =>
          obtain ⟨g1, g2⟩ := Bool.and_eq_true_iff.mp h1
          have g2 := of_decide_eq_true g2
          subst g2
          exact ⟨_, e2, amWL_in (hm _ List.mem_cons_self) g1⟩
        · cases h1
      · exact mck_s h2 hm r hr
    · cases h
noncomputable def rqIs (R : List (List rQ)) (p kd o k a b : Nat) : Bool := match fget R (p / 32) with
  | some row => (match fget row (p % 32) with
    | some r => Nat.beq r.2.1 kd && (Nat.beq r.2.2.1 o && (Nat.beq r.2.2.2.1 k && (Nat.beq r.2.2.2.2.1 a && Nat.beq r.2.2.2.2.2 b)))
    | none => false)
  | none => false
abbrev rqOk (O : List String) (X : Nat → Option amN) (G : Nat → Option amM) (R : List (List rQ)) : Prop := ∀ row, row ∈ R → ∀ r, r ∈ row → rqT O X G r.2.1 r.2.2.1 r.2.2.2.1 r.2.2.2.2.1 r.2.2.2.2.2
theorem rqIs_s {O : List String} {X : Nat → Option amN} {G : Nat → Option amM} {R : List (List rQ)} {p kd o k a b : Nat} (hR : rqOk O X G R) (h : rqIs R p kd o k a b = true) : rqT O X G kd o k a b := by
  unfold rqIs at h
  split at h
  · next row e =>
    split at h
    · next r e2 =>
      simp only [Bool.and_eq_true] at h
      rw [fget_eq] at e e2
      have g := hR row (List.mem_of_getElem? e) r (List.mem_of_getElem? e2)
      rw [Nat.eq_of_beq_eq_true h.1, Nat.eq_of_beq_eq_true h.2.1, Nat.eq_of_beq_eq_true h.2.2.1, Nat.eq_of_beq_eq_true h.2.2.2.1, Nat.eq_of_beq_eq_true h.2.2.2.2] at g
      exact g
    · cases h
  · cases h
/-! ===== links, by their places in a class's pool ===== -/
abbrev wR : Type := Nat × Nat × Nat × Nat × Nat
noncomputable def wOk (R : List (List rQ)) (own : String) (o : Nat) (r : wR) : Bool := match r.2.1 with
  | 1 => rqIs R r.2.2.2.2 1 o r.1 r.2.2.1 0
  | 2 => (match vwCl[r.2.2.1]? with
    | some c => decide (r.2.2.2.1 < c.2.2) && !(c.2.1 r.2.2.2.1).2.2.2
    | none => false) && rqIs R r.2.2.2.2 2 o r.1 r.2.2.1 r.2.2.2.1
  | 3 => (match vwCl[r.2.2.1]? with
    | some c => decide (r.2.2.2.1 < c.2.2) && decide ((c.2.1 r.2.2.2.1).1 = own)
    | none => false) && rqIs R r.2.2.2.2 2 o r.1 r.2.2.1 r.2.2.2.1
  | _ => false
noncomputable def wFi : List wR → Nat → Option (Nat × Nat × Nat)
  | [], _ => none
  | r :: t, k => bif Nat.beq r.1 k then some (r.2.1, r.2.2.1, r.2.2.2.1) else wFi t k
noncomputable def wIs (W : List (List wR)) (k kd a b : Nat) : Bool := match fget W (k / 8) with
  | some row => (match wFi row k with
    | some q => Nat.beq q.1 kd && (Nat.beq q.2.1 a && Nat.beq q.2.2 b)
    | none => false)
  | none => false
theorem wFi_s : ∀ {R : List wR} {k : Nat} {q : Nat × Nat × Nat}, wFi R k = some q → ∃ r ∈ R, r.1 = k ∧ r.2.1 = q.1 ∧ r.2.2.1 = q.2.1 ∧ r.2.2.2.1 = q.2.2
  | [], _, _, h => by cases h
  | r :: t, k, q, h => by
    unfold wFi at h
    cases e : Nat.beq r.1 k with
    | true =>
      rw [e] at h
      have h : some (r.2.1, r.2.2.1, r.2.2.2.1) = some q := h
      cases h
      exact ⟨r, List.mem_cons_self, Nat.eq_of_beq_eq_true e, rfl, rfl, rfl⟩
    | false =>
      rw [e] at h
      obtain ⟨s, s1, s2⟩ := wFi_s (R := t) h
      exact ⟨s, List.mem_cons_of_mem _ s1, s2⟩
noncomputable def wAll (R : List (List rQ)) (own : String) (o : Nat) (W : List (List wR)) : Bool := W.all (fun S => S.all (wOk R own o))
theorem wIs_s {R : List (List rQ)} {own : String} {o : Nat} {W : List (List wR)} {k kd a b : Nat} (hW : wAll R own o W = true) (h : wIs W k kd a b = true) : ∃ p, wOk R own o (k, kd, a, b, p) = true := by
  unfold wIs at h
  split at h
  · next row er =>
    split at h
    · next q e =>
      obtain ⟨r, r1, r2, r3, r4, r5⟩ := wFi_s e
      simp only [Bool.and_eq_true] at h
      rw [fget_eq] at er
      have g := List.all_eq_true.mp (List.all_eq_true.mp hW _ (List.mem_of_getElem? er)) r r1
      have e1 := Nat.eq_of_beq_eq_true h.1
      have e2 := Nat.eq_of_beq_eq_true h.2.1
      have e3 := Nat.eq_of_beq_eq_true h.2.2
      refine ⟨r.2.2.2.2, ?_⟩
      rw [← r2, ← e1, ← e2, ← e3, ← r3, ← r4, ← r5]
      exact g
    · cases h
  · cases h
section WL
variable {O : List String} {X : Nat → Option amN} {G : Nat → Option amM} {R : List (List rQ)} {own : String} {o : Nat} {W : List (List wR)} {k a b : Nat}
theorem wIs1 {N : amN} (hR : rqOk O X G R) (hO : O[o]? = some own) (hW : wAll R own o W = true) (h : wIs W k 1 a 0 = true) (hN : X a = some N) : Jvm.Cond.methodLink own k N.1 ∈ amWL := by
  obtain ⟨p, g⟩ := wIs_s hW h
  have g : rqIs R p 1 o k a 0 = true := g
  obtain ⟨w, e, hw⟩ := rqIs_s hR g
  have e : (match O[o]?, X a with
    | some own, some N => some (Jvm.Cond.methodLink own k N.1)
    | _, _ => none) = some w := e
  rw [hO, hN] at e
  cases e
  exact hw
theorem wIsF {w : Jvm.Cond} {c : vw_C} (hO : O[o]? = some own) (hc : vwCl[a]? = some c) (e : reqW O X G 2 o k a b = some w) : w = Jvm.Cond.fieldLink own k (c.2.1 b).1 (c.2.1 b).2.1 (c.2.1 b).2.2.1 := by
  have e : (match O[o]?, vwCl[a]? with
    | some own, some c => some (Jvm.Cond.fieldLink own k (c.2.1 b).1 (c.2.1 b).2.1 (c.2.1 b).2.2.1)
    | _, _ => none) = some w := e
  rw [hO, hc] at e
  cases e
  rfl
theorem wIs2 (hR : rqOk O X G R) (hO : O[o]? = some own) (hW : wAll R own o W = true) (h : wIs W k 2 a b = true) : ∃ r, vwCl[a]? = some r ∧ b < r.2.2 ∧ Jvm.Cond.fieldLink own k (r.2.1 b).1 (r.2.1 b).2.1 (r.2.1 b).2.2.1 ∈ amWL ∧ (r.2.1 b).2.2.2 = false := by
  obtain ⟨p, g⟩ := wIs_s hW h
  have g : ((match vwCl[a]? with
    | some c => decide (b < c.2.2) && !(c.2.1 b).2.2.2
    | none => false) && rqIs R p 2 o k a b) = true := g
  obtain ⟨g1, g2⟩ := Bool.and_eq_true_iff.mp g
  obtain ⟨w, e, hw⟩ := rqIs_s hR g2
  split at g1
  · next c ec =>
    rw [wIsF hO ec e] at hw
    simp only [Bool.and_eq_true, decide_eq_true_eq, Bool.not_eq_true'] at g1
    exact ⟨c, ec, g1.1, hw, g1.2⟩
  · cases g1
theorem wIs3 (hR : rqOk O X G R) (hO : O[o]? = some own) (hW : wAll R own o W = true) (h : wIs W k 3 a b = true) : ∃ r, vwCl[a]? = some r ∧ b < r.2.2 ∧ Jvm.Cond.fieldLink own k (r.2.1 b).1 (r.2.1 b).2.1 (r.2.1 b).2.2.1 ∈ amWL ∧ (r.2.1 b).1 = own := by
  obtain ⟨p, g⟩ := wIs_s hW h
  have g : ((match vwCl[a]? with
    | some c => decide (b < c.2.2) && decide ((c.2.1 b).1 = own)
    | none => false) && rqIs R p 2 o k a b) = true := g
  obtain ⟨g1, g2⟩ := Bool.and_eq_true_iff.mp g
  obtain ⟨w, e, hw⟩ := rqIs_s hR g2
  split at g1
  · next c ec =>
    rw [wIsF hO ec e] at hw
    simp only [Bool.and_eq_true, decide_eq_true_eq] at g1
    exact ⟨c, ec, g1.1, hw, g1.2⟩
  · cases g1
end WL
/-- what is called, each method once: how, and the places of its words -/
noncomputable def vOk1 (R : List (List rQ)) (a : Nat) (N : amN) (M : amM) (ps : List Nat) : Bool := N.2.2.isEmpty && (match vwCl[M.2.2.2.2.2.2]? with
      | some r => decide (N.1.cls = r.1)
      | none => false) && (rqIs R (ps.getD 0 0) 4 0 0 a 0 && (rqIs R (ps.getD 1 0) 5 0 0 a 0 && rqIs R (ps.getD 2 0) 6 0 0 a 0)) && amMHB N.1 && (match amPar N.1 with
      | some n => decide (M.2.2.1 = n + 1)
      | none => false)
noncomputable def vOk2 (R : List (List rQ)) (a : Nat) (N : amN) (M : amM) (ps : List Nat) : Bool := N.2.2.isEmpty && (rqIs R (ps.getD 0 0) 9 0 0 a 0 && rqIs R (ps.getD 1 0) 6 0 0 a 0) && amMHB N.1 && decide (amPar N.1 = some M.2.2.1)
noncomputable def vOk3 (R : List (List rQ)) (a : Nat) (N : amN) (M : amM) (ps : List Nat) : Bool := !N.2.2.isEmpty && (rqIs R (ps.getD 0 0) 9 0 0 a 0 && rqIs R (ps.getD 1 0) 6 0 0 a 0) && amMHB N.1 && decide (amPar N.1 = some M.2.2.1)
noncomputable def vOk (R : List (List rQ)) (X : Nat → Option amN) (G : Nat → Option amM) (a kd : Nat) (ps : List Nat) : Bool := bif Nat.beq kd 0 then true else match X a, G a with
  | some N, some M => (bif Nat.beq kd 1 then vOk1 R a N M ps else bif Nat.beq kd 2 then vOk2 R a N M ps else bif Nat.beq kd 3 then vOk3 R a N M ps else false)
  | _, _ => false
noncomputable def vRow (R : List (List rQ)) (X : Nat → Option amN) (G : Nat → Option amM) : Nat → List (Nat × List Nat) → Bool
  | _, [] => true
  | a, e :: r => vOk R X G a e.1 e.2 && vRow R X G (a + 1) r
/-- a table of what is called, in rows of 16, each row checked -/
abbrev vAll (R : List (List rQ)) (X : Nat → Option amN) (G : Nat → Option amM) (V : List (List (Nat × List Nat))) : Prop := ∀ (i : Nat) (S : List (Nat × List Nat)), V[i]? = some S → vRow R X G (16 * i) S = true
noncomputable def vK (V : List (List (Nat × List Nat))) (a : Nat) : Nat × List Nat := match fget V (a / 16) with
  | some S => (match fget S (a % 16) with
    | some q => q
    | none => (0, []))
  | none => (0, [])
theorem vRow_s {Q : List (List rQ)} {X : Nat → Option amN} {G : Nat → Option amM} : ∀ {R : List (Nat × List Nat)} {a j : Nat} {q : Nat × List Nat}, vRow Q X G a R = true → R[j]? = some q → vOk Q X G (a + j) q.1 q.2 = true
  | [], _, j, _, _, h => by cases h
  | e :: r, a, 0, q, h, hj => by
    cases hj
    exact (Bool.and_eq_true_iff.mp h).1
  | e :: r, a, j + 1, q, h, hj => by
    have := vRow_s (R := r) (a := a + 1) (j := j) (Bool.and_eq_true_iff.mp h).2 hj
    rw [show a + (j + 1) = a + 1 + j by omega]
    exact this
theorem vK_s {R : List (List rQ)} {X : Nat → Option amN} {G : Nat → Option amM} {V : List (List (Nat × List Nat))} (hV : vAll R X G V) {a kd : Nat} (h : Nat.beq (vK V a).1 (kd + 1) = true) : ∃ ps, vOk R X G a (kd + 1) ps = true := by
  have h := Nat.eq_of_beq_eq_true h
  unfold vK at h
  split at h
  · next S e =>
    split at h
    · next q e2 =>
      rw [fget_eq] at e e2
      have g := vRow_s (hV _ _ e) e2
      rw [show 16 * (a / 16) + a % 16 = a by omega] at g
      refine ⟨q.2, ?_⟩
      rw [← h]
      exact g
    · have h : 0 = kd + 1 := h
      omega
  · have h : 0 = kd + 1 := h
    omega
/-- a method's code among the words -/
noncomputable def cWd (N : amN) (M : amM) : Jvm.Cond := match N.2.2 with
  | [] => Jvm.Cond.code N.1 N.2.1 M.2.1 M.2.2.2.2.1
  | _ :: _ => Jvm.Cond.codeWith N.1 N.2.1 M.2.1 M.2.2.2.2.1 N.2.2
theorem cWd_0 {N : amN} {M : amM} (h : N.2.2 = []) : cWd N M = Jvm.Cond.code N.1 N.2.1 M.2.1 M.2.2.2.2.1 := by
  unfold cWd
  rw [h]
theorem cWd_1 {N : amN} {M : amM} (h : N.2.2 ≠ []) : cWd N M = Jvm.Cond.codeWith N.1 N.2.1 M.2.1 M.2.2.2.2.1 N.2.2 := by
  unfold cWd
  split
  · next e => exact absurd e h
  · rfl
theorem fg_mem {l : List Jvm.Cond} {i : Nat} {w : Jvm.Cond} (h : fget l i = some w) : w ∈ l := List.mem_of_getElem? ((fget_eq l i).symm.trans h)
abbrev cwAll (X : Nat → Option amN) (G : Nat → Option amM) : Prop := ∀ (a : Nat) (N : amN) (M : amM), X a = some N → G a = some M → cWd N M ∈ amWL
/-- an entry's links -/
noncomputable def fLk (X : Nat → Option amN) (G : Nat → Option amM) (V : List (List (Nat × List Nat))) (W : List (List wR)) (own : String) (cc : ByteArray) (ini : Bool) (pc : Nat) (i : Instr) (a b : Nat) (h : List Nat) : Bool := match i with
  | .getfield k => wIs W k 2 a b || wIs W k 3 a b
  | .putfield k => wIs W k 2 a b || (ini && wIs W k 3 a b)
  | .invokevirtual k => if b = 7 ∨ b = 8 then amLk2B G X own cc pc i a b h else wIs W k 1 a 0 && Nat.beq (vK V a).1 1
  | .invokestatic k => if b = 6 then amLk2B G X own cc pc i a b h else wIs W k 1 a 0 && Nat.beq (vK V a).1 (if b = 0 then 2 else 3)
  | i => amLkB own ini pc i a b h && amLk2B G X own cc pc i a b h
theorem fLk_s {O : List String} {R : List (List rQ)} {o : Nat} {X : Nat → Option amN} {G : Nat → Option amM} {V : List (List (Nat × List Nat))} {W : List (List wR)} {own : String} {cc : ByteArray} {ini : Bool} {pc : Nat} {i : Instr} {a b : Nat} {h : List Nat} (hZ : cwAll X G) (hR : rqOk O X G R) (hO : O[o]? = some own) (hV : vAll R X G V) (hW : wAll R own o W = true) (hh : fLk X G V W own cc ini pc i a b h = true) : amLk amWL own ini pc i a b ∧ amLk2 G X own cc pc i a b := by
  cases i
  case getfield k =>
    refine ⟨?_, trivial⟩
    rcases Bool.or_eq_true_iff.mp hh with z | z
    · obtain ⟨r, h1, h2, h3, -⟩ := wIs2 hR hO hW z
      exact ⟨r, h1, h2, h3⟩
    · obtain ⟨r, h1, h2, h3, -⟩ := wIs3 hR hO hW z
      exact ⟨r, h1, h2, h3⟩
  case putfield k =>
    refine ⟨?_, trivial⟩
    rcases Bool.or_eq_true_iff.mp hh with z | z
    · obtain ⟨r, h1, h2, h3, h4⟩ := wIs2 hR hO hW z
      exact ⟨r, h1, h2, h3, fun e => by rw [h4] at e; cases e⟩
    · obtain ⟨z1, z2⟩ := Bool.and_eq_true_iff.mp z
      obtain ⟨r, h1, h2, h3, h4⟩ := wIs3 hR hO hW z2
      exact ⟨r, h1, h2, h3, fun _ => ⟨z1, h4⟩⟩
  case invokevirtual k =>
    refine ⟨trivial, ?_⟩
    unfold fLk at hh
    dsimp only at hh
    split at hh
    · exact amLk2B_s hh
    · next hb =>
      obtain ⟨z1, z2⟩ := Bool.and_eq_true_iff.mp hh
      obtain ⟨ps, g⟩ := vK_s hV (kd := 0) z2
      unfold amLk2
      dsimp only
      rw [if_neg (fun z => hb (Or.inl z)), if_neg (fun z => hb (Or.inr z))]
      have g : (match X a, G a with
        | some N, some M => vOk1 R a N M ps
        | _, _ => false) = true := g
      split at g
      · next N M e1 e2 =>
        unfold vOk1 at g
        simp only [Bool.and_eq_true] at g
        obtain ⟨⟨⟨⟨h1, h2⟩, q1, q2, q3⟩, h3⟩, h4⟩ := g
        have v4' := hZ a N M e1 e2
        rw [cWd_0 (List.isEmpty_iff.mp h1)] at v4'
        obtain ⟨w1, v1, v1'⟩ := rqIs_s hR q1
        obtain ⟨w2, v2, v2'⟩ := rqIs_s hR q2
        obtain ⟨w3, v3, v3'⟩ := rqIs_s hR q3
        have v1 : (match X a with
          | some N => some (Jvm.Cond.instanceMethod N.1)
          | none => none) = some w1 := v1
        have v2 : (match X a with
          | some N => some (Jvm.Cond.selects N.1.cls N.1 N.1)
          | none => none) = some w2 := v2
        have v3 : (match X a with
          | some N => some (Jvm.Cond.initialized N.1.cls)
          | none => none) = some w3 := v3
        rw [e1] at v1 v2 v3
        cases v1
        cases v2
        cases v3
        split at h2
        · next r er =>
          have h2 := of_decide_eq_true h2
          split at h4
          · next n en => exact ⟨N, M, r, n, e1, e2, List.isEmpty_iff.mp h1, er, h2, wIs1 hR hO hW z1 e1, v1', by rw [← h2]; exact v2', by rw [← h2]; exact v3', v4', amMHB_s h3, en, of_decide_eq_true h4⟩
          · cases h4
        · cases h2
      · cases g
  case invokestatic k =>
    refine ⟨trivial, ?_⟩
    unfold fLk at hh
    dsimp only at hh
    split at hh
    · exact amLk2B_s hh
    · next hb =>
      obtain ⟨z1, z2⟩ := Bool.and_eq_true_iff.mp hh
      unfold amLk2
      dsimp only
      rw [if_neg hb]
      by_cases b0 : b = 0
      · rw [if_pos b0] at z2
        obtain ⟨ps, g⟩ := vK_s hV (kd := 1) z2
        have g : (match X a, G a with
          | some N, some M => vOk2 R a N M ps
          | _, _ => false) = true := g
        split at g
        · next N M e1 e2 =>
          unfold vOk2 at g
          simp only [Bool.and_eq_true, decide_eq_true_eq] at g
          obtain ⟨⟨⟨h1, q1, q2⟩, h3⟩, h4⟩ := g
          have v3' := hZ a N M e1 e2
          rw [cWd_0 (List.isEmpty_iff.mp h1)] at v3'
          obtain ⟨w1, v1, v1'⟩ := rqIs_s hR q1
          obtain ⟨w2, v2, v2'⟩ := rqIs_s hR q2
          have v1 : (match X a with
            | some N => some (Jvm.Cond.static N.1)
            | none => none) = some w1 := v1
          have v2 : (match X a with
            | some N => some (Jvm.Cond.initialized N.1.cls)
            | none => none) = some w2 := v2
          rw [e1] at v1 v2
          cases v1
          cases v2
          refine ⟨N, M, e1, e2, ?_⟩
          rw [if_pos b0]
          exact ⟨⟨List.isEmpty_iff.mp h1, v3'⟩, wIs1 hR hO hW z1 e1, v1', v2', amMHB_s h3, h4⟩
        · cases g
      · rw [if_neg b0] at z2
        obtain ⟨ps, g⟩ := vK_s hV (kd := 2) z2
        have g : (match X a, G a with
          | some N, some M => vOk3 R a N M ps
          | _, _ => false) = true := g
        split at g
        · next N M e1 e2 =>
          unfold vOk3 at g
          simp only [Bool.and_eq_true, decide_eq_true_eq, Bool.not_eq_true'] at g
          obtain ⟨⟨⟨h1, q1, q2⟩, h3⟩, h4⟩ := g
          have v3' := hZ a N M e1 e2
          rw [cWd_1 (fun z => (by rw [z] at h1; exact absurd h1 (by decide)))] at v3'
          obtain ⟨w1, v1, v1'⟩ := rqIs_s hR q1
          obtain ⟨w2, v2, v2'⟩ := rqIs_s hR q2
          have v1 : (match X a with
            | some N => some (Jvm.Cond.static N.1)
            | none => none) = some w1 := v1
          have v2 : (match X a with
            | some N => some (Jvm.Cond.initialized N.1.cls)
            | none => none) = some w2 := v2
          rw [e1] at v1 v2
          cases v1
          cases v2
          refine ⟨N, M, e1, e2, ?_⟩
          rw [if_neg b0]
          exact ⟨⟨fun z => (by rw [z] at h1; exact absurd h1 (by decide)), v3'⟩, wIs1 hR hO hW z1 e1, v1', v2', amMHB_s h3, h4⟩
        · cases g
  all_goals (unfold fLk at hh; dsimp only at hh; have hh := Bool.and_eq_true_iff.mp hh; exact ⟨amLkB_s hh.1, amLk2B_s hh.2⟩)
noncomputable def fLks (X : Nat → Option amN) (G : Nat → Option amM) (V : List (List (Nat × List Nat))) (W : List (List wR)) (own : String) (cc : ByteArray) (ini : Bool) : amP → List (List Nat) → Bool
  | [], _ => true
  | q :: r, hs => fLk X G V W own cc ini q.1 q.2.1 q.2.2.1 q.2.2.2 (hs.headD []) && fLks X G V W own cc ini r hs.tail
theorem fLks_s {O : List String} {R : List (List rQ)} {o : Nat} {X : Nat → Option amN} {G : Nat → Option amM} {V : List (List (Nat × List Nat))} {W : List (List wR)} {own : String} {cc : ByteArray} {ini : Bool} (hZ : cwAll X G) (hR : rqOk O X G R) (hO : O[o]? = some own) (hV : vAll R X G V) (hW : wAll R own o W = true) : ∀ {cs : amP} {hs : List (List Nat)}, fLks X G V W own cc ini cs hs = true → ∀ q ∈ cs, amLk amWL own ini q.1 q.2.1 q.2.2.1 q.2.2.2 ∧ amLk2 G X own cc q.1 q.2.1 q.2.2.1 q.2.2.2
  | [], _, _, q, hq => by cases hq
  | q' :: r, hs, h, q, hq => by
    obtain ⟨h1, h2⟩ := Bool.and_eq_true_iff.mp h
    rcases List.mem_cons.mp hq with rfl | hq
    · exact fLk_s hZ hR hO hV hW h1
    · exact fLks_s hZ hR hO hV hW h2 q hq
/-- rows of a method's code from one place on -/
noncomputable def fRows (X : Nat → Option amN) (G : Nat → Option amM) (V : List (List (Nat × List Nat))) (W : List (List wR)) (N : amN) (M : amM) (cs : amP) (p : Nat) (hs : List (List Nat)) : Bool := fwk N.2.1 cs p (fdrop N.2.1.data.toList p) && fLks X G V W N.1.cls N.2.1 M.2.2.2.1 cs hs
theorem fRows_s {O : List String} {R : List (List rQ)} {o : Nat} {X : Nat → Option amN} {G : Nat → Option amM} {V : List (List (Nat × List Nat))} {W : List (List wR)} {N : amN} {M : amM} {cs : amP} {p : Nat} {hs : List (List Nat)} (hZ : cwAll X G) (hR : rqOk O X G R) (hO : O[o]? = some N.1.cls) (hV : vAll R X G V) (hW : wAll R N.1.cls o W = true) (h : fRows X G V W N M cs p hs = true) : ∀ q ∈ cs, amEok G X N M q := fun q hq =>
  have h := Bool.and_eq_true_iff.mp h
  have l := fLks_s hZ hR hO hV hW h.2 q hq
  ⟨fwk_s h.1 (fdrop_eq _ _) q hq, l.1, l.2⟩
theorem fMk_s {X : Nat → Option amN} {G : Nat → Option amM} {N : amN} {M : amM} {gs : List (Nat × Nat)} (h : amMkB N M gs = true) (hc : ∀ q ∈ M.1, amEok G X N M q) : amMk G X N M := by
  simp only [amMkB, Bool.and_eq_true, Bool.or_eq_true, Bool.not_eq_true', decide_eq_true_eq] at h
  obtain ⟨⟨⟨⟨h1, h2⟩, h3⟩, h4⟩, h5⟩ := h
  refine ⟨h1, h2, fun hi => ?_, ⟨fun hh => ?_, amHanB_s h5⟩, hc⟩
  · rcases h3 with z | z
    · rw [hi] at z; cases z
    · exact z
  · rcases h4 with z | z
    · rw [hh] at z; cases z
    · exact List.isEmpty_iff.mp z
noncomputable def fRowL (X : Nat → Option amN) (G : Nat → Option amM) (V : List (List (Nat × List Nat))) (W : List (List wR)) (N : amN) (M : amM) (cs : amP) (p : Nat) (l : List UInt8) (hs : List (List Nat)) : Bool := fwk N.2.1 cs p l && fLks X G V W N.1.cls N.2.1 M.2.2.2.1 cs hs
theorem fRowL_s {O : List String} {R : List (List rQ)} {o : Nat} {X : Nat → Option amN} {G : Nat → Option amM} {V : List (List (Nat × List Nat))} {W : List (List wR)} {N : amN} {M : amM} {cs : amP} {p : Nat} {l : List UInt8} {hs : List (List Nat)} (hZ : cwAll X G) (hR : rqOk O X G R) (hO : O[o]? = some N.1.cls) (hV : vAll R X G V) (hW : wAll R N.1.cls o W = true) (hl : l = N.2.1.data.toList.drop p) (h : fRowL X G V W N M cs p l hs = true) : ∀ q ∈ cs, amEok G X N M q := fun q hq =>
  have h := Bool.and_eq_true_iff.mp h
  have k := fLks_s hZ hR hO hV hW h.2 q hq
  ⟨fwk_s h.1 hl q hq, k.1, k.2⟩
noncomputable def fM (X : Nat → Option amN) (G : Nat → Option amM) (V : List (List (Nat × List Nat))) (W : List (List wR)) (N : amN) (M : amM) (hs : List (List Nat)) (gs : List (Nat × Nat)) : Bool := fRows X G V W N M M.1 0 hs && amMkB N M gs
theorem fM_s {O : List String} {R : List (List rQ)} {o : Nat} {X : Nat → Option amN} {G : Nat → Option amM} {V : List (List (Nat × List Nat))} {W : List (List wR)} {N : amN} {M : amM} {hs : List (List Nat)} {gs : List (Nat × Nat)} (hZ : cwAll X G) (hR : rqOk O X G R) (hO : O[o]? = some N.1.cls) (hV : vAll R X G V) (hW : wAll R N.1.cls o W = true) (h : fM X G V W N M hs gs = true) : amMk G X N M :=
  have h := Bool.and_eq_true_iff.mp h
  fMk_s h.2 (fRows_s hZ hR hO hV hW h.1)
