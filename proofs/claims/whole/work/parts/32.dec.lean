/-! the decoder, an opcode at a time: what a method's bytes say, without the decoder's whole table each time -/
theorem dc_bind {α β : Type} {code : ByteArray} {p : Nat} (x : Jvm.ClassFile.Decoder α) (f : α → Jvm.ClassFile.Decoder β) : Jvm.ClassFile.Reader.runAt (x >>= f) code p = (Jvm.ClassFile.Reader.runAt x code p).bind (fun q => Jvm.ClassFile.Reader.runAt (f q.1) code q.2) := rfl
def dc_at (code : ByteArray) (p b : Nat) : Prop := ∃ h : p < code.size, (code[p]'h).toNat = b
theorem dc_u1 {code : ByteArray} {p b : Nat} (h : dc_at code p b) : Jvm.ClassFile.Reader.runAt (Jvm.ClassFile.Reader.u1 : Jvm.ClassFile.Decoder Nat) code p = .ok (b, p + 1) := by
  obtain ⟨h, rfl⟩ := h
  unfold Jvm.ClassFile.Reader.u1
  rw [dc_bind]
  show Jvm.ClassFile.Reader.runAt (if h : p < code.size then _ else _) code p = _
  rw [dif_pos h]
  rfl
theorem dc_u2 {code : ByteArray} {p a b : Nat} (h1 : dc_at code p a) (h2 : dc_at code (p + 1) b) : Jvm.ClassFile.Reader.runAt (Jvm.ClassFile.Reader.u2 : Jvm.ClassFile.Decoder Nat) code p = .ok (a * 256 + b, p + 2) := by
  unfold Jvm.ClassFile.Reader.u2
  rw [dc_bind, dc_u1 h1]
  show Jvm.ClassFile.Reader.runAt (Jvm.ClassFile.Reader.u1 >>= _) code (p + 1) = _
  rw [dc_bind, dc_u1 h2]
  rfl
theorem dc_s1 {code : ByteArray} {p b : Nat} (h : dc_at code p b) : Jvm.ClassFile.Reader.runAt (Jvm.ClassFile.Reader.s1 : Jvm.ClassFile.Decoder Int) code p = .ok (Jvm.ClassFile.Reader.signed 8 b, p + 1) := by
  show (Jvm.ClassFile.Reader.runAt (Jvm.ClassFile.Reader.u1 : Jvm.ClassFile.Decoder Nat) code p).bind (fun q => .ok (Jvm.ClassFile.Reader.signed 8 q.1, q.2)) = _
  rw [dc_u1 h]
  rfl
theorem dc_s2 {code : ByteArray} {p a b : Nat} (h1 : dc_at code p a) (h2 : dc_at code (p + 1) b) : Jvm.ClassFile.Reader.runAt (Jvm.ClassFile.Reader.s2 : Jvm.ClassFile.Decoder Int) code p = .ok (Jvm.ClassFile.Reader.signed 16 (a * 256 + b), p + 2) := by
  show (Jvm.ClassFile.Reader.runAt (Jvm.ClassFile.Reader.u2 : Jvm.ClassFile.Decoder Nat) code p).bind (fun q => .ok (Jvm.ClassFile.Reader.signed 16 q.1, q.2)) = _
  rw [dc_u2 h1 h2]
  rfl
theorem dc_of {code : ByteArray} {pc k : Nat} {i : Jvm.ClassFile.Instr} (h : Jvm.ClassFile.Reader.runAt (Jvm.ClassFile.Decoder.instr pc) code pc = .ok (i, pc + k)) : decode code pc = .ok (i, k) := by
  unfold decode
  rw [h]
  show Except.ok (i, pc + k - pc) = _
  rw [Nat.add_sub_cancel_left]

theorem dc_2 {code : ByteArray} {pc : Nat} (h : dc_at code pc 2) : decode code pc = .ok (.iconst (-1), 1) := by
  apply dc_of
  unfold Jvm.ClassFile.Decoder.instr
  rw [dc_bind, dc_u1 h]
  rfl
theorem dc_3 {code : ByteArray} {pc : Nat} (h : dc_at code pc 3) : decode code pc = .ok (.iconst 0, 1) := by
  apply dc_of
  unfold Jvm.ClassFile.Decoder.instr
  rw [dc_bind, dc_u1 h]
  rfl
theorem dc_4 {code : ByteArray} {pc : Nat} (h : dc_at code pc 4) : decode code pc = .ok (.iconst 1, 1) := by
  apply dc_of
  unfold Jvm.ClassFile.Decoder.instr
  rw [dc_bind, dc_u1 h]
  rfl
theorem dc_5 {code : ByteArray} {pc : Nat} (h : dc_at code pc 5) : decode code pc = .ok (.iconst 2, 1) := by
  apply dc_of
  unfold Jvm.ClassFile.Decoder.instr
  rw [dc_bind, dc_u1 h]
  rfl
theorem dc_6 {code : ByteArray} {pc : Nat} (h : dc_at code pc 6) : decode code pc = .ok (.iconst 3, 1) := by
  apply dc_of
  unfold Jvm.ClassFile.Decoder.instr
  rw [dc_bind, dc_u1 h]
  rfl
theorem dc_7 {code : ByteArray} {pc : Nat} (h : dc_at code pc 7) : decode code pc = .ok (.iconst 4, 1) := by
  apply dc_of
  unfold Jvm.ClassFile.Decoder.instr
  rw [dc_bind, dc_u1 h]
  rfl
theorem dc_8 {code : ByteArray} {pc : Nat} (h : dc_at code pc 8) : decode code pc = .ok (.iconst 5, 1) := by
  apply dc_of
  unfold Jvm.ClassFile.Decoder.instr
  rw [dc_bind, dc_u1 h]
  rfl
theorem dc_26 {code : ByteArray} {pc : Nat} (h : dc_at code pc 26) : decode code pc = .ok (.iload_n 0, 1) := by
  apply dc_of
  unfold Jvm.ClassFile.Decoder.instr
  rw [dc_bind, dc_u1 h]
  rfl
theorem dc_27 {code : ByteArray} {pc : Nat} (h : dc_at code pc 27) : decode code pc = .ok (.iload_n 1, 1) := by
  apply dc_of
  unfold Jvm.ClassFile.Decoder.instr
  rw [dc_bind, dc_u1 h]
  rfl
theorem dc_28 {code : ByteArray} {pc : Nat} (h : dc_at code pc 28) : decode code pc = .ok (.iload_n 2, 1) := by
  apply dc_of
  unfold Jvm.ClassFile.Decoder.instr
  rw [dc_bind, dc_u1 h]
  rfl
theorem dc_29 {code : ByteArray} {pc : Nat} (h : dc_at code pc 29) : decode code pc = .ok (.iload_n 3, 1) := by
  apply dc_of
  unfold Jvm.ClassFile.Decoder.instr
  rw [dc_bind, dc_u1 h]
  rfl
theorem dc_42 {code : ByteArray} {pc : Nat} (h : dc_at code pc 42) : decode code pc = .ok (.aload_n 0, 1) := by
  apply dc_of
  unfold Jvm.ClassFile.Decoder.instr
  rw [dc_bind, dc_u1 h]
  rfl
theorem dc_43 {code : ByteArray} {pc : Nat} (h : dc_at code pc 43) : decode code pc = .ok (.aload_n 1, 1) := by
  apply dc_of
  unfold Jvm.ClassFile.Decoder.instr
  rw [dc_bind, dc_u1 h]
  rfl
theorem dc_44 {code : ByteArray} {pc : Nat} (h : dc_at code pc 44) : decode code pc = .ok (.aload_n 2, 1) := by
  apply dc_of
  unfold Jvm.ClassFile.Decoder.instr
  rw [dc_bind, dc_u1 h]
  rfl
theorem dc_45 {code : ByteArray} {pc : Nat} (h : dc_at code pc 45) : decode code pc = .ok (.aload_n 3, 1) := by
  apply dc_of
  unfold Jvm.ClassFile.Decoder.instr
  rw [dc_bind, dc_u1 h]
  rfl
theorem dc_46 {code : ByteArray} {pc : Nat} (h : dc_at code pc 46) : decode code pc = .ok (.iaload, 1) := by
  apply dc_of
  unfold Jvm.ClassFile.Decoder.instr
  rw [dc_bind, dc_u1 h]
  rfl
theorem dc_50 {code : ByteArray} {pc : Nat} (h : dc_at code pc 50) : decode code pc = .ok (.aaload, 1) := by
  apply dc_of
  unfold Jvm.ClassFile.Decoder.instr
  rw [dc_bind, dc_u1 h]
  rfl
theorem dc_51 {code : ByteArray} {pc : Nat} (h : dc_at code pc 51) : decode code pc = .ok (.baload, 1) := by
  apply dc_of
  unfold Jvm.ClassFile.Decoder.instr
  rw [dc_bind, dc_u1 h]
  rfl
theorem dc_52 {code : ByteArray} {pc : Nat} (h : dc_at code pc 52) : decode code pc = .ok (.caload, 1) := by
  apply dc_of
  unfold Jvm.ClassFile.Decoder.instr
  rw [dc_bind, dc_u1 h]
  rfl
theorem dc_59 {code : ByteArray} {pc : Nat} (h : dc_at code pc 59) : decode code pc = .ok (.istore_n 0, 1) := by
  apply dc_of
  unfold Jvm.ClassFile.Decoder.instr
  rw [dc_bind, dc_u1 h]
  rfl
theorem dc_60 {code : ByteArray} {pc : Nat} (h : dc_at code pc 60) : decode code pc = .ok (.istore_n 1, 1) := by
  apply dc_of
  unfold Jvm.ClassFile.Decoder.instr
  rw [dc_bind, dc_u1 h]
  rfl
theorem dc_61 {code : ByteArray} {pc : Nat} (h : dc_at code pc 61) : decode code pc = .ok (.istore_n 2, 1) := by
  apply dc_of
  unfold Jvm.ClassFile.Decoder.instr
  rw [dc_bind, dc_u1 h]
  rfl
theorem dc_62 {code : ByteArray} {pc : Nat} (h : dc_at code pc 62) : decode code pc = .ok (.istore_n 3, 1) := by
  apply dc_of
  unfold Jvm.ClassFile.Decoder.instr
  rw [dc_bind, dc_u1 h]
  rfl
theorem dc_75 {code : ByteArray} {pc : Nat} (h : dc_at code pc 75) : decode code pc = .ok (.astore_n 0, 1) := by
  apply dc_of
  unfold Jvm.ClassFile.Decoder.instr
  rw [dc_bind, dc_u1 h]
  rfl
theorem dc_76 {code : ByteArray} {pc : Nat} (h : dc_at code pc 76) : decode code pc = .ok (.astore_n 1, 1) := by
  apply dc_of
  unfold Jvm.ClassFile.Decoder.instr
  rw [dc_bind, dc_u1 h]
  rfl
theorem dc_77 {code : ByteArray} {pc : Nat} (h : dc_at code pc 77) : decode code pc = .ok (.astore_n 2, 1) := by
  apply dc_of
  unfold Jvm.ClassFile.Decoder.instr
  rw [dc_bind, dc_u1 h]
  rfl
theorem dc_78 {code : ByteArray} {pc : Nat} (h : dc_at code pc 78) : decode code pc = .ok (.astore_n 3, 1) := by
  apply dc_of
  unfold Jvm.ClassFile.Decoder.instr
  rw [dc_bind, dc_u1 h]
  rfl
theorem dc_79 {code : ByteArray} {pc : Nat} (h : dc_at code pc 79) : decode code pc = .ok (.iastore, 1) := by
  apply dc_of
  unfold Jvm.ClassFile.Decoder.instr
  rw [dc_bind, dc_u1 h]
  rfl
theorem dc_84 {code : ByteArray} {pc : Nat} (h : dc_at code pc 84) : decode code pc = .ok (.bastore, 1) := by
  apply dc_of
  unfold Jvm.ClassFile.Decoder.instr
  rw [dc_bind, dc_u1 h]
  rfl
theorem dc_87 {code : ByteArray} {pc : Nat} (h : dc_at code pc 87) : decode code pc = .ok (.pop, 1) := by
  apply dc_of
  unfold Jvm.ClassFile.Decoder.instr
  rw [dc_bind, dc_u1 h]
  rfl
theorem dc_89 {code : ByteArray} {pc : Nat} (h : dc_at code pc 89) : decode code pc = .ok (.dup, 1) := by
  apply dc_of
  unfold Jvm.ClassFile.Decoder.instr
  rw [dc_bind, dc_u1 h]
  rfl
theorem dc_92 {code : ByteArray} {pc : Nat} (h : dc_at code pc 92) : decode code pc = .ok (.dup2, 1) := by
  apply dc_of
  unfold Jvm.ClassFile.Decoder.instr
  rw [dc_bind, dc_u1 h]
  rfl
theorem dc_96 {code : ByteArray} {pc : Nat} (h : dc_at code pc 96) : decode code pc = .ok (.iadd, 1) := by
  apply dc_of
  unfold Jvm.ClassFile.Decoder.instr
  rw [dc_bind, dc_u1 h]
  rfl
theorem dc_100 {code : ByteArray} {pc : Nat} (h : dc_at code pc 100) : decode code pc = .ok (.isub, 1) := by
  apply dc_of
  unfold Jvm.ClassFile.Decoder.instr
  rw [dc_bind, dc_u1 h]
  rfl
theorem dc_104 {code : ByteArray} {pc : Nat} (h : dc_at code pc 104) : decode code pc = .ok (.imul, 1) := by
  apply dc_of
  unfold Jvm.ClassFile.Decoder.instr
  rw [dc_bind, dc_u1 h]
  rfl
theorem dc_108 {code : ByteArray} {pc : Nat} (h : dc_at code pc 108) : decode code pc = .ok (.idiv, 1) := by
  apply dc_of
  unfold Jvm.ClassFile.Decoder.instr
  rw [dc_bind, dc_u1 h]
  rfl
theorem dc_112 {code : ByteArray} {pc : Nat} (h : dc_at code pc 112) : decode code pc = .ok (.irem, 1) := by
  apply dc_of
  unfold Jvm.ClassFile.Decoder.instr
  rw [dc_bind, dc_u1 h]
  rfl
theorem dc_116 {code : ByteArray} {pc : Nat} (h : dc_at code pc 116) : decode code pc = .ok (.ineg, 1) := by
  apply dc_of
  unfold Jvm.ClassFile.Decoder.instr
  rw [dc_bind, dc_u1 h]
  rfl
theorem dc_120 {code : ByteArray} {pc : Nat} (h : dc_at code pc 120) : decode code pc = .ok (.ishl, 1) := by
  apply dc_of
  unfold Jvm.ClassFile.Decoder.instr
  rw [dc_bind, dc_u1 h]
  rfl
theorem dc_122 {code : ByteArray} {pc : Nat} (h : dc_at code pc 122) : decode code pc = .ok (.ishr, 1) := by
  apply dc_of
  unfold Jvm.ClassFile.Decoder.instr
  rw [dc_bind, dc_u1 h]
  rfl
theorem dc_124 {code : ByteArray} {pc : Nat} (h : dc_at code pc 124) : decode code pc = .ok (.iushr, 1) := by
  apply dc_of
  unfold Jvm.ClassFile.Decoder.instr
  rw [dc_bind, dc_u1 h]
  rfl
theorem dc_126 {code : ByteArray} {pc : Nat} (h : dc_at code pc 126) : decode code pc = .ok (.iand, 1) := by
  apply dc_of
  unfold Jvm.ClassFile.Decoder.instr
  rw [dc_bind, dc_u1 h]
  rfl
theorem dc_128 {code : ByteArray} {pc : Nat} (h : dc_at code pc 128) : decode code pc = .ok (.ior, 1) := by
  apply dc_of
  unfold Jvm.ClassFile.Decoder.instr
  rw [dc_bind, dc_u1 h]
  rfl
theorem dc_130 {code : ByteArray} {pc : Nat} (h : dc_at code pc 130) : decode code pc = .ok (.ixor, 1) := by
  apply dc_of
  unfold Jvm.ClassFile.Decoder.instr
  rw [dc_bind, dc_u1 h]
  rfl
theorem dc_147 {code : ByteArray} {pc : Nat} (h : dc_at code pc 147) : decode code pc = .ok (.i2s, 1) := by
  apply dc_of
  unfold Jvm.ClassFile.Decoder.instr
  rw [dc_bind, dc_u1 h]
  rfl
theorem dc_172 {code : ByteArray} {pc : Nat} (h : dc_at code pc 172) : decode code pc = .ok (.ireturn, 1) := by
  apply dc_of
  unfold Jvm.ClassFile.Decoder.instr
  rw [dc_bind, dc_u1 h]
  rfl
theorem dc_177 {code : ByteArray} {pc : Nat} (h : dc_at code pc 177) : decode code pc = .ok (.return_, 1) := by
  apply dc_of
  unfold Jvm.ClassFile.Decoder.instr
  rw [dc_bind, dc_u1 h]
  rfl
theorem dc_190 {code : ByteArray} {pc : Nat} (h : dc_at code pc 190) : decode code pc = .ok (.arraylength, 1) := by
  apply dc_of
  unfold Jvm.ClassFile.Decoder.instr
  rw [dc_bind, dc_u1 h]
  rfl
theorem dc_18 {code : ByteArray} {pc x : Nat} (h : dc_at code pc 18) (h1 : dc_at code (pc + 1) x) : decode code pc = .ok (.ldc x, 2) := by
  apply dc_of
  unfold Jvm.ClassFile.Decoder.instr
  rw [dc_bind, dc_u1 h]
  show Jvm.ClassFile.Reader.runAt (Jvm.ClassFile.Reader.u1 >>= _) code (pc + 1) = _
  rw [dc_bind, dc_u1 h1]
  rfl
theorem dc_21 {code : ByteArray} {pc x : Nat} (h : dc_at code pc 21) (h1 : dc_at code (pc + 1) x) : decode code pc = .ok (.iload x, 2) := by
  apply dc_of
  unfold Jvm.ClassFile.Decoder.instr
  rw [dc_bind, dc_u1 h]
  show Jvm.ClassFile.Reader.runAt (Jvm.ClassFile.Reader.u1 >>= _) code (pc + 1) = _
  rw [dc_bind, dc_u1 h1]
  rfl
theorem dc_25 {code : ByteArray} {pc x : Nat} (h : dc_at code pc 25) (h1 : dc_at code (pc + 1) x) : decode code pc = .ok (.aload x, 2) := by
  apply dc_of
  unfold Jvm.ClassFile.Decoder.instr
  rw [dc_bind, dc_u1 h]
  show Jvm.ClassFile.Reader.runAt (Jvm.ClassFile.Reader.u1 >>= _) code (pc + 1) = _
  rw [dc_bind, dc_u1 h1]
  rfl
theorem dc_54 {code : ByteArray} {pc x : Nat} (h : dc_at code pc 54) (h1 : dc_at code (pc + 1) x) : decode code pc = .ok (.istore x, 2) := by
  apply dc_of
  unfold Jvm.ClassFile.Decoder.instr
  rw [dc_bind, dc_u1 h]
  show Jvm.ClassFile.Reader.runAt (Jvm.ClassFile.Reader.u1 >>= _) code (pc + 1) = _
  rw [dc_bind, dc_u1 h1]
  rfl
theorem dc_58 {code : ByteArray} {pc x : Nat} (h : dc_at code pc 58) (h1 : dc_at code (pc + 1) x) : decode code pc = .ok (.astore x, 2) := by
  apply dc_of
  unfold Jvm.ClassFile.Decoder.instr
  rw [dc_bind, dc_u1 h]
  show Jvm.ClassFile.Reader.runAt (Jvm.ClassFile.Reader.u1 >>= _) code (pc + 1) = _
  rw [dc_bind, dc_u1 h1]
  rfl
theorem dc_16 {code : ByteArray} {pc x : Nat} (h : dc_at code pc 16) (h1 : dc_at code (pc + 1) x) : decode code pc = .ok (.bipush (Jvm.ClassFile.Reader.signed 8 x), 2) := by
  apply dc_of
  unfold Jvm.ClassFile.Decoder.instr
  rw [dc_bind, dc_u1 h]
  show Jvm.ClassFile.Reader.runAt (Jvm.ClassFile.Reader.s1 >>= _) code (pc + 1) = _
  rw [dc_bind, dc_s1 h1]
  rfl
theorem dc_19 {code : ByteArray} {pc x y : Nat} (h : dc_at code pc 19) (h1 : dc_at code (pc + 1) x) (h2 : dc_at code (pc + 2) y) : decode code pc = .ok (.ldc_w (x * 256 + y), 3) := by
  apply dc_of
  unfold Jvm.ClassFile.Decoder.instr
  rw [dc_bind, dc_u1 h]
  show Jvm.ClassFile.Reader.runAt (Jvm.ClassFile.Reader.u2 >>= _) code (pc + 1) = _
  rw [dc_bind, dc_u2 h1 h2]
  rfl
theorem dc_178 {code : ByteArray} {pc x y : Nat} (h : dc_at code pc 178) (h1 : dc_at code (pc + 1) x) (h2 : dc_at code (pc + 2) y) : decode code pc = .ok (.getstatic (x * 256 + y), 3) := by
  apply dc_of
  unfold Jvm.ClassFile.Decoder.instr
  rw [dc_bind, dc_u1 h]
  show Jvm.ClassFile.Reader.runAt (Jvm.ClassFile.Reader.u2 >>= _) code (pc + 1) = _
  rw [dc_bind, dc_u2 h1 h2]
  rfl
theorem dc_180 {code : ByteArray} {pc x y : Nat} (h : dc_at code pc 180) (h1 : dc_at code (pc + 1) x) (h2 : dc_at code (pc + 2) y) : decode code pc = .ok (.getfield (x * 256 + y), 3) := by
  apply dc_of
  unfold Jvm.ClassFile.Decoder.instr
  rw [dc_bind, dc_u1 h]
  show Jvm.ClassFile.Reader.runAt (Jvm.ClassFile.Reader.u2 >>= _) code (pc + 1) = _
  rw [dc_bind, dc_u2 h1 h2]
  rfl
theorem dc_181 {code : ByteArray} {pc x y : Nat} (h : dc_at code pc 181) (h1 : dc_at code (pc + 1) x) (h2 : dc_at code (pc + 2) y) : decode code pc = .ok (.putfield (x * 256 + y), 3) := by
  apply dc_of
  unfold Jvm.ClassFile.Decoder.instr
  rw [dc_bind, dc_u1 h]
  show Jvm.ClassFile.Reader.runAt (Jvm.ClassFile.Reader.u2 >>= _) code (pc + 1) = _
  rw [dc_bind, dc_u2 h1 h2]
  rfl
theorem dc_182 {code : ByteArray} {pc x y : Nat} (h : dc_at code pc 182) (h1 : dc_at code (pc + 1) x) (h2 : dc_at code (pc + 2) y) : decode code pc = .ok (.invokevirtual (x * 256 + y), 3) := by
  apply dc_of
  unfold Jvm.ClassFile.Decoder.instr
  rw [dc_bind, dc_u1 h]
  show Jvm.ClassFile.Reader.runAt (Jvm.ClassFile.Reader.u2 >>= _) code (pc + 1) = _
  rw [dc_bind, dc_u2 h1 h2]
  rfl
theorem dc_184 {code : ByteArray} {pc x y : Nat} (h : dc_at code pc 184) (h1 : dc_at code (pc + 1) x) (h2 : dc_at code (pc + 2) y) : decode code pc = .ok (.invokestatic (x * 256 + y), 3) := by
  apply dc_of
  unfold Jvm.ClassFile.Decoder.instr
  rw [dc_bind, dc_u1 h]
  show Jvm.ClassFile.Reader.runAt (Jvm.ClassFile.Reader.u2 >>= _) code (pc + 1) = _
  rw [dc_bind, dc_u2 h1 h2]
  rfl
theorem dc_17 {code : ByteArray} {pc x y : Nat} (h : dc_at code pc 17) (h1 : dc_at code (pc + 1) x) (h2 : dc_at code (pc + 2) y) : decode code pc = .ok (.sipush (Jvm.ClassFile.Reader.signed 16 (x * 256 + y)), 3) := by
  apply dc_of
  unfold Jvm.ClassFile.Decoder.instr
  rw [dc_bind, dc_u1 h]
  show Jvm.ClassFile.Reader.runAt (Jvm.ClassFile.Reader.s2 >>= _) code (pc + 1) = _
  rw [dc_bind, dc_s2 h1 h2]
  rfl
theorem dc_153 {code : ByteArray} {pc x y : Nat} (h : dc_at code pc 153) (h1 : dc_at code (pc + 1) x) (h2 : dc_at code (pc + 2) y) : decode code pc = .ok (.ifCond .eq (Jvm.ClassFile.Reader.signed 16 (x * 256 + y)), 3) := by
  apply dc_of
  unfold Jvm.ClassFile.Decoder.instr
  rw [dc_bind, dc_u1 h]
  show Jvm.ClassFile.Reader.runAt (Jvm.ClassFile.Reader.s2 >>= _) code (pc + 1) = _
  rw [dc_bind, dc_s2 h1 h2]
  rfl
theorem dc_154 {code : ByteArray} {pc x y : Nat} (h : dc_at code pc 154) (h1 : dc_at code (pc + 1) x) (h2 : dc_at code (pc + 2) y) : decode code pc = .ok (.ifCond .ne (Jvm.ClassFile.Reader.signed 16 (x * 256 + y)), 3) := by
  apply dc_of
  unfold Jvm.ClassFile.Decoder.instr
  rw [dc_bind, dc_u1 h]
  show Jvm.ClassFile.Reader.runAt (Jvm.ClassFile.Reader.s2 >>= _) code (pc + 1) = _
  rw [dc_bind, dc_s2 h1 h2]
  rfl
theorem dc_155 {code : ByteArray} {pc x y : Nat} (h : dc_at code pc 155) (h1 : dc_at code (pc + 1) x) (h2 : dc_at code (pc + 2) y) : decode code pc = .ok (.ifCond .lt (Jvm.ClassFile.Reader.signed 16 (x * 256 + y)), 3) := by
  apply dc_of
  unfold Jvm.ClassFile.Decoder.instr
  rw [dc_bind, dc_u1 h]
  show Jvm.ClassFile.Reader.runAt (Jvm.ClassFile.Reader.s2 >>= _) code (pc + 1) = _
  rw [dc_bind, dc_s2 h1 h2]
  rfl
theorem dc_156 {code : ByteArray} {pc x y : Nat} (h : dc_at code pc 156) (h1 : dc_at code (pc + 1) x) (h2 : dc_at code (pc + 2) y) : decode code pc = .ok (.ifCond .ge (Jvm.ClassFile.Reader.signed 16 (x * 256 + y)), 3) := by
  apply dc_of
  unfold Jvm.ClassFile.Decoder.instr
  rw [dc_bind, dc_u1 h]
  show Jvm.ClassFile.Reader.runAt (Jvm.ClassFile.Reader.s2 >>= _) code (pc + 1) = _
  rw [dc_bind, dc_s2 h1 h2]
  rfl
theorem dc_157 {code : ByteArray} {pc x y : Nat} (h : dc_at code pc 157) (h1 : dc_at code (pc + 1) x) (h2 : dc_at code (pc + 2) y) : decode code pc = .ok (.ifCond .gt (Jvm.ClassFile.Reader.signed 16 (x * 256 + y)), 3) := by
  apply dc_of
  unfold Jvm.ClassFile.Decoder.instr
  rw [dc_bind, dc_u1 h]
  show Jvm.ClassFile.Reader.runAt (Jvm.ClassFile.Reader.s2 >>= _) code (pc + 1) = _
  rw [dc_bind, dc_s2 h1 h2]
  rfl
theorem dc_158 {code : ByteArray} {pc x y : Nat} (h : dc_at code pc 158) (h1 : dc_at code (pc + 1) x) (h2 : dc_at code (pc + 2) y) : decode code pc = .ok (.ifCond .le (Jvm.ClassFile.Reader.signed 16 (x * 256 + y)), 3) := by
  apply dc_of
  unfold Jvm.ClassFile.Decoder.instr
  rw [dc_bind, dc_u1 h]
  show Jvm.ClassFile.Reader.runAt (Jvm.ClassFile.Reader.s2 >>= _) code (pc + 1) = _
  rw [dc_bind, dc_s2 h1 h2]
  rfl
theorem dc_159 {code : ByteArray} {pc x y : Nat} (h : dc_at code pc 159) (h1 : dc_at code (pc + 1) x) (h2 : dc_at code (pc + 2) y) : decode code pc = .ok (.if_icmp .eq (Jvm.ClassFile.Reader.signed 16 (x * 256 + y)), 3) := by
  apply dc_of
  unfold Jvm.ClassFile.Decoder.instr
  rw [dc_bind, dc_u1 h]
  show Jvm.ClassFile.Reader.runAt (Jvm.ClassFile.Reader.s2 >>= _) code (pc + 1) = _
  rw [dc_bind, dc_s2 h1 h2]
  rfl
theorem dc_160 {code : ByteArray} {pc x y : Nat} (h : dc_at code pc 160) (h1 : dc_at code (pc + 1) x) (h2 : dc_at code (pc + 2) y) : decode code pc = .ok (.if_icmp .ne (Jvm.ClassFile.Reader.signed 16 (x * 256 + y)), 3) := by
  apply dc_of
  unfold Jvm.ClassFile.Decoder.instr
  rw [dc_bind, dc_u1 h]
  show Jvm.ClassFile.Reader.runAt (Jvm.ClassFile.Reader.s2 >>= _) code (pc + 1) = _
  rw [dc_bind, dc_s2 h1 h2]
  rfl
theorem dc_161 {code : ByteArray} {pc x y : Nat} (h : dc_at code pc 161) (h1 : dc_at code (pc + 1) x) (h2 : dc_at code (pc + 2) y) : decode code pc = .ok (.if_icmp .lt (Jvm.ClassFile.Reader.signed 16 (x * 256 + y)), 3) := by
  apply dc_of
  unfold Jvm.ClassFile.Decoder.instr
  rw [dc_bind, dc_u1 h]
  show Jvm.ClassFile.Reader.runAt (Jvm.ClassFile.Reader.s2 >>= _) code (pc + 1) = _
  rw [dc_bind, dc_s2 h1 h2]
  rfl
theorem dc_162 {code : ByteArray} {pc x y : Nat} (h : dc_at code pc 162) (h1 : dc_at code (pc + 1) x) (h2 : dc_at code (pc + 2) y) : decode code pc = .ok (.if_icmp .ge (Jvm.ClassFile.Reader.signed 16 (x * 256 + y)), 3) := by
  apply dc_of
  unfold Jvm.ClassFile.Decoder.instr
  rw [dc_bind, dc_u1 h]
  show Jvm.ClassFile.Reader.runAt (Jvm.ClassFile.Reader.s2 >>= _) code (pc + 1) = _
  rw [dc_bind, dc_s2 h1 h2]
  rfl
theorem dc_163 {code : ByteArray} {pc x y : Nat} (h : dc_at code pc 163) (h1 : dc_at code (pc + 1) x) (h2 : dc_at code (pc + 2) y) : decode code pc = .ok (.if_icmp .gt (Jvm.ClassFile.Reader.signed 16 (x * 256 + y)), 3) := by
  apply dc_of
  unfold Jvm.ClassFile.Decoder.instr
  rw [dc_bind, dc_u1 h]
  show Jvm.ClassFile.Reader.runAt (Jvm.ClassFile.Reader.s2 >>= _) code (pc + 1) = _
  rw [dc_bind, dc_s2 h1 h2]
  rfl
theorem dc_164 {code : ByteArray} {pc x y : Nat} (h : dc_at code pc 164) (h1 : dc_at code (pc + 1) x) (h2 : dc_at code (pc + 2) y) : decode code pc = .ok (.if_icmp .le (Jvm.ClassFile.Reader.signed 16 (x * 256 + y)), 3) := by
  apply dc_of
  unfold Jvm.ClassFile.Decoder.instr
  rw [dc_bind, dc_u1 h]
  show Jvm.ClassFile.Reader.runAt (Jvm.ClassFile.Reader.s2 >>= _) code (pc + 1) = _
  rw [dc_bind, dc_s2 h1 h2]
  rfl
theorem dc_167 {code : ByteArray} {pc x y : Nat} (h : dc_at code pc 167) (h1 : dc_at code (pc + 1) x) (h2 : dc_at code (pc + 2) y) : decode code pc = .ok (.goto (Jvm.ClassFile.Reader.signed 16 (x * 256 + y)), 3) := by
  apply dc_of
  unfold Jvm.ClassFile.Decoder.instr
  rw [dc_bind, dc_u1 h]
  show Jvm.ClassFile.Reader.runAt (Jvm.ClassFile.Reader.s2 >>= _) code (pc + 1) = _
  rw [dc_bind, dc_s2 h1 h2]
  rfl
theorem dc_132 {code : ByteArray} {pc x y : Nat} (h : dc_at code pc 132) (h1 : dc_at code (pc + 1) x) (h2 : dc_at code (pc + 2) y) : decode code pc = .ok (.iinc x (Jvm.ClassFile.Reader.signed 8 y), 3) := by
  apply dc_of
  unfold Jvm.ClassFile.Decoder.instr
  rw [dc_bind, dc_u1 h]
  show Jvm.ClassFile.Reader.runAt (Jvm.ClassFile.Reader.u1 >>= _) code (pc + 1) = _
  rw [dc_bind, dc_u1 h1]
  show Jvm.ClassFile.Reader.runAt (Jvm.ClassFile.Reader.s1 >>= _) code (pc + 2) = _
  rw [dc_bind, dc_s1 h2]
  rfl
def rx_fd (bs : List Nat) : Option (Jvm.ClassFile.Instr × Nat) := match bs with
  | [] => none
  | b :: t => match b with
    | 2 => some (.iconst (-1), 1)
    | 3 => some (.iconst 0, 1)
    | 4 => some (.iconst 1, 1)
    | 5 => some (.iconst 2, 1)
    | 6 => some (.iconst 3, 1)
    | 7 => some (.iconst 4, 1)
    | 8 => some (.iconst 5, 1)
    | 16 => (match t with
      | x :: _ => some (.bipush (Jvm.ClassFile.Reader.signed 8 x), 2)
      | _ => none)
    | 17 => (match t with
      | x :: y :: _ => some (.sipush (Jvm.ClassFile.Reader.signed 16 (x * 256 + y)), 3)
      | _ => none)
    | 18 => (match t with
      | x :: _ => some (.ldc x, 2)
      | _ => none)
    | 19 => (match t with
      | x :: y :: _ => some (.ldc_w (x * 256 + y), 3)
      | _ => none)
    | 21 => (match t with
      | x :: _ => some (.iload x, 2)
      | _ => none)
    | 25 => (match t with
      | x :: _ => some (.aload x, 2)
      | _ => none)
    | 26 => some (.iload_n 0, 1)
    | 27 => some (.iload_n 1, 1)
    | 28 => some (.iload_n 2, 1)
    | 29 => some (.iload_n 3, 1)
    | 42 => some (.aload_n 0, 1)
    | 43 => some (.aload_n 1, 1)
    | 44 => some (.aload_n 2, 1)
    | 45 => some (.aload_n 3, 1)
    | 46 => some (.iaload, 1)
    | 50 => some (.aaload, 1)
    | 51 => some (.baload, 1)
    | 52 => some (.caload, 1)
    | 54 => (match t with
      | x :: _ => some (.istore x, 2)
      | _ => none)
    | 58 => (match t with
      | x :: _ => some (.astore x, 2)
      | _ => none)
    | 59 => some (.istore_n 0, 1)
    | 60 => some (.istore_n 1, 1)
    | 61 => some (.istore_n 2, 1)
    | 62 => some (.istore_n 3, 1)
    | 75 => some (.astore_n 0, 1)
    | 76 => some (.astore_n 1, 1)
    | 77 => some (.astore_n 2, 1)
    | 78 => some (.astore_n 3, 1)
    | 79 => some (.iastore, 1)
    | 84 => some (.bastore, 1)
    | 87 => some (.pop, 1)
    | 89 => some (.dup, 1)
    | 92 => some (.dup2, 1)
    | 96 => some (.iadd, 1)
    | 100 => some (.isub, 1)
    | 104 => some (.imul, 1)
    | 108 => some (.idiv, 1)
    | 112 => some (.irem, 1)
    | 116 => some (.ineg, 1)
    | 120 => some (.ishl, 1)
    | 122 => some (.ishr, 1)
    | 124 => some (.iushr, 1)
    | 126 => some (.iand, 1)
    | 128 => some (.ior, 1)
    | 130 => some (.ixor, 1)
    | 132 => (match t with
      | x :: y :: _ => some (.iinc x (Jvm.ClassFile.Reader.signed 8 y), 3)
      | _ => none)
    | 147 => some (.i2s, 1)
    | 153 => (match t with
      | x :: y :: _ => some (.ifCond .eq (Jvm.ClassFile.Reader.signed 16 (x * 256 + y)), 3)
      | _ => none)
    | 154 => (match t with
      | x :: y :: _ => some (.ifCond .ne (Jvm.ClassFile.Reader.signed 16 (x * 256 + y)), 3)
      | _ => none)
    | 155 => (match t with
      | x :: y :: _ => some (.ifCond .lt (Jvm.ClassFile.Reader.signed 16 (x * 256 + y)), 3)
      | _ => none)
    | 156 => (match t with
      | x :: y :: _ => some (.ifCond .ge (Jvm.ClassFile.Reader.signed 16 (x * 256 + y)), 3)
      | _ => none)
    | 157 => (match t with
      | x :: y :: _ => some (.ifCond .gt (Jvm.ClassFile.Reader.signed 16 (x * 256 + y)), 3)
      | _ => none)
    | 158 => (match t with
      | x :: y :: _ => some (.ifCond .le (Jvm.ClassFile.Reader.signed 16 (x * 256 + y)), 3)
      | _ => none)
    | 159 => (match t with
      | x :: y :: _ => some (.if_icmp .eq (Jvm.ClassFile.Reader.signed 16 (x * 256 + y)), 3)
      | _ => none)
    | 160 => (match t with
      | x :: y :: _ => some (.if_icmp .ne (Jvm.ClassFile.Reader.signed 16 (x * 256 + y)), 3)
      | _ => none)
    | 161 => (match t with
      | x :: y :: _ => some (.if_icmp .lt (Jvm.ClassFile.Reader.signed 16 (x * 256 + y)), 3)
      | _ => none)
    | 162 => (match t with
      | x :: y :: _ => some (.if_icmp .ge (Jvm.ClassFile.Reader.signed 16 (x * 256 + y)), 3)
      | _ => none)
    | 163 => (match t with
      | x :: y :: _ => some (.if_icmp .gt (Jvm.ClassFile.Reader.signed 16 (x * 256 + y)), 3)
      | _ => none)
    | 164 => (match t with
      | x :: y :: _ => some (.if_icmp .le (Jvm.ClassFile.Reader.signed 16 (x * 256 + y)), 3)
      | _ => none)
    | 167 => (match t with
      | x :: y :: _ => some (.goto (Jvm.ClassFile.Reader.signed 16 (x * 256 + y)), 3)
      | _ => none)
    | 172 => some (.ireturn, 1)
    | 177 => some (.return_, 1)
    | 178 => (match t with
      | x :: y :: _ => some (.getstatic (x * 256 + y), 3)
      | _ => none)
    | 180 => (match t with
      | x :: y :: _ => some (.getfield (x * 256 + y), 3)
      | _ => none)
    | 181 => (match t with
      | x :: y :: _ => some (.putfield (x * 256 + y), 3)
      | _ => none)
    | 182 => (match t with
      | x :: y :: _ => some (.invokevirtual (x * 256 + y), 3)
      | _ => none)
    | 184 => (match t with
      | x :: y :: _ => some (.invokestatic (x * 256 + y), 3)
      | _ => none)
    | 190 => some (.arraylength, 1)
    | _ => none
def rx_bs (code : ByteArray) : List Nat := code.data.toList.map (fun b => b.toNat)
theorem dc_bs {code : ByteArray} {p b : Nat} (h : (rx_bs code)[p]? = some b) : dc_at code p b := by
  unfold rx_bs at h
  rw [List.getElem?_map] at h
  cases hc : code.data.toList[p]? with
  | none => rw [hc] at h; cases h
  | some x =>
    rw [hc] at h
    cases h
    obtain ⟨h1, h2⟩ := List.getElem?_eq_some_iff.mp hc
    have h3 : p < code.size := h1
    refine ⟨h3, ?_⟩
    show (code.data[p]'_).toNat = _
    rw [← h2]
    rfl
theorem dc_dr {l : List Nat} {p b : Nat} {t : List Nat} (h : l.drop p = b :: t) : l[p]? = some b ∧ l.drop (p + 1) = t := by
  refine ⟨?_, ?_⟩
  · have h1 : (l.drop p)[0]? = some b := by rw [h]; rfl
    rw [List.getElem?_drop] at h1
    exact h1
  · rw [← List.drop_drop, h]
    rfl
set_option maxHeartbeats 4000000 in
theorem rx_fd_ok {code : ByteArray} {pc : Nat} {r : Jvm.ClassFile.Instr × Nat} (h : rx_fd ((rx_bs code).drop pc) = some r) : decode code pc = .ok r := by
  cases h0 : (rx_bs code).drop pc with
  | nil => rw [h0] at h; cases h
  | cons b t =>
    rw [h0] at h
    obtain ⟨b0, d1⟩ := dc_dr h0
    have a0 := dc_bs b0
    unfold rx_fd at h
    dsimp only at h
    split at h
    · cases h
      exact dc_2 a0
    · cases h
      exact dc_3 a0
    · cases h
      exact dc_4 a0
    · cases h
      exact dc_5 a0
    · cases h
      exact dc_6 a0
    · cases h
      exact dc_7 a0
    · cases h
      exact dc_8 a0
    · split at h
      · next x t1 =>
        cases h
        exact dc_16 a0 (dc_bs (dc_dr d1).1)
      · cases h
    · split at h
      · next x y t1 =>
        cases h
        exact dc_17 a0 (dc_bs (dc_dr d1).1) (dc_bs (dc_dr (dc_dr d1).2).1)
      · cases h
    · split at h
      · next x t1 =>
        cases h
        exact dc_18 a0 (dc_bs (dc_dr d1).1)
      · cases h
    · split at h
      · next x y t1 =>
        cases h
        exact dc_19 a0 (dc_bs (dc_dr d1).1) (dc_bs (dc_dr (dc_dr d1).2).1)
      · cases h
    · split at h
      · next x t1 =>
        cases h
        exact dc_21 a0 (dc_bs (dc_dr d1).1)
      · cases h
    · split at h
      · next x t1 =>
        cases h
        exact dc_25 a0 (dc_bs (dc_dr d1).1)
      · cases h
    · cases h
      exact dc_26 a0
    · cases h
      exact dc_27 a0
    · cases h
      exact dc_28 a0
    · cases h
      exact dc_29 a0
    · cases h
      exact dc_42 a0
    · cases h
      exact dc_43 a0
    · cases h
      exact dc_44 a0
    · cases h
      exact dc_45 a0
    · cases h
      exact dc_46 a0
    · cases h
      exact dc_50 a0
    · cases h
      exact dc_51 a0
    · cases h
      exact dc_52 a0
    · split at h
      · next x t1 =>
        cases h
        exact dc_54 a0 (dc_bs (dc_dr d1).1)
      · cases h
    · split at h
      · next x t1 =>
        cases h
        exact dc_58 a0 (dc_bs (dc_dr d1).1)
      · cases h
    · cases h
      exact dc_59 a0
    · cases h
      exact dc_60 a0
    · cases h
      exact dc_61 a0
    · cases h
      exact dc_62 a0
    · cases h
      exact dc_75 a0
    · cases h
      exact dc_76 a0
    · cases h
      exact dc_77 a0
    · cases h
      exact dc_78 a0
    · cases h
      exact dc_79 a0
    · cases h
      exact dc_84 a0
    · cases h
      exact dc_87 a0
    · cases h
      exact dc_89 a0
    · cases h
      exact dc_92 a0
    · cases h
      exact dc_96 a0
    · cases h
      exact dc_100 a0
    · cases h
      exact dc_104 a0
    · cases h
      exact dc_108 a0
    · cases h
      exact dc_112 a0
    · cases h
      exact dc_116 a0
    · cases h
      exact dc_120 a0
    · cases h
      exact dc_122 a0
    · cases h
      exact dc_124 a0
    · cases h
      exact dc_126 a0
    · cases h
      exact dc_128 a0
    · cases h
      exact dc_130 a0
    · split at h
      · next x y t1 =>
        cases h
        exact dc_132 a0 (dc_bs (dc_dr d1).1) (dc_bs (dc_dr (dc_dr d1).2).1)
      · cases h
    · cases h
      exact dc_147 a0
    · split at h
      · next x y t1 =>
        cases h
        exact dc_153 a0 (dc_bs (dc_dr d1).1) (dc_bs (dc_dr (dc_dr d1).2).1)
      · cases h
    · split at h
      · next x y t1 =>
        cases h
        exact dc_154 a0 (dc_bs (dc_dr d1).1) (dc_bs (dc_dr (dc_dr d1).2).1)
      · cases h
    · split at h
      · next x y t1 =>
        cases h
        exact dc_155 a0 (dc_bs (dc_dr d1).1) (dc_bs (dc_dr (dc_dr d1).2).1)
      · cases h
    · split at h
      · next x y t1 =>
        cases h
        exact dc_156 a0 (dc_bs (dc_dr d1).1) (dc_bs (dc_dr (dc_dr d1).2).1)
      · cases h
    · split at h
      · next x y t1 =>
        cases h
        exact dc_157 a0 (dc_bs (dc_dr d1).1) (dc_bs (dc_dr (dc_dr d1).2).1)
      · cases h
    · split at h
      · next x y t1 =>
        cases h
        exact dc_158 a0 (dc_bs (dc_dr d1).1) (dc_bs (dc_dr (dc_dr d1).2).1)
      · cases h
    · split at h
      · next x y t1 =>
        cases h
        exact dc_159 a0 (dc_bs (dc_dr d1).1) (dc_bs (dc_dr (dc_dr d1).2).1)
      · cases h
    · split at h
      · next x y t1 =>
        cases h
        exact dc_160 a0 (dc_bs (dc_dr d1).1) (dc_bs (dc_dr (dc_dr d1).2).1)
      · cases h
    · split at h
      · next x y t1 =>
        cases h
        exact dc_161 a0 (dc_bs (dc_dr d1).1) (dc_bs (dc_dr (dc_dr d1).2).1)
      · cases h
    · split at h
      · next x y t1 =>
        cases h
        exact dc_162 a0 (dc_bs (dc_dr d1).1) (dc_bs (dc_dr (dc_dr d1).2).1)
      · cases h
    · split at h
      · next x y t1 =>
        cases h
        exact dc_163 a0 (dc_bs (dc_dr d1).1) (dc_bs (dc_dr (dc_dr d1).2).1)
      · cases h
    · split at h
      · next x y t1 =>
        cases h
        exact dc_164 a0 (dc_bs (dc_dr d1).1) (dc_bs (dc_dr (dc_dr d1).2).1)
      · cases h
    · split at h
      · next x y t1 =>
        cases h
        exact dc_167 a0 (dc_bs (dc_dr d1).1) (dc_bs (dc_dr (dc_dr d1).2).1)
      · cases h
    · cases h
      exact dc_172 a0
    · cases h
      exact dc_177 a0
    · split at h
      · next x y t1 =>
        cases h
        exact dc_178 a0 (dc_bs (dc_dr d1).1) (dc_bs (dc_dr (dc_dr d1).2).1)
      · cases h
    · split at h
      · next x y t1 =>
        cases h
        exact dc_180 a0 (dc_bs (dc_dr d1).1) (dc_bs (dc_dr (dc_dr d1).2).1)
      · cases h
    · split at h
      · next x y t1 =>
        cases h
        exact dc_181 a0 (dc_bs (dc_dr d1).1) (dc_bs (dc_dr (dc_dr d1).2).1)
      · cases h
    · split at h
      · next x y t1 =>
        cases h
        exact dc_182 a0 (dc_bs (dc_dr d1).1) (dc_bs (dc_dr (dc_dr d1).2).1)
      · cases h
    · split at h
      · next x y t1 =>
        cases h
        exact dc_184 a0 (dc_bs (dc_dr d1).1) (dc_bs (dc_dr (dc_dr d1).2).1)
      · cases h
    · cases h
      exact dc_190 a0
    · cases h
noncomputable def rx_dd (code : ByteArray) (pc : Nat) : Except Jvm.ClassFile.DecodeError (Jvm.ClassFile.Instr × Nat) := match rx_fd ((rx_bs code).drop pc) with
  | some r => .ok r
  | none => decode code pc
theorem rx_dd_eq (code : ByteArray) (pc : Nat) : rx_dd code pc = decode code pc := by
  unfold rx_dd
  split
  · next r h => exact (rx_fd_ok h).symm
  · rfl

noncomputable def rx_okCD (D : Nat → Except Jvm.ClassFile.DecodeError (Jvm.ClassFile.Instr × Nat)) (M : rx_M) (pc : Nat) (i : rx_I) : Bool := match i with
  | (_, nx, a, b, c, sw) => decide (nx = pc + 3) && decide (b < 247) && decide (b ≠ 0) &&
    (if a = 0 then decide (D pc = .ok (.invokestatic (rx_hd sw 0).1.toNat, 3)) && rx_ml (rx_hd sw 0).2 M.2.2.2.2 (rx_hd sw 0).1.toNat b 0 && decide (rx_np[b]? = some (c, true))
     else if a = 1 then decide (D pc = .ok (.invokestatic (rx_hd sw 0).1.toNat, 3)) && rx_ml (rx_hd sw 0).2 M.2.2.2.2 (rx_hd sw 0).1.toNat b 1 && decide (rx_np[b]? = some (c, true))
     else decide (D pc = .ok (.invokevirtual (rx_hd sw 0).1.toNat, 3)) && rx_ml (rx_hd sw 0).2 M.2.2.2.2 (rx_hd sw 0).1.toNat b 2 && decide (rx_np[b]? = some (c, false)) && decide (a = 2 + (rx_mi b).2.2.2.2))
noncomputable def rx_okD (D : Nat → Except Jvm.ClassFile.DecodeError (Jvm.ClassFile.Instr × Nat)) (M : rx_M) (pc : Nat) (i : rx_I) : Bool := match i with
  | (op, nx, a, b, c, sw) => match op with
    | 1 => rx_inR a && (match b with
      | 0 => decide (D pc = .ok (.iconst a, 1)) && decide (nx = pc + 1)
      | 1 => decide (D pc = .ok (.bipush a, 2)) && decide (nx = pc + 2) && decide ((Int8.ofInt a).toInt32 = Int32.ofInt a)
      | 2 => decide (D pc = .ok (.sipush a, 3)) && decide (nx = pc + 3) && decide ((Int16.ofInt a).toInt32 = Int32.ofInt a)
      | 3 => decide (D pc = .ok (.ldc (rx_hd sw 0).1.toNat, 2)) && decide (nx = pc + 2) && rx_kl c M.2.2.2.2 (rx_hd sw 0).1.toNat a
      | _ => decide (D pc = .ok (.ldc_w (rx_hd sw 0).1.toNat, 3)) && decide (nx = pc + 3) && rx_kl c M.2.2.2.2 (rx_hd sw 0).1.toNat a)
    | 2 => if a = 0 then decide (D pc = .ok (.iload_n (Fin.ofNat 4 b), 1)) && decide (nx = pc + 1) && decide (b < 4) else decide (D pc = .ok (.iload b, 2)) && decide (nx = pc + 2)
    | 3 => if a = 0 then decide (D pc = .ok (.aload_n (Fin.ofNat 4 b), 1)) && decide (nx = pc + 1) && decide (b < 4) else decide (D pc = .ok (.aload b, 2)) && decide (nx = pc + 2)
    | 4 => if a = 0 then decide (D pc = .ok (.istore_n (Fin.ofNat 4 b), 1)) && decide (nx = pc + 1) && decide (b < 4) else decide (D pc = .ok (.istore b, 2)) && decide (nx = pc + 2)
    | 5 => if a = 0 then decide (D pc = .ok (.astore_n (Fin.ofNat 4 b), 1)) && decide (nx = pc + 1) && decide (b < 4) else decide (D pc = .ok (.astore b, 2)) && decide (nx = pc + 2)
    | 6 => decide (D pc = .ok (.iinc b a, 3)) && decide (nx = pc + 3)
    | 7 => decide (D pc = .ok (rx_alI b, 1)) && decide (nx = pc + 1) && decide (b ≤ 8)
    | 8 => (if b = 0 then decide (D pc = .ok (.idiv, 1)) else decide (D pc = .ok (.irem, 1))) && decide (nx = pc + 1)
    | 9 => (if b = 0 then decide (D pc = .ok (.ineg, 1)) else decide (D pc = .ok (.i2s, 1))) && decide (nx = pc + 1)
    | 10 => decide (D pc = .ok (.dup, 1)) && decide (nx = pc + 1)
    | 11 => decide (D pc = .ok (.dup2, 1)) && decide (nx = pc + 1)
    | 12 => decide (D pc = .ok (.pop, 1)) && decide (nx = pc + 1)
    | 13 => decide (D pc = .ok (.ifCond (rx_cc b) a, 3)) && decide (nx = pc + 3) && decide ((pc : Int) + a = c) && decide (b ≤ 5)
    | 14 => decide (D pc = .ok (.if_icmp (rx_cc b) a, 3)) && decide (nx = pc + 3) && decide ((pc : Int) + a = c) && decide (b ≤ 5)
    | 15 => decide (D pc = .ok (.goto a, 3)) && decide ((pc : Int) + a = c)
    | 16 => (match D pc with
      | .ok (.tableswitch df lo hi offs, _) => decide ((pc : Int) + df = c) && decide (offs.toList.map (fun o => (pc : Int) + o) = sw.map (fun q => (q.2 : Int))) && decide (sw.map (fun q => q.1) = (List.range sw.length).map (fun (j : Nat) => lo + (j : Int))) && decide (lo + (sw.length : Int) = hi + 1)
      | .ok (.lookupswitch df ps, _) => decide ((pc : Int) + df = c) && decide (ps.toList.map (fun q => (q.1, (pc : Int) + q.2)) = sw.map (fun q => (q.1, (q.2 : Int)))) && (ps.toList.zip (ps.toList.drop 1)).all (fun (a, next) => a.1 < next.1)
      | _ => false)
    | 17 => decide (D pc = .ok (.getfield (rx_hd sw 0).1.toNat, 3)) && decide (nx = pc + 3) && decide (b < vwCl.length) && decide (c < (rx_cl b).2.2) && rx_fl (rx_hd sw 0).2 M.2.2.2.2 (rx_hd sw 0).1.toNat b c
    | 18 => decide (D pc = .ok (.getfield (rx_hd sw 0).1.toNat, 3)) && decide (nx = pc + 3) && decide (b < vwCl.length) && decide (c < (rx_cl b).2.2) && rx_fl (rx_hd sw 0).2 M.2.2.2.2 (rx_hd sw 0).1.toNat b c
    | 19 => decide (D pc = .ok (.putfield (rx_hd sw 0).1.toNat, 3)) && decide (nx = pc + 3) && decide (b < vwCl.length) && decide (c < (rx_cl b).2.2) && rx_fl (rx_hd sw 0).2 M.2.2.2.2 (rx_hd sw 0).1.toNat b c && (if a = 0 then decide ((b, c) ∈ rx_wI) else decide ((b, c) ∈ rx_wZ))
    | 20 => (match b with
      | 0 => decide (D pc = .ok (.iaload, 1))
      | 1 => decide (D pc = .ok (.baload, 1))
      | 2 => decide (D pc = .ok (.caload, 1))
      | _ => false) && decide (nx = pc + 1)
    | 21 => (match b with
      | 0 => decide (D pc = .ok (.iastore, 1))
      | 1 => decide (D pc = .ok (.bastore, 1))
      | 2 => decide (D pc = .ok (.castore, 1))
      | _ => false) && decide (nx = pc + 1)
    | 22 => decide (D pc = .ok (.aaload, 1)) && decide (nx = pc + 1)
    | 23 => decide (D pc = .ok (.arraylength, 1)) && decide (nx = pc + 1)
    | 24 => if a = 0 then decide (D pc = .ok (.getstatic (rx_hd sw 0).1.toNat, 3)) && decide (nx = pc + 3) && decide (b = 160) && decide (M.2.2.2.2 = 10) && decide ((rx_hd sw 0).1.toNat = 385)
      else decide (D pc = .ok (.ldc (rx_hd sw 0).1.toNat, 2)) && decide (nx = pc + 2) && decide (M.2.2.2.2 = 5) && decide ((b, (rx_hd sw 0).1.toNat) ∈ [(161, 73), (162, 79), (163, 81)])
    | 25 => decide (D pc = .ok (.invokestatic (rx_hd sw 0).1.toNat, 3)) && decide (nx = pc + 3) && decide (rx_AL[(rx_hd sw 0).2]? = some (M.2.2.2.2, (rx_hd sw 0).1.toNat))
    | 26 => decide (D pc = .ok (.invokevirtual (rx_hd sw 0).1.toNat, 3)) && decide (nx = pc + 3) && decide (M.2.2.2.2 = 5) && decide ((rx_hd sw 0).1.toNat = 65)
    | 27 => decide (D pc = .ok (.invokevirtual (rx_hd sw 0).1.toNat, 3)) && decide (nx = pc + 3) && decide (M.2.2.2.2 = 5) && decide ((rx_hd sw 0).1.toNat = 69)
    | 28 => rx_okCD D M pc i
    | 29 => decide (D pc = .ok (.ireturn, 1)) && (if a = 0 then decide (M.2.2.2.1 = some .int) else decide (M.2.2.2.1 = some .boolean))
    | 31 => decide (D pc = .ok (.invokestatic (rx_hd sw 0).1.toNat, 3)) && decide (nx = pc + 3) && decide (rx_HL[(rx_hd sw 0).2]? = some (M.2.2.2.2, (rx_hd sw 0).1.toNat, b)) && decide (b ≤ 1)
    | 32 => decide (D pc = .ok (.invokestatic (rx_hd sw 0).1.toNat, 3)) && decide (nx = pc + 3) && decide (rx_HL[(rx_hd sw 0).2]? = some (M.2.2.2.2, (rx_hd sw 0).1.toNat, 2))
    | 30 => decide (D pc = .ok (.return_, 1)) && decide (M.2.2.2.1 = none)
    | _ => false

theorem rx_okD_eq (M : rx_M) (pc : Nat) (i : rx_I) : rx_okD (rx_dd M.2.1) M pc i = rx_ok M pc i := by
  rw [show rx_dd M.2.1 = decode M.2.1 from funext (rx_dd_eq M.2.1)]
  rfl
noncomputable def rx_okmD (m : Nat) : Bool := (rx_tab.getD m []).all (fun q => rx_okD (rx_dd (rx_mi m).2.1) (rx_mi m) q.1 q.2)
theorem rx_okmD_eq (m : Nat) : rx_okmD m = rx_okm m := by
  unfold rx_okmD rx_okm
  congr 1
  funext q
  exact rx_okD_eq _ _ _
