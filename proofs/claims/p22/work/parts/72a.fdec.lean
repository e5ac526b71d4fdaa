/-! An instruction by its bytes, quick to check. -/
noncomputable def fe_ci : Jvm.ClassFile.Cond → Nat
  | .eq => 0
  | .ne => 1
  | .lt => 2
  | .ge => 3
  | .gt => 4
  | .le => 5
noncomputable def fe_at : Jvm.ClassFile.ArrayType → Nat
  | .boolean => 4
  | .char => 5
  | .float => 6
  | .double => 7
  | .byte => 8
  | .short => 9
  | .int => 10
  | .long => 11
/-- how long, if these are its bytes; 0: not told here -/
noncomputable def fe (i : Instr) (a b d : Nat) : Nat := match i with
  | .iadd => bif Nat.beq a 96 then 1 else 0
  | .ireturn => bif Nat.beq a 172 then 1 else 0
  | .iaload => bif Nat.beq a 46 then 1 else 0
  | .pop => bif Nat.beq a 87 then 1 else 0
  | .imul => bif Nat.beq a 104 then 1 else 0
  | .iastore => bif Nat.beq a 79 then 1 else 0
  | .return_ => bif Nat.beq a 177 then 1 else 0
  | .dup => bif Nat.beq a 89 then 1 else 0
  | .i2l => bif Nat.beq a 133 then 1 else 0
  | .isub => bif Nat.beq a 100 then 1 else 0
  | .lreturn => bif Nat.beq a 173 then 1 else 0
  | .iand => bif Nat.beq a 126 then 1 else 0
  | .baload => bif Nat.beq a 51 then 1 else 0
  | .lcmp => bif Nat.beq a 148 then 1 else 0
  | .ishl => bif Nat.beq a 120 then 1 else 0
  | .ishr => bif Nat.beq a 122 then 1 else 0
  | .arraylength => bif Nat.beq a 190 then 1 else 0
  | .lastore => bif Nat.beq a 80 then 1 else 0
  | .laload => bif Nat.beq a 47 then 1 else 0
  | .ior => bif Nat.beq a 128 then 1 else 0
  | .land => bif Nat.beq a 127 then 1 else 0
  | .iushr => bif Nat.beq a 124 then 1 else 0
  | .idiv => bif Nat.beq a 108 then 1 else 0
  | .dup2 => bif Nat.beq a 92 then 1 else 0
  | .bastore => bif Nat.beq a 84 then 1 else 0
  | .aaload => bif Nat.beq a 50 then 1 else 0
  | .lsub => bif Nat.beq a 101 then 1 else 0
  | .lor => bif Nat.beq a 129 then 1 else 0
  | .lmul => bif Nat.beq a 105 then 1 else 0
  | .irem => bif Nat.beq a 112 then 1 else 0
  | .lshl => bif Nat.beq a 121 then 1 else 0
  | .ladd => bif Nat.beq a 97 then 1 else 0
  | .pop2 => bif Nat.beq a 88 then 1 else 0
  | .areturn => bif Nat.beq a 176 then 1 else 0
  | .lrem => bif Nat.beq a 113 then 1 else 0
  | .ldiv => bif Nat.beq a 109 then 1 else 0
  | .ixor => bif Nat.beq a 130 then 1 else 0
  | .aconst_null => bif Nat.beq a 1 then 1 else 0
  | .l2i => bif Nat.beq a 136 then 1 else 0
  | .i2b => bif Nat.beq a 145 then 1 else 0
  | .aastore => bif Nat.beq a 83 then 1 else 0
  | .aload_n k => bif Nat.beq a (42 + k.val) then 1 else 0
  | .iload_n k => bif Nat.beq a (26 + k.val) then 1 else 0
  | .lload_n k => bif Nat.beq a (30 + k.val) then 1 else 0
  | .istore_n k => bif Nat.beq a (59 + k.val) then 1 else 0
  | .lstore_n k => bif Nat.beq a (63 + k.val) then 1 else 0
  | .astore_n k => bif Nat.beq a (75 + k.val) then 1 else 0
  | .lconst k => bif Nat.beq a (9 + k.val) then 1 else 0
  | .iconst k => bif Nat.blt 1 a && (Nat.blt a 9 && decide (k = (a : Int) - 3)) then 1 else 0
  | .iload k => bif Nat.beq a 21 && (Nat.blt b 256 && Nat.beq k b) then 2 else 0
  | .istore k => bif Nat.beq a 54 && (Nat.blt b 256 && Nat.beq k b) then 2 else 0
  | .aload k => bif Nat.beq a 25 && (Nat.blt b 256 && Nat.beq k b) then 2 else 0
  | .lload k => bif Nat.beq a 22 && (Nat.blt b 256 && Nat.beq k b) then 2 else 0
  | .astore k => bif Nat.beq a 58 && (Nat.blt b 256 && Nat.beq k b) then 2 else 0
  | .lstore k => bif Nat.beq a 55 && (Nat.blt b 256 && Nat.beq k b) then 2 else 0
  | .ldc k => bif Nat.beq a 18 && (Nat.blt b 256 && Nat.beq k b) then 2 else 0
  | .bipush k => bif Nat.beq a 16 && (Nat.blt b 256 && decide (Jvm.ClassFile.Reader.signed 8 b = k)) then 2 else 0
  | .sipush k => bif Nat.beq a 17 && (Nat.blt b 256 && (Nat.blt d 256 && decide (Jvm.ClassFile.Reader.signed 16 (b * 256 + d) = k))) then 3 else 0
  | .goto k => bif Nat.beq a 167 && (Nat.blt b 256 && (Nat.blt d 256 && decide (Jvm.ClassFile.Reader.signed 16 (b * 256 + d) = k))) then 3 else 0
  | .ifnull k => bif Nat.beq a 198 && (Nat.blt b 256 && (Nat.blt d 256 && decide (Jvm.ClassFile.Reader.signed 16 (b * 256 + d) = k))) then 3 else 0
  | .ifnonnull k => bif Nat.beq a 199 && (Nat.blt b 256 && (Nat.blt d 256 && decide (Jvm.ClassFile.Reader.signed 16 (b * 256 + d) = k))) then 3 else 0
  | .getfield k => bif Nat.beq a 180 && (Nat.blt b 256 && (Nat.blt d 256 && Nat.beq (b * 256 + d) k)) then 3 else 0
  | .putfield k => bif Nat.beq a 181 && (Nat.blt b 256 && (Nat.blt d 256 && Nat.beq (b * 256 + d) k)) then 3 else 0
  | .invokevirtual k => bif Nat.beq a 182 && (Nat.blt b 256 && (Nat.blt d 256 && Nat.beq (b * 256 + d) k)) then 3 else 0
  | .invokespecial k => bif Nat.beq a 183 && (Nat.blt b 256 && (Nat.blt d 256 && Nat.beq (b * 256 + d) k)) then 3 else 0
  | .invokestatic k => bif Nat.beq a 184 && (Nat.blt b 256 && (Nat.blt d 256 && Nat.beq (b * 256 + d) k)) then 3 else 0
  | .new k => bif Nat.beq a 187 && (Nat.blt b 256 && (Nat.blt d 256 && Nat.beq (b * 256 + d) k)) then 3 else 0
  | .anewarray k => bif Nat.beq a 189 && (Nat.blt b 256 && (Nat.blt d 256 && Nat.beq (b * 256 + d) k)) then 3 else 0
  | .ldc_w k => bif Nat.beq a 19 && (Nat.blt b 256 && (Nat.blt d 256 && Nat.beq (b * 256 + d) k)) then 3 else 0
  | .ldc2_w k => bif Nat.beq a 20 && (Nat.blt b 256 && (Nat.blt d 256 && Nat.beq (b * 256 + d) k)) then 3 else 0
  | .ifCond q k => bif Nat.beq a (153 + fe_ci q) && (Nat.blt b 256 && (Nat.blt d 256 && decide (Jvm.ClassFile.Reader.signed 16 (b * 256 + d) = k))) then 3 else 0
  | .if_icmp q k => bif Nat.beq a (159 + fe_ci q) && (Nat.blt b 256 && (Nat.blt d 256 && decide (Jvm.ClassFile.Reader.signed 16 (b * 256 + d) = k))) then 3 else 0
  | .iinc m k => bif Nat.beq a 132 && (Nat.blt b 256 && (Nat.blt d 256 && (Nat.beq b m && decide (Jvm.ClassFile.Reader.signed 8 d = k)))) then 3 else 0
  | .newarray t => bif Nat.beq a 188 && (Nat.blt b 256 && Nat.beq b (fe_at t)) then 2 else 0
  | _ => 0
section FE
variable {c : ByteArray} {pc a b d : Nat}
noncomputable def fe_U (c : ByteArray) (q v : Nat) : Prop := (Jvm.ClassFile.Reader.u1 : Jvm.ClassFile.Decoder Nat) c q = .ok (v, q + 1)
theorem fe_bnd {α β : Type} {x : Jvm.ClassFile.Decoder α} {f : α → Jvm.ClassFile.Decoder β} {q q2 : Nat} {v : α} (h : x c q = .ok (v, q2)) : (x >>= f) c q = f v c q2 := by
  show Except.bind (x c q) _ = _
  rw [h]
  rfl
theorem fe_map {α β : Type} {x : Jvm.ClassFile.Decoder α} {g : α → β} {q q2 : Nat} {v : α} (h : x c q = .ok (v, q2)) : (g <$> x) c q = .ok (g v, q2) := by
  show Except.bind (x c q) _ = _
  rw [h]
  rfl
theorem fe_u2 {q : Nat} (h1 : fe_U c q b) (h2 : fe_U c (q + 1) d) : (Jvm.ClassFile.Reader.u2 : Jvm.ClassFile.Decoder Nat) c q = .ok (b * 256 + d, q + 2) := (fe_bnd h1).trans ((fe_bnd h2).trans rfl)
theorem fe_s1 {q : Nat} (h1 : fe_U c q b) : (Jvm.ClassFile.Reader.s1 : Jvm.ClassFile.Decoder Int) c q = .ok (Jvm.ClassFile.Reader.signed 8 b, q + 1) := fe_map h1
theorem fe_s2 {q : Nat} (h1 : fe_U c q b) (h2 : fe_U c (q + 1) d) : (Jvm.ClassFile.Reader.s2 : Jvm.ClassFile.Decoder Int) c q = .ok (Jvm.ClassFile.Reader.signed 16 (b * 256 + d), q + 2) := fe_map (fe_u2 h1 h2)
theorem fe_dec {i : Instr} {n : Nat} (h : (Jvm.ClassFile.Decoder.instr pc) c pc = .ok (i, pc + n)) : decode c pc = .ok (i, n) := by
  unfold decode
  show Except.bind ((Jvm.ClassFile.Decoder.instr pc) c pc) _ = _
  rw [h]
  show Except.ok (i, pc + n - pc) = _
  rw [Nat.add_sub_cancel_left]
set_option maxRecDepth 100000 in
theorem fe_i96 (h0 : fe_U c pc 96) : (Jvm.ClassFile.Decoder.instr pc) c pc = .ok (.iadd, pc + 1) := by
  unfold Jvm.ClassFile.Decoder.instr
  rw [fe_bnd h0]
  rfl
set_option maxRecDepth 100000 in
theorem fe_i172 (h0 : fe_U c pc 172) : (Jvm.ClassFile.Decoder.instr pc) c pc = .ok (.ireturn, pc + 1) := by
  unfold Jvm.ClassFile.Decoder.instr
  rw [fe_bnd h0]
  rfl
set_option maxRecDepth 100000 in
theorem fe_i46 (h0 : fe_U c pc 46) : (Jvm.ClassFile.Decoder.instr pc) c pc = .ok (.iaload, pc + 1) := by
  unfold Jvm.ClassFile.Decoder.instr
  rw [fe_bnd h0]
  rfl
set_option maxRecDepth 100000 in
theorem fe_i87 (h0 : fe_U c pc 87) : (Jvm.ClassFile.Decoder.instr pc) c pc = .ok (.pop, pc + 1) := by
  unfold Jvm.ClassFile.Decoder.instr
  rw [fe_bnd h0]
  rfl
set_option maxRecDepth 100000 in
theorem fe_i104 (h0 : fe_U c pc 104) : (Jvm.ClassFile.Decoder.instr pc) c pc = .ok (.imul, pc + 1) := by
  unfold Jvm.ClassFile.Decoder.instr
  rw [fe_bnd h0]
  rfl
set_option maxRecDepth 100000 in
theorem fe_i79 (h0 : fe_U c pc 79) : (Jvm.ClassFile.Decoder.instr pc) c pc = .ok (.iastore, pc + 1) := by
  unfold Jvm.ClassFile.Decoder.instr
  rw [fe_bnd h0]
  rfl
set_option maxRecDepth 100000 in
theorem fe_i177 (h0 : fe_U c pc 177) : (Jvm.ClassFile.Decoder.instr pc) c pc = .ok (.return_, pc + 1) := by
  unfold Jvm.ClassFile.Decoder.instr
  rw [fe_bnd h0]
  rfl
set_option maxRecDepth 100000 in
theorem fe_i89 (h0 : fe_U c pc 89) : (Jvm.ClassFile.Decoder.instr pc) c pc = .ok (.dup, pc + 1) := by
  unfold Jvm.ClassFile.Decoder.instr
  rw [fe_bnd h0]
  rfl
set_option maxRecDepth 100000 in
theorem fe_i133 (h0 : fe_U c pc 133) : (Jvm.ClassFile.Decoder.instr pc) c pc = .ok (.i2l, pc + 1) := by
  unfold Jvm.ClassFile.Decoder.instr
  rw [fe_bnd h0]
  rfl
set_option maxRecDepth 100000 in
theorem fe_i100 (h0 : fe_U c pc 100) : (Jvm.ClassFile.Decoder.instr pc) c pc = .ok (.isub, pc + 1) := by
  unfold Jvm.ClassFile.Decoder.instr
  rw [fe_bnd h0]
  rfl
set_option maxRecDepth 100000 in
theorem fe_i173 (h0 : fe_U c pc 173) : (Jvm.ClassFile.Decoder.instr pc) c pc = .ok (.lreturn, pc + 1) := by
  unfold Jvm.ClassFile.Decoder.instr
  rw [fe_bnd h0]
  rfl
set_option maxRecDepth 100000 in
theorem fe_i126 (h0 : fe_U c pc 126) : (Jvm.ClassFile.Decoder.instr pc) c pc = .ok (.iand, pc + 1) := by
  unfold Jvm.ClassFile.Decoder.instr
  rw [fe_bnd h0]
  rfl
set_option maxRecDepth 100000 in
theorem fe_i51 (h0 : fe_U c pc 51) : (Jvm.ClassFile.Decoder.instr pc) c pc = .ok (.baload, pc + 1) := by
  unfold Jvm.ClassFile.Decoder.instr
  rw [fe_bnd h0]
  rfl
set_option maxRecDepth 100000 in
theorem fe_i148 (h0 : fe_U c pc 148) : (Jvm.ClassFile.Decoder.instr pc) c pc = .ok (.lcmp, pc + 1) := by
  unfold Jvm.ClassFile.Decoder.instr
  rw [fe_bnd h0]
  rfl
set_option maxRecDepth 100000 in
theorem fe_i120 (h0 : fe_U c pc 120) : (Jvm.ClassFile.Decoder.instr pc) c pc = .ok (.ishl, pc + 1) := by
  unfold Jvm.ClassFile.Decoder.instr
  rw [fe_bnd h0]
  rfl
set_option maxRecDepth 100000 in
theorem fe_i122 (h0 : fe_U c pc 122) : (Jvm.ClassFile.Decoder.instr pc) c pc = .ok (.ishr, pc + 1) := by
  unfold Jvm.ClassFile.Decoder.instr
  rw [fe_bnd h0]
  rfl
set_option maxRecDepth 100000 in
theorem fe_i190 (h0 : fe_U c pc 190) : (Jvm.ClassFile.Decoder.instr pc) c pc = .ok (.arraylength, pc + 1) := by
  unfold Jvm.ClassFile.Decoder.instr
  rw [fe_bnd h0]
  rfl
set_option maxRecDepth 100000 in
theorem fe_i80 (h0 : fe_U c pc 80) : (Jvm.ClassFile.Decoder.instr pc) c pc = .ok (.lastore, pc + 1) := by
  unfold Jvm.ClassFile.Decoder.instr
  rw [fe_bnd h0]
  rfl
set_option maxRecDepth 100000 in
theorem fe_i47 (h0 : fe_U c pc 47) : (Jvm.ClassFile.Decoder.instr pc) c pc = .ok (.laload, pc + 1) := by
  unfold Jvm.ClassFile.Decoder.instr
  rw [fe_bnd h0]
  rfl
set_option maxRecDepth 100000 in
theorem fe_i128 (h0 : fe_U c pc 128) : (Jvm.ClassFile.Decoder.instr pc) c pc = .ok (.ior, pc + 1) := by
  unfold Jvm.ClassFile.Decoder.instr
  rw [fe_bnd h0]
  rfl
set_option maxRecDepth 100000 in
theorem fe_i127 (h0 : fe_U c pc 127) : (Jvm.ClassFile.Decoder.instr pc) c pc = .ok (.land, pc + 1) := by
  unfold Jvm.ClassFile.Decoder.instr
  rw [fe_bnd h0]
  rfl
set_option maxRecDepth 100000 in
theorem fe_i124 (h0 : fe_U c pc 124) : (Jvm.ClassFile.Decoder.instr pc) c pc = .ok (.iushr, pc + 1) := by
  unfold Jvm.ClassFile.Decoder.instr
  rw [fe_bnd h0]
  rfl
set_option maxRecDepth 100000 in
theorem fe_i108 (h0 : fe_U c pc 108) : (Jvm.ClassFile.Decoder.instr pc) c pc = .ok (.idiv, pc + 1) := by
  unfold Jvm.ClassFile.Decoder.instr
  rw [fe_bnd h0]
  rfl
set_option maxRecDepth 100000 in
theorem fe_i92 (h0 : fe_U c pc 92) : (Jvm.ClassFile.Decoder.instr pc) c pc = .ok (.dup2, pc + 1) := by
  unfold Jvm.ClassFile.Decoder.instr
  rw [fe_bnd h0]
  rfl
set_option maxRecDepth 100000 in
theorem fe_i84 (h0 : fe_U c pc 84) : (Jvm.ClassFile.Decoder.instr pc) c pc = .ok (.bastore, pc + 1) := by
  unfold Jvm.ClassFile.Decoder.instr
  rw [fe_bnd h0]
  rfl
set_option maxRecDepth 100000 in
theorem fe_i50 (h0 : fe_U c pc 50) : (Jvm.ClassFile.Decoder.instr pc) c pc = .ok (.aaload, pc + 1) := by
  unfold Jvm.ClassFile.Decoder.instr
  rw [fe_bnd h0]
  rfl
set_option maxRecDepth 100000 in
theorem fe_i101 (h0 : fe_U c pc 101) : (Jvm.ClassFile.Decoder.instr pc) c pc = .ok (.lsub, pc + 1) := by
  unfold Jvm.ClassFile.Decoder.instr
  rw [fe_bnd h0]
  rfl
set_option maxRecDepth 100000 in
theorem fe_i129 (h0 : fe_U c pc 129) : (Jvm.ClassFile.Decoder.instr pc) c pc = .ok (.lor, pc + 1) := by
  unfold Jvm.ClassFile.Decoder.instr
  rw [fe_bnd h0]
  rfl
set_option maxRecDepth 100000 in
theorem fe_i105 (h0 : fe_U c pc 105) : (Jvm.ClassFile.Decoder.instr pc) c pc = .ok (.lmul, pc + 1) := by
  unfold Jvm.ClassFile.Decoder.instr
  rw [fe_bnd h0]
  rfl
set_option maxRecDepth 100000 in
theorem fe_i112 (h0 : fe_U c pc 112) : (Jvm.ClassFile.Decoder.instr pc) c pc = .ok (.irem, pc + 1) := by
  unfold Jvm.ClassFile.Decoder.instr
  rw [fe_bnd h0]
  rfl
set_option maxRecDepth 100000 in
theorem fe_i121 (h0 : fe_U c pc 121) : (Jvm.ClassFile.Decoder.instr pc) c pc = .ok (.lshl, pc + 1) := by
  unfold Jvm.ClassFile.Decoder.instr
  rw [fe_bnd h0]
  rfl
set_option maxRecDepth 100000 in
theorem fe_i97 (h0 : fe_U c pc 97) : (Jvm.ClassFile.Decoder.instr pc) c pc = .ok (.ladd, pc + 1) := by
  unfold Jvm.ClassFile.Decoder.instr
  rw [fe_bnd h0]
  rfl
set_option maxRecDepth 100000 in
theorem fe_i88 (h0 : fe_U c pc 88) : (Jvm.ClassFile.Decoder.instr pc) c pc = .ok (.pop2, pc + 1) := by
  unfold Jvm.ClassFile.Decoder.instr
  rw [fe_bnd h0]
  rfl
set_option maxRecDepth 100000 in
theorem fe_i176 (h0 : fe_U c pc 176) : (Jvm.ClassFile.Decoder.instr pc) c pc = .ok (.areturn, pc + 1) := by
  unfold Jvm.ClassFile.Decoder.instr
  rw [fe_bnd h0]
  rfl
set_option maxRecDepth 100000 in
theorem fe_i113 (h0 : fe_U c pc 113) : (Jvm.ClassFile.Decoder.instr pc) c pc = .ok (.lrem, pc + 1) := by
  unfold Jvm.ClassFile.Decoder.instr
  rw [fe_bnd h0]
  rfl
set_option maxRecDepth 100000 in
theorem fe_i109 (h0 : fe_U c pc 109) : (Jvm.ClassFile.Decoder.instr pc) c pc = .ok (.ldiv, pc + 1) := by
  unfold Jvm.ClassFile.Decoder.instr
  rw [fe_bnd h0]
  rfl
set_option maxRecDepth 100000 in
theorem fe_i130 (h0 : fe_U c pc 130) : (Jvm.ClassFile.Decoder.instr pc) c pc = .ok (.ixor, pc + 1) := by
  unfold Jvm.ClassFile.Decoder.instr
  rw [fe_bnd h0]
  rfl
set_option maxRecDepth 100000 in
theorem fe_i1 (h0 : fe_U c pc 1) : (Jvm.ClassFile.Decoder.instr pc) c pc = .ok (.aconst_null, pc + 1) := by
  unfold Jvm.ClassFile.Decoder.instr
  rw [fe_bnd h0]
  rfl
set_option maxRecDepth 100000 in
theorem fe_i136 (h0 : fe_U c pc 136) : (Jvm.ClassFile.Decoder.instr pc) c pc = .ok (.l2i, pc + 1) := by
  unfold Jvm.ClassFile.Decoder.instr
  rw [fe_bnd h0]
  rfl
set_option maxRecDepth 100000 in
theorem fe_i145 (h0 : fe_U c pc 145) : (Jvm.ClassFile.Decoder.instr pc) c pc = .ok (.i2b, pc + 1) := by
  unfold Jvm.ClassFile.Decoder.instr
  rw [fe_bnd h0]
  rfl
set_option maxRecDepth 100000 in
theorem fe_i83 (h0 : fe_U c pc 83) : (Jvm.ClassFile.Decoder.instr pc) c pc = .ok (.aastore, pc + 1) := by
  unfold Jvm.ClassFile.Decoder.instr
  rw [fe_bnd h0]
  rfl
set_option maxRecDepth 100000 in
theorem fe_i42 (h0 : fe_U c pc 42) : (Jvm.ClassFile.Decoder.instr pc) c pc = .ok (.aload_n 0, pc + 1) := by
  unfold Jvm.ClassFile.Decoder.instr
  rw [fe_bnd h0]
  rfl
set_option maxRecDepth 100000 in
theorem fe_i43 (h0 : fe_U c pc 43) : (Jvm.ClassFile.Decoder.instr pc) c pc = .ok (.aload_n 1, pc + 1) := by
  unfold Jvm.ClassFile.Decoder.instr
  rw [fe_bnd h0]
  rfl
set_option maxRecDepth 100000 in
theorem fe_i44 (h0 : fe_U c pc 44) : (Jvm.ClassFile.Decoder.instr pc) c pc = .ok (.aload_n 2, pc + 1) := by
  unfold Jvm.ClassFile.Decoder.instr
  rw [fe_bnd h0]
  rfl
set_option maxRecDepth 100000 in
theorem fe_i45 (h0 : fe_U c pc 45) : (Jvm.ClassFile.Decoder.instr pc) c pc = .ok (.aload_n 3, pc + 1) := by
  unfold Jvm.ClassFile.Decoder.instr
  rw [fe_bnd h0]
  rfl
set_option maxRecDepth 100000 in
theorem fe_i26 (h0 : fe_U c pc 26) : (Jvm.ClassFile.Decoder.instr pc) c pc = .ok (.iload_n 0, pc + 1) := by
  unfold Jvm.ClassFile.Decoder.instr
  rw [fe_bnd h0]
  rfl
set_option maxRecDepth 100000 in
theorem fe_i27 (h0 : fe_U c pc 27) : (Jvm.ClassFile.Decoder.instr pc) c pc = .ok (.iload_n 1, pc + 1) := by
  unfold Jvm.ClassFile.Decoder.instr
  rw [fe_bnd h0]
  rfl
set_option maxRecDepth 100000 in
theorem fe_i28 (h0 : fe_U c pc 28) : (Jvm.ClassFile.Decoder.instr pc) c pc = .ok (.iload_n 2, pc + 1) := by
  unfold Jvm.ClassFile.Decoder.instr
  rw [fe_bnd h0]
  rfl
set_option maxRecDepth 100000 in
theorem fe_i29 (h0 : fe_U c pc 29) : (Jvm.ClassFile.Decoder.instr pc) c pc = .ok (.iload_n 3, pc + 1) := by
  unfold Jvm.ClassFile.Decoder.instr
  rw [fe_bnd h0]
  rfl
set_option maxRecDepth 100000 in
theorem fe_i30 (h0 : fe_U c pc 30) : (Jvm.ClassFile.Decoder.instr pc) c pc = .ok (.lload_n 0, pc + 1) := by
  unfold Jvm.ClassFile.Decoder.instr
  rw [fe_bnd h0]
  rfl
set_option maxRecDepth 100000 in
theorem fe_i31 (h0 : fe_U c pc 31) : (Jvm.ClassFile.Decoder.instr pc) c pc = .ok (.lload_n 1, pc + 1) := by
  unfold Jvm.ClassFile.Decoder.instr
  rw [fe_bnd h0]
  rfl
set_option maxRecDepth 100000 in
theorem fe_i32 (h0 : fe_U c pc 32) : (Jvm.ClassFile.Decoder.instr pc) c pc = .ok (.lload_n 2, pc + 1) := by
  unfold Jvm.ClassFile.Decoder.instr
  rw [fe_bnd h0]
  rfl
set_option maxRecDepth 100000 in
theorem fe_i33 (h0 : fe_U c pc 33) : (Jvm.ClassFile.Decoder.instr pc) c pc = .ok (.lload_n 3, pc + 1) := by
  unfold Jvm.ClassFile.Decoder.instr
  rw [fe_bnd h0]
  rfl
set_option maxRecDepth 100000 in
theorem fe_i59 (h0 : fe_U c pc 59) : (Jvm.ClassFile.Decoder.instr pc) c pc = .ok (.istore_n 0, pc + 1) := by
  unfold Jvm.ClassFile.Decoder.instr
  rw [fe_bnd h0]
  rfl
set_option maxRecDepth 100000 in
theorem fe_i60 (h0 : fe_U c pc 60) : (Jvm.ClassFile.Decoder.instr pc) c pc = .ok (.istore_n 1, pc + 1) := by
  unfold Jvm.ClassFile.Decoder.instr
  rw [fe_bnd h0]
  rfl
set_option maxRecDepth 100000 in
theorem fe_i61 (h0 : fe_U c pc 61) : (Jvm.ClassFile.Decoder.instr pc) c pc = .ok (.istore_n 2, pc + 1) := by
  unfold Jvm.ClassFile.Decoder.instr
  rw [fe_bnd h0]
  rfl
set_option maxRecDepth 100000 in
theorem fe_i62 (h0 : fe_U c pc 62) : (Jvm.ClassFile.Decoder.instr pc) c pc = .ok (.istore_n 3, pc + 1) := by
  unfold Jvm.ClassFile.Decoder.instr
  rw [fe_bnd h0]
  rfl
set_option maxRecDepth 100000 in
theorem fe_i63 (h0 : fe_U c pc 63) : (Jvm.ClassFile.Decoder.instr pc) c pc = .ok (.lstore_n 0, pc + 1) := by
  unfold Jvm.ClassFile.Decoder.instr
  rw [fe_bnd h0]
  rfl
set_option maxRecDepth 100000 in
theorem fe_i64 (h0 : fe_U c pc 64) : (Jvm.ClassFile.Decoder.instr pc) c pc = .ok (.lstore_n 1, pc + 1) := by
  unfold Jvm.ClassFile.Decoder.instr
  rw [fe_bnd h0]
  rfl
set_option maxRecDepth 100000 in
theorem fe_i65 (h0 : fe_U c pc 65) : (Jvm.ClassFile.Decoder.instr pc) c pc = .ok (.lstore_n 2, pc + 1) := by
  unfold Jvm.ClassFile.Decoder.instr
  rw [fe_bnd h0]
  rfl
set_option maxRecDepth 100000 in
theorem fe_i66 (h0 : fe_U c pc 66) : (Jvm.ClassFile.Decoder.instr pc) c pc = .ok (.lstore_n 3, pc + 1) := by
  unfold Jvm.ClassFile.Decoder.instr
  rw [fe_bnd h0]
  rfl
set_option maxRecDepth 100000 in
theorem fe_i75 (h0 : fe_U c pc 75) : (Jvm.ClassFile.Decoder.instr pc) c pc = .ok (.astore_n 0, pc + 1) := by
  unfold Jvm.ClassFile.Decoder.instr
  rw [fe_bnd h0]
  rfl
set_option maxRecDepth 100000 in
theorem fe_i76 (h0 : fe_U c pc 76) : (Jvm.ClassFile.Decoder.instr pc) c pc = .ok (.astore_n 1, pc + 1) := by
  unfold Jvm.ClassFile.Decoder.instr
  rw [fe_bnd h0]
  rfl
set_option maxRecDepth 100000 in
theorem fe_i77 (h0 : fe_U c pc 77) : (Jvm.ClassFile.Decoder.instr pc) c pc = .ok (.astore_n 2, pc + 1) := by
  unfold Jvm.ClassFile.Decoder.instr
  rw [fe_bnd h0]
  rfl
set_option maxRecDepth 100000 in
theorem fe_i78 (h0 : fe_U c pc 78) : (Jvm.ClassFile.Decoder.instr pc) c pc = .ok (.astore_n 3, pc + 1) := by
  unfold Jvm.ClassFile.Decoder.instr
  rw [fe_bnd h0]
  rfl
set_option maxRecDepth 100000 in
theorem fe_i9 (h0 : fe_U c pc 9) : (Jvm.ClassFile.Decoder.instr pc) c pc = .ok (.lconst 0, pc + 1) := by
  unfold Jvm.ClassFile.Decoder.instr
  rw [fe_bnd h0]
  rfl
set_option maxRecDepth 100000 in
theorem fe_i10 (h0 : fe_U c pc 10) : (Jvm.ClassFile.Decoder.instr pc) c pc = .ok (.lconst 1, pc + 1) := by
  unfold Jvm.ClassFile.Decoder.instr
  rw [fe_bnd h0]
  rfl
set_option maxRecDepth 100000 in
theorem fe_i2 (h0 : fe_U c pc 2) : (Jvm.ClassFile.Decoder.instr pc) c pc = .ok (.iconst (-1), pc + 1) := by
  unfold Jvm.ClassFile.Decoder.instr
  rw [fe_bnd h0]
  rfl
set_option maxRecDepth 100000 in
theorem fe_i3 (h0 : fe_U c pc 3) : (Jvm.ClassFile.Decoder.instr pc) c pc = .ok (.iconst 0, pc + 1) := by
  unfold Jvm.ClassFile.Decoder.instr
  rw [fe_bnd h0]
  rfl
set_option maxRecDepth 100000 in
theorem fe_i4 (h0 : fe_U c pc 4) : (Jvm.ClassFile.Decoder.instr pc) c pc = .ok (.iconst 1, pc + 1) := by
  unfold Jvm.ClassFile.Decoder.instr
  rw [fe_bnd h0]
  rfl
set_option maxRecDepth 100000 in
theorem fe_i5 (h0 : fe_U c pc 5) : (Jvm.ClassFile.Decoder.instr pc) c pc = .ok (.iconst 2, pc + 1) := by
  unfold Jvm.ClassFile.Decoder.instr
  rw [fe_bnd h0]
  rfl
set_option maxRecDepth 100000 in
theorem fe_i6 (h0 : fe_U c pc 6) : (Jvm.ClassFile.Decoder.instr pc) c pc = .ok (.iconst 3, pc + 1) := by
  unfold Jvm.ClassFile.Decoder.instr
  rw [fe_bnd h0]
  rfl
set_option maxRecDepth 100000 in
theorem fe_i7 (h0 : fe_U c pc 7) : (Jvm.ClassFile.Decoder.instr pc) c pc = .ok (.iconst 4, pc + 1) := by
  unfold Jvm.ClassFile.Decoder.instr
  rw [fe_bnd h0]
  rfl
set_option maxRecDepth 100000 in
theorem fe_i8 (h0 : fe_U c pc 8) : (Jvm.ClassFile.Decoder.instr pc) c pc = .ok (.iconst 5, pc + 1) := by
  unfold Jvm.ClassFile.Decoder.instr
  rw [fe_bnd h0]
  rfl
set_option maxRecDepth 100000 in
theorem fe_i21 (h0 : fe_U c pc 21) (h1 : fe_U c (pc + 1) b) : (Jvm.ClassFile.Decoder.instr pc) c pc = .ok (.iload b, pc + 2) := by
  unfold Jvm.ClassFile.Decoder.instr
  rw [fe_bnd h0]
  exact (fe_bnd (x := Jvm.ClassFile.Reader.u1) (f := fun z => pure (Instr.iload z)) h1).trans rfl
set_option maxRecDepth 100000 in
theorem fe_i54 (h0 : fe_U c pc 54) (h1 : fe_U c (pc + 1) b) : (Jvm.ClassFile.Decoder.instr pc) c pc = .ok (.istore b, pc + 2) := by
  unfold Jvm.ClassFile.Decoder.instr
  rw [fe_bnd h0]
  exact (fe_bnd (x := Jvm.ClassFile.Reader.u1) (f := fun z => pure (Instr.istore z)) h1).trans rfl
set_option maxRecDepth 100000 in
theorem fe_i25 (h0 : fe_U c pc 25) (h1 : fe_U c (pc + 1) b) : (Jvm.ClassFile.Decoder.instr pc) c pc = .ok (.aload b, pc + 2) := by
  unfold Jvm.ClassFile.Decoder.instr
  rw [fe_bnd h0]
  exact (fe_bnd (x := Jvm.ClassFile.Reader.u1) (f := fun z => pure (Instr.aload z)) h1).trans rfl
set_option maxRecDepth 100000 in
theorem fe_i22 (h0 : fe_U c pc 22) (h1 : fe_U c (pc + 1) b) : (Jvm.ClassFile.Decoder.instr pc) c pc = .ok (.lload b, pc + 2) := by
  unfold Jvm.ClassFile.Decoder.instr
  rw [fe_bnd h0]
  exact (fe_bnd (x := Jvm.ClassFile.Reader.u1) (f := fun z => pure (Instr.lload z)) h1).trans rfl
set_option maxRecDepth 100000 in
theorem fe_i58 (h0 : fe_U c pc 58) (h1 : fe_U c (pc + 1) b) : (Jvm.ClassFile.Decoder.instr pc) c pc = .ok (.astore b, pc + 2) := by
  unfold Jvm.ClassFile.Decoder.instr
  rw [fe_bnd h0]
  exact (fe_bnd (x := Jvm.ClassFile.Reader.u1) (f := fun z => pure (Instr.astore z)) h1).trans rfl
set_option maxRecDepth 100000 in
theorem fe_i55 (h0 : fe_U c pc 55) (h1 : fe_U c (pc + 1) b) : (Jvm.ClassFile.Decoder.instr pc) c pc = .ok (.lstore b, pc + 2) := by
  unfold Jvm.ClassFile.Decoder.instr
  rw [fe_bnd h0]
  exact (fe_bnd (x := Jvm.ClassFile.Reader.u1) (f := fun z => pure (Instr.lstore z)) h1).trans rfl
set_option maxRecDepth 100000 in
theorem fe_i18 (h0 : fe_U c pc 18) (h1 : fe_U c (pc + 1) b) : (Jvm.ClassFile.Decoder.instr pc) c pc = .ok (.ldc b, pc + 2) := by
  unfold Jvm.ClassFile.Decoder.instr
  rw [fe_bnd h0]
  exact (fe_bnd (x := Jvm.ClassFile.Reader.u1) (f := fun z => pure (Instr.ldc z)) h1).trans rfl
set_option maxRecDepth 100000 in
theorem fe_i16 (h0 : fe_U c pc 16) (h1 : fe_U c (pc + 1) b) : (Jvm.ClassFile.Decoder.instr pc) c pc = .ok (.bipush (Jvm.ClassFile.Reader.signed 8 b), pc + 2) := by
  unfold Jvm.ClassFile.Decoder.instr
  rw [fe_bnd h0]
  exact (fe_bnd (x := Jvm.ClassFile.Reader.s1) (f := fun z => pure (Instr.bipush z)) (fe_s1 h1)).trans rfl
set_option maxRecDepth 100000 in
theorem fe_i17 (h0 : fe_U c pc 17) (h1 : fe_U c (pc + 1) b) (h2 : fe_U c (pc + 2) d) : (Jvm.ClassFile.Decoder.instr pc) c pc = .ok (.sipush (Jvm.ClassFile.Reader.signed 16 (b * 256 + d)), pc + 3) := by
  unfold Jvm.ClassFile.Decoder.instr
  rw [fe_bnd h0]
  exact (fe_bnd (x := Jvm.ClassFile.Reader.s2) (f := fun z => pure (Instr.sipush z)) (fe_s2 h1 h2)).trans rfl
set_option maxRecDepth 100000 in
theorem fe_i167 (h0 : fe_U c pc 167) (h1 : fe_U c (pc + 1) b) (h2 : fe_U c (pc + 2) d) : (Jvm.ClassFile.Decoder.instr pc) c pc = .ok (.goto (Jvm.ClassFile.Reader.signed 16 (b * 256 + d)), pc + 3) := by
  unfold Jvm.ClassFile.Decoder.instr
  rw [fe_bnd h0]
  exact (fe_bnd (x := Jvm.ClassFile.Reader.s2) (f := fun z => pure (Instr.goto z)) (fe_s2 h1 h2)).trans rfl
set_option maxRecDepth 100000 in
theorem fe_i198 (h0 : fe_U c pc 198) (h1 : fe_U c (pc + 1) b) (h2 : fe_U c (pc + 2) d) : (Jvm.ClassFile.Decoder.instr pc) c pc = .ok (.ifnull (Jvm.ClassFile.Reader.signed 16 (b * 256 + d)), pc + 3) := by
  unfold Jvm.ClassFile.Decoder.instr
  rw [fe_bnd h0]
  exact (fe_bnd (x := Jvm.ClassFile.Reader.s2) (f := fun z => pure (Instr.ifnull z)) (fe_s2 h1 h2)).trans rfl
set_option maxRecDepth 100000 in
theorem fe_i199 (h0 : fe_U c pc 199) (h1 : fe_U c (pc + 1) b) (h2 : fe_U c (pc + 2) d) : (Jvm.ClassFile.Decoder.instr pc) c pc = .ok (.ifnonnull (Jvm.ClassFile.Reader.signed 16 (b * 256 + d)), pc + 3) := by
  unfold Jvm.ClassFile.Decoder.instr
  rw [fe_bnd h0]
  exact (fe_bnd (x := Jvm.ClassFile.Reader.s2) (f := fun z => pure (Instr.ifnonnull z)) (fe_s2 h1 h2)).trans rfl
set_option maxRecDepth 100000 in
theorem fe_i180 (h0 : fe_U c pc 180) (h1 : fe_U c (pc + 1) b) (h2 : fe_U c (pc + 2) d) : (Jvm.ClassFile.Decoder.instr pc) c pc = .ok (.getfield (b * 256 + d), pc + 3) := by
  unfold Jvm.ClassFile.Decoder.instr
  rw [fe_bnd h0]
  exact (fe_bnd (x := Jvm.ClassFile.Reader.u2) (f := fun z => pure (Instr.getfield z)) (fe_u2 h1 h2)).trans rfl
set_option maxRecDepth 100000 in
theorem fe_i181 (h0 : fe_U c pc 181) (h1 : fe_U c (pc + 1) b) (h2 : fe_U c (pc + 2) d) : (Jvm.ClassFile.Decoder.instr pc) c pc = .ok (.putfield (b * 256 + d), pc + 3) := by
  unfold Jvm.ClassFile.Decoder.instr
  rw [fe_bnd h0]
  exact (fe_bnd (x := Jvm.ClassFile.Reader.u2) (f := fun z => pure (Instr.putfield z)) (fe_u2 h1 h2)).trans rfl
set_option maxRecDepth 100000 in
theorem fe_i182 (h0 : fe_U c pc 182) (h1 : fe_U c (pc + 1) b) (h2 : fe_U c (pc + 2) d) : (Jvm.ClassFile.Decoder.instr pc) c pc = .ok (.invokevirtual (b * 256 + d), pc + 3) := by
  unfold Jvm.ClassFile.Decoder.instr
  rw [fe_bnd h0]
  exact (fe_bnd (x := Jvm.ClassFile.Reader.u2) (f := fun z => pure (Instr.invokevirtual z)) (fe_u2 h1 h2)).trans rfl
set_option maxRecDepth 100000 in
theorem fe_i183 (h0 : fe_U c pc 183) (h1 : fe_U c (pc + 1) b) (h2 : fe_U c (pc + 2) d) : (Jvm.ClassFile.Decoder.instr pc) c pc = .ok (.invokespecial (b * 256 + d), pc + 3) := by
  unfold Jvm.ClassFile.Decoder.instr
  rw [fe_bnd h0]
  exact (fe_bnd (x := Jvm.ClassFile.Reader.u2) (f := fun z => pure (Instr.invokespecial z)) (fe_u2 h1 h2)).trans rfl
set_option maxRecDepth 100000 in
theorem fe_i184 (h0 : fe_U c pc 184) (h1 : fe_U c (pc + 1) b) (h2 : fe_U c (pc + 2) d) : (Jvm.ClassFile.Decoder.instr pc) c pc = .ok (.invokestatic (b * 256 + d), pc + 3) := by
  unfold Jvm.ClassFile.Decoder.instr
  rw [fe_bnd h0]
  exact (fe_bnd (x := Jvm.ClassFile.Reader.u2) (f := fun z => pure (Instr.invokestatic z)) (fe_u2 h1 h2)).trans rfl
set_option maxRecDepth 100000 in
theorem fe_i187 (h0 : fe_U c pc 187) (h1 : fe_U c (pc + 1) b) (h2 : fe_U c (pc + 2) d) : (Jvm.ClassFile.Decoder.instr pc) c pc = .ok (.new (b * 256 + d), pc + 3) := by
  unfold Jvm.ClassFile.Decoder.instr
  rw [fe_bnd h0]
  exact (fe_bnd (x := Jvm.ClassFile.Reader.u2) (f := fun z => pure (Instr.new z)) (fe_u2 h1 h2)).trans rfl
set_option maxRecDepth 100000 in
theorem fe_i189 (h0 : fe_U c pc 189) (h1 : fe_U c (pc + 1) b) (h2 : fe_U c (pc + 2) d) : (Jvm.ClassFile.Decoder.instr pc) c pc = .ok (.anewarray (b * 256 + d), pc + 3) := by
  unfold Jvm.ClassFile.Decoder.instr
  rw [fe_bnd h0]
  exact (fe_bnd (x := Jvm.ClassFile.Reader.u2) (f := fun z => pure (Instr.anewarray z)) (fe_u2 h1 h2)).trans rfl
set_option maxRecDepth 100000 in
theorem fe_i19 (h0 : fe_U c pc 19) (h1 : fe_U c (pc + 1) b) (h2 : fe_U c (pc + 2) d) : (Jvm.ClassFile.Decoder.instr pc) c pc = .ok (.ldc_w (b * 256 + d), pc + 3) := by
  unfold Jvm.ClassFile.Decoder.instr
  rw [fe_bnd h0]
  exact (fe_bnd (x := Jvm.ClassFile.Reader.u2) (f := fun z => pure (Instr.ldc_w z)) (fe_u2 h1 h2)).trans rfl
set_option maxRecDepth 100000 in
theorem fe_i20 (h0 : fe_U c pc 20) (h1 : fe_U c (pc + 1) b) (h2 : fe_U c (pc + 2) d) : (Jvm.ClassFile.Decoder.instr pc) c pc = .ok (.ldc2_w (b * 256 + d), pc + 3) := by
  unfold Jvm.ClassFile.Decoder.instr
  rw [fe_bnd h0]
  exact (fe_bnd (x := Jvm.ClassFile.Reader.u2) (f := fun z => pure (Instr.ldc2_w z)) (fe_u2 h1 h2)).trans rfl
set_option maxRecDepth 100000 in
theorem fe_i153 (h0 : fe_U c pc 153) (h1 : fe_U c (pc + 1) b) (h2 : fe_U c (pc + 2) d) : (Jvm.ClassFile.Decoder.instr pc) c pc = .ok (.ifCond .eq (Jvm.ClassFile.Reader.signed 16 (b * 256 + d)), pc + 3) := by
  unfold Jvm.ClassFile.Decoder.instr
  rw [fe_bnd h0]
  exact (fe_bnd (x := Jvm.ClassFile.Reader.s2) (f := fun z => pure (Instr.ifCond .eq z)) (fe_s2 h1 h2)).trans rfl
set_option maxRecDepth 100000 in
theorem fe_i154 (h0 : fe_U c pc 154) (h1 : fe_U c (pc + 1) b) (h2 : fe_U c (pc + 2) d) : (Jvm.ClassFile.Decoder.instr pc) c pc = .ok (.ifCond .ne (Jvm.ClassFile.Reader.signed 16 (b * 256 + d)), pc + 3) := by
  unfold Jvm.ClassFile.Decoder.instr
  rw [fe_bnd h0]
  exact (fe_bnd (x := Jvm.ClassFile.Reader.s2) (f := fun z => pure (Instr.ifCond .ne z)) (fe_s2 h1 h2)).trans rfl
set_option maxRecDepth 100000 in
theorem fe_i155 (h0 : fe_U c pc 155) (h1 : fe_U c (pc + 1) b) (h2 : fe_U c (pc + 2) d) : (Jvm.ClassFile.Decoder.instr pc) c pc = .ok (.ifCond .lt (Jvm.ClassFile.Reader.signed 16 (b * 256 + d)), pc + 3) := by
  unfold Jvm.ClassFile.Decoder.instr
  rw [fe_bnd h0]
  exact (fe_bnd (x := Jvm.ClassFile.Reader.s2) (f := fun z => pure (Instr.ifCond .lt z)) (fe_s2 h1 h2)).trans rfl
set_option maxRecDepth 100000 in
theorem fe_i156 (h0 : fe_U c pc 156) (h1 : fe_U c (pc + 1) b) (h2 : fe_U c (pc + 2) d) : (Jvm.ClassFile.Decoder.instr pc) c pc = .ok (.ifCond .ge (Jvm.ClassFile.Reader.signed 16 (b * 256 + d)), pc + 3) := by
  unfold Jvm.ClassFile.Decoder.instr
  rw [fe_bnd h0]
  exact (fe_bnd (x := Jvm.ClassFile.Reader.s2) (f := fun z => pure (Instr.ifCond .ge z)) (fe_s2 h1 h2)).trans rfl
set_option maxRecDepth 100000 in
theorem fe_i157 (h0 : fe_U c pc 157) (h1 : fe_U c (pc + 1) b) (h2 : fe_U c (pc + 2) d) : (Jvm.ClassFile.Decoder.instr pc) c pc = .ok (.ifCond .gt (Jvm.ClassFile.Reader.signed 16 (b * 256 + d)), pc + 3) := by
  unfold Jvm.ClassFile.Decoder.instr
  rw [fe_bnd h0]
  exact (fe_bnd (x := Jvm.ClassFile.Reader.s2) (f := fun z => pure (Instr.ifCond .gt z)) (fe_s2 h1 h2)).trans rfl
set_option maxRecDepth 100000 in
theorem fe_i158 (h0 : fe_U c pc 158) (h1 : fe_U c (pc + 1) b) (h2 : fe_U c (pc + 2) d) : (Jvm.ClassFile.Decoder.instr pc) c pc = .ok (.ifCond .le (Jvm.ClassFile.Reader.signed 16 (b * 256 + d)), pc + 3) := by
  unfold Jvm.ClassFile.Decoder.instr
  rw [fe_bnd h0]
  exact (fe_bnd (x := Jvm.ClassFile.Reader.s2) (f := fun z => pure (Instr.ifCond .le z)) (fe_s2 h1 h2)).trans rfl
set_option maxRecDepth 100000 in
theorem fe_i159 (h0 : fe_U c pc 159) (h1 : fe_U c (pc + 1) b) (h2 : fe_U c (pc + 2) d) : (Jvm.ClassFile.Decoder.instr pc) c pc = .ok (.if_icmp .eq (Jvm.ClassFile.Reader.signed 16 (b * 256 + d)), pc + 3) := by
  unfold Jvm.ClassFile.Decoder.instr
  rw [fe_bnd h0]
  exact (fe_bnd (x := Jvm.ClassFile.Reader.s2) (f := fun z => pure (Instr.if_icmp .eq z)) (fe_s2 h1 h2)).trans rfl
set_option maxRecDepth 100000 in
theorem fe_i160 (h0 : fe_U c pc 160) (h1 : fe_U c (pc + 1) b) (h2 : fe_U c (pc + 2) d) : (Jvm.ClassFile.Decoder.instr pc) c pc = .ok (.if_icmp .ne (Jvm.ClassFile.Reader.signed 16 (b * 256 + d)), pc + 3) := by
  unfold Jvm.ClassFile.Decoder.instr
  rw [fe_bnd h0]
  exact (fe_bnd (x := Jvm.ClassFile.Reader.s2) (f := fun z => pure (Instr.if_icmp .ne z)) (fe_s2 h1 h2)).trans rfl
set_option maxRecDepth 100000 in
theorem fe_i161 (h0 : fe_U c pc 161) (h1 : fe_U c (pc + 1) b) (h2 : fe_U c (pc + 2) d) : (Jvm.ClassFile.Decoder.instr pc) c pc = .ok (.if_icmp .lt (Jvm.ClassFile.Reader.signed 16 (b * 256 + d)), pc + 3) := by
  unfold Jvm.ClassFile.Decoder.instr
  rw [fe_bnd h0]
  exact (fe_bnd (x := Jvm.ClassFile.Reader.s2) (f := fun z => pure (Instr.if_icmp .lt z)) (fe_s2 h1 h2)).trans rfl
set_option maxRecDepth 100000 in
theorem fe_i162 (h0 : fe_U c pc 162) (h1 : fe_U c (pc + 1) b) (h2 : fe_U c (pc + 2) d) : (Jvm.ClassFile.Decoder.instr pc) c pc = .ok (.if_icmp .ge (Jvm.ClassFile.Reader.signed 16 (b * 256 + d)), pc + 3) := by
  unfold Jvm.ClassFile.Decoder.instr
  rw [fe_bnd h0]
  exact (fe_bnd (x := Jvm.ClassFile.Reader.s2) (f := fun z => pure (Instr.if_icmp .ge z)) (fe_s2 h1 h2)).trans rfl
set_option maxRecDepth 100000 in
theorem fe_i163 (h0 : fe_U c pc 163) (h1 : fe_U c (pc + 1) b) (h2 : fe_U c (pc + 2) d) : (Jvm.ClassFile.Decoder.instr pc) c pc = .ok (.if_icmp .gt (Jvm.ClassFile.Reader.signed 16 (b * 256 + d)), pc + 3) := by
  unfold Jvm.ClassFile.Decoder.instr
  rw [fe_bnd h0]
  exact (fe_bnd (x := Jvm.ClassFile.Reader.s2) (f := fun z => pure (Instr.if_icmp .gt z)) (fe_s2 h1 h2)).trans rfl
set_option maxRecDepth 100000 in
theorem fe_i164 (h0 : fe_U c pc 164) (h1 : fe_U c (pc + 1) b) (h2 : fe_U c (pc + 2) d) : (Jvm.ClassFile.Decoder.instr pc) c pc = .ok (.if_icmp .le (Jvm.ClassFile.Reader.signed 16 (b * 256 + d)), pc + 3) := by
  unfold Jvm.ClassFile.Decoder.instr
  rw [fe_bnd h0]
  exact (fe_bnd (x := Jvm.ClassFile.Reader.s2) (f := fun z => pure (Instr.if_icmp .le z)) (fe_s2 h1 h2)).trans rfl
set_option maxRecDepth 100000 in
theorem fe_i132 (h0 : fe_U c pc 132) (h1 : fe_U c (pc + 1) b) (h2 : fe_U c (pc + 2) d) : (Jvm.ClassFile.Decoder.instr pc) c pc = .ok (.iinc b (Jvm.ClassFile.Reader.signed 8 d), pc + 3) := by
  unfold Jvm.ClassFile.Decoder.instr
  rw [fe_bnd h0]
  exact (fe_bnd (x := Jvm.ClassFile.Reader.u1) (f := fun z => Jvm.ClassFile.Reader.s1 >>= fun y => pure (Instr.iinc z y)) h1).trans ((fe_bnd (fe_s1 h2)).trans rfl)
set_option maxRecDepth 100000 in
theorem fe_i188_4 (h0 : fe_U c pc 188) (h1 : fe_U c (pc + 1) 4) : (Jvm.ClassFile.Decoder.instr pc) c pc = .ok (.newarray .boolean, pc + 2) := by
  unfold Jvm.ClassFile.Decoder.instr
  rw [fe_bnd h0]
  show (Jvm.ClassFile.Decoder.newarray pc) c (pc + 1) = _
  unfold Jvm.ClassFile.Decoder.newarray
  rw [fe_bnd h1]
  rfl
set_option maxRecDepth 100000 in
theorem fe_i188_5 (h0 : fe_U c pc 188) (h1 : fe_U c (pc + 1) 5) : (Jvm.ClassFile.Decoder.instr pc) c pc = .ok (.newarray .char, pc + 2) := by
  unfold Jvm.ClassFile.Decoder.instr
  rw [fe_bnd h0]
  show (Jvm.ClassFile.Decoder.newarray pc) c (pc + 1) = _
  unfold Jvm.ClassFile.Decoder.newarray
  rw [fe_bnd h1]
  rfl
set_option maxRecDepth 100000 in
theorem fe_i188_6 (h0 : fe_U c pc 188) (h1 : fe_U c (pc + 1) 6) : (Jvm.ClassFile.Decoder.instr pc) c pc = .ok (.newarray .float, pc + 2) := by
  unfold Jvm.ClassFile.Decoder.instr
  rw [fe_bnd h0]
  show (Jvm.ClassFile.Decoder.newarray pc) c (pc + 1) = _
  unfold Jvm.ClassFile.Decoder.newarray
  rw [fe_bnd h1]
  rfl
set_option maxRecDepth 100000 in
theorem fe_i188_7 (h0 : fe_U c pc 188) (h1 : fe_U c (pc + 1) 7) : (Jvm.ClassFile.Decoder.instr pc) c pc = .ok (.newarray .double, pc + 2) := by
  unfold Jvm.ClassFile.Decoder.instr
  rw [fe_bnd h0]
  show (Jvm.ClassFile.Decoder.newarray pc) c (pc + 1) = _
  unfold Jvm.ClassFile.Decoder.newarray
  rw [fe_bnd h1]
  rfl
set_option maxRecDepth 100000 in
theorem fe_i188_8 (h0 : fe_U c pc 188) (h1 : fe_U c (pc + 1) 8) : (Jvm.ClassFile.Decoder.instr pc) c pc = .ok (.newarray .byte, pc + 2) := by
  unfold Jvm.ClassFile.Decoder.instr
  rw [fe_bnd h0]
  show (Jvm.ClassFile.Decoder.newarray pc) c (pc + 1) = _
  unfold Jvm.ClassFile.Decoder.newarray
  rw [fe_bnd h1]
  rfl
set_option maxRecDepth 100000 in
theorem fe_i188_9 (h0 : fe_U c pc 188) (h1 : fe_U c (pc + 1) 9) : (Jvm.ClassFile.Decoder.instr pc) c pc = .ok (.newarray .short, pc + 2) := by
  unfold Jvm.ClassFile.Decoder.instr
  rw [fe_bnd h0]
  show (Jvm.ClassFile.Decoder.newarray pc) c (pc + 1) = _
  unfold Jvm.ClassFile.Decoder.newarray
  rw [fe_bnd h1]
  rfl
set_option maxRecDepth 100000 in
theorem fe_i188_10 (h0 : fe_U c pc 188) (h1 : fe_U c (pc + 1) 10) : (Jvm.ClassFile.Decoder.instr pc) c pc = .ok (.newarray .int, pc + 2) := by
  unfold Jvm.ClassFile.Decoder.instr
  rw [fe_bnd h0]
  show (Jvm.ClassFile.Decoder.newarray pc) c (pc + 1) = _
  unfold Jvm.ClassFile.Decoder.newarray
  rw [fe_bnd h1]
  rfl
set_option maxRecDepth 100000 in
theorem fe_i188_11 (h0 : fe_U c pc 188) (h1 : fe_U c (pc + 1) 11) : (Jvm.ClassFile.Decoder.instr pc) c pc = .ok (.newarray .long, pc + 2) := by
  unfold Jvm.ClassFile.Decoder.instr
  rw [fe_bnd h0]
  show (Jvm.ClassFile.Decoder.newarray pc) c (pc + 1) = _
  unfold Jvm.ClassFile.Decoder.newarray
  rw [fe_bnd h1]
  rfl
theorem fe_y {x : Bool} {m n : Nat} (h : (bif x then m else 0) = n) (hn : 0 < n) : x = true ∧ n = m := by
  cases x
  · subst h
    exact absurd hn (Nat.lt_irrefl 0)
  · exact ⟨rfl, h.symm⟩
theorem fe_e {x y : Nat} (h : Nat.beq x y = true) : x = y := Nat.eq_of_beq_eq_true h
theorem fe_l {x y : Nat} (h : Nat.blt x y = true) : x < y := Nat.le_of_ble_eq_true h
theorem fe_n {x y : Bool} (h : (x && y) = true) : x = true ∧ y = true := by rwa [Bool.and_eq_true] at h
theorem fe_ok {n : Nat} {i : Instr} (h : fe i a b d = n) (hn : 0 < n) (h0 : fe_U c pc a) (h1 : b < 256 → fe_U c (pc + 1) b) (h2 : b < 256 → d < 256 → fe_U c (pc + 2) d) : decode c pc = .ok (i, n) := by
  cases i
  case iadd =>
    obtain ⟨e, rfl⟩ := fe_y h hn
    obtain rfl := fe_e e
    exact fe_dec (fe_i96 h0)
  case ireturn =>
    obtain ⟨e, rfl⟩ := fe_y h hn
    obtain rfl := fe_e e
    exact fe_dec (fe_i172 h0)
  case iaload =>
    obtain ⟨e, rfl⟩ := fe_y h hn
    obtain rfl := fe_e e
    exact fe_dec (fe_i46 h0)
  case pop =>
    obtain ⟨e, rfl⟩ := fe_y h hn
    obtain rfl := fe_e e
    exact fe_dec (fe_i87 h0)
  case imul =>
    obtain ⟨e, rfl⟩ := fe_y h hn
    obtain rfl := fe_e e
    exact fe_dec (fe_i104 h0)
  case iastore =>
    obtain ⟨e, rfl⟩ := fe_y h hn
    obtain rfl := fe_e e
    exact fe_dec (fe_i79 h0)
  case return_ =>
    obtain ⟨e, rfl⟩ := fe_y h hn
    obtain rfl := fe_e e
    exact fe_dec (fe_i177 h0)
  case dup =>
    obtain ⟨e, rfl⟩ := fe_y h hn
    obtain rfl := fe_e e
    exact fe_dec (fe_i89 h0)
  case i2l =>
    obtain ⟨e, rfl⟩ := fe_y h hn
    obtain rfl := fe_e e
    exact fe_dec (fe_i133 h0)
  case isub =>
    obtain ⟨e, rfl⟩ := fe_y h hn
    obtain rfl := fe_e e
    exact fe_dec (fe_i100 h0)
  case lreturn =>
    obtain ⟨e, rfl⟩ := fe_y h hn
    obtain rfl := fe_e e
    exact fe_dec (fe_i173 h0)
  case iand =>
    obtain ⟨e, rfl⟩ := fe_y h hn
    obtain rfl := fe_e e
    exact fe_dec (fe_i126 h0)
  case baload =>
    obtain ⟨e, rfl⟩ := fe_y h hn
    obtain rfl := fe_e e
    exact fe_dec (fe_i51 h0)
  case lcmp =>
    obtain ⟨e, rfl⟩ := fe_y h hn
    obtain rfl := fe_e e
    exact fe_dec (fe_i148 h0)
  case ishl =>
    obtain ⟨e, rfl⟩ := fe_y h hn
    obtain rfl := fe_e e
    exact fe_dec (fe_i120 h0)
  case ishr =>
    obtain ⟨e, rfl⟩ := fe_y h hn
    obtain rfl := fe_e e
    exact fe_dec (fe_i122 h0)
  case arraylength =>
    obtain ⟨e, rfl⟩ := fe_y h hn
    obtain rfl := fe_e e
    exact fe_dec (fe_i190 h0)
  case lastore =>
    obtain ⟨e, rfl⟩ := fe_y h hn
    obtain rfl := fe_e e
    exact fe_dec (fe_i80 h0)
  case laload =>
    obtain ⟨e, rfl⟩ := fe_y h hn
    obtain rfl := fe_e e
    exact fe_dec (fe_i47 h0)
  case ior =>
    obtain ⟨e, rfl⟩ := fe_y h hn
    obtain rfl := fe_e e
    exact fe_dec (fe_i128 h0)
  case land =>
    obtain ⟨e, rfl⟩ := fe_y h hn
    obtain rfl := fe_e e
    exact fe_dec (fe_i127 h0)
  case iushr =>
    obtain ⟨e, rfl⟩ := fe_y h hn
    obtain rfl := fe_e e
    exact fe_dec (fe_i124 h0)
  case idiv =>
    obtain ⟨e, rfl⟩ := fe_y h hn
    obtain rfl := fe_e e
    exact fe_dec (fe_i108 h0)
  case dup2 =>
    obtain ⟨e, rfl⟩ := fe_y h hn
    obtain rfl := fe_e e
    exact fe_dec (fe_i92 h0)
  case bastore =>
    obtain ⟨e, rfl⟩ := fe_y h hn
    obtain rfl := fe_e e
    exact fe_dec (fe_i84 h0)
  case aaload =>
    obtain ⟨e, rfl⟩ := fe_y h hn
    obtain rfl := fe_e e
    exact fe_dec (fe_i50 h0)
  case lsub =>
    obtain ⟨e, rfl⟩ := fe_y h hn
    obtain rfl := fe_e e
    exact fe_dec (fe_i101 h0)
  case lor =>
    obtain ⟨e, rfl⟩ := fe_y h hn
    obtain rfl := fe_e e
    exact fe_dec (fe_i129 h0)
  case lmul =>
    obtain ⟨e, rfl⟩ := fe_y h hn
    obtain rfl := fe_e e
    exact fe_dec (fe_i105 h0)
  case irem =>
    obtain ⟨e, rfl⟩ := fe_y h hn
    obtain rfl := fe_e e
    exact fe_dec (fe_i112 h0)
  case lshl =>
    obtain ⟨e, rfl⟩ := fe_y h hn
    obtain rfl := fe_e e
    exact fe_dec (fe_i121 h0)
  case ladd =>
    obtain ⟨e, rfl⟩ := fe_y h hn
    obtain rfl := fe_e e
    exact fe_dec (fe_i97 h0)
  case pop2 =>
    obtain ⟨e, rfl⟩ := fe_y h hn
    obtain rfl := fe_e e
    exact fe_dec (fe_i88 h0)
  case areturn =>
    obtain ⟨e, rfl⟩ := fe_y h hn
    obtain rfl := fe_e e
    exact fe_dec (fe_i176 h0)
  case lrem =>
    obtain ⟨e, rfl⟩ := fe_y h hn
    obtain rfl := fe_e e
    exact fe_dec (fe_i113 h0)
  case ldiv =>
    obtain ⟨e, rfl⟩ := fe_y h hn
    obtain rfl := fe_e e
    exact fe_dec (fe_i109 h0)
  case ixor =>
    obtain ⟨e, rfl⟩ := fe_y h hn
    obtain rfl := fe_e e
    exact fe_dec (fe_i130 h0)
  case aconst_null =>
    obtain ⟨e, rfl⟩ := fe_y h hn
    obtain rfl := fe_e e
    exact fe_dec (fe_i1 h0)
  case l2i =>
    obtain ⟨e, rfl⟩ := fe_y h hn
    obtain rfl := fe_e e
    exact fe_dec (fe_i136 h0)
  case i2b =>
    obtain ⟨e, rfl⟩ := fe_y h hn
    obtain rfl := fe_e e
    exact fe_dec (fe_i145 h0)
  case aastore =>
    obtain ⟨e, rfl⟩ := fe_y h hn
    obtain rfl := fe_e e
    exact fe_dec (fe_i83 h0)
  case aload_n k =>
    obtain ⟨e, rfl⟩ := fe_y h hn
    obtain rfl := fe_e e
    match k, h0 with
    | 0, h0 => exact fe_dec (fe_i42 h0)
    | 1, h0 => exact fe_dec (fe_i43 h0)
    | 2, h0 => exact fe_dec (fe_i44 h0)
    | 3, h0 => exact fe_dec (fe_i45 h0)
  case iload_n k =>
    obtain ⟨e, rfl⟩ := fe_y h hn
    obtain rfl := fe_e e
    match k, h0 with
    | 0, h0 => exact fe_dec (fe_i26 h0)
    | 1, h0 => exact fe_dec (fe_i27 h0)
    | 2, h0 => exact fe_dec (fe_i28 h0)
    | 3, h0 => exact fe_dec (fe_i29 h0)
  case lload_n k =>
    obtain ⟨e, rfl⟩ := fe_y h hn
    obtain rfl := fe_e e
    match k, h0 with
    | 0, h0 => exact fe_dec (fe_i30 h0)
    | 1, h0 => exact fe_dec (fe_i31 h0)
    | 2, h0 => exact fe_dec (fe_i32 h0)
    | 3, h0 => exact fe_dec (fe_i33 h0)
  case istore_n k =>
    obtain ⟨e, rfl⟩ := fe_y h hn
    obtain rfl := fe_e e
    match k, h0 with
    | 0, h0 => exact fe_dec (fe_i59 h0)
    | 1, h0 => exact fe_dec (fe_i60 h0)
    | 2, h0 => exact fe_dec (fe_i61 h0)
    | 3, h0 => exact fe_dec (fe_i62 h0)
  case lstore_n k =>
    obtain ⟨e, rfl⟩ := fe_y h hn
    obtain rfl := fe_e e
    match k, h0 with
    | 0, h0 => exact fe_dec (fe_i63 h0)
    | 1, h0 => exact fe_dec (fe_i64 h0)
    | 2, h0 => exact fe_dec (fe_i65 h0)
    | 3, h0 => exact fe_dec (fe_i66 h0)
  case astore_n k =>
    obtain ⟨e, rfl⟩ := fe_y h hn
    obtain rfl := fe_e e
    match k, h0 with
    | 0, h0 => exact fe_dec (fe_i75 h0)
    | 1, h0 => exact fe_dec (fe_i76 h0)
    | 2, h0 => exact fe_dec (fe_i77 h0)
    | 3, h0 => exact fe_dec (fe_i78 h0)
  case lconst k =>
    obtain ⟨e, rfl⟩ := fe_y h hn
    obtain rfl := fe_e e
    match k, h0 with
    | 0, h0 => exact fe_dec (fe_i9 h0)
    | 1, h0 => exact fe_dec (fe_i10 h0)
  case iconst k =>
    obtain ⟨e, rfl⟩ := fe_y h hn
    obtain ⟨e1, e⟩ := fe_n e
    obtain ⟨e2, e3⟩ := fe_n e
    have e1 := fe_l e1
    have e2 := fe_l e2
    obtain rfl := of_decide_eq_true e3
    obtain rfl | rfl | rfl | rfl | rfl | rfl | rfl : a = 2 ∨ a = 3 ∨ a = 4 ∨ a = 5 ∨ a = 6 ∨ a = 7 ∨ a = 8 := by omega
    · exact fe_dec (fe_i2 h0)
    · exact fe_dec (fe_i3 h0)
    · exact fe_dec (fe_i4 h0)
    · exact fe_dec (fe_i5 h0)
    · exact fe_dec (fe_i6 h0)
    · exact fe_dec (fe_i7 h0)
    · exact fe_dec (fe_i8 h0)
  case iload k =>
    obtain ⟨e, rfl⟩ := fe_y h hn
    obtain ⟨e0, e⟩ := fe_n e
    obtain ⟨e1, e2⟩ := fe_n e
    obtain rfl := fe_e e0
    obtain rfl := fe_e e2
    exact fe_dec (fe_i21 h0 (h1 (fe_l e1)))
  case istore k =>
    obtain ⟨e, rfl⟩ := fe_y h hn
    obtain ⟨e0, e⟩ := fe_n e
    obtain ⟨e1, e2⟩ := fe_n e
    obtain rfl := fe_e e0
    obtain rfl := fe_e e2
    exact fe_dec (fe_i54 h0 (h1 (fe_l e1)))
  case aload k =>
    obtain ⟨e, rfl⟩ := fe_y h hn
    obtain ⟨e0, e⟩ := fe_n e
    obtain ⟨e1, e2⟩ := fe_n e
    obtain rfl := fe_e e0
    obtain rfl := fe_e e2
    exact fe_dec (fe_i25 h0 (h1 (fe_l e1)))
  case lload k =>
    obtain ⟨e, rfl⟩ := fe_y h hn
    obtain ⟨e0, e⟩ := fe_n e
    obtain ⟨e1, e2⟩ := fe_n e
    obtain rfl := fe_e e0
    obtain rfl := fe_e e2
    exact fe_dec (fe_i22 h0 (h1 (fe_l e1)))
  case astore k =>
    obtain ⟨e, rfl⟩ := fe_y h hn
    obtain ⟨e0, e⟩ := fe_n e
    obtain ⟨e1, e2⟩ := fe_n e
    obtain rfl := fe_e e0
    obtain rfl := fe_e e2
    exact fe_dec (fe_i58 h0 (h1 (fe_l e1)))
  case lstore k =>
    obtain ⟨e, rfl⟩ := fe_y h hn
    obtain ⟨e0, e⟩ := fe_n e
    obtain ⟨e1, e2⟩ := fe_n e
    obtain rfl := fe_e e0
    obtain rfl := fe_e e2
    exact fe_dec (fe_i55 h0 (h1 (fe_l e1)))
  case ldc k =>
    obtain ⟨e, rfl⟩ := fe_y h hn
    obtain ⟨e0, e⟩ := fe_n e
    obtain ⟨e1, e2⟩ := fe_n e
    obtain rfl := fe_e e0
    obtain rfl := fe_e e2
    exact fe_dec (fe_i18 h0 (h1 (fe_l e1)))
  case bipush k =>
    obtain ⟨e, rfl⟩ := fe_y h hn
    obtain ⟨e0, e⟩ := fe_n e
    obtain ⟨e1, e2⟩ := fe_n e
    obtain rfl := fe_e e0
    obtain rfl := of_decide_eq_true e2
    exact fe_dec (fe_i16 h0 (h1 (fe_l e1)))
  case sipush k =>
    obtain ⟨e, rfl⟩ := fe_y h hn
    obtain ⟨e0, e⟩ := fe_n e
    obtain ⟨e1, e⟩ := fe_n e
    obtain ⟨e2, e3⟩ := fe_n e
    obtain rfl := fe_e e0
    obtain rfl := of_decide_eq_true e3
    exact fe_dec (fe_i17 h0 (h1 (fe_l e1)) (h2 (fe_l e1) (fe_l e2)))
  case goto k =>
    obtain ⟨e, rfl⟩ := fe_y h hn
    obtain ⟨e0, e⟩ := fe_n e
    obtain ⟨e1, e⟩ := fe_n e
    obtain ⟨e2, e3⟩ := fe_n e
    obtain rfl := fe_e e0
    obtain rfl := of_decide_eq_true e3
    exact fe_dec (fe_i167 h0 (h1 (fe_l e1)) (h2 (fe_l e1) (fe_l e2)))
  case ifnull k =>
    obtain ⟨e, rfl⟩ := fe_y h hn
    obtain ⟨e0, e⟩ := fe_n e
    obtain ⟨e1, e⟩ := fe_n e
    obtain ⟨e2, e3⟩ := fe_n e
    obtain rfl := fe_e e0
    obtain rfl := of_decide_eq_true e3
    exact fe_dec (fe_i198 h0 (h1 (fe_l e1)) (h2 (fe_l e1) (fe_l e2)))
  case ifnonnull k =>
    obtain ⟨e, rfl⟩ := fe_y h hn
    obtain ⟨e0, e⟩ := fe_n e
    obtain ⟨e1, e⟩ := fe_n e
    obtain ⟨e2, e3⟩ := fe_n e
    obtain rfl := fe_e e0
    obtain rfl := of_decide_eq_true e3
    exact fe_dec (fe_i199 h0 (h1 (fe_l e1)) (h2 (fe_l e1) (fe_l e2)))
  case getfield k =>
    obtain ⟨e, rfl⟩ := fe_y h hn
    obtain ⟨e0, e⟩ := fe_n e
    obtain ⟨e1, e⟩ := fe_n e
    obtain ⟨e2, e3⟩ := fe_n e
    obtain rfl := fe_e e0
    obtain rfl := fe_e e3
    exact fe_dec (fe_i180 h0 (h1 (fe_l e1)) (h2 (fe_l e1) (fe_l e2)))
  case putfield k =>
    obtain ⟨e, rfl⟩ := fe_y h hn
    obtain ⟨e0, e⟩ := fe_n e
    obtain ⟨e1, e⟩ := fe_n e
    obtain ⟨e2, e3⟩ := fe_n e
    obtain rfl := fe_e e0
    obtain rfl := fe_e e3
    exact fe_dec (fe_i181 h0 (h1 (fe_l e1)) (h2 (fe_l e1) (fe_l e2)))
  case invokevirtual k =>
    obtain ⟨e, rfl⟩ := fe_y h hn
    obtain ⟨e0, e⟩ := fe_n e
    obtain ⟨e1, e⟩ := fe_n e
    obtain ⟨e2, e3⟩ := fe_n e
    obtain rfl := fe_e e0
    obtain rfl := fe_e e3
    exact fe_dec (fe_i182 h0 (h1 (fe_l e1)) (h2 (fe_l e1) (fe_l e2)))
  case invokespecial k =>
    obtain ⟨e, rfl⟩ := fe_y h hn
    obtain ⟨e0, e⟩ := fe_n e
    obtain ⟨e1, e⟩ := fe_n e
    obtain ⟨e2, e3⟩ := fe_n e
    obtain rfl := fe_e e0
    obtain rfl := fe_e e3
    exact fe_dec (fe_i183 h0 (h1 (fe_l e1)) (h2 (fe_l e1) (fe_l e2)))
  case invokestatic k =>
    obtain ⟨e, rfl⟩ := fe_y h hn
    obtain ⟨e0, e⟩ := fe_n e
    obtain ⟨e1, e⟩ := fe_n e
    obtain ⟨e2, e3⟩ := fe_n e
    obtain rfl := fe_e e0
    obtain rfl := fe_e e3
    exact fe_dec (fe_i184 h0 (h1 (fe_l e1)) (h2 (fe_l e1) (fe_l e2)))
  case new k =>
    obtain ⟨e, rfl⟩ := fe_y h hn
    obtain ⟨e0, e⟩ := fe_n e
    obtain ⟨e1, e⟩ := fe_n e
    obtain ⟨e2, e3⟩ := fe_n e
    obtain rfl := fe_e e0
    obtain rfl := fe_e e3
    exact fe_dec (fe_i187 h0 (h1 (fe_l e1)) (h2 (fe_l e1) (fe_l e2)))
  case anewarray k =>
    obtain ⟨e, rfl⟩ := fe_y h hn
    obtain ⟨e0, e⟩ := fe_n e
    obtain ⟨e1, e⟩ := fe_n e
    obtain ⟨e2, e3⟩ := fe_n e
    obtain rfl := fe_e e0
    obtain rfl := fe_e e3
    exact fe_dec (fe_i189 h0 (h1 (fe_l e1)) (h2 (fe_l e1) (fe_l e2)))
  case ldc_w k =>
    obtain ⟨e, rfl⟩ := fe_y h hn
    obtain ⟨e0, e⟩ := fe_n e
    obtain ⟨e1, e⟩ := fe_n e
    obtain ⟨e2, e3⟩ := fe_n e
    obtain rfl := fe_e e0
    obtain rfl := fe_e e3
    exact fe_dec (fe_i19 h0 (h1 (fe_l e1)) (h2 (fe_l e1) (fe_l e2)))
  case ldc2_w k =>
    obtain ⟨e, rfl⟩ := fe_y h hn
    obtain ⟨e0, e⟩ := fe_n e
    obtain ⟨e1, e⟩ := fe_n e
    obtain ⟨e2, e3⟩ := fe_n e
    obtain rfl := fe_e e0
    obtain rfl := fe_e e3
    exact fe_dec (fe_i20 h0 (h1 (fe_l e1)) (h2 (fe_l e1) (fe_l e2)))
  case ifCond q k =>
    obtain ⟨e, rfl⟩ := fe_y h hn
    obtain ⟨e0, e⟩ := fe_n e
    obtain ⟨e1, e⟩ := fe_n e
    obtain ⟨e2, e3⟩ := fe_n e
    obtain rfl := fe_e e0
    obtain rfl := of_decide_eq_true e3
    cases q
    · exact fe_dec (fe_i153 h0 (h1 (fe_l e1)) (h2 (fe_l e1) (fe_l e2)))
    · exact fe_dec (fe_i154 h0 (h1 (fe_l e1)) (h2 (fe_l e1) (fe_l e2)))
    · exact fe_dec (fe_i155 h0 (h1 (fe_l e1)) (h2 (fe_l e1) (fe_l e2)))
    · exact fe_dec (fe_i156 h0 (h1 (fe_l e1)) (h2 (fe_l e1) (fe_l e2)))
    · exact fe_dec (fe_i157 h0 (h1 (fe_l e1)) (h2 (fe_l e1) (fe_l e2)))
    · exact fe_dec (fe_i158 h0 (h1 (fe_l e1)) (h2 (fe_l e1) (fe_l e2)))
  case if_icmp q k =>
    obtain ⟨e, rfl⟩ := fe_y h hn
    obtain ⟨e0, e⟩ := fe_n e
    obtain ⟨e1, e⟩ := fe_n e
    obtain ⟨e2, e3⟩ := fe_n e
    obtain rfl := fe_e e0
    obtain rfl := of_decide_eq_true e3
    cases q
    · exact fe_dec (fe_i159 h0 (h1 (fe_l e1)) (h2 (fe_l e1) (fe_l e2)))
    · exact fe_dec (fe_i160 h0 (h1 (fe_l e1)) (h2 (fe_l e1) (fe_l e2)))
    · exact fe_dec (fe_i161 h0 (h1 (fe_l e1)) (h2 (fe_l e1) (fe_l e2)))
    · exact fe_dec (fe_i162 h0 (h1 (fe_l e1)) (h2 (fe_l e1) (fe_l e2)))
    · exact fe_dec (fe_i163 h0 (h1 (fe_l e1)) (h2 (fe_l e1) (fe_l e2)))
    · exact fe_dec (fe_i164 h0 (h1 (fe_l e1)) (h2 (fe_l e1) (fe_l e2)))
  case iinc m k =>
    obtain ⟨e, rfl⟩ := fe_y h hn
    obtain ⟨e0, e⟩ := fe_n e
    obtain ⟨e1, e⟩ := fe_n e
    obtain ⟨e2, e3⟩ := fe_n e
    obtain ⟨e3, e4⟩ := fe_n e3
    obtain rfl := fe_e e0
    obtain rfl := fe_e e3
    obtain rfl := of_decide_eq_true e4
    exact fe_dec (fe_i132 h0 (h1 (fe_l e1)) (h2 (fe_l e1) (fe_l e2)))
  case newarray t =>
    obtain ⟨e, rfl⟩ := fe_y h hn
    obtain ⟨e0, e⟩ := fe_n e
    obtain ⟨e1, e2⟩ := fe_n e
    obtain rfl := fe_e e0
    obtain rfl := fe_e e2
    cases t
    · exact fe_dec (fe_i188_4 h0 (h1 (fe_l e1)))
    · exact fe_dec (fe_i188_5 h0 (h1 (fe_l e1)))
    · exact fe_dec (fe_i188_6 h0 (h1 (fe_l e1)))
    · exact fe_dec (fe_i188_7 h0 (h1 (fe_l e1)))
    · exact fe_dec (fe_i188_8 h0 (h1 (fe_l e1)))
    · exact fe_dec (fe_i188_9 h0 (h1 (fe_l e1)))
    · exact fe_dec (fe_i188_10 h0 (h1 (fe_l e1)))
    · exact fe_dec (fe_i188_11 h0 (h1 (fe_l e1)))
  all_goals
    subst h
    exact absurd hn (Nat.lt_irrefl 0)
end FE
/-- the bytes of a list, one after another -/
noncomputable def fe_h : List UInt8 → Nat
  | [] => 256
  | x :: _ => x.toNat
noncomputable def fe_1 (P : Nat → ri_J → Bool) (c : ByteArray) (j : ri_J) (pc a : Nat) (l : List UInt8) : Bool := ((Nat.beq (fe j.1 a (fe_h l) (fe_h l.tail)) (ri_ln j.1 j.2.1) && Nat.blt 0 (ri_ln j.1 j.2.1)) || decide (decode c pc = .ok (j.1, ri_ln j.1 j.2.1))) && P pc j
noncomputable def fe_go (P : Nat → ri_J → Bool) (k : Nat → Option ri_J) (c : ByteArray) (m : Nat) (l : List UInt8) : Nat → Bool := List.rec (motive := fun _ => Nat → Bool) (fun pc => Nat.ble m pc) (fun x l ih pc => (match k pc with
  | some j => fe_1 P c j pc x.toNat l
  | none => true) && ih (pc + 1)) l
theorem fe_u1 {L l : List UInt8} {x : UInt8} {pc : Nat} (h : L.drop pc = x :: l) : fe_U ⟨⟨L⟩⟩ pc x.toNat := by
  have hl : pc < L.length := by
    have := congrArg List.length h
    rw [List.length_drop, List.length_cons] at this
    omega
  rw [List.drop_eq_getElem_cons hl] at h
  have hx : L[pc] = x := (List.cons.inj h).1
  show (Jvm.ClassFile.Reader.u1 : Jvm.ClassFile.Decoder Nat) ⟨⟨L⟩⟩ pc = .ok (x.toNat, pc + 1)
  unfold Jvm.ClassFile.Reader.u1
  show (dite (pc < L.length) _ _ : Jvm.ClassFile.Decoder Nat) ⟨⟨L⟩⟩ pc = _
  rw [dif_pos hl]
  show Except.ok (L[pc].toNat, pc + 1) = _
  rw [hx]
theorem fe_dt {L l : List UInt8} {pc : Nat} (h : L.drop pc = l) : L.drop (pc + 1) = l.tail := by
  rw [← List.drop_drop, h]
  exact List.drop_one
theorem fe_h1 {L l : List UInt8} {pc : Nat} (h : L.drop pc = l) (hb : fe_h l < 256) : fe_U ⟨⟨L⟩⟩ pc (fe_h l) := by
  cases l with
  | nil => exact absurd hb (Nat.lt_irrefl 256)
  | cons x l => exact fe_u1 h
theorem fe_go_ok {P : Nat → ri_J → Bool} {k : Nat → Option ri_J} {m : Nat} {L : List UInt8} : ∀ (l : List UInt8) (pc : Nat), L.drop pc = l → fe_go P k ⟨⟨L⟩⟩ m l pc = true → ∀ p, pc ≤ p → p < m → ∀ j, k p = some j → decode ⟨⟨L⟩⟩ p = .ok (j.1, ri_ln j.1 j.2.1) ∧ P p j = true := by
  intro l
  induction l with
  | nil =>
    intro pc _ h p h1 h2
    have h : Nat.ble m pc = true := h
    have := Nat.le_of_ble_eq_true h
    omega
  | cons x l ih =>
    intro pc hd h p h1 h2 j hj
    have h : ((match k pc with
      | some j => fe_1 P ⟨⟨L⟩⟩ j pc x.toNat l
      | none => true) && fe_go P k ⟨⟨L⟩⟩ m l (pc + 1)) = true := h
    rw [Bool.and_eq_true] at h
    have hd1 : L.drop (pc + 1) = l := fe_dt hd
    have hd2 : L.drop (pc + 2) = l.tail := fe_dt hd1
    by_cases e : p = pc
    · subst e
      have g := h.1
      rw [hj] at g
      have g : fe_1 P ⟨⟨L⟩⟩ j p x.toNat l = true := g
      unfold fe_1 at g
      rw [Bool.and_eq_true, Bool.or_eq_true] at g
      refine ⟨?_, g.2⟩
      rcases g.1 with g1 | g1
      · rw [Bool.and_eq_true] at g1
        exact fe_ok (Nat.eq_of_beq_eq_true g1.1) (Nat.le_of_ble_eq_true g1.2) (fe_u1 hd) (fun hb => fe_h1 hd1 hb) (fun _ hb => fe_h1 hd2 hb)
      · exact of_decide_eq_true g1
    · exact ih (pc + 1) hd1 h.2 p (by omega) h2 j hj
theorem fe_all {P : Nat → ri_J → Bool} {k : Nat → Option ri_J} {m : Nat} {c : ByteArray} (h : fe_go P k c m c.data.toList 0 = true) : ∀ p, p < m → ∀ j, k p = some j → decode c p = .ok (j.1, ri_ln j.1 j.2.1) ∧ P p j = true := by
  obtain ⟨⟨L⟩⟩ := c
  exact fun p hp => fe_go_ok L 0 rfl h p (Nat.zero_le p) hp
