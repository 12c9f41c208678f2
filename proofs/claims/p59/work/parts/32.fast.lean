/-! ===== printed by wip/gen/fastdec.py: decode, by the bytes in their order ===== -/
def pw_okq (b : ByteArray) (q : Nat × Instr) : Bool := match decode b q.1 with
  | .ok (i, n) => decide (i = q.2) && (Nat.beq (am_ln i) 0 || Nat.beq n (am_ln i))
  | .error _ => false
def fd_at (b : ByteArray) (p x : Nat) : Prop := ∃ h : p < b.size, (b[p]).toNat = x
section FD
variable {b : ByteArray} {p x y z n : Nat} {i : Instr} {l : List UInt8}
theorem fd_u1 (h : fd_at b p x) : (Reader.u1 : Decoder Nat) b p = Except.ok (x, p + 1) := by
  obtain ⟨h, e⟩ := h
  subst e
  show (dite (p < b.size) _ _ : Decoder Nat) b p = _
  rw [dif_pos h]
  rfl
theorem fd_u2 (h : fd_at b p x) (h2 : fd_at b (p + 1) y) : (Reader.u2 : Decoder Nat) b p = Except.ok (x * 256 + y, p + 2) := by
  show Except.bind ((Reader.u1 : Decoder Nat) b p) _ = _
  rw [fd_u1 h]
  show Except.bind ((Reader.u1 : Decoder Nat) b (p + 1)) _ = _
  rw [fd_u1 h2]
  rfl
theorem fd_s1 (h : fd_at b p x) : (Reader.s1 : Decoder Int) b p = Except.ok (Reader.signed 8 x, p + 1) := by
  show Except.bind ((Reader.u1 : Decoder Nat) b p) _ = _
  rw [fd_u1 h]
  rfl
theorem fd_s2 (h : fd_at b p x) (h2 : fd_at b (p + 1) y) : (Reader.s2 : Decoder Int) b p = Except.ok (Reader.signed 16 (x * 256 + y), p + 2) := by
  show Except.bind ((Reader.u2 : Decoder Nat) b p) _ = _
  rw [fd_u2 h h2]
  rfl
theorem fd_dec (h : (Decoder.instr p) b p = Except.ok (i, p + n)) : decode b p = .ok (i, n) := by
  show Except.bind ((Decoder.instr p) b p) _ = _
  rw [h]
  show Except.ok (i, p + n - p) = _
  rw [Nat.add_sub_cancel_left]
theorem fd_ok (h : decode b p = .ok (i, n)) (hn : (Nat.beq (am_ln i) 0 || Nat.beq n (am_ln i)) = true) : pw_okq b (p, i) = true := by
  show (match decode b p with | .ok (i', n) => decide (i' = i) && (Nat.beq (am_ln i') 0 || Nat.beq n (am_ln i')) | .error _ => false) = true
  rw [h]
  show (decide (i = i) && _) = true
  rw [decide_eq_true rfl, hn]
  rfl
theorem fd_o2 (h : fd_at b p 2) : (Decoder.instr p) b p = Except.ok ((.iconst (-1) : Instr), p + 1) := by
  show Except.bind ((Reader.u1 : Decoder Nat) b p) _ = _
  rw [fd_u1 h]
  rfl
theorem fd_o3 (h : fd_at b p 3) : (Decoder.instr p) b p = Except.ok ((.iconst (0) : Instr), p + 1) := by
  show Except.bind ((Reader.u1 : Decoder Nat) b p) _ = _
  rw [fd_u1 h]
  rfl
theorem fd_o4 (h : fd_at b p 4) : (Decoder.instr p) b p = Except.ok ((.iconst (1) : Instr), p + 1) := by
  show Except.bind ((Reader.u1 : Decoder Nat) b p) _ = _
  rw [fd_u1 h]
  rfl
theorem fd_o5 (h : fd_at b p 5) : (Decoder.instr p) b p = Except.ok ((.iconst (2) : Instr), p + 1) := by
  show Except.bind ((Reader.u1 : Decoder Nat) b p) _ = _
  rw [fd_u1 h]
  rfl
theorem fd_o6 (h : fd_at b p 6) : (Decoder.instr p) b p = Except.ok ((.iconst (3) : Instr), p + 1) := by
  show Except.bind ((Reader.u1 : Decoder Nat) b p) _ = _
  rw [fd_u1 h]
  rfl
theorem fd_o7 (h : fd_at b p 7) : (Decoder.instr p) b p = Except.ok ((.iconst (4) : Instr), p + 1) := by
  show Except.bind ((Reader.u1 : Decoder Nat) b p) _ = _
  rw [fd_u1 h]
  rfl
theorem fd_o8 (h : fd_at b p 8) : (Decoder.instr p) b p = Except.ok ((.iconst (5) : Instr), p + 1) := by
  show Except.bind ((Reader.u1 : Decoder Nat) b p) _ = _
  rw [fd_u1 h]
  rfl
theorem fd_o42 (h : fd_at b p 42) : (Decoder.instr p) b p = Except.ok ((.aload_n 0 : Instr), p + 1) := by
  show Except.bind ((Reader.u1 : Decoder Nat) b p) _ = _
  rw [fd_u1 h]
  rfl
theorem fd_o43 (h : fd_at b p 43) : (Decoder.instr p) b p = Except.ok ((.aload_n 1 : Instr), p + 1) := by
  show Except.bind ((Reader.u1 : Decoder Nat) b p) _ = _
  rw [fd_u1 h]
  rfl
theorem fd_o44 (h : fd_at b p 44) : (Decoder.instr p) b p = Except.ok ((.aload_n 2 : Instr), p + 1) := by
  show Except.bind ((Reader.u1 : Decoder Nat) b p) _ = _
  rw [fd_u1 h]
  rfl
theorem fd_o45 (h : fd_at b p 45) : (Decoder.instr p) b p = Except.ok ((.aload_n 3 : Instr), p + 1) := by
  show Except.bind ((Reader.u1 : Decoder Nat) b p) _ = _
  rw [fd_u1 h]
  rfl
theorem fd_o26 (h : fd_at b p 26) : (Decoder.instr p) b p = Except.ok ((.iload_n 0 : Instr), p + 1) := by
  show Except.bind ((Reader.u1 : Decoder Nat) b p) _ = _
  rw [fd_u1 h]
  rfl
theorem fd_o27 (h : fd_at b p 27) : (Decoder.instr p) b p = Except.ok ((.iload_n 1 : Instr), p + 1) := by
  show Except.bind ((Reader.u1 : Decoder Nat) b p) _ = _
  rw [fd_u1 h]
  rfl
theorem fd_o28 (h : fd_at b p 28) : (Decoder.instr p) b p = Except.ok ((.iload_n 2 : Instr), p + 1) := by
  show Except.bind ((Reader.u1 : Decoder Nat) b p) _ = _
  rw [fd_u1 h]
  rfl
theorem fd_o29 (h : fd_at b p 29) : (Decoder.instr p) b p = Except.ok ((.iload_n 3 : Instr), p + 1) := by
  show Except.bind ((Reader.u1 : Decoder Nat) b p) _ = _
  rw [fd_u1 h]
  rfl
theorem fd_o59 (h : fd_at b p 59) : (Decoder.instr p) b p = Except.ok ((.istore_n 0 : Instr), p + 1) := by
  show Except.bind ((Reader.u1 : Decoder Nat) b p) _ = _
  rw [fd_u1 h]
  rfl
theorem fd_o60 (h : fd_at b p 60) : (Decoder.instr p) b p = Except.ok ((.istore_n 1 : Instr), p + 1) := by
  show Except.bind ((Reader.u1 : Decoder Nat) b p) _ = _
  rw [fd_u1 h]
  rfl
theorem fd_o61 (h : fd_at b p 61) : (Decoder.instr p) b p = Except.ok ((.istore_n 2 : Instr), p + 1) := by
  show Except.bind ((Reader.u1 : Decoder Nat) b p) _ = _
  rw [fd_u1 h]
  rfl
theorem fd_o62 (h : fd_at b p 62) : (Decoder.instr p) b p = Except.ok ((.istore_n 3 : Instr), p + 1) := by
  show Except.bind ((Reader.u1 : Decoder Nat) b p) _ = _
  rw [fd_u1 h]
  rfl
theorem fd_o30 (h : fd_at b p 30) : (Decoder.instr p) b p = Except.ok ((.lload_n 0 : Instr), p + 1) := by
  show Except.bind ((Reader.u1 : Decoder Nat) b p) _ = _
  rw [fd_u1 h]
  rfl
theorem fd_o31 (h : fd_at b p 31) : (Decoder.instr p) b p = Except.ok ((.lload_n 1 : Instr), p + 1) := by
  show Except.bind ((Reader.u1 : Decoder Nat) b p) _ = _
  rw [fd_u1 h]
  rfl
theorem fd_o32 (h : fd_at b p 32) : (Decoder.instr p) b p = Except.ok ((.lload_n 2 : Instr), p + 1) := by
  show Except.bind ((Reader.u1 : Decoder Nat) b p) _ = _
  rw [fd_u1 h]
  rfl
theorem fd_o33 (h : fd_at b p 33) : (Decoder.instr p) b p = Except.ok ((.lload_n 3 : Instr), p + 1) := by
  show Except.bind ((Reader.u1 : Decoder Nat) b p) _ = _
  rw [fd_u1 h]
  rfl
theorem fd_o75 (h : fd_at b p 75) : (Decoder.instr p) b p = Except.ok ((.astore_n 0 : Instr), p + 1) := by
  show Except.bind ((Reader.u1 : Decoder Nat) b p) _ = _
  rw [fd_u1 h]
  rfl
theorem fd_o76 (h : fd_at b p 76) : (Decoder.instr p) b p = Except.ok ((.astore_n 1 : Instr), p + 1) := by
  show Except.bind ((Reader.u1 : Decoder Nat) b p) _ = _
  rw [fd_u1 h]
  rfl
theorem fd_o77 (h : fd_at b p 77) : (Decoder.instr p) b p = Except.ok ((.astore_n 2 : Instr), p + 1) := by
  show Except.bind ((Reader.u1 : Decoder Nat) b p) _ = _
  rw [fd_u1 h]
  rfl
theorem fd_o78 (h : fd_at b p 78) : (Decoder.instr p) b p = Except.ok ((.astore_n 3 : Instr), p + 1) := by
  show Except.bind ((Reader.u1 : Decoder Nat) b p) _ = _
  rw [fd_u1 h]
  rfl
theorem fd_o63 (h : fd_at b p 63) : (Decoder.instr p) b p = Except.ok ((.lstore_n 0 : Instr), p + 1) := by
  show Except.bind ((Reader.u1 : Decoder Nat) b p) _ = _
  rw [fd_u1 h]
  rfl
theorem fd_o64 (h : fd_at b p 64) : (Decoder.instr p) b p = Except.ok ((.lstore_n 1 : Instr), p + 1) := by
  show Except.bind ((Reader.u1 : Decoder Nat) b p) _ = _
  rw [fd_u1 h]
  rfl
theorem fd_o65 (h : fd_at b p 65) : (Decoder.instr p) b p = Except.ok ((.lstore_n 2 : Instr), p + 1) := by
  show Except.bind ((Reader.u1 : Decoder Nat) b p) _ = _
  rw [fd_u1 h]
  rfl
theorem fd_o66 (h : fd_at b p 66) : (Decoder.instr p) b p = Except.ok ((.lstore_n 3 : Instr), p + 1) := by
  show Except.bind ((Reader.u1 : Decoder Nat) b p) _ = _
  rw [fd_u1 h]
  rfl
theorem fd_o46 (h : fd_at b p 46) : (Decoder.instr p) b p = Except.ok ((.iaload : Instr), p + 1) := by
  show Except.bind ((Reader.u1 : Decoder Nat) b p) _ = _
  rw [fd_u1 h]
  rfl
theorem fd_o172 (h : fd_at b p 172) : (Decoder.instr p) b p = Except.ok ((.ireturn : Instr), p + 1) := by
  show Except.bind ((Reader.u1 : Decoder Nat) b p) _ = _
  rw [fd_u1 h]
  rfl
theorem fd_o96 (h : fd_at b p 96) : (Decoder.instr p) b p = Except.ok ((.iadd : Instr), p + 1) := by
  show Except.bind ((Reader.u1 : Decoder Nat) b p) _ = _
  rw [fd_u1 h]
  rfl
theorem fd_o100 (h : fd_at b p 100) : (Decoder.instr p) b p = Except.ok ((.isub : Instr), p + 1) := by
  show Except.bind ((Reader.u1 : Decoder Nat) b p) _ = _
  rw [fd_u1 h]
  rfl
theorem fd_o104 (h : fd_at b p 104) : (Decoder.instr p) b p = Except.ok ((.imul : Instr), p + 1) := by
  show Except.bind ((Reader.u1 : Decoder Nat) b p) _ = _
  rw [fd_u1 h]
  rfl
theorem fd_o108 (h : fd_at b p 108) : (Decoder.instr p) b p = Except.ok ((.idiv : Instr), p + 1) := by
  show Except.bind ((Reader.u1 : Decoder Nat) b p) _ = _
  rw [fd_u1 h]
  rfl
theorem fd_o79 (h : fd_at b p 79) : (Decoder.instr p) b p = Except.ok ((.iastore : Instr), p + 1) := by
  show Except.bind ((Reader.u1 : Decoder Nat) b p) _ = _
  rw [fd_u1 h]
  rfl
theorem fd_o89 (h : fd_at b p 89) : (Decoder.instr p) b p = Except.ok ((.dup : Instr), p + 1) := by
  show Except.bind ((Reader.u1 : Decoder Nat) b p) _ = _
  rw [fd_u1 h]
  rfl
theorem fd_o87 (h : fd_at b p 87) : (Decoder.instr p) b p = Except.ok ((.pop : Instr), p + 1) := by
  show Except.bind ((Reader.u1 : Decoder Nat) b p) _ = _
  rw [fd_u1 h]
  rfl
theorem fd_o177 (h : fd_at b p 177) : (Decoder.instr p) b p = Except.ok ((.return_ : Instr), p + 1) := by
  show Except.bind ((Reader.u1 : Decoder Nat) b p) _ = _
  rw [fd_u1 h]
  rfl
theorem fd_o50 (h : fd_at b p 50) : (Decoder.instr p) b p = Except.ok ((.aaload : Instr), p + 1) := by
  show Except.bind ((Reader.u1 : Decoder Nat) b p) _ = _
  rw [fd_u1 h]
  rfl
theorem fd_o128 (h : fd_at b p 128) : (Decoder.instr p) b p = Except.ok ((.ior : Instr), p + 1) := by
  show Except.bind ((Reader.u1 : Decoder Nat) b p) _ = _
  rw [fd_u1 h]
  rfl
theorem fd_o126 (h : fd_at b p 126) : (Decoder.instr p) b p = Except.ok ((.iand : Instr), p + 1) := by
  show Except.bind ((Reader.u1 : Decoder Nat) b p) _ = _
  rw [fd_u1 h]
  rfl
theorem fd_o133 (h : fd_at b p 133) : (Decoder.instr p) b p = Except.ok ((.i2l : Instr), p + 1) := by
  show Except.bind ((Reader.u1 : Decoder Nat) b p) _ = _
  rw [fd_u1 h]
  rfl
theorem fd_o92 (h : fd_at b p 92) : (Decoder.instr p) b p = Except.ok ((.dup2 : Instr), p + 1) := by
  show Except.bind ((Reader.u1 : Decoder Nat) b p) _ = _
  rw [fd_u1 h]
  rfl
theorem fd_o116 (h : fd_at b p 116) : (Decoder.instr p) b p = Except.ok ((.ineg : Instr), p + 1) := by
  show Except.bind ((Reader.u1 : Decoder Nat) b p) _ = _
  rw [fd_u1 h]
  rfl
theorem fd_o190 (h : fd_at b p 190) : (Decoder.instr p) b p = Except.ok ((.arraylength : Instr), p + 1) := by
  show Except.bind ((Reader.u1 : Decoder Nat) b p) _ = _
  rw [fd_u1 h]
  rfl
theorem fd_o21 (h : fd_at b p 21) (h1 : fd_at b (p + 1) y) : (Decoder.instr p) b p = Except.ok (Instr.iload y, p + 2) := by
  show Except.bind ((Reader.u1 : Decoder Nat) b p) _ = _
  rw [fd_u1 h]
  show Except.bind ((Reader.u1 : Decoder Nat) b (p + 1)) _ = _
  rw [fd_u1 h1]
  rfl
theorem fd_o54 (h : fd_at b p 54) (h1 : fd_at b (p + 1) y) : (Decoder.instr p) b p = Except.ok (Instr.istore y, p + 2) := by
  show Except.bind ((Reader.u1 : Decoder Nat) b p) _ = _
  rw [fd_u1 h]
  show Except.bind ((Reader.u1 : Decoder Nat) b (p + 1)) _ = _
  rw [fd_u1 h1]
  rfl
theorem fd_o18 (h : fd_at b p 18) (h1 : fd_at b (p + 1) y) : (Decoder.instr p) b p = Except.ok (Instr.ldc y, p + 2) := by
  show Except.bind ((Reader.u1 : Decoder Nat) b p) _ = _
  rw [fd_u1 h]
  show Except.bind ((Reader.u1 : Decoder Nat) b (p + 1)) _ = _
  rw [fd_u1 h1]
  rfl
theorem fd_o25 (h : fd_at b p 25) (h1 : fd_at b (p + 1) y) : (Decoder.instr p) b p = Except.ok (Instr.aload y, p + 2) := by
  show Except.bind ((Reader.u1 : Decoder Nat) b p) _ = _
  rw [fd_u1 h]
  show Except.bind ((Reader.u1 : Decoder Nat) b (p + 1)) _ = _
  rw [fd_u1 h1]
  rfl
theorem fd_o22 (h : fd_at b p 22) (h1 : fd_at b (p + 1) y) : (Decoder.instr p) b p = Except.ok (Instr.lload y, p + 2) := by
  show Except.bind ((Reader.u1 : Decoder Nat) b p) _ = _
  rw [fd_u1 h]
  show Except.bind ((Reader.u1 : Decoder Nat) b (p + 1)) _ = _
  rw [fd_u1 h1]
  rfl
theorem fd_o55 (h : fd_at b p 55) (h1 : fd_at b (p + 1) y) : (Decoder.instr p) b p = Except.ok (Instr.lstore y, p + 2) := by
  show Except.bind ((Reader.u1 : Decoder Nat) b p) _ = _
  rw [fd_u1 h]
  show Except.bind ((Reader.u1 : Decoder Nat) b (p + 1)) _ = _
  rw [fd_u1 h1]
  rfl
theorem fd_o16 (h : fd_at b p 16) (h1 : fd_at b (p + 1) y) : (Decoder.instr p) b p = Except.ok (Instr.bipush (Reader.signed 8 y), p + 2) := by
  show Except.bind ((Reader.u1 : Decoder Nat) b p) _ = _
  rw [fd_u1 h]
  show Except.bind ((Reader.s1 : Decoder Int) b (p + 1)) _ = _
  rw [fd_s1 h1]
  rfl
theorem fd_o132 (h : fd_at b p 132) (h1 : fd_at b (p + 1) y) (h2 : fd_at b (p + 2) z) : (Decoder.instr p) b p = Except.ok (Instr.iinc y (Reader.signed 8 z), p + 3) := by
  show Except.bind ((Reader.u1 : Decoder Nat) b p) _ = _
  rw [fd_u1 h]
  show Except.bind ((Reader.u1 : Decoder Nat) b (p + 1)) _ = _
  rw [fd_u1 h1]
  show Except.bind ((Reader.s1 : Decoder Int) b (p + 1 + 1)) _ = _
  rw [fd_s1 h2]
  rfl
theorem fd_o17 (h : fd_at b p 17) (h1 : fd_at b (p + 1) y) (h2 : fd_at b (p + 2) z) : (Decoder.instr p) b p = Except.ok (Instr.sipush (Reader.signed 16 (y * 256 + z)), p + 3) := by
  show Except.bind ((Reader.u1 : Decoder Nat) b p) _ = _
  rw [fd_u1 h]
  show Except.bind ((Reader.s2 : Decoder Int) b (p + 1)) _ = _
  rw [fd_s2 h1 h2]
  rfl
theorem fd_o167 (h : fd_at b p 167) (h1 : fd_at b (p + 1) y) (h2 : fd_at b (p + 2) z) : (Decoder.instr p) b p = Except.ok (Instr.goto (Reader.signed 16 (y * 256 + z)), p + 3) := by
  show Except.bind ((Reader.u1 : Decoder Nat) b p) _ = _
  rw [fd_u1 h]
  show Except.bind ((Reader.s2 : Decoder Int) b (p + 1)) _ = _
  rw [fd_s2 h1 h2]
  rfl
theorem fd_o153 (h : fd_at b p 153) (h1 : fd_at b (p + 1) y) (h2 : fd_at b (p + 2) z) : (Decoder.instr p) b p = Except.ok (Instr.ifCond .eq (Reader.signed 16 (y * 256 + z)), p + 3) := by
  show Except.bind ((Reader.u1 : Decoder Nat) b p) _ = _
  rw [fd_u1 h]
  show Except.bind ((Reader.s2 : Decoder Int) b (p + 1)) _ = _
  rw [fd_s2 h1 h2]
  rfl
theorem fd_o154 (h : fd_at b p 154) (h1 : fd_at b (p + 1) y) (h2 : fd_at b (p + 2) z) : (Decoder.instr p) b p = Except.ok (Instr.ifCond .ne (Reader.signed 16 (y * 256 + z)), p + 3) := by
  show Except.bind ((Reader.u1 : Decoder Nat) b p) _ = _
  rw [fd_u1 h]
  show Except.bind ((Reader.s2 : Decoder Int) b (p + 1)) _ = _
  rw [fd_s2 h1 h2]
  rfl
theorem fd_o155 (h : fd_at b p 155) (h1 : fd_at b (p + 1) y) (h2 : fd_at b (p + 2) z) : (Decoder.instr p) b p = Except.ok (Instr.ifCond .lt (Reader.signed 16 (y * 256 + z)), p + 3) := by
  show Except.bind ((Reader.u1 : Decoder Nat) b p) _ = _
  rw [fd_u1 h]
  show Except.bind ((Reader.s2 : Decoder Int) b (p + 1)) _ = _
  rw [fd_s2 h1 h2]
  rfl
theorem fd_o156 (h : fd_at b p 156) (h1 : fd_at b (p + 1) y) (h2 : fd_at b (p + 2) z) : (Decoder.instr p) b p = Except.ok (Instr.ifCond .ge (Reader.signed 16 (y * 256 + z)), p + 3) := by
  show Except.bind ((Reader.u1 : Decoder Nat) b p) _ = _
  rw [fd_u1 h]
  show Except.bind ((Reader.s2 : Decoder Int) b (p + 1)) _ = _
  rw [fd_s2 h1 h2]
  rfl
theorem fd_o157 (h : fd_at b p 157) (h1 : fd_at b (p + 1) y) (h2 : fd_at b (p + 2) z) : (Decoder.instr p) b p = Except.ok (Instr.ifCond .gt (Reader.signed 16 (y * 256 + z)), p + 3) := by
  show Except.bind ((Reader.u1 : Decoder Nat) b p) _ = _
  rw [fd_u1 h]
  show Except.bind ((Reader.s2 : Decoder Int) b (p + 1)) _ = _
  rw [fd_s2 h1 h2]
  rfl
theorem fd_o158 (h : fd_at b p 158) (h1 : fd_at b (p + 1) y) (h2 : fd_at b (p + 2) z) : (Decoder.instr p) b p = Except.ok (Instr.ifCond .le (Reader.signed 16 (y * 256 + z)), p + 3) := by
  show Except.bind ((Reader.u1 : Decoder Nat) b p) _ = _
  rw [fd_u1 h]
  show Except.bind ((Reader.s2 : Decoder Int) b (p + 1)) _ = _
  rw [fd_s2 h1 h2]
  rfl
theorem fd_o159 (h : fd_at b p 159) (h1 : fd_at b (p + 1) y) (h2 : fd_at b (p + 2) z) : (Decoder.instr p) b p = Except.ok (Instr.if_icmp .eq (Reader.signed 16 (y * 256 + z)), p + 3) := by
  show Except.bind ((Reader.u1 : Decoder Nat) b p) _ = _
  rw [fd_u1 h]
  show Except.bind ((Reader.s2 : Decoder Int) b (p + 1)) _ = _
  rw [fd_s2 h1 h2]
  rfl
theorem fd_o160 (h : fd_at b p 160) (h1 : fd_at b (p + 1) y) (h2 : fd_at b (p + 2) z) : (Decoder.instr p) b p = Except.ok (Instr.if_icmp .ne (Reader.signed 16 (y * 256 + z)), p + 3) := by
  show Except.bind ((Reader.u1 : Decoder Nat) b p) _ = _
  rw [fd_u1 h]
  show Except.bind ((Reader.s2 : Decoder Int) b (p + 1)) _ = _
  rw [fd_s2 h1 h2]
  rfl
theorem fd_o161 (h : fd_at b p 161) (h1 : fd_at b (p + 1) y) (h2 : fd_at b (p + 2) z) : (Decoder.instr p) b p = Except.ok (Instr.if_icmp .lt (Reader.signed 16 (y * 256 + z)), p + 3) := by
  show Except.bind ((Reader.u1 : Decoder Nat) b p) _ = _
  rw [fd_u1 h]
  show Except.bind ((Reader.s2 : Decoder Int) b (p + 1)) _ = _
  rw [fd_s2 h1 h2]
  rfl
theorem fd_o162 (h : fd_at b p 162) (h1 : fd_at b (p + 1) y) (h2 : fd_at b (p + 2) z) : (Decoder.instr p) b p = Except.ok (Instr.if_icmp .ge (Reader.signed 16 (y * 256 + z)), p + 3) := by
  show Except.bind ((Reader.u1 : Decoder Nat) b p) _ = _
  rw [fd_u1 h]
  show Except.bind ((Reader.s2 : Decoder Int) b (p + 1)) _ = _
  rw [fd_s2 h1 h2]
  rfl
theorem fd_o163 (h : fd_at b p 163) (h1 : fd_at b (p + 1) y) (h2 : fd_at b (p + 2) z) : (Decoder.instr p) b p = Except.ok (Instr.if_icmp .gt (Reader.signed 16 (y * 256 + z)), p + 3) := by
  show Except.bind ((Reader.u1 : Decoder Nat) b p) _ = _
  rw [fd_u1 h]
  show Except.bind ((Reader.s2 : Decoder Int) b (p + 1)) _ = _
  rw [fd_s2 h1 h2]
  rfl
theorem fd_o164 (h : fd_at b p 164) (h1 : fd_at b (p + 1) y) (h2 : fd_at b (p + 2) z) : (Decoder.instr p) b p = Except.ok (Instr.if_icmp .le (Reader.signed 16 (y * 256 + z)), p + 3) := by
  show Except.bind ((Reader.u1 : Decoder Nat) b p) _ = _
  rw [fd_u1 h]
  show Except.bind ((Reader.s2 : Decoder Int) b (p + 1)) _ = _
  rw [fd_s2 h1 h2]
  rfl
theorem fd_o180 (h : fd_at b p 180) (h1 : fd_at b (p + 1) y) (h2 : fd_at b (p + 2) z) : (Decoder.instr p) b p = Except.ok (Instr.getfield (y * 256 + z), p + 3) := by
  show Except.bind ((Reader.u1 : Decoder Nat) b p) _ = _
  rw [fd_u1 h]
  show Except.bind ((Reader.u2 : Decoder Nat) b (p + 1)) _ = _
  rw [fd_u2 h1 h2]
  rfl
theorem fd_o181 (h : fd_at b p 181) (h1 : fd_at b (p + 1) y) (h2 : fd_at b (p + 2) z) : (Decoder.instr p) b p = Except.ok (Instr.putfield (y * 256 + z), p + 3) := by
  show Except.bind ((Reader.u1 : Decoder Nat) b p) _ = _
  rw [fd_u1 h]
  show Except.bind ((Reader.u2 : Decoder Nat) b (p + 1)) _ = _
  rw [fd_u2 h1 h2]
  rfl
theorem fd_o182 (h : fd_at b p 182) (h1 : fd_at b (p + 1) y) (h2 : fd_at b (p + 2) z) : (Decoder.instr p) b p = Except.ok (Instr.invokevirtual (y * 256 + z), p + 3) := by
  show Except.bind ((Reader.u1 : Decoder Nat) b p) _ = _
  rw [fd_u1 h]
  show Except.bind ((Reader.u2 : Decoder Nat) b (p + 1)) _ = _
  rw [fd_u2 h1 h2]
  rfl
theorem fd_o183 (h : fd_at b p 183) (h1 : fd_at b (p + 1) y) (h2 : fd_at b (p + 2) z) : (Decoder.instr p) b p = Except.ok (Instr.invokespecial (y * 256 + z), p + 3) := by
  show Except.bind ((Reader.u1 : Decoder Nat) b p) _ = _
  rw [fd_u1 h]
  show Except.bind ((Reader.u2 : Decoder Nat) b (p + 1)) _ = _
  rw [fd_u2 h1 h2]
  rfl
theorem fd_o184 (h : fd_at b p 184) (h1 : fd_at b (p + 1) y) (h2 : fd_at b (p + 2) z) : (Decoder.instr p) b p = Except.ok (Instr.invokestatic (y * 256 + z), p + 3) := by
  show Except.bind ((Reader.u1 : Decoder Nat) b p) _ = _
  rw [fd_u1 h]
  show Except.bind ((Reader.u2 : Decoder Nat) b (p + 1)) _ = _
  rw [fd_u2 h1 h2]
  rfl
theorem fd_o19 (h : fd_at b p 19) (h1 : fd_at b (p + 1) y) (h2 : fd_at b (p + 2) z) : (Decoder.instr p) b p = Except.ok (Instr.ldc_w (y * 256 + z), p + 3) := by
  show Except.bind ((Reader.u1 : Decoder Nat) b p) _ = _
  rw [fd_u1 h]
  show Except.bind ((Reader.u2 : Decoder Nat) b (p + 1)) _ = _
  rw [fd_u2 h1 h2]
  rfl
theorem fd_o20 (h : fd_at b p 20) (h1 : fd_at b (p + 1) y) (h2 : fd_at b (p + 2) z) : (Decoder.instr p) b p = Except.ok (Instr.ldc2_w (y * 256 + z), p + 3) := by
  show Except.bind ((Reader.u1 : Decoder Nat) b p) _ = _
  rw [fd_u1 h]
  show Except.bind ((Reader.u2 : Decoder Nat) b (p + 1)) _ = _
  rw [fd_u2 h1 h2]
  rfl
theorem fd_o178 (h : fd_at b p 178) (h1 : fd_at b (p + 1) y) (h2 : fd_at b (p + 2) z) : (Decoder.instr p) b p = Except.ok (Instr.getstatic (y * 256 + z), p + 3) := by
  show Except.bind ((Reader.u1 : Decoder Nat) b p) _ = _
  rw [fd_u1 h]
  show Except.bind ((Reader.u2 : Decoder Nat) b (p + 1)) _ = _
  rw [fd_u2 h1 h2]
  rfl
theorem fd_o187 (h : fd_at b p 187) (h1 : fd_at b (p + 1) y) (h2 : fd_at b (p + 2) z) : (Decoder.instr p) b p = Except.ok (Instr.new (y * 256 + z), p + 3) := by
  show Except.bind ((Reader.u1 : Decoder Nat) b p) _ = _
  rw [fd_u1 h]
  show Except.bind ((Reader.u2 : Decoder Nat) b (p + 1)) _ = _
  rw [fd_u2 h1 h2]
  rfl
def fd_1 (l : List UInt8) (op : Nat) : Bool := match l with
  | x :: _ => Nat.beq x.toNat op
  | [] => false
def fd_2 (l : List UInt8) (op : Nat) (k : Nat → Bool) : Bool := match l with
  | x :: y :: _ => Nat.beq x.toNat op && k y.toNat
  | _ => false
def fd_3 (l : List UInt8) (op : Nat) (k : Nat → Nat → Bool) : Bool := match l with
  | x :: y :: z :: _ => Nat.beq x.toNat op && k y.toNat z.toNat
  | _ => false
theorem fd_by {w : UInt8} {k : Nat} (e : (b.data.toList.drop p)[k]? = some w) : fd_at b (p + k) w.toNat := by
  rw [List.getElem?_drop, Array.getElem?_toList, Array.getElem?_eq_some_iff] at e
  obtain ⟨h, rfl⟩ := e
  exact ⟨h, rfl⟩
theorem fd_1k {op : Nat} (h : fd_1 (b.data.toList.drop p) op = true) : fd_at b p op := by
  have e0 : ∀ w, (b.data.toList.drop p)[0]? = some w → fd_at b (p + 0) w.toNat := fun w e => fd_by e
  generalize b.data.toList.drop p = l at h e0
  match l, h with
  | x :: _, h =>
    have e := Nat.eq_of_beq_eq_true h
    subst e
    exact e0 x rfl
theorem fd_2k {op : Nat} {k : Nat → Bool} (h : fd_2 (b.data.toList.drop p) op k = true) : ∃ y, fd_at b p op ∧ fd_at b (p + 1) y ∧ k y = true := by
  have e0 : ∀ (j : Nat) w, (b.data.toList.drop p)[j]? = some w → fd_at b (p + j) w.toNat := fun j w e => fd_by e
  generalize b.data.toList.drop p = l at h e0
  match l, h with
  | x :: y :: _, h =>
    have h : (Nat.beq x.toNat op && k y.toNat) = true := h
    rw [Bool.and_eq_true] at h
    have e := Nat.eq_of_beq_eq_true h.1
    subst e
    exact ⟨y.toNat, e0 0 x rfl, e0 1 y rfl, h.2⟩
theorem fd_3k {op : Nat} {k : Nat → Nat → Bool} (h : fd_3 (b.data.toList.drop p) op k = true) : ∃ y z, fd_at b p op ∧ fd_at b (p + 1) y ∧ fd_at b (p + 2) z ∧ k y z = true := by
  have e0 : ∀ (j : Nat) w, (b.data.toList.drop p)[j]? = some w → fd_at b (p + j) w.toNat := fun j w e => fd_by e
  generalize b.data.toList.drop p = l at h e0
  match l, h with
  | x :: y :: z :: _, h =>
    have h : (Nat.beq x.toNat op && k y.toNat z.toNat) = true := h
    rw [Bool.and_eq_true] at h
    have e := Nat.eq_of_beq_eq_true h.1
    subst e
    exact ⟨y.toNat, z.toNat, e0 0 x rfl, e0 1 y rfl, e0 2 z rfl, h.2⟩
def fd_m (b : ByteArray) (p : Nat) (l : List UInt8) : Instr → Bool
  | .aload_n n => fd_1 l (42 + n.val)
  | .iload_n n => fd_1 l (26 + n.val)
  | .istore_n n => fd_1 l (59 + n.val)
  | .lload_n n => fd_1 l (30 + n.val)
  | .astore_n n => fd_1 l (75 + n.val)
  | .lstore_n n => fd_1 l (63 + n.val)
  | .iconst z => decide (-1 ≤ z) && (decide (z ≤ 5) && fd_1 l (z + 3).toNat)
  | .iaload => fd_1 l 46
  | .ireturn => fd_1 l 172
  | .iadd => fd_1 l 96
  | .isub => fd_1 l 100
  | .imul => fd_1 l 104
  | .idiv => fd_1 l 108
  | .iastore => fd_1 l 79
  | .dup => fd_1 l 89
  | .pop => fd_1 l 87
  | .return_ => fd_1 l 177
  | .aaload => fd_1 l 50
  | .ior => fd_1 l 128
  | .iand => fd_1 l 126
  | .i2l => fd_1 l 133
  | .dup2 => fd_1 l 92
  | .ineg => fd_1 l 116
  | .arraylength => fd_1 l 190
  | .iload n => fd_2 l 21 (fun y => Nat.beq y n)
  | .istore n => fd_2 l 54 (fun y => Nat.beq y n)
  | .ldc n => fd_2 l 18 (fun y => Nat.beq y n)
  | .aload n => fd_2 l 25 (fun y => Nat.beq y n)
  | .lload n => fd_2 l 22 (fun y => Nat.beq y n)
  | .lstore n => fd_2 l 55 (fun y => Nat.beq y n)
  | .bipush z => fd_2 l 16 (fun y => decide (Reader.signed 8 y = z))
  | .iinc n z => fd_3 l 132 (fun y w => Nat.beq y n && decide (Reader.signed 8 w = z))
  | .sipush z => fd_3 l 17 (fun y w => decide (Reader.signed 16 (y * 256 + w) = z))
  | .goto z => fd_3 l 167 (fun y w => decide (Reader.signed 16 (y * 256 + w) = z))
  | .ifCond .eq z => fd_3 l 153 (fun y w => decide (Reader.signed 16 (y * 256 + w) = z))
  | .ifCond .ne z => fd_3 l 154 (fun y w => decide (Reader.signed 16 (y * 256 + w) = z))
  | .ifCond .lt z => fd_3 l 155 (fun y w => decide (Reader.signed 16 (y * 256 + w) = z))
  | .ifCond .ge z => fd_3 l 156 (fun y w => decide (Reader.signed 16 (y * 256 + w) = z))
  | .ifCond .gt z => fd_3 l 157 (fun y w => decide (Reader.signed 16 (y * 256 + w) = z))
  | .ifCond .le z => fd_3 l 158 (fun y w => decide (Reader.signed 16 (y * 256 + w) = z))
  | .if_icmp .eq z => fd_3 l 159 (fun y w => decide (Reader.signed 16 (y * 256 + w) = z))
  | .if_icmp .ne z => fd_3 l 160 (fun y w => decide (Reader.signed 16 (y * 256 + w) = z))
  | .if_icmp .lt z => fd_3 l 161 (fun y w => decide (Reader.signed 16 (y * 256 + w) = z))
  | .if_icmp .ge z => fd_3 l 162 (fun y w => decide (Reader.signed 16 (y * 256 + w) = z))
  | .if_icmp .gt z => fd_3 l 163 (fun y w => decide (Reader.signed 16 (y * 256 + w) = z))
  | .if_icmp .le z => fd_3 l 164 (fun y w => decide (Reader.signed 16 (y * 256 + w) = z))
  | .getfield n => fd_3 l 180 (fun y w => Nat.beq (y * 256 + w) n)
  | .putfield n => fd_3 l 181 (fun y w => Nat.beq (y * 256 + w) n)
  | .invokevirtual n => fd_3 l 182 (fun y w => Nat.beq (y * 256 + w) n)
  | .invokespecial n => fd_3 l 183 (fun y w => Nat.beq (y * 256 + w) n)
  | .invokestatic n => fd_3 l 184 (fun y w => Nat.beq (y * 256 + w) n)
  | .ldc_w n => fd_3 l 19 (fun y w => Nat.beq (y * 256 + w) n)
  | .ldc2_w n => fd_3 l 20 (fun y w => Nat.beq (y * 256 + w) n)
  | .getstatic n => fd_3 l 178 (fun y w => Nat.beq (y * 256 + w) n)
  | .new n => fd_3 l 187 (fun y w => Nat.beq (y * 256 + w) n)
  | i => pw_okq b (p, i)
theorem fd_mk {i : Instr} (h : fd_m b p (b.data.toList.drop p) i = true) : pw_okq b (p, i) = true := by
  cases i with
  | aload_n n =>
    have h2 : fd_1 (b.data.toList.drop p) (42 + n.val) = true := h
    obtain ⟨k, hk⟩ := n
    have hc : k = 0 ∨ k = 1 ∨ k = 2 ∨ k = 3 := by omega
    rcases hc with rfl | rfl | rfl | rfl
    · exact fd_ok (fd_dec (fd_o42 (fd_1k h2))) rfl
    · exact fd_ok (fd_dec (fd_o43 (fd_1k h2))) rfl
    · exact fd_ok (fd_dec (fd_o44 (fd_1k h2))) rfl
    · exact fd_ok (fd_dec (fd_o45 (fd_1k h2))) rfl
  | iload_n n =>
    have h2 : fd_1 (b.data.toList.drop p) (26 + n.val) = true := h
    obtain ⟨k, hk⟩ := n
    have hc : k = 0 ∨ k = 1 ∨ k = 2 ∨ k = 3 := by omega
    rcases hc with rfl | rfl | rfl | rfl
    · exact fd_ok (fd_dec (fd_o26 (fd_1k h2))) rfl
    · exact fd_ok (fd_dec (fd_o27 (fd_1k h2))) rfl
    · exact fd_ok (fd_dec (fd_o28 (fd_1k h2))) rfl
    · exact fd_ok (fd_dec (fd_o29 (fd_1k h2))) rfl
  | istore_n n =>
    have h2 : fd_1 (b.data.toList.drop p) (59 + n.val) = true := h
    obtain ⟨k, hk⟩ := n
    have hc : k = 0 ∨ k = 1 ∨ k = 2 ∨ k = 3 := by omega
    rcases hc with rfl | rfl | rfl | rfl
    · exact fd_ok (fd_dec (fd_o59 (fd_1k h2))) rfl
    · exact fd_ok (fd_dec (fd_o60 (fd_1k h2))) rfl
    · exact fd_ok (fd_dec (fd_o61 (fd_1k h2))) rfl
    · exact fd_ok (fd_dec (fd_o62 (fd_1k h2))) rfl
  | lload_n n =>
    have h2 : fd_1 (b.data.toList.drop p) (30 + n.val) = true := h
    obtain ⟨k, hk⟩ := n
    have hc : k = 0 ∨ k = 1 ∨ k = 2 ∨ k = 3 := by omega
    rcases hc with rfl | rfl | rfl | rfl
    · exact fd_ok (fd_dec (fd_o30 (fd_1k h2))) rfl
    · exact fd_ok (fd_dec (fd_o31 (fd_1k h2))) rfl
    · exact fd_ok (fd_dec (fd_o32 (fd_1k h2))) rfl
    · exact fd_ok (fd_dec (fd_o33 (fd_1k h2))) rfl
  | astore_n n =>
    have h2 : fd_1 (b.data.toList.drop p) (75 + n.val) = true := h
    obtain ⟨k, hk⟩ := n
    have hc : k = 0 ∨ k = 1 ∨ k = 2 ∨ k = 3 := by omega
    rcases hc with rfl | rfl | rfl | rfl
    · exact fd_ok (fd_dec (fd_o75 (fd_1k h2))) rfl
    · exact fd_ok (fd_dec (fd_o76 (fd_1k h2))) rfl
    · exact fd_ok (fd_dec (fd_o77 (fd_1k h2))) rfl
    · exact fd_ok (fd_dec (fd_o78 (fd_1k h2))) rfl
  | lstore_n n =>
    have h2 : fd_1 (b.data.toList.drop p) (63 + n.val) = true := h
    obtain ⟨k, hk⟩ := n
    have hc : k = 0 ∨ k = 1 ∨ k = 2 ∨ k = 3 := by omega
    rcases hc with rfl | rfl | rfl | rfl
    · exact fd_ok (fd_dec (fd_o63 (fd_1k h2))) rfl
    · exact fd_ok (fd_dec (fd_o64 (fd_1k h2))) rfl
    · exact fd_ok (fd_dec (fd_o65 (fd_1k h2))) rfl
    · exact fd_ok (fd_dec (fd_o66 (fd_1k h2))) rfl
  | iconst z =>
    have h : (decide (-1 ≤ z) && (decide (z ≤ 5) && fd_1 (b.data.toList.drop p) (z + 3).toNat)) = true := h
    simp only [Bool.and_eq_true, decide_eq_true_eq] at h
    obtain ⟨h1, h2, h3⟩ := h
    have hc : z = -1 ∨ z = 0 ∨ z = 1 ∨ z = 2 ∨ z = 3 ∨ z = 4 ∨ z = 5 := by omega
    rcases hc with rfl | rfl | rfl | rfl | rfl | rfl | rfl
    · exact fd_ok (fd_dec (fd_o2 (fd_1k h3))) rfl
    · exact fd_ok (fd_dec (fd_o3 (fd_1k h3))) rfl
    · exact fd_ok (fd_dec (fd_o4 (fd_1k h3))) rfl
    · exact fd_ok (fd_dec (fd_o5 (fd_1k h3))) rfl
    · exact fd_ok (fd_dec (fd_o6 (fd_1k h3))) rfl
    · exact fd_ok (fd_dec (fd_o7 (fd_1k h3))) rfl
    · exact fd_ok (fd_dec (fd_o8 (fd_1k h3))) rfl
  | iaload =>
    exact fd_ok (fd_dec (fd_o46 (fd_1k h))) rfl
  | ireturn =>
    exact fd_ok (fd_dec (fd_o172 (fd_1k h))) rfl
  | iadd =>
    exact fd_ok (fd_dec (fd_o96 (fd_1k h))) rfl
  | isub =>
    exact fd_ok (fd_dec (fd_o100 (fd_1k h))) rfl
  | imul =>
    exact fd_ok (fd_dec (fd_o104 (fd_1k h))) rfl
  | idiv =>
    exact fd_ok (fd_dec (fd_o108 (fd_1k h))) rfl
  | iastore =>
    exact fd_ok (fd_dec (fd_o79 (fd_1k h))) rfl
  | dup =>
    exact fd_ok (fd_dec (fd_o89 (fd_1k h))) rfl
  | pop =>
    exact fd_ok (fd_dec (fd_o87 (fd_1k h))) rfl
  | return_ =>
    exact fd_ok (fd_dec (fd_o177 (fd_1k h))) rfl
  | aaload =>
    exact fd_ok (fd_dec (fd_o50 (fd_1k h))) rfl
  | ior =>
    exact fd_ok (fd_dec (fd_o128 (fd_1k h))) rfl
  | iand =>
    exact fd_ok (fd_dec (fd_o126 (fd_1k h))) rfl
  | i2l =>
    exact fd_ok (fd_dec (fd_o133 (fd_1k h))) rfl
  | dup2 =>
    exact fd_ok (fd_dec (fd_o92 (fd_1k h))) rfl
  | ineg =>
    exact fd_ok (fd_dec (fd_o116 (fd_1k h))) rfl
  | arraylength =>
    exact fd_ok (fd_dec (fd_o190 (fd_1k h))) rfl
  | iload n =>
    have h : fd_2 (b.data.toList.drop p) 21 (fun y => Nat.beq y n) = true := h
    obtain ⟨y, h1, h2, h3⟩ := fd_2k h
    have e := Nat.eq_of_beq_eq_true h3
    subst e
    exact fd_ok (fd_dec (fd_o21 h1 h2)) rfl
  | istore n =>
    have h : fd_2 (b.data.toList.drop p) 54 (fun y => Nat.beq y n) = true := h
    obtain ⟨y, h1, h2, h3⟩ := fd_2k h
    have e := Nat.eq_of_beq_eq_true h3
    subst e
    exact fd_ok (fd_dec (fd_o54 h1 h2)) rfl
  | ldc n =>
    have h : fd_2 (b.data.toList.drop p) 18 (fun y => Nat.beq y n) = true := h
    obtain ⟨y, h1, h2, h3⟩ := fd_2k h
    have e := Nat.eq_of_beq_eq_true h3
    subst e
    exact fd_ok (fd_dec (fd_o18 h1 h2)) rfl
  | aload n =>
    have h : fd_2 (b.data.toList.drop p) 25 (fun y => Nat.beq y n) = true := h
    obtain ⟨y, h1, h2, h3⟩ := fd_2k h
    have e := Nat.eq_of_beq_eq_true h3
    subst e
    exact fd_ok (fd_dec (fd_o25 h1 h2)) rfl
  | lload n =>
    have h : fd_2 (b.data.toList.drop p) 22 (fun y => Nat.beq y n) = true := h
    obtain ⟨y, h1, h2, h3⟩ := fd_2k h
    have e := Nat.eq_of_beq_eq_true h3
    subst e
    exact fd_ok (fd_dec (fd_o22 h1 h2)) rfl
  | lstore n =>
    have h : fd_2 (b.data.toList.drop p) 55 (fun y => Nat.beq y n) = true := h
    obtain ⟨y, h1, h2, h3⟩ := fd_2k h
    have e := Nat.eq_of_beq_eq_true h3
    subst e
    exact fd_ok (fd_dec (fd_o55 h1 h2)) rfl
  | bipush z =>
    have h : fd_2 (b.data.toList.drop p) 16 (fun y => decide (Reader.signed 8 y = z)) = true := h
    obtain ⟨y, h1, h2, h3⟩ := fd_2k h
    have e := of_decide_eq_true h3
    subst e
    exact fd_ok (fd_dec (fd_o16 h1 h2)) rfl
  | iinc n z =>
    have h : fd_3 (b.data.toList.drop p) 132 (fun y w => Nat.beq y n && decide (Reader.signed 8 w = z)) = true := h
    obtain ⟨y, w, h1, h2, h3, h4⟩ := fd_3k h
    rw [Bool.and_eq_true] at h4
    have e := Nat.eq_of_beq_eq_true h4.1
    have e2 := of_decide_eq_true h4.2
    subst e e2
    exact fd_ok (fd_dec (fd_o132 h1 h2 h3)) rfl
  | sipush z =>
    have h : fd_3 (b.data.toList.drop p) 17 (fun y w => decide (Reader.signed 16 (y * 256 + w) = z)) = true := h
    obtain ⟨y, w, h1, h2, h3, h4⟩ := fd_3k h
    have e := of_decide_eq_true h4
    subst e
    exact fd_ok (fd_dec (fd_o17 h1 h2 h3)) rfl
  | goto z =>
    have h : fd_3 (b.data.toList.drop p) 167 (fun y w => decide (Reader.signed 16 (y * 256 + w) = z)) = true := h
    obtain ⟨y, w, h1, h2, h3, h4⟩ := fd_3k h
    have e := of_decide_eq_true h4
    subst e
    exact fd_ok (fd_dec (fd_o167 h1 h2 h3)) rfl
  | ifCond c z =>
    cases c with
    | eq =>
      have h : fd_3 (b.data.toList.drop p) 153 (fun y w => decide (Reader.signed 16 (y * 256 + w) = z)) = true := h
      obtain ⟨y, w, h1, h2, h3, h4⟩ := fd_3k h
      have e := of_decide_eq_true h4
      subst e
      exact fd_ok (fd_dec (fd_o153 h1 h2 h3)) rfl
    | ne =>
      have h : fd_3 (b.data.toList.drop p) 154 (fun y w => decide (Reader.signed 16 (y * 256 + w) = z)) = true := h
      obtain ⟨y, w, h1, h2, h3, h4⟩ := fd_3k h
      have e := of_decide_eq_true h4
      subst e
      exact fd_ok (fd_dec (fd_o154 h1 h2 h3)) rfl
    | lt =>
      have h : fd_3 (b.data.toList.drop p) 155 (fun y w => decide (Reader.signed 16 (y * 256 + w) = z)) = true := h
      obtain ⟨y, w, h1, h2, h3, h4⟩ := fd_3k h
      have e := of_decide_eq_true h4
      subst e
      exact fd_ok (fd_dec (fd_o155 h1 h2 h3)) rfl
    | ge =>
      have h : fd_3 (b.data.toList.drop p) 156 (fun y w => decide (Reader.signed 16 (y * 256 + w) = z)) = true := h
      obtain ⟨y, w, h1, h2, h3, h4⟩ := fd_3k h
      have e := of_decide_eq_true h4
      subst e
      exact fd_ok (fd_dec (fd_o156 h1 h2 h3)) rfl
    | gt =>
      have h : fd_3 (b.data.toList.drop p) 157 (fun y w => decide (Reader.signed 16 (y * 256 + w) = z)) = true := h
      obtain ⟨y, w, h1, h2, h3, h4⟩ := fd_3k h
      have e := of_decide_eq_true h4
      subst e
      exact fd_ok (fd_dec (fd_o157 h1 h2 h3)) rfl
    | le =>
      have h : fd_3 (b.data.toList.drop p) 158 (fun y w => decide (Reader.signed 16 (y * 256 + w) = z)) = true := h
      obtain ⟨y, w, h1, h2, h3, h4⟩ := fd_3k h
      have e := of_decide_eq_true h4
      subst e
      exact fd_ok (fd_dec (fd_o158 h1 h2 h3)) rfl
  | if_icmp c z =>
    cases c with
    | eq =>
      have h : fd_3 (b.data.toList.drop p) 159 (fun y w => decide (Reader.signed 16 (y * 256 + w) = z)) = true := h
      obtain ⟨y, w, h1, h2, h3, h4⟩ := fd_3k h
      have e := of_decide_eq_true h4
      subst e
      exact fd_ok (fd_dec (fd_o159 h1 h2 h3)) rfl
    | ne =>
      have h : fd_3 (b.data.toList.drop p) 160 (fun y w => decide (Reader.signed 16 (y * 256 + w) = z)) = true := h
      obtain ⟨y, w, h1, h2, h3, h4⟩ := fd_3k h
      have e := of_decide_eq_true h4
      subst e
      exact fd_ok (fd_dec (fd_o160 h1 h2 h3)) rfl
    | lt =>
      have h : fd_3 (b.data.toList.drop p) 161 (fun y w => decide (Reader.signed 16 (y * 256 + w) = z)) = true := h
      obtain ⟨y, w, h1, h2, h3, h4⟩ := fd_3k h
      have e := of_decide_eq_true h4
      subst e
      exact fd_ok (fd_dec (fd_o161 h1 h2 h3)) rfl
    | ge =>
      have h : fd_3 (b.data.toList.drop p) 162 (fun y w => decide (Reader.signed 16 (y * 256 + w) = z)) = true := h
      obtain ⟨y, w, h1, h2, h3, h4⟩ := fd_3k h
      have e := of_decide_eq_true h4
      subst e
      exact fd_ok (fd_dec (fd_o162 h1 h2 h3)) rfl
    | gt =>
      have h : fd_3 (b.data.toList.drop p) 163 (fun y w => decide (Reader.signed 16 (y * 256 + w) = z)) = true := h
      obtain ⟨y, w, h1, h2, h3, h4⟩ := fd_3k h
      have e := of_decide_eq_true h4
      subst e
      exact fd_ok (fd_dec (fd_o163 h1 h2 h3)) rfl
    | le =>
      have h : fd_3 (b.data.toList.drop p) 164 (fun y w => decide (Reader.signed 16 (y * 256 + w) = z)) = true := h
      obtain ⟨y, w, h1, h2, h3, h4⟩ := fd_3k h
      have e := of_decide_eq_true h4
      subst e
      exact fd_ok (fd_dec (fd_o164 h1 h2 h3)) rfl
  | getfield n =>
    have h : fd_3 (b.data.toList.drop p) 180 (fun y w => Nat.beq (y * 256 + w) n) = true := h
    obtain ⟨y, w, h1, h2, h3, h4⟩ := fd_3k h
    have e := Nat.eq_of_beq_eq_true h4
    subst e
    exact fd_ok (fd_dec (fd_o180 h1 h2 h3)) rfl
  | putfield n =>
    have h : fd_3 (b.data.toList.drop p) 181 (fun y w => Nat.beq (y * 256 + w) n) = true := h
    obtain ⟨y, w, h1, h2, h3, h4⟩ := fd_3k h
    have e := Nat.eq_of_beq_eq_true h4
    subst e
    exact fd_ok (fd_dec (fd_o181 h1 h2 h3)) rfl
  | invokevirtual n =>
    have h : fd_3 (b.data.toList.drop p) 182 (fun y w => Nat.beq (y * 256 + w) n) = true := h
    obtain ⟨y, w, h1, h2, h3, h4⟩ := fd_3k h
    have e := Nat.eq_of_beq_eq_true h4
    subst e
    exact fd_ok (fd_dec (fd_o182 h1 h2 h3)) rfl
  | invokespecial n =>
    have h : fd_3 (b.data.toList.drop p) 183 (fun y w => Nat.beq (y * 256 + w) n) = true := h
    obtain ⟨y, w, h1, h2, h3, h4⟩ := fd_3k h
    have e := Nat.eq_of_beq_eq_true h4
    subst e
    exact fd_ok (fd_dec (fd_o183 h1 h2 h3)) rfl
  | invokestatic n =>
    have h : fd_3 (b.data.toList.drop p) 184 (fun y w => Nat.beq (y * 256 + w) n) = true := h
    obtain ⟨y, w, h1, h2, h3, h4⟩ := fd_3k h
    have e := Nat.eq_of_beq_eq_true h4
    subst e
    exact fd_ok (fd_dec (fd_o184 h1 h2 h3)) rfl
  | ldc_w n =>
    have h : fd_3 (b.data.toList.drop p) 19 (fun y w => Nat.beq (y * 256 + w) n) = true := h
    obtain ⟨y, w, h1, h2, h3, h4⟩ := fd_3k h
    have e := Nat.eq_of_beq_eq_true h4
    subst e
    exact fd_ok (fd_dec (fd_o19 h1 h2 h3)) rfl
  | ldc2_w n =>
    have h : fd_3 (b.data.toList.drop p) 20 (fun y w => Nat.beq (y * 256 + w) n) = true := h
    obtain ⟨y, w, h1, h2, h3, h4⟩ := fd_3k h
    have e := Nat.eq_of_beq_eq_true h4
    subst e
    exact fd_ok (fd_dec (fd_o20 h1 h2 h3)) rfl
  | getstatic n =>
    have h : fd_3 (b.data.toList.drop p) 178 (fun y w => Nat.beq (y * 256 + w) n) = true := h
    obtain ⟨y, w, h1, h2, h3, h4⟩ := fd_3k h
    have e := Nat.eq_of_beq_eq_true h4
    subst e
    exact fd_ok (fd_dec (fd_o178 h1 h2 h3)) rfl
  | new n =>
    have h : fd_3 (b.data.toList.drop p) 187 (fun y w => Nat.beq (y * 256 + w) n) = true := h
    obtain ⟨y, w, h1, h2, h3, h4⟩ := fd_3k h
    have e := Nat.eq_of_beq_eq_true h4
    subst e
    exact fd_ok (fd_dec (fd_o187 h1 h2 h3)) rfl
  | _ => exact h
def fd_f (l : List UInt8) (k : List UInt8 → Bool) : Bool := match l with
  | [] => false
  | x :: t => k (x :: t)
def fd_go (b : ByteArray) : List (Nat × Instr) → Nat → List UInt8 → Bool
  | [], _, _ => true
  | q :: r, c, l => Nat.ble c q.1 && fd_f (l.drop (q.1 - c)) (fun l' => fd_m b q.1 l' q.2 && fd_go b r q.1 l')
theorem fd_gok : ∀ {qs : List (Nat × Instr)} {c : Nat}, fd_go b qs c (b.data.toList.drop c) = true → ∀ q ∈ qs, pw_okq b q = true := by
  intro qs
  induction qs with
  | nil => intro c _ q hq; cases hq
  | cons q r ih =>
    intro c h q' hq'
    have h : (Nat.ble c q.1 && fd_f ((b.data.toList.drop c).drop (q.1 - c)) (fun l' => fd_m b q.1 l' q.2 && fd_go b r q.1 l')) = true := h
    rw [Bool.and_eq_true, List.drop_drop] at h
    have h1 : c ≤ q.1 := Nat.le_of_ble_eq_true h.1
    have e : c + (q.1 - c) = q.1 := by omega
    rw [e] at h
    have h2 := h.2
    have h3 : (fd_m b q.1 (b.data.toList.drop q.1) q.2 && fd_go b r q.1 (b.data.toList.drop q.1)) = true := by
      generalize b.data.toList.drop q.1 = l at h2
      match l, h2 with
      | x :: t, h2 => exact h2
    rw [Bool.and_eq_true] at h3
    rcases List.mem_cons.mp hq' with rfl | hq'
    · exact fd_mk h3.1
    · exact ih h3.2 q' hq'
theorem fd_all {qs : List (Nat × Instr)} (h : fd_go b qs 0 b.data.toList = true) : qs.all (pw_okq b) = true := List.all_eq_true.mpr (fd_gok (c := 0) h)
end FD
