/-! ===== the pure machine's answers are the claim's machine's ===== -/
section AMS
variable {p : Program} {l : Launch} {e : Env} {R : Room} {s : State} {m : MethodId} {args : Array Value} {below : List Frame} {meth : Method} {c : Code} {Q : State → Prop}
variable {P : am_Pg} {B : am_Nm} {D : va_G} {Z : am_Z} {mi : Nat} {k0 n0 : Nat} {pc pc' len : Nat} {lv lv' : am_L} {st st' : List Value} {M M' : am_M}
theorem am_lq {cc : ByteArray} {ins : Instr} {n : Nat} (hl : am_ln ins = 0 ∨ len = am_ln ins) (hd : decode cc pc = .ok (ins, len)) (hn : am_ln ins = n + 1) : decode cc pc = .ok (ins, n + 1) := by
  rcases hl with h | h
  · omega
  · rw [← hn, ← h]; exact hd
set_option maxHeartbeats 4000000 in
theorem am_step {ins : Instr} (G : am_Gd P B) (hcd : am_code P mi pc = some ins) (hC : am_X P B D Z p R s m args meth c mi) (h : am_st P mi ins pc lv st M = some (pc', lv', st', M')) (hrc : M'.1.length - k0 ≤ R.cells) (hrs : M'.2 - n0 ≤ R.slots)
    (hV : am_V p l e R s m args below meth c Q P B D Z mi k0 n0 pc' lv' st' M') : am_V p l e R s m args below meth c Q P B D Z mi k0 n0 pc lv st M := by
  obtain ⟨len, hdg, hlen⟩ := G.1 mi pc ins hcd
  cases ins with
  | iconst n => exact am_t_iconst hC (am_lq hlen hdg rfl) h hV
  | bipush n => exact am_t_bipush hC (am_lq hlen hdg rfl) h hV
  | sipush n => exact am_t_sipush hC (am_lq hlen hdg rfl) h hV
  | lconst n => exact am_t_lconst hC (am_lq hlen hdg rfl) h hV
  | iload_n k => exact am_t_iload_n hC (am_lq hlen hdg rfl) h hV
  | lload_n k => exact am_t_lload_n hC (am_lq hlen hdg rfl) h hV
  | fload_n k => exact am_t_fload_n hC (am_lq hlen hdg rfl) h hV
  | dload_n k => exact am_t_dload_n hC (am_lq hlen hdg rfl) h hV
  | aload_n k => exact am_t_aload_n hC (am_lq hlen hdg rfl) h hV
  | iload i => exact am_t_iload hC (am_lq hlen hdg rfl) h hV
  | lload i => exact am_t_lload hC (am_lq hlen hdg rfl) h hV
  | aload i => exact am_t_aload hC (am_lq hlen hdg rfl) h hV
  | istore_n k => exact am_t_istore_n hC (am_lq hlen hdg rfl) h hV
  | lstore_n k => exact am_t_lstore_n hC (am_lq hlen hdg rfl) h hV
  | fstore_n k => exact am_t_fstore_n hC (am_lq hlen hdg rfl) h hV
  | dstore_n k => exact am_t_dstore_n hC (am_lq hlen hdg rfl) h hV
  | astore_n k => exact am_t_astore_n hC (am_lq hlen hdg rfl) h hV
  | istore i => exact am_t_istore hC (am_lq hlen hdg rfl) h hV
  | lstore i => exact am_t_lstore hC (am_lq hlen hdg rfl) h hV
  | astore i => exact am_t_astore hC (am_lq hlen hdg rfl) h hV
  | iinc i n => exact am_t_iinc hC (am_lq hlen hdg rfl) h hV
  | iadd => exact am_t_iadd hC (am_lq hlen hdg rfl) h hV
  | isub => exact am_t_isub hC (am_lq hlen hdg rfl) h hV
  | imul => exact am_t_imul hC (am_lq hlen hdg rfl) h hV
  | iand => exact am_t_iand hC (am_lq hlen hdg rfl) h hV
  | ior => exact am_t_ior hC (am_lq hlen hdg rfl) h hV
  | ixor => exact am_t_ixor hC (am_lq hlen hdg rfl) h hV
  | ishl => exact am_t_ishl hC (am_lq hlen hdg rfl) h hV
  | ishr => exact am_t_ishr hC (am_lq hlen hdg rfl) h hV
  | iushr => exact am_t_iushr hC (am_lq hlen hdg rfl) h hV
  | idiv => exact am_t_idiv hC (am_lq hlen hdg rfl) h hV
  | irem => exact am_t_irem hC (am_lq hlen hdg rfl) h hV
  | ineg => exact am_t_ineg hC (am_lq hlen hdg rfl) h hV
  | ladd => exact am_t_ladd hC (am_lq hlen hdg rfl) h hV
  | lsub => exact am_t_lsub hC (am_lq hlen hdg rfl) h hV
  | lmul => exact am_t_lmul hC (am_lq hlen hdg rfl) h hV
  | land => exact am_t_land hC (am_lq hlen hdg rfl) h hV
  | ldiv => exact am_t_ldiv hC (am_lq hlen hdg rfl) h hV
  | lshl => exact am_t_lshl hC (am_lq hlen hdg rfl) h hV
  | lshr => exact am_t_lshr hC (am_lq hlen hdg rfl) h hV
  | lcmp => exact am_t_lcmp hC (am_lq hlen hdg rfl) h hV
  | i2l => exact am_t_i2l hC (am_lq hlen hdg rfl) h hV
  | l2i => exact am_t_l2i hC (am_lq hlen hdg rfl) h hV
  | l2d => exact am_t_l2d hC (am_lq hlen hdg rfl) h hV
  | i2f => exact am_t_i2f hC (am_lq hlen hdg rfl) h hV
  | d2l => exact am_t_d2l hC (am_lq hlen hdg rfl) h hV
  | f2i => exact am_t_f2i hC (am_lq hlen hdg rfl) h hV
  | dadd => exact am_t_dadd hC (am_lq hlen hdg rfl) h hV
  | dsub => exact am_t_dsub hC (am_lq hlen hdg rfl) h hV
  | dmul => exact am_t_dmul hC (am_lq hlen hdg rfl) h hV
  | ddiv => exact am_t_ddiv hC (am_lq hlen hdg rfl) h hV
  | fsub => exact am_t_fsub hC (am_lq hlen hdg rfl) h hV
  | fmul => exact am_t_fmul hC (am_lq hlen hdg rfl) h hV
  | fdiv => exact am_t_fdiv hC (am_lq hlen hdg rfl) h hV
  | dcmp o => exact am_t_dcmp hC (am_lq hlen hdg rfl) h hV
  | fcmp o => exact am_t_fcmp hC (am_lq hlen hdg rfl) h hV
  | dup => exact am_t_dup hC (am_lq hlen hdg rfl) h hV
  | pop => exact am_t_pop hC (am_lq hlen hdg rfl) h hV
  | pop2 => exact am_t_pop2 hC (am_lq hlen hdg rfl) h hV
  | dup2 => exact am_t_dup2 hC (am_lq hlen hdg rfl) h hV
  | dup_x1 => exact am_t_dup_x1 hC (am_lq hlen hdg rfl) h hV
  | ifnonnull o => exact am_t_ifnonnull hC (am_lq hlen hdg rfl) h hV
  | ifnull o => exact am_t_ifnull hC (am_lq hlen hdg rfl) h hV
  | goto o => exact am_t_goto hC (am_lq hlen hdg rfl) h hV
  | ifCond o q => exact am_t_if hC (am_lq hlen hdg rfl) h hV
  | if_icmp o q => exact am_t_icmp hC (am_lq hlen hdg rfl) h hV
  | tableswitch a b o q => exact am_t_tableswitch hC hdg h hV
  | getfield i => exact am_t_getfield G hC (am_lq hlen hdg rfl) h hV
  | putfield i => exact am_t_putfield G hC (am_lq hlen hdg rfl) h hV
  | getstatic i => exact am_t_getstatic G hC (am_lq hlen hdg rfl) h hV
  | ldc i => exact am_t_ldc G hC (am_lq hlen hdg rfl) h hV
  | ldc_w i => exact am_t_ldc_w G hC (am_lq hlen hdg rfl) h hV
  | ldc2_w i => exact am_t_ldc2_w G hC (am_lq hlen hdg rfl) h hV
  | iaload => exact am_t_iaload G hC (am_lq hlen hdg rfl) h hV
  | iastore => exact am_t_iastore G hC (am_lq hlen hdg rfl) h hV
  | laload => exact am_t_laload G hC (am_lq hlen hdg rfl) h hV
  | lastore => exact am_t_lastore G hC (am_lq hlen hdg rfl) h hV
  | aaload => exact am_t_aaload G hC (am_lq hlen hdg rfl) h hV
  | aastore => exact am_t_aastore G hC (am_lq hlen hdg rfl) h hV
  | arraylength => exact am_t_arraylength G hC (am_lq hlen hdg rfl) h hV
  | invokespecial i => exact am_t_invokespecial G hC (am_lq hlen hdg rfl) h hV
  | invokestatic i => exact am_t_invokestatic G hC (am_lq hlen hdg rfl) h hV
  | new i => exact am_t_new G hC (am_lq hlen hdg rfl) h hrc hrs hV
  | newarray i => exact am_t_newarray G hC (am_lq hlen hdg rfl) h hrc hrs hV
  | anewarray i => exact am_t_anewarray G hC (am_lq hlen hdg rfl) h hrc hrs hV
  | invokevirtual i => exact am_t_invokevirtual G hC (am_lq hlen hdg rfl) h hrc hrs hV
  | checkcast i => exact am_t_checkcast G hcd hC (am_lq hlen hdg rfl) h hV
  | fconst n =>
    match n, hdg, hlen, h with
    | 0, hdg, hlen, h => exact am_t_fconst0 hC (am_lq hlen hdg rfl) h hV
    | 1, hdg, hlen, h => exact am_t_fconst1 hC (am_lq hlen hdg rfl) h hV
    | 2, hdg, hlen, h => exact am_t_fconst2 hC (am_lq hlen hdg rfl) h hV
  | dconst n =>
    match n, hdg, hlen, h with
    | 0, hdg, hlen, h => exact am_t_dconst0 hC (am_lq hlen hdg rfl) h hV
    | 1, hdg, hlen, h => exact am_t_dconst1 hC (am_lq hlen hdg rfl) h hV
  | _ => exact absurd h (by simp [am_st])
theorem am_bif {α : Type} {b : Bool} {x : Option α} {y : α} (h : (bif b then x else none) = some y) : b = true ∧ x = some y := by
  cases b with
  | false => cases h
  | true => exact ⟨rfl, h⟩
theorem am_mono_nt {k : Nat} (h : am_nt P k pc lv st M = some (pc', lv', st', M')) : M.1.length ≤ M'.1.length ∧ M.2 ≤ M'.2 := by
  match k, h with
  | 0, h =>
    simp only [am_nt, am_n0] at h
    (repeat' (split at h)) <;> first | (cases h; done) | (cases h; exact ⟨Nat.le_refl _, Nat.le_refl _⟩)
  | 1, h =>
    simp only [am_nt, am_n1] at h
    (repeat' (split at h)) <;> first | (cases h; done) | (obtain ⟨-, h⟩ := am_bif h; cases h; exact ⟨by simp, Nat.le_refl _⟩)
  | 2, h =>
    simp only [am_nt, am_n2] at h
    (repeat' (split at h)) <;> first | (cases h; done) | (cases h; exact ⟨by simp, Nat.le_add_right _ _⟩)
  | 3, h =>
    simp only [am_nt, am_n3] at h
    (repeat' (split at h)) <;> first | (cases h; done) | (cases h; exact ⟨Nat.le_refl _, Nat.le_refl _⟩)
  | 4, h =>
    simp only [am_nt, am_n4] at h
    (repeat' (split at h)) <;> first | (cases h; done) | (cases h; exact ⟨Nat.le_refl _, Nat.le_refl _⟩)
  | n + 5, h => exact absurd h (by simp [am_nt])
set_option maxHeartbeats 4000000 in
/-- what is made stays -/
theorem am_mono_st {ins : Instr} (h : am_st P mi ins pc lv st M = some (pc', lv', st', M')) : M.1.length ≤ M'.1.length ∧ M.2 ≤ M'.2 := by
  cases ins with
  | iconst n => cases h; exact ⟨Nat.le_refl _, Nat.le_refl _⟩
  | bipush n => cases h; exact ⟨Nat.le_refl _, Nat.le_refl _⟩
  | sipush n => cases h; exact ⟨Nat.le_refl _, Nat.le_refl _⟩
  | lconst n => cases h; exact ⟨Nat.le_refl _, Nat.le_refl _⟩
  | iload_n k => obtain ⟨v, -, -, -, -, rfl⟩ := am_pu_inv h; exact ⟨Nat.le_refl _, Nat.le_refl _⟩
  | lload_n k => obtain ⟨v, -, -, -, -, rfl⟩ := am_pu_inv h; exact ⟨Nat.le_refl _, Nat.le_refl _⟩
  | fload_n k => obtain ⟨v, -, -, -, -, rfl⟩ := am_pu_inv h; exact ⟨Nat.le_refl _, Nat.le_refl _⟩
  | dload_n k => obtain ⟨v, -, -, -, -, rfl⟩ := am_pu_inv h; exact ⟨Nat.le_refl _, Nat.le_refl _⟩
  | aload_n k => obtain ⟨v, -, -, -, -, rfl⟩ := am_pu_inv h; exact ⟨Nat.le_refl _, Nat.le_refl _⟩
  | iload i => obtain ⟨v, -, -, -, -, rfl⟩ := am_pu_inv h; exact ⟨Nat.le_refl _, Nat.le_refl _⟩
  | lload i => obtain ⟨v, -, -, -, -, rfl⟩ := am_pu_inv h; exact ⟨Nat.le_refl _, Nat.le_refl _⟩
  | aload i => obtain ⟨v, -, -, -, -, rfl⟩ := am_pu_inv h; exact ⟨Nat.le_refl _, Nat.le_refl _⟩
  | istore_n k => obtain ⟨v, r, -, -, -, -, rfl, -⟩ := am_so_inv h; exact ⟨Nat.le_refl _, Nat.le_refl _⟩
  | lstore_n k => obtain ⟨v, r, -, -, -, -, rfl, -⟩ := am_so_inv h; exact ⟨Nat.le_refl _, Nat.le_refl _⟩
  | fstore_n k => obtain ⟨v, r, -, -, -, -, rfl, -⟩ := am_so_inv h; exact ⟨Nat.le_refl _, Nat.le_refl _⟩
  | dstore_n k => obtain ⟨v, r, -, -, -, -, rfl, -⟩ := am_so_inv h; exact ⟨Nat.le_refl _, Nat.le_refl _⟩
  | astore_n k => obtain ⟨v, r, -, -, -, -, rfl, -⟩ := am_so_inv h; exact ⟨Nat.le_refl _, Nat.le_refl _⟩
  | istore i => obtain ⟨v, r, -, -, -, -, rfl, -⟩ := am_so_inv h; exact ⟨Nat.le_refl _, Nat.le_refl _⟩
  | lstore i => obtain ⟨v, r, -, -, -, -, rfl, -⟩ := am_so_inv h; exact ⟨Nat.le_refl _, Nat.le_refl _⟩
  | astore i => obtain ⟨v, r, -, -, -, -, rfl, -⟩ := am_so_inv h; exact ⟨Nat.le_refl _, Nat.le_refl _⟩
  | iadd => obtain ⟨x, y, r, v, -, -, -, -, -, rfl⟩ := am_2_inv h; exact ⟨Nat.le_refl _, Nat.le_refl _⟩
  | isub => obtain ⟨x, y, r, v, -, -, -, -, -, rfl⟩ := am_2_inv h; exact ⟨Nat.le_refl _, Nat.le_refl _⟩
  | imul => obtain ⟨x, y, r, v, -, -, -, -, -, rfl⟩ := am_2_inv h; exact ⟨Nat.le_refl _, Nat.le_refl _⟩
  | iand => obtain ⟨x, y, r, v, -, -, -, -, -, rfl⟩ := am_2_inv h; exact ⟨Nat.le_refl _, Nat.le_refl _⟩
  | ior => obtain ⟨x, y, r, v, -, -, -, -, -, rfl⟩ := am_2_inv h; exact ⟨Nat.le_refl _, Nat.le_refl _⟩
  | ixor => obtain ⟨x, y, r, v, -, -, -, -, -, rfl⟩ := am_2_inv h; exact ⟨Nat.le_refl _, Nat.le_refl _⟩
  | ishl => obtain ⟨x, y, r, v, -, -, -, -, -, rfl⟩ := am_2_inv h; exact ⟨Nat.le_refl _, Nat.le_refl _⟩
  | ishr => obtain ⟨x, y, r, v, -, -, -, -, -, rfl⟩ := am_2_inv h; exact ⟨Nat.le_refl _, Nat.le_refl _⟩
  | iushr => obtain ⟨x, y, r, v, -, -, -, -, -, rfl⟩ := am_2_inv h; exact ⟨Nat.le_refl _, Nat.le_refl _⟩
  | idiv => obtain ⟨x, y, r, v, -, -, -, -, -, rfl⟩ := am_2_inv h; exact ⟨Nat.le_refl _, Nat.le_refl _⟩
  | irem => obtain ⟨x, y, r, v, -, -, -, -, -, rfl⟩ := am_2_inv h; exact ⟨Nat.le_refl _, Nat.le_refl _⟩
  | ladd => obtain ⟨x, y, r, v, -, -, -, -, -, rfl⟩ := am_2_inv h; exact ⟨Nat.le_refl _, Nat.le_refl _⟩
  | lsub => obtain ⟨x, y, r, v, -, -, -, -, -, rfl⟩ := am_2_inv h; exact ⟨Nat.le_refl _, Nat.le_refl _⟩
  | lmul => obtain ⟨x, y, r, v, -, -, -, -, -, rfl⟩ := am_2_inv h; exact ⟨Nat.le_refl _, Nat.le_refl _⟩
  | land => obtain ⟨x, y, r, v, -, -, -, -, -, rfl⟩ := am_2_inv h; exact ⟨Nat.le_refl _, Nat.le_refl _⟩
  | ldiv => obtain ⟨x, y, r, v, -, -, -, -, -, rfl⟩ := am_2_inv h; exact ⟨Nat.le_refl _, Nat.le_refl _⟩
  | lshl => obtain ⟨x, y, r, v, -, -, -, -, -, rfl⟩ := am_2_inv h; exact ⟨Nat.le_refl _, Nat.le_refl _⟩
  | lshr => obtain ⟨x, y, r, v, -, -, -, -, -, rfl⟩ := am_2_inv h; exact ⟨Nat.le_refl _, Nat.le_refl _⟩
  | lcmp => obtain ⟨x, y, r, v, -, -, -, -, -, rfl⟩ := am_2_inv h; exact ⟨Nat.le_refl _, Nat.le_refl _⟩
  | dadd => obtain ⟨x, y, r, v, -, -, -, -, -, rfl⟩ := am_2_inv h; exact ⟨Nat.le_refl _, Nat.le_refl _⟩
  | dsub => obtain ⟨x, y, r, v, -, -, -, -, -, rfl⟩ := am_2_inv h; exact ⟨Nat.le_refl _, Nat.le_refl _⟩
  | dmul => obtain ⟨x, y, r, v, -, -, -, -, -, rfl⟩ := am_2_inv h; exact ⟨Nat.le_refl _, Nat.le_refl _⟩
  | ddiv => obtain ⟨x, y, r, v, -, -, -, -, -, rfl⟩ := am_2_inv h; exact ⟨Nat.le_refl _, Nat.le_refl _⟩
  | fsub => obtain ⟨x, y, r, v, -, -, -, -, -, rfl⟩ := am_2_inv h; exact ⟨Nat.le_refl _, Nat.le_refl _⟩
  | fmul => obtain ⟨x, y, r, v, -, -, -, -, -, rfl⟩ := am_2_inv h; exact ⟨Nat.le_refl _, Nat.le_refl _⟩
  | fdiv => obtain ⟨x, y, r, v, -, -, -, -, -, rfl⟩ := am_2_inv h; exact ⟨Nat.le_refl _, Nat.le_refl _⟩
  | dcmp o => obtain ⟨x, y, r, v, -, -, -, -, -, rfl⟩ := am_2_inv h; exact ⟨Nat.le_refl _, Nat.le_refl _⟩
  | fcmp o => obtain ⟨x, y, r, v, -, -, -, -, -, rfl⟩ := am_2_inv h; exact ⟨Nat.le_refl _, Nat.le_refl _⟩
  | ineg => obtain ⟨x, r, v, -, -, -, -, -, rfl⟩ := am_1_inv h; exact ⟨Nat.le_refl _, Nat.le_refl _⟩
  | i2l => obtain ⟨x, r, v, -, -, -, -, -, rfl⟩ := am_1_inv h; exact ⟨Nat.le_refl _, Nat.le_refl _⟩
  | l2i => obtain ⟨x, r, v, -, -, -, -, -, rfl⟩ := am_1_inv h; exact ⟨Nat.le_refl _, Nat.le_refl _⟩
  | l2d => obtain ⟨x, r, v, -, -, -, -, -, rfl⟩ := am_1_inv h; exact ⟨Nat.le_refl _, Nat.le_refl _⟩
  | i2f => obtain ⟨x, r, v, -, -, -, -, -, rfl⟩ := am_1_inv h; exact ⟨Nat.le_refl _, Nat.le_refl _⟩
  | d2l => obtain ⟨x, r, v, -, -, -, -, -, rfl⟩ := am_1_inv h; exact ⟨Nat.le_refl _, Nat.le_refl _⟩
  | f2i => obtain ⟨x, r, v, -, -, -, -, -, rfl⟩ := am_1_inv h; exact ⟨Nat.le_refl _, Nat.le_refl _⟩
  | goto o => obtain ⟨-, -, -, rfl⟩ := am_go_inv h; exact ⟨Nat.le_refl _, Nat.le_refl _⟩
  | fconst n => (simp only [am_st] at h; repeat' (split at h)) <;> first | (cases h; done) | (cases h; exact ⟨Nat.le_refl _, Nat.le_refl _⟩) | (obtain ⟨t, -, -, -, rfl, -⟩ := am_br_inv h; exact ⟨Nat.le_refl _, Nat.le_refl _⟩) | (obtain ⟨-, -, -, rfl⟩ := am_go_inv h; exact ⟨Nat.le_refl _, Nat.le_refl _⟩)
  | dconst n => (simp only [am_st] at h; repeat' (split at h)) <;> first | (cases h; done) | (cases h; exact ⟨Nat.le_refl _, Nat.le_refl _⟩) | (obtain ⟨t, -, -, -, rfl, -⟩ := am_br_inv h; exact ⟨Nat.le_refl _, Nat.le_refl _⟩) | (obtain ⟨-, -, -, rfl⟩ := am_go_inv h; exact ⟨Nat.le_refl _, Nat.le_refl _⟩)
  | ldc i => (simp only [am_st] at h; repeat' (split at h)) <;> first | (cases h; done) | (cases h; exact ⟨Nat.le_refl _, Nat.le_refl _⟩) | (obtain ⟨t, -, -, -, rfl, -⟩ := am_br_inv h; exact ⟨Nat.le_refl _, Nat.le_refl _⟩) | (obtain ⟨-, -, -, rfl⟩ := am_go_inv h; exact ⟨Nat.le_refl _, Nat.le_refl _⟩)
  | ldc_w i => (simp only [am_st] at h; repeat' (split at h)) <;> first | (cases h; done) | (cases h; exact ⟨Nat.le_refl _, Nat.le_refl _⟩) | (obtain ⟨t, -, -, -, rfl, -⟩ := am_br_inv h; exact ⟨Nat.le_refl _, Nat.le_refl _⟩) | (obtain ⟨-, -, -, rfl⟩ := am_go_inv h; exact ⟨Nat.le_refl _, Nat.le_refl _⟩)
  | ldc2_w i => (simp only [am_st] at h; repeat' (split at h)) <;> first | (cases h; done) | (cases h; exact ⟨Nat.le_refl _, Nat.le_refl _⟩) | (obtain ⟨t, -, -, -, rfl, -⟩ := am_br_inv h; exact ⟨Nat.le_refl _, Nat.le_refl _⟩) | (obtain ⟨-, -, -, rfl⟩ := am_go_inv h; exact ⟨Nat.le_refl _, Nat.le_refl _⟩)
  | iinc i n => (simp only [am_st] at h; repeat' (split at h)) <;> first | (cases h; done) | (cases h; exact ⟨Nat.le_refl _, Nat.le_refl _⟩) | (obtain ⟨t, -, -, -, rfl, -⟩ := am_br_inv h; exact ⟨Nat.le_refl _, Nat.le_refl _⟩) | (obtain ⟨-, -, -, rfl⟩ := am_go_inv h; exact ⟨Nat.le_refl _, Nat.le_refl _⟩)
  | dup => (simp only [am_st] at h; repeat' (split at h)) <;> first | (cases h; done) | (cases h; exact ⟨Nat.le_refl _, Nat.le_refl _⟩) | (obtain ⟨t, -, -, -, rfl, -⟩ := am_br_inv h; exact ⟨Nat.le_refl _, Nat.le_refl _⟩) | (obtain ⟨-, -, -, rfl⟩ := am_go_inv h; exact ⟨Nat.le_refl _, Nat.le_refl _⟩)
  | pop => (simp only [am_st] at h; repeat' (split at h)) <;> first | (cases h; done) | (cases h; exact ⟨Nat.le_refl _, Nat.le_refl _⟩) | (obtain ⟨t, -, -, -, rfl, -⟩ := am_br_inv h; exact ⟨Nat.le_refl _, Nat.le_refl _⟩) | (obtain ⟨-, -, -, rfl⟩ := am_go_inv h; exact ⟨Nat.le_refl _, Nat.le_refl _⟩)
  | pop2 => (simp only [am_st] at h; repeat' (split at h)) <;> first | (cases h; done) | (cases h; exact ⟨Nat.le_refl _, Nat.le_refl _⟩) | (obtain ⟨t, -, -, -, rfl, -⟩ := am_br_inv h; exact ⟨Nat.le_refl _, Nat.le_refl _⟩) | (obtain ⟨-, -, -, rfl⟩ := am_go_inv h; exact ⟨Nat.le_refl _, Nat.le_refl _⟩)
  | dup2 => (simp only [am_st] at h; repeat' (split at h)) <;> first | (cases h; done) | (cases h; exact ⟨Nat.le_refl _, Nat.le_refl _⟩) | (obtain ⟨t, -, -, -, rfl, -⟩ := am_br_inv h; exact ⟨Nat.le_refl _, Nat.le_refl _⟩) | (obtain ⟨-, -, -, rfl⟩ := am_go_inv h; exact ⟨Nat.le_refl _, Nat.le_refl _⟩)
  | dup_x1 => (simp only [am_st] at h; repeat' (split at h)) <;> first | (cases h; done) | (cases h; exact ⟨Nat.le_refl _, Nat.le_refl _⟩) | (obtain ⟨t, -, -, -, rfl, -⟩ := am_br_inv h; exact ⟨Nat.le_refl _, Nat.le_refl _⟩) | (obtain ⟨-, -, -, rfl⟩ := am_go_inv h; exact ⟨Nat.le_refl _, Nat.le_refl _⟩)
  | ifCond o q => (simp only [am_st] at h; repeat' (split at h)) <;> first | (cases h; done) | (cases h; exact ⟨Nat.le_refl _, Nat.le_refl _⟩) | (obtain ⟨t, -, -, -, rfl, -⟩ := am_br_inv h; exact ⟨Nat.le_refl _, Nat.le_refl _⟩) | (obtain ⟨-, -, -, rfl⟩ := am_go_inv h; exact ⟨Nat.le_refl _, Nat.le_refl _⟩)
  | if_icmp o q => (simp only [am_st] at h; repeat' (split at h)) <;> first | (cases h; done) | (cases h; exact ⟨Nat.le_refl _, Nat.le_refl _⟩) | (obtain ⟨t, -, -, -, rfl, -⟩ := am_br_inv h; exact ⟨Nat.le_refl _, Nat.le_refl _⟩) | (obtain ⟨-, -, -, rfl⟩ := am_go_inv h; exact ⟨Nat.le_refl _, Nat.le_refl _⟩)
  | ifnonnull o => (simp only [am_st] at h; repeat' (split at h)) <;> first | (cases h; done) | (cases h; exact ⟨Nat.le_refl _, Nat.le_refl _⟩) | (obtain ⟨t, -, -, -, rfl, -⟩ := am_br_inv h; exact ⟨Nat.le_refl _, Nat.le_refl _⟩) | (obtain ⟨-, -, -, rfl⟩ := am_go_inv h; exact ⟨Nat.le_refl _, Nat.le_refl _⟩)
  | ifnull o => (simp only [am_st] at h; repeat' (split at h)) <;> first | (cases h; done) | (cases h; exact ⟨Nat.le_refl _, Nat.le_refl _⟩) | (obtain ⟨t, -, -, -, rfl, -⟩ := am_br_inv h; exact ⟨Nat.le_refl _, Nat.le_refl _⟩) | (obtain ⟨-, -, -, rfl⟩ := am_go_inv h; exact ⟨Nat.le_refl _, Nat.le_refl _⟩)
  | getstatic i => (simp only [am_st] at h; repeat' (split at h)) <;> first | (cases h; done) | (cases h; exact ⟨Nat.le_refl _, Nat.le_refl _⟩) | (obtain ⟨t, -, -, -, rfl, -⟩ := am_br_inv h; exact ⟨Nat.le_refl _, Nat.le_refl _⟩) | (obtain ⟨-, -, -, rfl⟩ := am_go_inv h; exact ⟨Nat.le_refl _, Nat.le_refl _⟩)
  | checkcast i => (simp only [am_st] at h; repeat' (split at h)) <;> first | (cases h; done) | (cases h; exact ⟨Nat.le_refl _, Nat.le_refl _⟩) | (obtain ⟨t, -, -, -, rfl, -⟩ := am_br_inv h; exact ⟨Nat.le_refl _, Nat.le_refl _⟩) | (obtain ⟨-, -, -, rfl⟩ := am_go_inv h; exact ⟨Nat.le_refl _, Nat.le_refl _⟩)
  | tableswitch a b o q =>
    simp only [am_st] at h
    split at h
    · cases hk : am_swk _ b o q <;> rw [hk] at h
      · cases h
      · obtain ⟨-, -, -, rfl⟩ := am_go_inv h; exact ⟨Nat.le_refl _, Nat.le_refl _⟩
    · cases h
  | getfield i =>
    simp only [am_st, am_gf] at h
    (repeat' (split at h)) <;> first | (obtain ⟨v, -, -, -, -, rfl⟩ := am_pu_inv h; exact ⟨Nat.le_refl _, Nat.le_refl _⟩) | cases h
  | putfield i =>
    simp only [am_st, am_pf] at h
    (repeat' (split at h)) <;> first | (cases h; done) | (obtain ⟨-, h⟩ := am_bif h; cases h; exact ⟨by simp, by first | exact Nat.le_refl _ | exact Nat.le_add_right _ _⟩)
  | iaload =>
    simp only [am_st, am_ald] at h
    (repeat' (split at h)) <;> first | (cases h; done) | (obtain ⟨-, h⟩ := am_bif h; cases h; exact ⟨by simp, by first | exact Nat.le_refl _ | exact Nat.le_add_right _ _⟩)
  | iastore =>
    simp only [am_st, am_ast] at h
    (repeat' (split at h)) <;> first | (cases h; done) | (obtain ⟨-, h⟩ := am_bif h; cases h; exact ⟨by simp, by first | exact Nat.le_refl _ | exact Nat.le_add_right _ _⟩)
  | laload =>
    simp only [am_st, am_lald] at h
    (repeat' (split at h)) <;> first | (cases h; done) | (obtain ⟨-, h⟩ := am_bif h; cases h; exact ⟨by simp, by first | exact Nat.le_refl _ | exact Nat.le_add_right _ _⟩)
  | lastore =>
    simp only [am_st, am_last] at h
    (repeat' (split at h)) <;> first | (cases h; done) | (obtain ⟨-, h⟩ := am_bif h; cases h; exact ⟨by simp, by first | exact Nat.le_refl _ | exact Nat.le_add_right _ _⟩)
  | aaload =>
    simp only [am_st, am_qald] at h
    (repeat' (split at h)) <;> first | (cases h; done) | (obtain ⟨-, h⟩ := am_bif h; cases h; exact ⟨by simp, by first | exact Nat.le_refl _ | exact Nat.le_add_right _ _⟩)
  | aastore =>
    simp only [am_st, am_qast] at h
    (repeat' (split at h)) <;> first | (cases h; done) | (obtain ⟨-, h⟩ := am_bif h; cases h; exact ⟨by simp, by first | exact Nat.le_refl _ | exact Nat.le_add_right _ _⟩)
  | newarray i =>
    simp only [am_st, am_na] at h
    (repeat' (split at h)) <;> first | (cases h; done) | (obtain ⟨-, h⟩ := am_bif h; cases h; exact ⟨by simp, by first | exact Nat.le_refl _ | exact Nat.le_add_right _ _⟩)
  | anewarray i =>
    simp only [am_st, am_nq] at h
    (repeat' (split at h)) <;> first | (cases h; done) | (obtain ⟨-, h⟩ := am_bif h; cases h; exact ⟨by simp, by first | exact Nat.le_refl _ | exact Nat.le_add_right _ _⟩)
  | arraylength =>
    simp only [am_st, am_len] at h
    (repeat' (split at h)) <;> first | (cases h; done) | (cases h; exact ⟨Nat.le_refl _, Nat.le_refl _⟩)
  | new i =>
    simp only [am_st, am_nw] at h
    (repeat' (split at h)) <;> first | (cases h; done) | (cases h; exact ⟨by simp, Nat.le_add_right _ _⟩)
  | invokespecial i =>
    simp only [am_st] at h
    split at h
    · exact am_mono_nt h
    · cases h
  | invokestatic i =>
    simp only [am_st] at h
    split at h
    · exact am_mono_nt h
    · cases h
  | invokevirtual i =>
    simp only [am_st] at h
    split at h
    · exact am_mono_nt h
    · cases h
  | _ => exact absurd h (by simp [am_st])
/-- and so of the whole machine -/
theorem am_mono : ∀ (f mi pc : Nat) (lv : am_L) (st : List Value) (M : am_M) (v : Option Value) (M' : am_M), am_ev P f mi pc lv st M = some (v, M') → M.1.length ≤ M'.1.length ∧ M.2 ≤ M'.2 := by
  intro f
  induction f with
  | zero => intro mi pc lv st M v M' h; cases h
  | succ f ih =>
    intro mi pc lv st M v M' h
    unfold am_ev at h
    split at h
    · cases h
    · rename_i ins hc
      split at h
      · rename_i mj n hcl
        cases hr : am_rc P mi ins mj n st M with
        | false => rw [hr] at h; cases h
        | true =>
          rw [hr] at h
          replace h : (match am_ev P f mj 0 (lv_args 0 (st.take n).reverse) [] M with
            | some (v, M') => am_ev P f mi (pc + 3) lv (v.toList ++ st.drop n) M'
            | none => none) = some (v, M') := h
          split at h
          · rename_i v1 M1 h1
            have a := ih _ _ _ _ _ _ _ h1
            have b := ih _ _ _ _ _ _ _ h
            exact ⟨Nat.le_trans a.1 b.1, Nat.le_trans a.2 b.2⟩
          · cases h
      · split at h
        · cases h; exact ⟨Nat.le_refl _, Nat.le_refl _⟩
        · split at h
          · rename_i pc1 lv1 st1 M1 h1
            have a := am_mono_st h1
            have b := ih _ _ _ _ _ _ _ h
            exact ⟨Nat.le_trans a.1 b.1, Nat.le_trans a.2 b.2⟩
          · cases h
end AMS
