/-! ===== one instruction over flat memory; it is the pure machine's own (fl_tie) ===== -/
def fl_s0 (lv : fl_L) (i : Nat) : fl_L := match i with
  | 0 => lv
  | j + 1 => match lv[j]? with
    | some (some w) => if fl_cat w = 2 then lv.set j none else lv
    | _ => lv
def fl_s (lv : fl_L) (i : Nat) (v : fl_V) : fl_L := if fl_cat v = 2 then ((fl_s0 lv i).set i (some v)).set (i + 1) none else (fl_s0 lv i).set i (some v)
def fl_LR (lv : fl_L) (la : am_L) : Prop := ∀ (i : Nat) (v : fl_V), lv[i]? = some (some v) → am_lk la i = some (fl_c v)
def fl_ld (w : Nat) (o : Option (Option fl_V)) : Option fl_V := match w, o with
  | 0, some (some (.inl x)) => some (.inl x)
  | 1, some (some (.inr (.inl x))) => some (.inr (.inl x))
  | 4, some (some (.inr (.inr (.inl q)))) => some (.inr (.inr (.inl q)))
  | 4, some (some (.inr (.inr (.inr (.inl c))))) => some (.inr (.inr (.inr (.inl c))))
  | 2, some (some (.inr (.inr (.inr (.inr (.inl x)))))) => some (.inr (.inr (.inr (.inr (.inl x)))))
  | 3, some (some (.inr (.inr (.inr (.inr (.inr x)))))) => some (.inr (.inr (.inr (.inr (.inr x)))))
  | _, _ => none
def fl_pu (n pc : Nat) (lv : fl_L) (st : List fl_V) (m : fl_M) (o : Option fl_V) : Option fl_C := match o with
  | some v => some (pc + n, lv, v :: st, m)
  | none => none
def fl_so (w n pc i nL : Nat) (lv : fl_L) (st : List fl_V) (m : fl_M) : Option fl_C := match st with
  | v :: r => match fl_ld w (some (some v)) with
    | none => none
    | some _ => if fl_cat v = 2 then (if i + 1 < nL then some (pc + n, fl_s lv i v, r, m) else none) else if i < nL then some (pc + n, fl_s lv i v, r, m) else none
  | [] => none
def fl_I (pc : Nat) (lv : fl_L) (st : List fl_V) (m : fl_M) (g : Int32 → Int32 → Int32) : Option fl_C := match st with
  | .inl y :: .inl x :: r => some (pc + 1, lv, .inl (g x y) :: r, m)
  | _ => none
def fl_ID (pc : Nat) (lv : fl_L) (st : List fl_V) (m : fl_M) (g : Int32 → Int32 → Int32) : Option fl_C := match st with
  | .inl y :: .inl x :: r => if y = 0 then none else some (pc + 1, lv, .inl (g x y) :: r, m)
  | _ => none
def fl_J (pc : Nat) (lv : fl_L) (st : List fl_V) (m : fl_M) (g : Int64 → Int64 → Int64) : Option fl_C := match st with
  | .inr (.inl y) :: .inr (.inl x) :: r => some (pc + 1, lv, .inr (.inl (g x y)) :: r, m)
  | _ => none
def fl_JD (pc : Nat) (lv : fl_L) (st : List fl_V) (m : fl_M) (g : Int64 → Int64 → Int64) : Option fl_C := match st with
  | .inr (.inl y) :: .inr (.inl x) :: r => if y = 0 then none else some (pc + 1, lv, .inr (.inl (g x y)) :: r, m)
  | _ => none
def fl_JI (pc : Nat) (lv : fl_L) (st : List fl_V) (m : fl_M) (g : Int64 → Int32 → Int64) : Option fl_C := match st with
  | .inl y :: .inr (.inl x) :: r => some (pc + 1, lv, .inr (.inl (g x y)) :: r, m)
  | _ => none
def fl_br (b : Bool) (pc : Nat) (off : Int) (lv : fl_L) (r : List fl_V) (m : fl_M) : Option fl_C := match am_tg pc off with
  | some t => bif b then some (t, lv, r, m) else some (pc + 3, lv, r, m)
  | none => none
def fl_go (pc : Nat) (off : Int) (lv : fl_L) (r : List fl_V) (m : fl_M) : Option fl_C := match am_tg pc off with
  | some t => some (t, lv, r, m)
  | none => none
def fl_gf (P : am_Pg) (own idx pc : Nat) (lv : fl_L) (st : List fl_V) (m : fl_M) : Option fl_C := match st with
  | .inr (.inr (.inl (τ, p))) :: r => match am_fld P own idx, fk_kd τ with
    | some (ci, k), .inl (cj, fs) => if ci = cj then (match fs[k]? with
      | some none => some (pc + 3, lv, .inl (m.1 p k) :: r, m)
      | some (some q) => some (pc + 3, lv, .inr (.inr (.inl (q.1, p + q.2))) :: r, m)
      | none => none) else none
    | _, _ => none
  | _ => none
def fl_pf (P : am_Pg) (mi own idx pc : Nat) (lv : fl_L) (st : List fl_V) (m : fl_M) : Option fl_C := match st with
  | .inl x :: .inr (.inr (.inl (τ, p))) :: r => match am_fld P own idx, fk_kd τ with
    | some (ci, k), .inl (cj, fs) => match fs[k]? with
      | some none => bif decide (ci = cj) && (am_ft (am_fty P ci k) (.int x) && (!am_fin P ci k || (am_ini P mi && decide (own = ci)))) then some (pc + 3, lv, r, (fl_up m.1 p k x, m.2)) else none
      | _ => none
    | _, _ => none
  | _ => none
def fl_ald (P : am_Pg) (pc : Nat) (lv : fl_L) (st : List fl_V) (m : fl_M) : Option fl_C := match st with
  | .inl i :: .inr (.inr (.inl (τ, p))) :: r => match fk_kd τ with
    | .inr (0, n, _) => bif am_in i n then some (pc + 1, lv, .inl (m.1 p i.toNatClampNeg) :: r, m) else none
    | _ => none
  | .inl i :: .inr (.inr (.inr (.inl c))) :: r => match am_cst P c with
    | some (n, f) => bif am_in i n then some (pc + 1, lv, .inl (f i.toNatClampNeg) :: r, m) else none
    | _ => none
  | _ => none
def fl_ast (pc : Nat) (lv : fl_L) (st : List fl_V) (m : fl_M) : Option fl_C := match st with
  | .inl x :: .inl i :: .inr (.inr (.inl (τ, p))) :: r => match fk_kd τ with
    | .inr (0, n, _) => bif am_in i n then some (pc + 1, lv, r, (fl_up m.1 p i.toNatClampNeg x, m.2)) else none
    | _ => none
  | _ => none
def fl_lald (pc : Nat) (lv : fl_L) (st : List fl_V) (m : fl_M) : Option fl_C := match st with
  | .inl i :: .inr (.inr (.inl (τ, p))) :: r => match fk_kd τ with
    | .inr (1, n, _) => bif am_in i n then some (pc + 1, lv, .inr (.inl (m.2.1 p i.toNatClampNeg)) :: r, m) else none
    | _ => none
  | _ => none
def fl_last (pc : Nat) (lv : fl_L) (st : List fl_V) (m : fl_M) : Option fl_C := match st with
  | .inr (.inl x) :: .inl i :: .inr (.inr (.inl (τ, p))) :: r => match fk_kd τ with
    | .inr (1, n, _) => bif am_in i n then some (pc + 1, lv, r, (m.1, fl_upL m.2.1 p i.toNatClampNeg x, m.2.2)) else none
    | _ => none
  | _ => none
def fl_qald (pc : Nat) (lv : fl_L) (st : List fl_V) (m : fl_M) : Option fl_C := match st with
  | .inl i :: .inr (.inr (.inl (τ, p))) :: r => match fk_kd τ with
    | .inr (t, n, τ', b, d) => bif decide (2 ≤ t ∧ t < 5) && (decide (d ≠ 0) && am_in i n) then some (pc + 1, lv, .inr (.inr (.inl (τ', p + b + d * i.toNatClampNeg))) :: r, m) else none
    | _ => none
  | _ => none
def fl_len (P : am_Pg) (pc : Nat) (lv : fl_L) (st : List fl_V) (m : fl_M) : Option fl_C := match st with
  | .inr (.inr (.inl (τ, _))) :: r => match fk_kd τ with
    | .inr (t, n, _) => if t < 5 then some (pc + 1, lv, .inl (Int32.ofNat n) :: r, m) else none
    | _ => none
  | .inr (.inr (.inr (.inl c))) :: r => match am_cst P c with
    | some (n, _) => some (pc + 1, lv, .inl (Int32.ofNat n) :: r, m)
    | none => none
  | _ => none
def fl_sum (st : List fl_V) : Nat := (st.map fl_cat).sum
/-- arraycopy of ints -/
def fl_n1 (pc : Nat) (lv : fl_L) (st : List fl_V) (m : fl_M) : Option fl_C := match st with
  | .inl n :: .inl dp :: .inr (.inr (.inl (τb, b))) :: .inl sp :: .inr (.inr (.inl (τa, a))) :: r => match fk_kd τa, fk_kd τb with
    | .inr (0, n0, _), .inr (0, n1, _) => bif decide (fl_sum r ≤ 8) && (!(decide (sp < 0)) && (!(decide (dp < 0)) && (!(decide (n < 0)) && (decide (sp.toNatClampNeg + n.toNatClampNeg ≤ n0) && decide (dp.toNatClampNeg + n.toNatClampNeg ≤ n1))))) then some (pc + 3, lv, r, (fl_row m.1 b (va_cpy (m.1 a) (m.1 b) sp.toNatClampNeg dp.toNatClampNeg n.toNatClampNeg), m.2)) else none
    | _, _ => none
  | _ => none
def fl_st (P : am_Pg) (mi : Nat) (ins : Instr) (pc : Nat) (lv : fl_L) (st : List fl_V) (m : fl_M) : Option fl_C := match ins with
  | .iconst n => some (pc + 1, lv, .inl (Int32.ofInt n) :: st, m)
  | .bipush n => some (pc + 2, lv, .inl (Int8.ofInt n).toInt32 :: st, m)
  | .sipush n => some (pc + 3, lv, .inl (Int16.ofInt n).toInt32 :: st, m)
  | .lconst n => some (pc + 1, lv, .inr (.inl (Int64.ofNat (n : Nat))) :: st, m)
  | .ldc i => match am_con P (am_own P mi) i with
    | some (.int v) => some (pc + 2, lv, .inl v :: st, m)
    | _ => none
  | .ldc_w i => match am_con P (am_own P mi) i with
    | some (.int v) => some (pc + 3, lv, .inl v :: st, m)
    | _ => none
  | .ldc2_w i => match am_con P (am_own P mi) i with
    | some (.long v) => some (pc + 3, lv, .inr (.inl v) :: st, m)
    | _ => none
  | .iload_n k => fl_pu 1 pc lv st m (fl_ld 0 lv[(k : Nat)]?)
  | .lload_n k => fl_pu 1 pc lv st m (fl_ld 1 lv[(k : Nat)]?)
  | .aload_n k => fl_pu 1 pc lv st m (fl_ld 4 lv[(k : Nat)]?)
  | .iload i => fl_pu 2 pc lv st m (fl_ld 0 lv[(i : Nat)]?)
  | .lload i => fl_pu 2 pc lv st m (fl_ld 1 lv[(i : Nat)]?)
  | .aload i => fl_pu 2 pc lv st m (fl_ld 4 lv[(i : Nat)]?)
  | .istore_n k => fl_so 0 1 pc k (am_mxl P mi) lv st m
  | .lstore_n k => fl_so 1 1 pc k (am_mxl P mi) lv st m
  | .astore_n k => fl_so 4 1 pc k (am_mxl P mi) lv st m
  | .istore i => fl_so 0 2 pc i (am_mxl P mi) lv st m
  | .lstore i => fl_so 1 2 pc i (am_mxl P mi) lv st m
  | .astore i => fl_so 4 2 pc i (am_mxl P mi) lv st m
  | .iinc i n => match lv[(i : Nat)]? with
    | some (some (.inl x)) => if i < am_mxl P mi then some (pc + 3, fl_s lv i (.inl (x + Int32.ofInt n)), st, m) else none
    | _ => none
  | .iadd => fl_I pc lv st m (· + ·)
  | .isub => fl_I pc lv st m (· - ·)
  | .imul => fl_I pc lv st m (· * ·)
  | .iand => fl_I pc lv st m (· &&& ·)
  | .ior => fl_I pc lv st m (· ||| ·)
  | .ixor => fl_I pc lv st m (· ^^^ ·)
  | .ishl => fl_I pc lv st m (fun x y => x <<< (y &&& 31))
  | .ishr => fl_I pc lv st m (fun x y => x >>> (y &&& 31))
  | .iushr => fl_I pc lv st m (fun x y => (x.toUInt32 >>> (y.toUInt32 &&& Int32.toUInt32 31)).toInt32)
  | .idiv => fl_ID pc lv st m (fun x y => x / y)
  | .irem => fl_ID pc lv st m (fun x y => x - (x / y) * y)
  | .ineg => match st with
    | .inl x :: r => some (pc + 1, lv, .inl (-x) :: r, m)
    | _ => none
  | .ladd => fl_J pc lv st m (· + ·)
  | .lsub => fl_J pc lv st m (· - ·)
  | .lmul => fl_J pc lv st m (· * ·)
  | .land => fl_J pc lv st m (· &&& ·)
  | .ldiv => fl_JD pc lv st m (fun x y => x / y)
  | .lshl => fl_JI pc lv st m (fun x y => x <<< (y.toInt64 &&& 63))
  | .lshr => fl_JI pc lv st m (fun x y => x >>> (y.toInt64 &&& 63))
  | .lcmp => match st with
    | .inr (.inl y) :: .inr (.inl x) :: r => some (pc + 1, lv, .inl (lg_cmp x y) :: r, m)
    | _ => none
  | .i2l => match st with
    | .inl x :: r => some (pc + 1, lv, .inr (.inl x.toInt64) :: r, m)
    | _ => none
  | .l2i => match st with
    | .inr (.inl x) :: r => some (pc + 1, lv, .inl x.toInt32 :: r, m)
    | _ => none
  | .dup => match st with
    | v :: r => if fl_cat v = 1 then some (pc + 1, lv, v :: v :: r, m) else none
    | _ => none
  | .pop => match st with
    | v :: r => if fl_cat v = 1 then some (pc + 1, lv, r, m) else none
    | _ => none
  | .pop2 => match st with
    | v :: r => if fl_cat v = 2 then some (pc + 1, lv, r, m) else none
    | _ => none
  | .dup2 => match st with
    | v :: w :: r => if fl_cat v = 1 ∧ fl_cat w = 1 then some (pc + 1, lv, v :: w :: v :: w :: r, m) else none
    | _ => none
  | .ifCond c off => match st with
    | .inl x :: r => fl_br (am_c1 c x) pc off lv r m
    | _ => none
  | .if_icmp c off => match st with
    | .inl y :: .inl x :: r => fl_br (am_c2 c x y) pc off lv r m
    | _ => none
  | .goto off => fl_go pc off lv st m
  | .tableswitch d lo hi offs => match st with
    | .inl x :: r => bif am_swk x lo hi offs then fl_go pc (am_sw x d lo hi offs) lv r m else none
    | _ => none
  | .getfield i => fl_gf P (am_own P mi) i pc lv st m
  | .putfield i => fl_pf P mi (am_own P mi) i pc lv st m
  | .getstatic i => match am_sta P (am_own P mi) i with
    | some c => some (pc + 3, lv, .inr (.inr (.inr (.inl c))) :: st, m)
    | none => none
  | .iaload => fl_ald P pc lv st m
  | .iastore => fl_ast pc lv st m
  | .laload => fl_lald pc lv st m
  | .lastore => fl_last pc lv st m
  | .aaload => fl_qald pc lv st m
  | .arraylength => fl_len P pc lv st m
  | .invokestatic _ => match am_ntk P mi ins with
    | some 1 => fl_n1 pc lv st m
    | _ => none
  | _ => none
