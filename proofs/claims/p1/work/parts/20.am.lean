/-! ===== THE PURE MACHINE: bytecode over a heap that is a list; the claim's machine is tied to it once (21, 22), all else is said of it ===== -/
/-- a cell: an array (its kind of array, length, contents) or an object (its class, its fields); a reference is a place of the list; a table that nobody writes is .retAddr and its number -/
abbrev am_O : Type := (Nat × vp_A) ⊕ (Nat × List Value)
/-- the heap, the slots that were made -/
abbrev am_M : Type := List am_O × Nat
abbrev am_L : Type := List (Nat × Value)
abbrev am_C : Type := Nat × am_L × List Value × am_M
/-- a program: code, own class, fields, statics, constants, new, anewarray, calls, natives, answers, tables, field types, locals, finals, constructors, component classes -/
abbrev am_Pg : Type := (Nat → Nat → Option Instr) × (Nat → Nat) × (Nat → Nat → Option (Nat × Nat)) × (Nat → Nat → Option Nat) × (Nat → Nat → Option Value) × (Nat → Nat → Option (Nat × List Value)) × (Nat → Nat → Option Nat) × (Nat → Nat → Option (Nat × Nat × Nat)) × (Nat → Nat → Option Nat) × (Nat → Option FieldType) × (Nat → Option (Nat × (Nat → Int32))) × (Nat → Nat → FieldType) × (Nat → Nat) × (Nat → Nat → Bool) × (Nat → Bool) × (Nat → Nat)
def am_code (P : am_Pg) := P.1
def am_own (P : am_Pg) := P.2.1
def am_fld (P : am_Pg) := P.2.2.1
def am_sta (P : am_Pg) := P.2.2.2.1
def am_con (P : am_Pg) := P.2.2.2.2.1
def am_new (P : am_Pg) := P.2.2.2.2.2.1
def am_anw (P : am_Pg) := P.2.2.2.2.2.2.1
def am_cal (P : am_Pg) := P.2.2.2.2.2.2.2.1
def am_nat (P : am_Pg) := P.2.2.2.2.2.2.2.2.1
def am_ret (P : am_Pg) := P.2.2.2.2.2.2.2.2.2.1
def am_cst (P : am_Pg) := P.2.2.2.2.2.2.2.2.2.2.1
def am_fty (P : am_Pg) := P.2.2.2.2.2.2.2.2.2.2.2.1
def am_mxl (P : am_Pg) := P.2.2.2.2.2.2.2.2.2.2.2.2.1
def am_fin (P : am_Pg) := P.2.2.2.2.2.2.2.2.2.2.2.2.2.1
def am_ini (P : am_Pg) := P.2.2.2.2.2.2.2.2.2.2.2.2.2.2.1
def am_elt (P : am_Pg) := P.2.2.2.2.2.2.2.2.2.2.2.2.2.2.2
def am_lk : am_L → Nat → Option Value
  | [], _ => none
  | q :: r, i => if q.1 = i then some q.2 else am_lk r i
def am_s1 (lv : am_L) (i : Nat) (v : Value) : am_L := (i, v) :: lv.filter (fun q => !(q.1 == i) && !(q.1 + 1 == i && q.2.category == 2))
def am_s2 (lv : am_L) (i : Nat) (v : Value) : am_L := (i, v) :: lv.filter (fun q => !(q.1 == i) && (!(q.1 == i + 1) && !(q.1 + 1 == i && q.2.category == 2)))
def am_ld (w : Nat) (o : Option Value) : Option Value := match w, o with
  | 0, some (.int x) => some (.int x)
  | 1, some (.long x) => some (.long x)
  | 2, some (.float x) => some (.float x)
  | 3, some (.double x) => some (.double x)
  | 4, some (.ref a) => some (.ref a)
  | 4, some (.retAddr a) => some (.retAddr a)
  | _, _ => none
def am_pu (n pc : Nat) (lv : am_L) (st : List Value) (M : am_M) (o : Option Value) : Option am_C := match o with
  | some v => some (pc + n, lv, v :: st, M)
  | none => none
/-- a store: kind of value, place, room for locals -/
def am_so (w n pc i nL : Nat) (lv : am_L) (st : List Value) (M : am_M) : Option am_C := match st with
  | v :: r => match am_ld w (some v) with
    | none => none
    | some _ => if v.category = 2 then (if i + 1 < nL then some (pc + n, am_s2 lv i v, r, M) else none) else if i < nL then some (pc + n, am_s1 lv i v, r, M) else none
  | [] => none
def am_1 (pc : Nat) (lv : am_L) (st : List Value) (M : am_M) (f : Value → Option Value) : Option am_C := match st with
  | x :: r => match f x with
    | some v => some (pc + 1, lv, v :: r, M)
    | none => none
  | [] => none
def am_2 (pc : Nat) (lv : am_L) (st : List Value) (M : am_M) (f : Value → Value → Option Value) : Option am_C := match st with
  | y :: x :: r => match f x y with
    | some v => some (pc + 1, lv, v :: r, M)
    | none => none
  | _ => none
def am_fI (g : Int32 → Int32 → Int32) (x y : Value) : Option Value := match x, y with
  | .int a, .int b => some (.int (g a b))
  | _, _ => none
def am_fID (g : Int32 → Int32 → Int32) (x y : Value) : Option Value := match x, y with
  | .int a, .int b => if b = 0 then none else some (.int (g a b))
  | _, _ => none
def am_fL (g : Int64 → Int64 → Int64) (x y : Value) : Option Value := match x, y with
  | .long a, .long b => some (.long (g a b))
  | _, _ => none
def am_fLD (g : Int64 → Int64 → Int64) (x y : Value) : Option Value := match x, y with
  | .long a, .long b => if b = 0 then none else some (.long (g a b))
  | _, _ => none
def am_fLI (g : Int64 → Int32 → Int64) (x y : Value) : Option Value := match x, y with
  | .long a, .int b => some (.long (g a b))
  | _, _ => none
def am_fF (g : UInt32 → UInt32 → UInt32) (x y : Value) : Option Value := match x, y with
  | .float a, .float b => if (g a b) &&& 0x7fffffff ≤ 0x7f800000 then some (.float (g a b)) else none
  | _, _ => none
def am_fD (g : UInt64 → UInt64 → UInt64) (x y : Value) : Option Value := match x, y with
  | .double a, .double b => if (g a b) &&& 0x7fffffffffffffff ≤ 0x7ff0000000000000 then some (.double (g a b)) else none
  | _, _ => none
def am_tg (pc : Nat) (off : Int) : Option Nat := if 0 ≤ (pc : Int) + off then some ((pc : Int) + off).toNat else none
def am_br (b : Bool) (pc : Nat) (off : Int) (lv : am_L) (r : List Value) (M : am_M) : Option am_C := match am_tg pc off with
  | some t => bif b then some (t, lv, r, M) else some (pc + 3, lv, r, M)
  | none => none
def am_go (pc : Nat) (off : Int) (lv : am_L) (r : List Value) (M : am_M) : Option am_C := match am_tg pc off with
  | some t => some (t, lv, r, M)
  | none => none
def am_c1 (c : ClassFile.Cond) (x : Int32) : Bool := match c with
  | .eq => decide (x = 0)
  | .ne => !decide (x = 0)
  | .lt => decide (x < 0)
  | .ge => decide (0 ≤ x)
  | .gt => decide (0 < x)
  | .le => decide (x ≤ 0)
def am_c2 (c : ClassFile.Cond) (x y : Int32) : Bool := match c with
  | .eq => decide (x = y)
  | .ne => !decide (x = y)
  | .lt => decide (x < y)
  | .ge => decide (y ≤ x)
  | .gt => decide (y < x)
  | .le => decide (x ≤ y)
def am_in (i : Int32) (n : Nat) : Bool := !(decide (i < 0)) && decide (i.toNatClampNeg < n)
/-- does a field of this type take the value as it is? -/
def am_ft (ty : FieldType) (v : Value) : Bool := match ty, v with
  | .int, .int _ => true
  | .boolean, .int x => decide (x = 0) || decide (x = 1)
  | .long, .long _ => true
  | .object _, .ref _ => true
  | .object _, .null => true
  | .array _, .ref _ => true
  | .array _, .null => true
  | _, _ => false
def am_gf (P : am_Pg) (own idx pc : Nat) (lv : am_L) (st : List Value) (M : am_M) : Option am_C := match st with
  | .ref a :: r => match am_fld P own idx, M.1[a]? with
    | some (ci, k), some (.inr (cj, fs)) => if ci = cj then am_pu 3 pc lv r M fs[k]? else none
    | _, _ => none
  | _ => none
def am_pf (P : am_Pg) (mi own idx pc : Nat) (lv : am_L) (st : List Value) (M : am_M) : Option am_C := match st with
  | v :: .ref a :: r => match am_fld P own idx, M.1[a]? with
    | some (ci, k), some (.inr (cj, fs)) => bif decide (ci = cj) && (decide (k < fs.length) && (am_ft (am_fty P ci k) v && (!am_fin P ci k || (am_ini P mi && decide (own = ci))))) then some (pc + 3, lv, r, (M.1.set a (.inr (cj, fs.set k v)), M.2)) else none
    | _, _ => none
  | _ => none
def am_ald (P : am_Pg) (pc : Nat) (lv : am_L) (st : List Value) (M : am_M) : Option am_C := match st with
  | .int i :: .ref a :: r => match M.1[a]? with
    | some (.inl (0, n, .inl f)) => bif am_in i n then some (pc + 1, lv, .int (f i.toNatClampNeg) :: r, M) else none
    | _ => none
  | .int i :: .retAddr a :: r => match am_cst P a with
    | some (n, f) => bif am_in i n then some (pc + 1, lv, .int (f i.toNatClampNeg) :: r, M) else none
    | _ => none
  | _ => none
def am_ast (pc : Nat) (lv : am_L) (st : List Value) (M : am_M) : Option am_C := match st with
  | .int x :: .int i :: .ref a :: r => match M.1[a]? with
    | some (.inl (0, n, .inl f)) => bif am_in i n then some (pc + 1, lv, r, (M.1.set a (.inl (0, n, .inl (upd f i.toNatClampNeg x))), M.2)) else none
    | _ => none
  | _ => none
def am_lald (pc : Nat) (lv : am_L) (st : List Value) (M : am_M) : Option am_C := match st with
  | .int i :: .ref a :: r => match M.1[a]? with
    | some (.inl (1, n, .inr (.inl f))) => bif am_in i n then some (pc + 1, lv, .long (f i.toNatClampNeg) :: r, M) else none
    | _ => none
  | _ => none
def am_last (pc : Nat) (lv : am_L) (st : List Value) (M : am_M) : Option am_C := match st with
  | .long x :: .int i :: .ref a :: r => match M.1[a]? with
    | some (.inl (1, n, .inr (.inl f))) => bif am_in i n then some (pc + 1, lv, r, (M.1.set a (.inl (1, n, .inr (.inl (vp_updL f i.toNatClampNeg x)))), M.2)) else none
    | _ => none
  | _ => none
def am_qald (pc : Nat) (lv : am_L) (st : List Value) (M : am_M) : Option am_C := match st with
  | .int i :: .ref a :: r => match M.1[a]? with
    | some (.inl (t, n, .inr (.inr (.inr (.inr f))))) => bif decide (2 ≤ t ∧ t < 5) && am_in i n then some (pc + 1, lv, va_rf (f i.toNatClampNeg) :: r, M) else none
    | _ => none
  | _ => none
def am_qast (P : am_Pg) (pc : Nat) (lv : am_L) (st : List Value) (M : am_M) : Option am_C := match st with
  | .ref v :: .int i :: .ref a :: r => match M.1[a]?, M.1[v]? with
    | some (.inl (t, n, .inr (.inr (.inr (.inr f))))), some (.inr (cj, _)) => bif decide (2 ≤ t ∧ t < 5) && (decide (am_elt P t = cj) && am_in i n) then some (pc + 1, lv, r, (M.1.set a (.inl (t, n, .inr (.inr (.inr (.inr (va_up f i.toNatClampNeg (some v))))))), M.2)) else none
    | _, _ => none
  | _ => none
def am_len (P : am_Pg) (pc : Nat) (lv : am_L) (st : List Value) (M : am_M) : Option am_C := match st with
  | .ref a :: r => match M.1[a]? with
    | some (.inl (t, n, _)) => if t < 5 then some (pc + 1, lv, .int (Int32.ofNat n) :: r, M) else none
    | _ => none
  | .retAddr a :: r => match am_cst P a with
    | some (n, _) => some (pc + 1, lv, .int (Int32.ofNat n) :: r, M)
    | none => none
  | _ => none
def am_nw (P : am_Pg) (own idx pc : Nat) (lv : am_L) (st : List Value) (M : am_M) : Option am_C := match am_new P own idx with
  | some (ci, fs) => some (pc + 3, lv, .ref M.1.length :: st, (M.1 ++ [.inr (ci, fs)], M.2 + fs.length))
  | none => none
def am_na (at_ : ArrayType) (pc : Nat) (lv : am_L) (st : List Value) (M : am_M) : Option am_C := match at_, st with
  | .int, .int n :: r => bif !(decide (n < 0)) && decide (n.toNatClampNeg ≤ 1000000) then some (pc + 2, lv, .ref M.1.length :: r, (M.1 ++ [.inl (0, n.toNatClampNeg, .inl (fun _ => 0))], M.2 + n.toNatClampNeg)) else none
  | .long, .int n :: r => bif !(decide (n < 0)) && decide (n.toNatClampNeg ≤ 1000000) then some (pc + 2, lv, .ref M.1.length :: r, (M.1 ++ [.inl (1, n.toNatClampNeg, .inr (.inl (fun _ => 0)))], M.2 + n.toNatClampNeg)) else none
  | _, _ => none
def am_nq (P : am_Pg) (own idx pc : Nat) (lv : am_L) (st : List Value) (M : am_M) : Option am_C := match am_anw P own idx, st with
  | some t, .int n :: r => bif !(decide (n < 0)) && decide (n.toNatClampNeg ≤ 1000000) then some (pc + 3, lv, .ref M.1.length :: r, (M.1 ++ [.inl (t, n.toNatClampNeg, .inr (.inr (.inr (.inr (fun _ => none)))))], M.2 + n.toNatClampNeg)) else none
  | _, _ => none
def am_sum (st : List Value) : Nat := (st.map fun v => v.category).sum
/-- the library's own: Object's constructor, arraycopy over ints, a table's clone, the bits of a double, of a float -/
def am_n0 (pc : Nat) (lv : am_L) (st : List Value) (M : am_M) : Option am_C := match st with
  | .ref _ :: r => if am_sum r ≤ 8 then some (pc + 3, lv, r, M) else none
  | _ => none
def am_n1 (pc : Nat) (lv : am_L) (st : List Value) (M : am_M) : Option am_C := match st with
  | .int n :: .int dp :: .ref b :: .int sp :: .ref a :: r => match M.1[a]?, M.1[b]? with
    | some (.inl (0, n0, .inl f)), some (.inl (0, n1, .inl g)) => bif decide (am_sum r ≤ 8) && (!(decide (sp < 0)) && (!(decide (dp < 0)) && (!(decide (n < 0)) && (decide (sp.toNatClampNeg + n.toNatClampNeg ≤ n0) && decide (dp.toNatClampNeg + n.toNatClampNeg ≤ n1))))) then some (pc + 3, lv, r, (M.1.set b (.inl (0, n1, .inl (va_cpy f g sp.toNatClampNeg dp.toNatClampNeg n.toNatClampNeg))), M.2)) else none
    | _, _ => none
  | _ => none
def am_n2 (P : am_Pg) (pc : Nat) (lv : am_L) (st : List Value) (M : am_M) : Option am_C := match st with
  | .retAddr c :: r => match am_cst P c with
    | some (n, f) => if am_sum r ≤ 8 ∧ c ≠ 0 then some (pc + 3, lv, .ref M.1.length :: r, (M.1 ++ [.inl (0, n, .inl f)], M.2 + n)) else none
    | none => none
  | _ => none
def am_n3 (pc : Nat) (lv : am_L) (st : List Value) (M : am_M) : Option am_C := match st with
  | .double b :: r => if am_sum r ≤ 8 then some (pc + 3, lv, .long b.toInt64 :: r, M) else none
  | _ => none
def am_n4 (pc : Nat) (lv : am_L) (st : List Value) (M : am_M) : Option am_C := match st with
  | .float b :: r => if am_sum r ≤ 8 then some (pc + 3, lv, .int b.toInt32 :: r, M) else none
  | _ => none
def am_nt (P : am_Pg) (k pc : Nat) (lv : am_L) (st : List Value) (M : am_M) : Option am_C := match k with
  | 0 => am_n0 pc lv st M
  | 1 => am_n1 pc lv st M
  | 2 => am_n2 P pc lv st M
  | 3 => am_n3 pc lv st M
  | 4 => am_n4 pc lv st M
  | _ => none
def am_ntk (P : am_Pg) (mi : Nat) (ins : Instr) : Option Nat := match ins with
  | .invokespecial i => match am_nat P mi i with
    | some 0 => some 0
    | _ => none
  | .invokestatic i => match am_nat P mi i with
    | some 1 => some 1
    | some 3 => some 3
    | some 4 => some 4
    | _ => none
  | .invokevirtual i => match am_nat P mi i with
    | some 2 => some 2
    | _ => none
  | _ => none
def am_sw (x : Int32) (d lo hi : Int) (offs : Array Int) : Int := if x.toInt < lo ∨ hi < x.toInt then d else (offs[(x.toInt - lo).toNat]?).getD d
def am_swk (x : Int32) (lo hi : Int) (offs : Array Int) : Bool := decide (x.toInt < lo ∨ hi < x.toInt) || (offs[(x.toInt - lo).toNat]?).isSome
/-- one instruction that is no call of ours and no return -/
def am_st (P : am_Pg) (mi : Nat) (ins : Instr) (pc : Nat) (lv : am_L) (st : List Value) (M : am_M) : Option am_C := match ins with
  | .iconst n => some (pc + 1, lv, .int (Int32.ofInt n) :: st, M)
  | .bipush n => some (pc + 2, lv, .int (Int8.ofInt n).toInt32 :: st, M)
  | .sipush n => some (pc + 3, lv, .int (Int16.ofInt n).toInt32 :: st, M)
  | .lconst n => some (pc + 1, lv, .long (Int64.ofNat (n : Nat)) :: st, M)
  | .fconst n => match n with
    | 0 => some (pc + 1, lv, .float 0 :: st, M)
    | 1 => some (pc + 1, lv, .float 0x3f800000 :: st, M)
    | 2 => some (pc + 1, lv, .float 0x40000000 :: st, M)
  | .dconst n => match n with
    | 0 => some (pc + 1, lv, .double 0 :: st, M)
    | 1 => some (pc + 1, lv, .double 0x3ff0000000000000 :: st, M)
  | .ldc i => match am_con P (am_own P mi) i with
    | some (.int v) => some (pc + 2, lv, .int v :: st, M)
    | some (.float v) => some (pc + 2, lv, .float v :: st, M)
    | _ => none
  | .ldc_w i => match am_con P (am_own P mi) i with
    | some (.int v) => some (pc + 3, lv, .int v :: st, M)
    | some (.float v) => some (pc + 3, lv, .float v :: st, M)
    | _ => none
  | .ldc2_w i => match am_con P (am_own P mi) i with
    | some (.long v) => some (pc + 3, lv, .long v :: st, M)
    | some (.double v) => some (pc + 3, lv, .double v :: st, M)
    | _ => none
  | .iload_n k => am_pu 1 pc lv st M (am_ld 0 (am_lk lv k))
  | .lload_n k => am_pu 1 pc lv st M (am_ld 1 (am_lk lv k))
  | .fload_n k => am_pu 1 pc lv st M (am_ld 2 (am_lk lv k))
  | .dload_n k => am_pu 1 pc lv st M (am_ld 3 (am_lk lv k))
  | .aload_n k => am_pu 1 pc lv st M (am_ld 4 (am_lk lv k))
  | .iload i => am_pu 2 pc lv st M (am_ld 0 (am_lk lv i))
  | .lload i => am_pu 2 pc lv st M (am_ld 1 (am_lk lv i))
  | .aload i => am_pu 2 pc lv st M (am_ld 4 (am_lk lv i))
  | .istore_n k => am_so 0 1 pc k (am_mxl P mi) lv st M
  | .lstore_n k => am_so 1 1 pc k (am_mxl P mi) lv st M
  | .fstore_n k => am_so 2 1 pc k (am_mxl P mi) lv st M
  | .dstore_n k => am_so 3 1 pc k (am_mxl P mi) lv st M
  | .astore_n k => am_so 4 1 pc k (am_mxl P mi) lv st M
  | .istore i => am_so 0 2 pc i (am_mxl P mi) lv st M
  | .lstore i => am_so 1 2 pc i (am_mxl P mi) lv st M
  | .astore i => am_so 4 2 pc i (am_mxl P mi) lv st M
  | .iinc i n => match am_lk lv i with
    | some (.int x) => if i < am_mxl P mi then some (pc + 3, am_s1 lv i (.int (x + Int32.ofInt n)), st, M) else none
    | _ => none
  | .iadd => am_2 pc lv st M (am_fI (· + ·))
  | .isub => am_2 pc lv st M (am_fI (· - ·))
  | .imul => am_2 pc lv st M (am_fI (· * ·))
  | .iand => am_2 pc lv st M (am_fI (· &&& ·))
  | .ior => am_2 pc lv st M (am_fI (· ||| ·))
  | .ixor => am_2 pc lv st M (am_fI (· ^^^ ·))
  | .ishl => am_2 pc lv st M (am_fI (fun x y => x <<< (y &&& 31)))
  | .ishr => am_2 pc lv st M (am_fI (fun x y => x >>> (y &&& 31)))
  | .iushr => am_2 pc lv st M (am_fI (fun x y => (x.toUInt32 >>> (y.toUInt32 &&& Int32.toUInt32 31)).toInt32))
  | .idiv => am_2 pc lv st M (am_fID (fun x y => x / y))
  | .irem => am_2 pc lv st M (am_fID (fun x y => x - (x / y) * y))
  | .ineg => am_1 pc lv st M (fun v => match v with | .int x => some (.int (-x)) | _ => none)
  | .ladd => am_2 pc lv st M (am_fL (· + ·))
  | .lsub => am_2 pc lv st M (am_fL (· - ·))
  | .lmul => am_2 pc lv st M (am_fL (· * ·))
  | .land => am_2 pc lv st M (am_fL (· &&& ·))
  | .ldiv => am_2 pc lv st M (am_fLD (fun x y => x / y))
  | .lshl => am_2 pc lv st M (am_fLI (fun x y => x <<< (y.toInt64 &&& 63)))
  | .lshr => am_2 pc lv st M (am_fLI (fun x y => x >>> (y.toInt64 &&& 63)))
  | .lcmp => am_2 pc lv st M (fun x y => match x, y with | .long a, .long b => some (.int (lg_cmp a b)) | _, _ => none)
  | .i2l => am_1 pc lv st M (fun v => match v with | .int x => some (.long x.toInt64) | _ => none)
  | .l2i => am_1 pc lv st M (fun v => match v with | .long x => some (.int x.toInt32) | _ => none)
  | .l2d => am_1 pc lv st M (fun v => match v with | .long x => some (.double (FP.l2d x)) | _ => none)
  | .i2f => am_1 pc lv st M (fun v => match v with | .int x => some (.float (FP.i2f x)) | _ => none)
  | .d2l => am_1 pc lv st M (fun v => match v with | .double x => some (.long (FP.d2l x)) | _ => none)
  | .f2i => am_1 pc lv st M (fun v => match v with | .float x => some (.int (FP.f2i x)) | _ => none)
  | .dadd => am_2 pc lv st M (am_fD FP.dadd)
  | .dsub => am_2 pc lv st M (am_fD FP.dsub)
  | .dmul => am_2 pc lv st M (am_fD FP.dmul)
  | .ddiv => am_2 pc lv st M (am_fD FP.ddiv)
  | .fsub => am_2 pc lv st M (am_fF FP.fsub)
  | .fmul => am_2 pc lv st M (am_fF FP.fmul)
  | .fdiv => am_2 pc lv st M (am_fF FP.fdiv)
  | .dcmp op => am_2 pc lv st M (fun x y => match x, y with | .double a, .double b => some (.int (Op.cmpValue (FP.dcmp a b) op)) | _, _ => none)
  | .fcmp op => am_2 pc lv st M (fun x y => match x, y with | .float a, .float b => some (.int (Op.cmpValue (FP.fcmp a b) op)) | _, _ => none)
  | .dup => match st with
    | v :: r => if v.category = 1 then some (pc + 1, lv, v :: v :: r, M) else none
    | _ => none
  | .pop => match st with
    | v :: r => if v.category = 1 then some (pc + 1, lv, r, M) else none
    | _ => none
  | .pop2 => match st with
    | v :: r => if v.category = 2 then some (pc + 1, lv, r, M) else none
    | _ => none
  | .dup2 => match st with
    | v :: w :: r => if v.category = 1 ∧ w.category = 1 then some (pc + 1, lv, v :: w :: v :: w :: r, M) else none
    | _ => none
  | .dup_x1 => match st with
    | v :: w :: r => if v.category = 1 ∧ w.category = 1 then some (pc + 1, lv, v :: w :: v :: r, M) else none
    | _ => none
  | .ifCond c off => match st with
    | .int x :: r => am_br (am_c1 c x) pc off lv r M
    | _ => none
  | .if_icmp c off => match st with
    | .int y :: .int x :: r => am_br (am_c2 c x y) pc off lv r M
    | _ => none
  | .ifnonnull off => match st with
    | .ref _ :: r => am_go pc off lv r M
    | .null :: r => some (pc + 3, lv, r, M)
    | _ => none
  | .ifnull off => match st with
    | .ref _ :: r => some (pc + 3, lv, r, M)
    | .null :: r => am_go pc off lv r M
    | _ => none
  | .goto off => am_go pc off lv st M
  | .tableswitch d lo hi offs => match st with
    | .int x :: r => bif am_swk x lo hi offs then am_go pc (am_sw x d lo hi offs) lv r M else none
    | _ => none
  | .getfield i => am_gf P (am_own P mi) i pc lv st M
  | .putfield i => am_pf P mi (am_own P mi) i pc lv st M
  | .getstatic i => match am_sta P (am_own P mi) i with
    | some c => some (pc + 3, lv, .retAddr c :: st, M)
    | none => none
  | .iaload => am_ald P pc lv st M
  | .iastore => am_ast pc lv st M
  | .laload => am_lald pc lv st M
  | .lastore => am_last pc lv st M
  | .aaload => am_qald pc lv st M
  | .aastore => am_qast P pc lv st M
  | .arraylength => am_len P pc lv st M
  | .new i => am_nw P (am_own P mi) i pc lv st M
  | .newarray t => am_na t pc lv st M
  | .anewarray i => am_nq P (am_own P mi) i pc lv st M
  | .checkcast _ => match st with
    | .ref a :: r => match M.1[a]? with
      | some (.inl (0, _)) => some (pc + 3, lv, .ref a :: r, M)
      | _ => none
    | _ => none
  | .invokespecial _ => match am_ntk P mi ins with
    | some k => am_nt P k pc lv st M
    | none => none
  | .invokestatic _ => match am_ntk P mi ins with
    | some k => am_nt P k pc lv st M
    | none => none
  | .invokevirtual _ => match am_ntk P mi ins with
    | some k => am_nt P k pc lv st M
    | none => none
  | _ => none
/-- an answer -/
def am_rt (P : am_Pg) (mi : Nat) (ins : Instr) (st : List Value) : Option (Option Value) := match ins, st with
  | .return_, [] => match am_ret P mi with
    | none => some none
    | some _ => none
  | .ireturn, [.int v] => match am_ret P mi with
    | some .int => some (some (.int v))
    | some .boolean => if v = 0 ∨ v = 1 then some (some (.int v)) else none
    | _ => none
  | .lreturn, [.long v] => match am_ret P mi with
    | some .long => some (some (.long v))
    | _ => none
  | .freturn, [.float v] => match am_ret P mi with
    | some .float => some (some (.float v))
    | _ => none
  | .dreturn, [.double v] => match am_ret P mi with
    | some .double => some (some (.double v))
    | _ => none
  | .areturn, [.ref a] => match am_ret P mi with
    | some (.object _) => some (some (.ref a))
    | _ => none
  | _, _ => none
/-- a call of ours: the method, how many of the stack it takes -/
def am_cl (P : am_Pg) (mi : Nat) (ins : Instr) : Option (Nat × Nat) := match ins with
  | .invokestatic i => match am_cal P mi i with
    | some (0, r) => some r
    | _ => none
  | .invokevirtual i => match am_cal P mi i with
    | some (1, r) => some r
    | _ => none
  | .invokespecial i => match am_cal P mi i with
    | some (2, r) => some r
    | _ => none
  | _ => none
def am_rs (as_ : List Value) : Bool := match as_ with
  | .ref _ :: _ => true
  | _ => false
def am_rv (P : am_Pg) (mj : Nat) (as_ : List Value) (M : am_M) : Bool := match as_ with
  | .ref a :: _ => match M.1[a]? with
    | some (.inr (cj, _)) => decide (cj = am_own P mj)
    | _ => false
  | _ => false
/-- the stack of a call: enough on it, little below; the receiver, where there is one, is an object of ours (of the method's class) -/
def am_rc (P : am_Pg) (mi : Nat) (ins : Instr) (mj n : Nat) (st : List Value) (M : am_M) : Bool :=
  decide (n ≤ st.length) && (decide (am_sum (st.drop n) ≤ 8 ∧ am_sum (st.take n) ≤ am_mxl P mj) && (match ins with
  | .invokestatic _ => true
  | .invokespecial _ => am_rs (st.take n).reverse
  | .invokevirtual _ => am_rv P mj (st.take n).reverse M
  | _ => false))
/-- the machine: fuel, method, place, locals, stack, memory; the answer, the memory behind it -/
def am_ev (P : am_Pg) : Nat → Nat → Nat → am_L → List Value → am_M → Option (Option Value × am_M)
  | 0, _, _, _, _, _ => none
  | f + 1, mi, pc, lv, st, M => match am_code P mi pc with
    | none => none
    | some ins => match am_cl P mi ins with
      | some (mj, n) => bif am_rc P mi ins mj n st M then (match am_ev P f mj 0 (lv_args 0 (st.take n).reverse) [] M with
          | some (v, M') => am_ev P f mi (pc + 3) lv (v.toList ++ st.drop n) M'
          | none => none) else none
      | none => match am_rt P mi ins st with
        | some v => some (v, M)
        | none => match am_st P mi ins pc lv st M with
          | some (pc', lv', st', M') => am_ev P f mi pc' lv' st' M'
          | none => none
