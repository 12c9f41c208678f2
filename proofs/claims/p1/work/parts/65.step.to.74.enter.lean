/-! 65.step.lean.txt -/
section
/-! ===== the looker's step: one instruction that is no call and no return ===== -/
abbrev at_N : Type := Nat × at_S × at_L × List at_V
def at_m4 : Int := -2147483648
def at_x4 : Int := 2147483647
def at_m8 : Int := -9223372036854775808
def at_x8 : Int := 9223372036854775807
def at_i (pc : Nat) (S : at_S) (lv : at_L) (r : List at_V) (q : at_P × at_A) : Option (List at_N) := some [(pc, (q.1, S.2), lv, .inl q.2 :: r)]
def at_j (pc : Nat) (S : at_S) (lv : at_L) (r : List at_V) (q : at_P × at_A) : Option (List at_N) := some [(pc, (q.1, S.2), lv, .inr (.inl q.2) :: r)]
def at_lw (w : Nat) (o : Option (Option at_V)) : Option at_V := match w, o with
  | 0, some (some (.inl a)) => some (.inl a)
  | 1, some (some (.inr (.inl a))) => some (.inr (.inl a))
  | 4, some (some (.inr (.inr (.inl q)))) => some (.inr (.inr (.inl q)))
  | 4, some (some (.inr (.inr (.inr (.inl c))))) => some (.inr (.inr (.inr (.inl c))))
  | _, _ => none
def at_pu (n pc : Nat) (S : at_S) (lv : at_L) (st : List at_V) (o : Option at_V) : Option (List at_N) := match o with
  | some v => some [(pc + n, S, lv, v :: st)]
  | none => none
def at_so (w n pc i nL : Nat) (S : at_S) (lv : at_L) (st : List at_V) : Option (List at_N) := match st with
  | v :: r => match at_lw w (some (some v)) with
    | none => none
    | some _ => bif Nat.blt (bif Nat.beq (at_cat v) 2 then i + 1 else i) nL then some [(pc + n, S, at_s lv i v, r)] else none
  | [] => none
/-- a condition on the sign of d -/
def at_cd (c : ClassFile.Cond) (P : at_P) (d : at_A) : Option at_P := match c with
  | .eq => (match at_as P d with
    | some P' => at_as P' (at_mul (-1) d)
    | none => none)
  | .ne => bif decide (at_lo P.1 d = 0) then at_as P (at_sub (at_c 1) d) else bif decide (at_hi P.1 d = 0) then at_as P (at_add d (at_c 1)) else bif decide (at_lo P.1 d < 0) && decide (0 < at_hi P.1 d) then some (P.1, P.2.1, d :: P.2.2) else some P
  | .lt => at_as P (at_add d (at_c 1))
  | .ge => at_as P (at_mul (-1) d)
  | .gt => at_as P (at_sub (at_c 1) d)
  | .le => at_as P d
def at_ng (c : ClassFile.Cond) : ClassFile.Cond := match c with
  | .eq => .ne
  | .ne => .eq
  | .lt => .ge
  | .ge => .lt
  | .gt => .le
  | .le => .gt
def at_alt (pc : Nat) (S : at_S) (lv : at_L) (r : List at_V) (o : Option at_P) : List at_N := match o with
  | some P => [(pc, (P, S.2), lv, r)]
  | none => []
def at_br (c : ClassFile.Cond) (d : at_A) (pc : Nat) (off : Int) (S : at_S) (lv : at_L) (r : List at_V) : Option (List at_N) := match am_tg pc off with
  | some t => some (at_alt t S lv r (at_cd c S.1 d) ++ at_alt (pc + 3) S lv r (at_cd (at_ng c) S.1 d))
  | none => none
/-- a case of a switch -/
def at_tc (x : at_A) (lo : Int) (offs : Array Int) (pc : Nat) (S : at_S) (lv : at_L) (r : List at_V) (k : Nat) : List at_N := match am_tg pc ((offs[k]?).getD 0) with
  | some t => at_alt t S lv r (at_cd .eq S.1 (at_sub x (at_c (lo + k))))
  | none => []
def at_ts (x : at_A) (d lo hi : Int) (offs : Array Int) (pc : Nat) (S : at_S) (lv : at_L) (r : List at_V) : Option (List at_N) :=
  bif decide ((offs.size : Int) = hi - lo + 1) && ((List.range offs.size).all (fun k => (am_tg pc ((offs[k]?).getD 0)).isSome) && (am_tg pc d).isSome) then
    some ((List.range offs.size).flatMap (at_tc x lo offs pc S lv r) ++ (bif decide (lo ≤ at_lo S.1.1 x) && decide (at_hi S.1.1 x ≤ hi) then [] else (match am_tg pc d with
      | some t => [(t, S, lv, r)]
      | none => [])))
  else none
def at_tab (c : Nat) : List Int32 := match c with
  | 0 => []
  | k + 1 => pw_tab_l.getD k []
def at_tmin (l : List Int32) : Int := l.foldr (fun x a => min x.toInt a) 0
def at_tmax (l : List Int32) : Int := l.foldr (fun x a => max x.toInt a) 0
def at_gf (own idx pc : Nat) (S : at_S) (lv : at_L) (st : List at_V) : Option (List at_N) := match st with
  | .inr (.inr (.inl q)) :: r => match pw_fld own idx, fk_kd q.1 with
    | some (ci, k), .inl (cj, fs) => bif Nat.beq ci cj then (match fs[k]? with
      | some none => (fun s : at_S × at_A => some [(pc + 3, s.1, lv, .inl s.2 :: r)]) (at_ld S q.1 q.2 (at_c k))
      | some (some u) => some [(pc + 3, S, lv, .inr (.inr (.inl (u.1, at_add q.2 (at_c u.2)))) :: r)]
      | none => none) else none
    | _, _ => none
  | _ => none
def at_fok (ci k : Nat) (S : at_S) (v : at_A) : Bool := match pw_fty ci k with
  | .int => true
  | .boolean => at_inR S.1 v 0 1
  | _ => false
def at_pfd (mi own idx pc : Nat) (S : at_S) (lv : at_L) (st : List at_V) : Option (List at_N) := match st with
  | .inl v :: .inr (.inr (.inl q)) :: r => match pw_fld own idx, fk_kd q.1 with
    | some (ci, k), .inl (cj, fs) => match fs[k]? with
      | some none => bif Nat.beq ci cj && (at_fok ci k S v && (!pw_fin ci k || (pw_ini mi && Nat.beq own ci))) then (match at_sv S q.1 q.2 (at_c k) v with
        | some S' => some [(pc + 3, S', lv, r)]
        | none => none) else none
      | _ => none
    | _, _ => none
  | _ => none
def at_ald (pc : Nat) (S : at_S) (lv : at_L) (st : List at_V) : Option (List at_N) := match st with
  | .inl i :: .inr (.inr (.inl q)) :: r => match fk_kd q.1 with
    | .inr (0, n, _) => bif at_inR S.1 i 0 (n - 1) then (fun s : at_S × at_A => some [(pc + 1, s.1, lv, .inl s.2 :: r)]) (at_ld S q.1 q.2 i) else none
    | _ => none
  | .inl i :: .inr (.inr (.inr (.inl c))) :: r => (fun tb : List Int32 => bif at_inR S.1 i 0 ((tb.length : Int) - 1) then (match at_ic S.1.1 i with
    | some k => at_i (pc + 1) S lv r (S.1, at_c (tb.getD k.toNat 0).toInt)
    | none => at_i (pc + 1) S lv r (at_fr S.1 (at_tmin tb) (at_tmax tb))) else none) (at_tab c)
  | _ => none
def at_ast (pc : Nat) (S : at_S) (lv : at_L) (st : List at_V) : Option (List at_N) := match st with
  | .inl x :: .inl i :: .inr (.inr (.inl q)) :: r => match fk_kd q.1 with
    | .inr (0, n, _) => bif at_inR S.1 i 0 (n - 1) then (match at_sv S q.1 q.2 i x with
      | some S' => some [(pc + 1, S', lv, r)]
      | none => none) else none
    | _ => none
  | _ => none
def at_lald (pc : Nat) (S : at_S) (lv : at_L) (st : List at_V) : Option (List at_N) := match st with
  | .inl i :: .inr (.inr (.inl q)) :: r => match fk_kd q.1 with
    | .inr (1, n, _) => bif at_inR S.1 i 0 (n - 1) then at_j (pc + 1) S lv r (at_fr S.1 at_m8 at_x8) else none
    | _ => none
  | _ => none
def at_last (pc : Nat) (S : at_S) (lv : at_L) (st : List at_V) : Option (List at_N) := match st with
  | .inr (.inl _) :: .inl i :: .inr (.inr (.inl q)) :: r => match fk_kd q.1 with
    | .inr (1, n, _) => bif at_inR S.1 i 0 (n - 1) then some [(pc + 1, S, lv, r)] else none
    | _ => none
  | _ => none
def at_qald (pc : Nat) (S : at_S) (lv : at_L) (st : List at_V) : Option (List at_N) := match st with
  | .inl i :: .inr (.inr (.inl q)) :: r => match fk_kd q.1 with
    | .inr (t, n, τ, b, d) => bif Nat.ble 2 t && (Nat.blt t 5 && (!Nat.beq d 0 && at_inR S.1 i 0 (n - 1))) then some [(pc + 1, S, lv, .inr (.inr (.inl (τ, at_add (at_add q.2 (at_c b)) (at_mul d i)))) :: r)] else none
    | _ => none
  | _ => none
def at_len (pc : Nat) (S : at_S) (lv : at_L) (st : List at_V) : Option (List at_N) := match st with
  | .inr (.inr (.inl q)) :: r => match fk_kd q.1 with
    | .inr (t, n, _) => bif Nat.blt t 5 && Nat.blt n 2147483648 then at_i (pc + 1) S lv r (S.1, at_c n) else none
    | _ => none
  | .inr (.inr (.inr (.inl (c + 1)))) :: r => bif Nat.blt c pw_tab_l.length && Nat.blt (at_tab (c + 1)).length 2147483648 then at_i (pc + 1) S lv r (S.1, at_c (at_tab (c + 1)).length) else none
  | _ => none
def at_cpy (pc : Nat) (S : at_S) (lv : at_L) (st : List at_V) : Option (List at_N) := match st with
  | .inl n :: .inl dp :: .inr (.inr (.inl b)) :: .inl sp :: .inr (.inr (.inl a)) :: r => match fk_kd a.1, fk_kd b.1 with
    | .inr (0, n0, _), .inr (0, n1, _) => match at_ic S.1.1 n, at_ic S.1.1 dp, at_ic S.1.1 sp with
      | some n, some dp, some sp => bif decide (0 ≤ n) && (decide (0 ≤ dp) && (decide (0 ≤ sp) && (decide (sp + n ≤ n0) && (decide (dp + n ≤ n1) && decide ((r.map at_cat).sum ≤ 8))))) then (match at_cp S a.1 b.1 sp dp n n0 with
        | some S' => some [(pc + 3, S', lv, r)]
        | none => none) else none
      | _, _, _ => none
    | _, _ => none
  | _ => none
/-- a shift of 1 -/
def at_sh (P : at_P) (a b : at_A) : at_P × at_A := match at_ic P.1 a with
  | some 1 => bif decide (0 ≤ at_lo P.1 b) && decide (at_hi P.1 b ≤ 30) then at_fr P (2 ^ (at_lo P.1 b).toNat) (2 ^ (at_hi P.1 b).toNat) else at_fr P at_m4 at_x4
  | _ => at_fr P at_m4 at_x4
def at_st (mi : Nat) (ins : Instr) (pc : Nat) (S : at_S) (lv : at_L) (st : List at_V) : Option (List at_N) := match ins with
  | .iconst n => at_i (pc + 1) S lv st (S.1, at_c (Int32.ofInt n).toInt)
  | .bipush n => at_i (pc + 2) S lv st (S.1, at_c (Int8.ofInt n).toInt32.toInt)
  | .sipush n => at_i (pc + 3) S lv st (S.1, at_c (Int16.ofInt n).toInt32.toInt)
  | .lconst n => at_j (pc + 1) S lv st (S.1, at_c (Int64.ofNat (n : Nat)).toInt)
  | .ldc i => match pw_con (pw_own mi) i with
    | some (.int v) => at_i (pc + 2) S lv st (S.1, at_c v.toInt)
    | _ => none
  | .ldc_w i => match pw_con (pw_own mi) i with
    | some (.int v) => at_i (pc + 3) S lv st (S.1, at_c v.toInt)
    | _ => none
  | .ldc2_w i => match pw_con (pw_own mi) i with
    | some (.long v) => at_j (pc + 3) S lv st (S.1, at_c v.toInt)
    | _ => none
  | .iload_n k => at_pu 1 pc S lv st (at_lw 0 lv[(k : Nat)]?)
  | .lload_n k => at_pu 1 pc S lv st (at_lw 1 lv[(k : Nat)]?)
  | .aload_n k => at_pu 1 pc S lv st (at_lw 4 lv[(k : Nat)]?)
  | .iload i => at_pu 2 pc S lv st (at_lw 0 lv[(i : Nat)]?)
  | .lload i => at_pu 2 pc S lv st (at_lw 1 lv[(i : Nat)]?)
  | .aload i => at_pu 2 pc S lv st (at_lw 4 lv[(i : Nat)]?)
  | .istore_n k => at_so 0 1 pc k (pw_mxl mi) S lv st
  | .lstore_n k => at_so 1 1 pc k (pw_mxl mi) S lv st
  | .astore_n k => at_so 4 1 pc k (pw_mxl mi) S lv st
  | .istore i => at_so 0 2 pc i (pw_mxl mi) S lv st
  | .lstore i => at_so 1 2 pc i (pw_mxl mi) S lv st
  | .astore i => at_so 4 2 pc i (pw_mxl mi) S lv st
  | .iinc i n => match lv[(i : Nat)]? with
    | some (some (.inl a)) => bif Nat.blt i (pw_mxl mi) then (fun q : at_P × at_A => some [(pc + 3, (q.1, S.2), at_s lv i (.inl q.2), st)]) (at_fx S.1 (at_add a (at_c (Int32.ofInt n).toInt)) at_m4 at_x4) else none
    | _ => none
  | .iadd => match st with
    | .inl b :: .inl a :: r => at_i (pc + 1) S lv r (at_fx S.1 (at_add a b) at_m4 at_x4)
    | _ => none
  | .isub => match st with
    | .inl b :: .inl a :: r => at_i (pc + 1) S lv r (at_fx S.1 (at_sub a b) at_m4 at_x4)
    | _ => none
  | .imul => match st with
    | .inl b :: .inl a :: r => at_i (pc + 1) S lv r (at_ml S.1 a b at_m4 at_x4)
    | _ => none
  | .idiv => match st with
    | .inl b :: .inl a :: r => (match at_dv S.1 a b at_m4 at_x4 with
      | some q => at_i (pc + 1) S lv r q
      | none => none)
    | _ => none
  | .irem => match st with
    | .inl b :: .inl a :: r => (match at_rm S.1 a b at_m4 at_x4 with
      | some q => at_i (pc + 1) S lv r q
      | none => none)
    | _ => none
  | .iand => match st with
    | .inl b :: .inl a :: r => at_i (pc + 1) S lv r (at_an S.1 a b at_m4 at_x4)
    | _ => none
  | .ishl => match st with
    | .inl b :: .inl a :: r => at_i (pc + 1) S lv r (at_sh S.1 a b)
    | _ => none
  | .ior => match st with
    | .inl _ :: .inl _ :: r => at_i (pc + 1) S lv r (at_fr S.1 at_m4 at_x4)
    | _ => none
  | .ixor => match st with
    | .inl _ :: .inl _ :: r => at_i (pc + 1) S lv r (at_fr S.1 at_m4 at_x4)
    | _ => none
  | .ishr => match st with
    | .inl _ :: .inl _ :: r => at_i (pc + 1) S lv r (at_fr S.1 at_m4 at_x4)
    | _ => none
  | .iushr => match st with
    | .inl _ :: .inl _ :: r => at_i (pc + 1) S lv r (at_fr S.1 at_m4 at_x4)
    | _ => none
  | .ineg => match st with
    | .inl a :: r => at_i (pc + 1) S lv r (at_fx S.1 (at_mul (-1) a) at_m4 at_x4)
    | _ => none
  | .ladd => match st with
    | .inr (.inl b) :: .inr (.inl a) :: r => at_j (pc + 1) S lv r (at_fx S.1 (at_add a b) at_m8 at_x8)
    | _ => none
  | .lsub => match st with
    | .inr (.inl b) :: .inr (.inl a) :: r => at_j (pc + 1) S lv r (at_fx S.1 (at_sub a b) at_m8 at_x8)
    | _ => none
  | .lmul => match st with
    | .inr (.inl b) :: .inr (.inl a) :: r => at_j (pc + 1) S lv r (at_ml S.1 a b at_m8 at_x8)
    | _ => none
  | .ldiv => match st with
    | .inr (.inl b) :: .inr (.inl a) :: r => (match at_dv S.1 a b at_m8 at_x8 with
      | some q => at_j (pc + 1) S lv r q
      | none => none)
    | _ => none
  | .land => match st with
    | .inr (.inl _) :: .inr (.inl _) :: r => at_j (pc + 1) S lv r (at_fr S.1 at_m8 at_x8)
    | _ => none
  | .lshl => match st with
    | .inl _ :: .inr (.inl _) :: r => at_j (pc + 1) S lv r (at_fr S.1 at_m8 at_x8)
    | _ => none
  | .lshr => match st with
    | .inl _ :: .inr (.inl _) :: r => at_j (pc + 1) S lv r (at_fr S.1 at_m8 at_x8)
    | _ => none
  | .lcmp => match st with
    | .inr (.inl b) :: .inr (.inl a) :: r => some [(pc + 1, S, lv, .inr (.inr (.inr (.inr (at_sub a b)))) :: r)]
    | _ => none
  | .i2l => match st with
    | .inl a :: r => some [(pc + 1, S, lv, .inr (.inl a) :: r)]
    | _ => none
  | .l2i => match st with
    | .inr (.inl a) :: r => at_i (pc + 1) S lv r (at_fx S.1 a at_m4 at_x4)
    | _ => none
  | .dup => match st with
    | v :: r => bif Nat.beq (at_cat v) 1 then some [(pc + 1, S, lv, v :: v :: r)] else none
    | _ => none
  | .pop => match st with
    | v :: r => bif Nat.beq (at_cat v) 1 then some [(pc + 1, S, lv, r)] else none
    | _ => none
  | .pop2 => match st with
    | v :: r => bif Nat.beq (at_cat v) 2 then some [(pc + 1, S, lv, r)] else none
    | _ => none
  | .dup2 => match st with
    | v :: w :: r => bif Nat.beq (at_cat v) 1 && Nat.beq (at_cat w) 1 then some [(pc + 1, S, lv, v :: w :: v :: w :: r)] else none
    | _ => none
  | .ifCond c off => match st with
    | .inl d :: r => at_br c d pc off S lv r
    | .inr (.inr (.inr (.inr d))) :: r => at_br c d pc off S lv r
    | _ => none
  | .if_icmp c off => match st with
    | .inl b :: .inl a :: r => at_br c (at_sub a b) pc off S lv r
    | _ => none
  | .goto off => match am_tg pc off with
    | some t => some [(t, S, lv, st)]
    | none => none
  | .tableswitch d lo hi offs => match st with
    | .inl x :: r => at_ts x d lo hi offs pc S lv r
    | _ => none
  | .getfield i => at_gf (pw_own mi) i pc S lv st
  | .putfield i => at_pfd mi (pw_own mi) i pc S lv st
  | .getstatic i => match pw_sta (pw_own mi) i with
    | some c => some [(pc + 3, S, lv, .inr (.inr (.inr (.inl c))) :: st)]
    | none => none
  | .iaload => at_ald pc S lv st
  | .iastore => at_ast pc S lv st
  | .laload => at_lald pc S lv st
  | .lastore => at_last pc S lv st
  | .aaload => at_qald pc S lv st
  | .arraylength => at_len pc S lv st
  | .invokestatic i => match pw_nat mi i with
    | some 1 => at_cpy pc S lv st
    | _ => none
  | _ => none

end

/-! 66.stepok.lean.txt -/
section
/-! ===== the looker's step is a step ===== -/
def at_G (X : fl_M → Prop) (m0 m : fl_M) (ν : Nat → Int) (S : at_S) (lv : at_L) (st : List at_V) (fl : fl_L) (fs : List fl_V) : Prop := at_GS X m0 m ν S ∧ at_LR ν m.2.2 lv fl ∧ (∀ a, some a ∈ lv → at_wV S.1.1.length a) ∧ at_RS ν m.2.2 st fs ∧ ∀ a ∈ st, at_wV S.1.1.length a
def at_cl (mi : Nat) (ins : Instr) : Option (Nat × Nat) := match ins with
  | .invokestatic i => match pw_cal mi i with
    | some (0, r) => some r
    | _ => none
  | .invokevirtual i => match pw_cal mi i with
    | some (1, r) => some r
    | _ => none
  | .invokespecial i => match pw_cal mi i with
    | some (2, r) => some r
    | _ => none
  | _ => none
section ATW
variable {X : fl_M → Prop} {m0 m : fl_M} {ν ν' : Nat → Int} {S : at_S} {lv : at_L} {st r : List at_V} {fl : fl_L} {fs : List fl_V} {L : Nat} {xs : Nat → Int32} {mi pc : Nat}
theorem at_cl_eq (ins : Instr) : am_cl (pw_P L xs) mi ins = at_cl mi ins := rfl
/-- the state on which the looker goes on -/
def at_Nx (X : fl_M → Prop) (m0 : fl_M) (ν : Nat → Int) (n : Nat) (alts : List at_N) (c : fl_C) : Prop := ∃ a ∈ alts, ∃ ν', a.1 = c.1 ∧ at_ag n ν ν' ∧ n ≤ a.2.1.1.1.length ∧ at_G X m0 c.2.2.2 ν' a.2.1 a.2.2.1 a.2.2.2 c.2.1 c.2.2.1
theorem at_Nx.one {n : Nat} {a : at_N} {c : fl_C} (h1 : a.1 = c.1) (h2 : at_ag n ν ν') (h3 : n ≤ a.2.1.1.1.length) (h4 : at_G X m0 c.2.2.2 ν' a.2.1 a.2.2.1 a.2.2.2 c.2.1 c.2.2.1) : at_Nx X m0 ν n [a] c := ⟨a, List.mem_cons_self, ν', h1, h2, h3, h4⟩
/-- more is known, the rest is as it was -/
theorem at_G.ext {P' : at_P} (h : at_G X m0 m ν S lv st fl fs) (hx : at_X ν S.1 ν' P') : at_G X m0 m ν' (P', S.2) lv st fl fs :=
  ⟨h.1.ext hx, h.2.1.ag h.2.2.1 hx.1 (Nat.le_refl _), fun a ha => (h.2.2.1 a ha).mono hx.2.1, h.2.2.2.1.ag h.2.2.2.2 hx.1 (Nat.le_refl _), fun a ha => (h.2.2.2.2 a ha).mono hx.2.1⟩
theorem at_G.mem {S' : at_S} {m' : fl_M} (h : at_G X m0 m ν S lv st fl fs) (hag : at_ag S.1.1.length ν ν') (hle : S.1.1.length ≤ S'.1.1.length) (hh : m.2.2 ≤ m'.2.2) (hg : at_GS X m0 m' ν' S') : at_G X m0 m' ν' S' lv st fl fs :=
  ⟨hg, h.2.1.ag h.2.2.1 hag hh, fun a ha => (h.2.2.1 a ha).mono hle, h.2.2.2.1.ag h.2.2.2.2 hag hh, fun a ha => (h.2.2.2.2 a ha).mono hle⟩
theorem at_G.pop {a : at_V} (h : at_G X m0 m ν S lv (a :: r) fl fs) : ∃ v s, fs = v :: s ∧ at_RV ν m.2.2 a v ∧ at_wV S.1.1.length a ∧ at_G X m0 m ν S lv r fl s := by
  obtain ⟨v, s, rfl, h1, h2⟩ := h.2.2.2.1.cons
  exact ⟨v, s, rfl, h1, h.2.2.2.2 a List.mem_cons_self, h.1, h.2.1, h.2.2.1, h2, fun b hb => h.2.2.2.2 b (List.mem_cons_of_mem _ hb)⟩
theorem at_G.push {a : at_V} {v : fl_V} (h : at_G X m0 m ν S lv r fl fs) (hv : at_RV ν m.2.2 a v) (hw : at_wV S.1.1.length a) : at_G X m0 m ν S lv (a :: r) fl (v :: fs) :=
  ⟨h.1, h.2.1, h.2.2.1, ⟨hv, h.2.2.2.1⟩, fun b hb => by
    rcases List.mem_cons.mp hb with rfl | hb
    · exact hw
    · exact h.2.2.2.2 b hb⟩
theorem at_G.set {a : at_V} {v : fl_V} {i : Nat} (h : at_G X m0 m ν S lv r fl fs) (hv : at_RV ν m.2.2 a v) (hw : at_wV S.1.1.length a) : at_G X m0 m ν S (at_s lv i a) r (fl_s fl i v) fs :=
  ⟨h.1, h.2.1.s hv, fun b hb => by
    rcases at_s_mem hb with rfl | hb
    · exact hw
    · exact h.2.2.1 b hb, h.2.2.2.1, h.2.2.2.2⟩
/-- an int is pushed -/
theorem at_i_ok {pc' : Nat} {q : at_P × at_A} {x : Int32} {alts : List at_N} (h : at_G X m0 m ν S lv r fl fs) (hs : at_Sp ν S.1 q x.toInt) (e : at_i pc' S lv r q = some alts) : at_Nx X m0 ν S.1.1.length alts (pc', fl, .inl x :: fs, m) := by
  obtain ⟨ν', hx, hw, hv⟩ := hs
  cases e
  exact at_Nx.one (by rfl) hx.1 hx.2.1 ((h.ext hx).push ⟨x, rfl, hv.symm⟩ hw)
theorem at_j_ok {pc' : Nat} {q : at_P × at_A} {x : Int64} {alts : List at_N} (h : at_G X m0 m ν S lv r fl fs) (hs : at_Sp ν S.1 q x.toInt) (e : at_j pc' S lv r q = some alts) : at_Nx X m0 ν S.1.1.length alts (pc', fl, .inr (.inl x) :: fs, m) := by
  obtain ⟨ν', hx, hw, hv⟩ := hs
  cases e
  exact at_Nx.one (by rfl) hx.1 hx.2.1 ((h.ext hx).push ⟨x, rfl, hv.symm⟩ hw)
theorem at_Sp.c {P : at_P} (hP : at_KP ν P) (k : Int) : at_Sp ν P (P, at_c k) k := ⟨ν, at_X.rfl hP, at_wf_c, at_ev_c _ _⟩
theorem at_i64 (x : Int64) : at_m8 ≤ x.toInt ∧ x.toInt ≤ at_x8 := by
  have h1 := Int64.le_toInt x
  have h2 := Int64.toInt_lt x
  unfold at_m8 at_x8
  omega
theorem at_i32' (x : Int32) : at_m4 ≤ x.toInt ∧ x.toInt ≤ at_x4 := at_i32 x
theorem at_lw_ok {w : Nat} {i : Nat} {a : at_V} {h : Nat} (hl : at_LR ν h lv fl) (e : at_lw w lv[i]? = some a) : ∃ v, fl_ld w fl[i]? = some v ∧ at_RV ν h a v ∧ some a ∈ lv := by
  unfold at_lw at e
  split at e
  · rename_i e2
    cases e
    obtain ⟨v, e1, e3⟩ := hl.2 i _ e2
    obtain ⟨x, rfl, -⟩ := id e3
    exact ⟨_, by rw [e1]; rfl, e3, List.mem_of_getElem? e2⟩
  · rename_i e2
    cases e
    obtain ⟨v, e1, e3⟩ := hl.2 i _ e2
    obtain ⟨x, rfl, -⟩ := id e3
    exact ⟨_, by rw [e1]; rfl, e3, List.mem_of_getElem? e2⟩
  · rename_i e2
    cases e
    obtain ⟨v, e1, e3⟩ := hl.2 i _ e2
    obtain ⟨x, rfl, -⟩ := id e3
    exact ⟨_, by rw [e1]; rfl, e3, List.mem_of_getElem? e2⟩
  · rename_i e2
    cases e
    obtain ⟨v, e1, e3⟩ := hl.2 i _ e2
    cases id e3
    exact ⟨_, by rw [e1]; rfl, e3, List.mem_of_getElem? e2⟩
  · cases e
theorem at_pu_ok {w n i : Nat} {alts : List at_N} (h : at_G X m0 m ν S lv st fl fs) (e : at_pu n pc S lv st (at_lw w lv[i]?) = some alts) : ∃ c, fl_pu n pc fl fs m (fl_ld w fl[i]?) = some c ∧ at_Nx X m0 ν S.1.1.length alts c := by
  unfold at_pu at e
  split at e
  · rename_i a ea
    cases e
    obtain ⟨v, e1, e2, e3⟩ := at_lw_ok h.2.1 ea
    rw [e1]
    exact ⟨_, rfl, at_Nx.one (by rfl) at_ag.rfl (Nat.le_refl _) (h.push e2 (h.2.2.1 a e3))⟩
  · cases e
theorem at_lw_v {w : Nat} {a b : at_V} {v : fl_V} {h : Nat} (e : at_lw w (some (some a)) = some b) (hv : at_RV ν h a v) : fl_ld w (some (some v)) = some v := by
  unfold at_lw at e
  split at e
  · rename_i e2
    cases e2
    obtain ⟨x, rfl, -⟩ := hv
    rfl
  · rename_i e2
    cases e2
    obtain ⟨x, rfl, -⟩ := hv
    rfl
  · rename_i e2
    cases e2
    obtain ⟨x, rfl, -⟩ := hv
    rfl
  · rename_i e2
    cases e2
    cases hv
    rfl
  · cases e
theorem at_so_ok {w n i nL : Nat} {alts : List at_N} (h : at_G X m0 m ν S lv st fl fs) (e : at_so w n pc i nL S lv st = some alts) : ∃ c, fl_so w n pc i nL fl fs m = some c ∧ at_Nx X m0 ν S.1.1.length alts c := by
  unfold at_so at e
  split at e
  · rename_i a r
    obtain ⟨v, s, rfl, hv, hw, hG⟩ := h.pop
    split at e
    · cases e
    · rename_i b eb
      obtain ⟨hb, e⟩ := am_bif e
      cases e
      have hb : (bif Nat.beq (at_cat a) 2 then i + 1 else i) < nL := by
        unfold Nat.blt at hb
        exact Nat.le_of_ble_eq_true hb
      have e1 := at_lw_v eb hv
      unfold fl_so
      dsimp only
      rw [e1]
      dsimp only
      rw [hv.cat]
      refine ⟨(pc + n, fl_s fl i v, s, m), ?_, at_Nx.one (by rfl) at_ag.rfl (Nat.le_refl _) (hG.set hv hw)⟩
      cases hc : Nat.beq (at_cat a) 2 with
      | true =>
        replace hb : i + 1 < nL := by rw [hc] at hb; exact hb
        rw [if_pos (Nat.eq_of_beq_eq_true hc), if_pos hb]
      | false =>
        replace hb : i < nL := by rw [hc] at hb; exact hb
        rw [if_neg (fun q => by rw [q] at hc; cases hc), if_pos hb]
  · cases e
/-- conditions -/
def at_cz (c : ClassFile.Cond) (z : Int) : Bool := match c with
  | .eq => decide (z = 0)
  | .ne => !decide (z = 0)
  | .lt => decide (z < 0)
  | .ge => decide (0 ≤ z)
  | .gt => decide (0 < z)
  | .le => decide (z ≤ 0)
theorem at_cz_ng (c : ClassFile.Cond) (z : Int) : at_cz (at_ng c) z = !at_cz c z := by
  cases c
  · show (!decide (z = 0)) = !decide (z = 0); rfl
  · show decide (z = 0) = !!decide (z = 0); rw [Bool.not_not]
  · show decide (0 ≤ z) = !decide (z < 0); by_cases h : z < 0 <;> simp [h] <;> omega
  · show decide (z < 0) = !decide (0 ≤ z); by_cases h : z < 0 <;> simp [h] <;> omega
  · show decide (z ≤ 0) = !decide (0 < z); by_cases h : 0 < z <;> simp [h] <;> omega
  · show decide (0 < z) = !decide (z ≤ 0); by_cases h : 0 < z <;> simp [h] <;> omega
theorem at_cd_ok {P : at_P} (hP : at_KP ν P) {d : at_A} (hd : at_wf P.1.length d) {c : ClassFile.Cond} (h : at_cz c (at_ev ν d) = true) : ∃ P', at_cd c P d = some P' ∧ at_X ν P ν P' := by
  have one : ∀ a : at_A, at_wf P.1.length a → at_ev ν a ≤ 0 → ∃ P', at_as P a = some P' ∧ at_X ν P ν P' := fun a ha h => by
    obtain ⟨P', e, hx, -⟩ := at_as_X hP ha h
    exact ⟨P', e, hx⟩
  cases c
  · have h := of_decide_eq_true h
    obtain ⟨P', e, hx, hl⟩ := at_as_X hP hd (by omega)
    obtain ⟨P'', e2, hx2, -⟩ := at_as_X hx.2.2 (a := at_mul (-1) d) (at_wf_mul (hd.mono (by omega))) (by rw [at_ev_mul]; omega)
    refine ⟨P'', ?_, hx.trans hx2⟩
    show (match at_as P d with | some P' => at_as P' (at_mul (-1) d) | none => none) = _
    rw [e]
    exact e2
  · have h : at_ev ν d ≠ 0 := by simpa [at_cz] using h
    have l := at_lo_le hP.1.1 d
    have u := at_hi_le hP.1.1 d
    unfold at_cd
    dsimp only
    cases h1 : decide (at_lo P.1 d = 0) with
    | true =>
      have h1 := of_decide_eq_true h1
      exact one _ (at_wf_sub at_wf_c hd) (by rw [at_ev_sub, at_ev_c]; omega)
    | false =>
      dsimp only [cond_false]
      cases h2 : decide (at_hi P.1 d = 0) with
      | true =>
        have h2 := of_decide_eq_true h2
        exact one _ (at_wf_add hd at_wf_c) (by rw [at_ev_add, at_ev_c]; omega)
      | false =>
        dsimp only [cond_false]
        cases h3 : decide (at_lo P.1 d < 0) && decide (0 < at_hi P.1 d) with
        | false => exact ⟨P, rfl, at_X.rfl hP⟩
        | true =>
          refine ⟨_, rfl, at_ag.rfl, Nat.le_refl _, ⟨hP.1.1, hP.1.2.1, ?_⟩, hP.2.1, ?_⟩
          · intro e he
            rcases List.mem_cons.mp he with rfl | he
            · exact h
            · exact hP.1.2.2 e he
          · intro e he
            rcases List.mem_cons.mp he with rfl | he
            · exact hd
            · exact hP.2.2 e he
  · have h := of_decide_eq_true h
    exact one _ (at_wf_add hd at_wf_c) (by rw [at_ev_add, at_ev_c]; omega)
  · have h := of_decide_eq_true h
    exact one _ (at_wf_mul hd) (by rw [at_ev_mul]; omega)
  · have h := of_decide_eq_true h
    exact one _ (at_wf_sub at_wf_c hd) (by rw [at_ev_sub, at_ev_c]; omega)
  · have h := of_decide_eq_true h
    exact one _ hd h
theorem at_br_ok {c : ClassFile.Cond} {d : at_A} {off : Int} {b : Bool} {alts : List at_N} (h : at_G X m0 m ν S lv r fl fs) (hd : at_wf S.1.1.length d) (hb : b = at_cz c (at_ev ν d)) (e : at_br c d pc off S lv r = some alts) : ∃ q, fl_br b pc off fl fs m = some q ∧ at_Nx X m0 ν S.1.1.length alts q := by
  unfold at_br at e
  unfold fl_br
  split at e
  · rename_i t et
    cases e
    rw [et]
    dsimp only
    cases hz : at_cz c (at_ev ν d) with
    | true =>
      obtain ⟨P', e1, hx⟩ := at_cd_ok h.1.1 hd hz
      rw [hb, hz]
      refine ⟨_, rfl, (t, (P', S.2), lv, r), ?_, ν, rfl, hx.1, hx.2.1, h.ext hx⟩
      rw [e1]
      exact List.mem_append_left _ List.mem_cons_self
    | false =>
      have hz' : at_cz (at_ng c) (at_ev ν d) = true := by rw [at_cz_ng, hz]; rfl
      obtain ⟨P', e1, hx⟩ := at_cd_ok h.1.1 hd hz'
      rw [hb, hz]
      refine ⟨_, rfl, (pc + 3, (P', S.2), lv, r), ?_, ν, rfl, hx.1, hx.2.1, h.ext hx⟩
      rw [e1]
      exact List.mem_append_right _ List.mem_cons_self
  · cases e
end ATW

end

/-! 67.stepok2.lean.txt -/
section
/-! ===== the looker's step: fields, arrays, copies, switches ===== -/
/-- what is asked of the rest of the memory: the looker's writes leave it alone -/
def at_XX (X : fl_M → Prop) : Prop := (∀ (m : fl_M) (p i : Nat) (x : Int32), X m → p < fl_N m.2.2 → ¬ at_prot (fk_K p) i → X (fl_up m.1 p i x, m.2)) ∧ (∀ (m : fl_M) (l : Nat → Nat → Int64), X m → X (m.1, l, m.2.2)) ∧ (∀ (m : fl_M) (p : Nat) (w : Nat → Int32), X m → p < fl_N m.2.2 → (∀ j : Nat, ¬ at_prot (fk_K p) j) → X (fl_row m.1 p w, m.2))
theorem at_in_ok {i : Int32} {n : Nat} (h1 : 0 ≤ i.toInt) (h2 : i.toInt ≤ n - 1) : am_in i n = true ∧ (i.toNatClampNeg : Int) = i.toInt := by
  have e : i.toNatClampNeg = i.toInt.toNat := rfl
  unfold am_in
  refine ⟨?_, by rw [e]; omega⟩
  have h0 : ¬ i < 0 := by
    rw [Int32.lt_iff_toInt_lt]
    show ¬ i.toInt < 0
    omega
  rw [decide_eq_false h0, e]
  simp only [Bool.not_false, Bool.true_and, decide_eq_true_eq]
  omega
section ATY
variable {X : fl_M → Prop} {m0 m : fl_M} {ν ν' : Nat → Int} {S : at_S} {lv : at_L} {st r : List at_V} {fl : fl_L} {fs : List fl_V} {L : Nat} {xs : Nat → Int32} {mi pc : Nat}
/-- a word that was read is pushed -/
theorem at_push_ld {t p i pc' : Nat} {pl idx : at_A} (h : at_G X m0 m ν S lv r fl fs) (wp : at_wf S.1.1.length pl) (wi : at_wf S.1.1.length idx) (ep : at_ev ν pl = p) (ei : at_ev ν idx = i) (hk : fk_K p = t) (hp : p < fl_N m.2.2) : at_Nx X m0 ν S.1.1.length [(pc', (at_ld S t pl idx).1, lv, .inl (at_ld S t pl idx).2 :: r)] (pc', fl, .inl (m.1 p i) :: fs, m) := by
  obtain ⟨ν1, ag1, le1, g1, w1, e1, -⟩ := at_ld_ok h.1 wp wi ep ei hk hp
  exact at_Nx.one (by rfl) ag1 le1 ((h.mem ag1 le1 (Nat.le_refl _) g1).push ⟨_, rfl, e1.symm⟩ w1)
theorem at_gf_ok {own idx : Nat} {alts : List at_N} (h : at_G X m0 m ν S lv st fl fs) (e : at_gf own idx pc S lv st = some alts) : ∃ c, fl_gf (pw_P L xs) own idx pc fl fs m = some c ∧ at_Nx X m0 ν S.1.1.length alts c := by
  unfold at_gf at e
  split at e
  · rename_i q r
    obtain ⟨t, a⟩ := q
    obtain ⟨v, s, rfl, ⟨p, rfl, ea, hk, hp⟩, hw, hG⟩ := h.pop
    dsimp only at e ea hk hw
    split at e
    · rename_i ci k cj fs0 e1 e2
      obtain ⟨hc, e3⟩ := am_bif e
      clear e
      have hc := Nat.eq_of_beq_eq_true hc
      subst hc
      have e := e3
      unfold fl_gf
      dsimp only
      have e1' : am_fld (pw_P L xs) own idx = some (ci, k) := e1
      rw [e1', e2]
      dsimp only
      rw [if_pos rfl]
      split at e
      · rename_i ef
        cases e
        rw [ef]
        exact ⟨_, rfl, at_push_ld hG hw at_wf_c ea (at_ev_c _ _) hk hp⟩
      · rename_i u ef
        cases e
        rw [ef]
        obtain ⟨f1, f2⟩ := fk_fld (h := m.2.2) hp (by rw [hk]; exact e2) ef
        refine ⟨_, rfl, at_Nx.one (by rfl) at_ag.rfl (Nat.le_refl _) (hG.push ⟨p + u.2, rfl, ?_, f1, f2⟩ (at_wf_add hw at_wf_c))⟩
        dsimp only
        rw [at_ev_add, at_ev_c, ea]
        omega
      · cases e
    · cases e
  · cases e
theorem at_pf_ok2 (hX : at_XX X) {own idx : Nat} {alts : List at_N} (h : at_G X m0 m ν S lv st fl fs) (e : at_pfd mi own idx pc S lv st = some alts) : ∃ c, fl_pf (pw_P L xs) mi own idx pc fl fs m = some c ∧ at_Nx X m0 ν S.1.1.length alts c := by
  unfold at_pfd at e
  split at e
  · rename_i a q r
    obtain ⟨t, pa⟩ := q
    obtain ⟨v, s, rfl, ⟨x, rfl, ex⟩, hw, hG⟩ := h.pop
    obtain ⟨v2, s2, rfl, ⟨p, rfl, ea, hk, hp⟩, hw2, hG2⟩ := hG.pop
    dsimp only at e ea hk hw2
    split at e
    · rename_i ci k cj fs0 e1 e2
      split at e
      · rename_i ef
        obtain ⟨hb, e3⟩ := am_bif e
        clear e
        simp only [Bool.and_eq_true] at hb
        obtain ⟨hc, hf, hz⟩ := hb
        have hc := Nat.eq_of_beq_eq_true hc
        subst hc
        have e := e3
        split at e
        · rename_i S' es
          cases e
          unfold fl_pf
          dsimp only
          have e1' : am_fld (pw_P L xs) own idx = some (ci, k) := e1
          rw [e1', e2]
          dsimp only
          rw [ef]
          dsimp only
          have hft : am_ft (pw_fty ci k) (.int x) = true := by
            unfold at_fok at hf
            split at hf
            · rename_i et; rw [et]; rfl
            · rename_i et
              rw [et]
              obtain ⟨b1, b2⟩ := at_inR_ok h.1.1.1 hf
              rw [← ex] at b1 b2
              have hx : x = 0 ∨ x = 1 := by
                rcases (show x.toInt = 0 ∨ x.toInt = 1 by omega) with h | h
                · exact Or.inl (Int32.toInt.inj h)
                · exact Or.inr (Int32.toInt.inj h)
              rcases hx with rfl | rfl <;> rfl
            · cases hf
          have hcond : (decide (ci = ci) && (am_ft (am_fty (pw_P L xs) ci k) (.int x) && (!am_fin (pw_P L xs) ci k || (am_ini (pw_P L xs) mi && decide (own = ci))))) = true := by
            simp only [Bool.and_eq_true, Bool.or_eq_true, decide_eq_true_eq]
            refine ⟨True.intro, hft, ?_⟩
            rcases (Bool.or_eq_true _ _).mp hz with hz | hz
            · exact Or.inl hz
            · simp only [Bool.and_eq_true] at hz
              exact Or.inr ⟨hz.1, Nat.eq_of_beq_eq_true hz.2⟩
          rw [hcond]
          dsimp only [cond_true]
          obtain ⟨ν1, ag1, le1, g1⟩ := at_sv_ok (fun m p i x => hX.1 m p i x) h.1 (x := x) hw2 (at_wf_c (k := k)) hw ea (at_ev_c _ _) ex hk hp es
          exact ⟨_, rfl, at_Nx.one (by rfl) ag1 le1 (hG2.mem (m' := (fl_up m.1 p k x, m.2)) ag1 le1 (Nat.le_refl _) g1)⟩
        · cases e
      · cases e
    · cases e
  · cases e
theorem at_ic_getD {l : List Int32} (k : Nat) : at_tmin l ≤ (l.getD k 0).toInt ∧ (l.getD k 0).toInt ≤ at_tmax l := by
  induction l generalizing k with
  | nil => simp [at_tmin, at_tmax]
  | cons x l ih =>
    have h0 : at_tmin (x :: l) = min x.toInt (at_tmin l) := rfl
    have h1 : at_tmax (x :: l) = max x.toInt (at_tmax l) := rfl
    rw [h0, h1]
    cases k with
    | zero =>
      show min _ _ ≤ x.toInt ∧ x.toInt ≤ max _ _
      omega
    | succ k =>
      have := ih k
      show min _ _ ≤ (l.getD k 0).toInt ∧ (l.getD k 0).toInt ≤ max _ _
      omega
theorem at_ald_ok {alts : List at_N} (h : at_G X m0 m ν S lv st fl fs) (e : at_ald pc S lv st = some alts) : ∃ c, fl_ald (pw_P L xs) pc fl fs m = some c ∧ at_Nx X m0 ν S.1.1.length alts c := by
  unfold at_ald at e
  split at e
  · rename_i a q r
    obtain ⟨t, pa⟩ := q
    obtain ⟨v, s, rfl, ⟨i, rfl, ei⟩, hw, hG⟩ := h.pop
    obtain ⟨v2, s2, rfl, ⟨p, rfl, ea, hk, hp⟩, hw2, hG2⟩ := hG.pop
    dsimp only at e ea hk hw2
    split at e
    · rename_i n z e2
      obtain ⟨hb, e⟩ := am_bif e
      cases e
      obtain ⟨b1, b2⟩ := at_inR_ok h.1.1.1 hb
      rw [← ei] at b1 b2
      obtain ⟨i1, i2⟩ := at_in_ok b1 b2
      unfold fl_ald
      dsimp only
      rw [e2]
      refine ⟨(pc + 1, fl, .inl (m.1 p i.toNatClampNeg) :: s2, m), ?_, at_push_ld hG2 hw2 hw ea (by rw [← ei, i2]) hk hp⟩
      show (bif am_in i n then _ else none) = _
      rw [i1]
      rfl
    · cases e
  · rename_i a c r
    obtain ⟨v, s, rfl, ⟨i, rfl, ei⟩, hw, hG⟩ := h.pop
    obtain ⟨v2, s2, rfl, hv2, hw2, hG2⟩ := hG.pop
    cases hv2
    dsimp only at e
    obtain ⟨hb, e⟩ := am_bif e
    obtain ⟨b1, b2⟩ := at_inR_ok h.1.1.1 hb
    rw [← ei] at b1 b2
    cases c with
    | zero =>
      have b2 : i.toInt ≤ 0 - 1 := b2
      omega
    | succ c =>
      have hct : c < pw_tab_l.length := by
        rcases Nat.lt_or_ge c pw_tab_l.length with h | h
        · exact h
        · exfalso
          have e0 : at_tab (c + 1) = [] := by
            show pw_tab_l.getD c [] = []
            rw [List.getD_eq_getElem?_getD, List.getElem?_eq_none h]
            rfl
          rw [e0] at b2
          have b2 : i.toInt ≤ 0 - 1 := b2
          omega
      have ecst : am_cst (pw_P L xs) (c + 1) = some ((at_tab (c + 1)).length, fun j => (at_tab (c + 1)).getD j 0) := by
        show pw_cst L xs (c + 1) = _
        unfold pw_cst
        dsimp only
        rw [if_pos hct]
        rfl
      obtain ⟨i1, i2⟩ := at_in_ok b1 b2
      unfold fl_ald
      dsimp only
      rw [ecst]
      refine ⟨(pc + 1, fl, .inl ((at_tab (c + 1)).getD i.toNatClampNeg 0) :: s2, m), ?_, ?_⟩
      · show (bif am_in i (at_tab (c + 1)).length then _ else none) = _
        rw [i1]
        rfl
      · split at e
        · rename_i k ek
          refine at_i_ok hG2 ?_ e
          have := at_ic_ok h.1.1.1.1 ek
          have ek2 : i.toNatClampNeg = k.toNat := by omega
          rw [ek2]
          exact at_Sp.c h.1.1 _
        · refine at_i_ok hG2 ?_ e
          obtain ⟨k1, k2⟩ := at_ic_getD (l := at_tab (c + 1)) i.toNatClampNeg
          exact at_fr_ok h.1.1 k1 k2
  · cases e
theorem at_ast_ok (hX : at_XX X) {alts : List at_N} (h : at_G X m0 m ν S lv st fl fs) (e : at_ast pc S lv st = some alts) : ∃ c, fl_ast pc fl fs m = some c ∧ at_Nx X m0 ν S.1.1.length alts c := by
  unfold at_ast at e
  split at e
  · rename_i xa a q r
    obtain ⟨t, pa⟩ := q
    obtain ⟨v0, s0, rfl, ⟨x, rfl, ex⟩, hw0, hG0⟩ := h.pop
    obtain ⟨v, s, rfl, ⟨i, rfl, ei⟩, hw, hG⟩ := hG0.pop
    obtain ⟨v2, s2, rfl, ⟨p, rfl, ea, hk, hp⟩, hw2, hG2⟩ := hG.pop
    dsimp only at e ea hk hw2
    split at e
    · rename_i n z e2
      obtain ⟨hb, e⟩ := am_bif e
      obtain ⟨b1, b2⟩ := at_inR_ok h.1.1.1 hb
      rw [← ei] at b1 b2
      obtain ⟨i1, i2⟩ := at_in_ok b1 b2
      split at e
      · rename_i S' es
        cases e
        unfold fl_ast
        dsimp only
        rw [e2]
        obtain ⟨ν1, ag1, le1, g1⟩ := at_sv_ok (fun m p i x => hX.1 m p i x) h.1 (x := x) (i := i.toNatClampNeg) hw2 hw hw0 ea (by rw [← ei, i2]) ex hk hp es
        refine ⟨(pc + 1, fl, s2, (fl_up m.1 p i.toNatClampNeg x, m.2)), ?_, at_Nx.one (by rfl) ag1 le1 (hG2.mem (m' := (fl_up m.1 p i.toNatClampNeg x, m.2)) ag1 le1 (Nat.le_refl _) g1)⟩
        show (bif am_in i n then _ else none) = _
        rw [i1]
        rfl
      · cases e
    · cases e
  · cases e
theorem at_lald_ok {alts : List at_N} (h : at_G X m0 m ν S lv st fl fs) (e : at_lald pc S lv st = some alts) : ∃ c, fl_lald pc fl fs m = some c ∧ at_Nx X m0 ν S.1.1.length alts c := by
  unfold at_lald at e
  split at e
  · rename_i a q r
    obtain ⟨t, pa⟩ := q
    obtain ⟨v, s, rfl, ⟨i, rfl, ei⟩, hw, hG⟩ := h.pop
    obtain ⟨v2, s2, rfl, ⟨p, rfl, ea, hk, hp⟩, hw2, hG2⟩ := hG.pop
    dsimp only at e ea hk hw2
    split at e
    · rename_i n z e2
      obtain ⟨hb, e⟩ := am_bif e
      obtain ⟨b1, b2⟩ := at_inR_ok h.1.1.1 hb
      rw [← ei] at b1 b2
      obtain ⟨i1, i2⟩ := at_in_ok b1 b2
      unfold fl_lald
      dsimp only
      rw [e2]
      obtain ⟨k1, k2⟩ := at_i64 (m.2.1 p i.toNatClampNeg)
      refine ⟨(pc + 1, fl, .inr (.inl (m.2.1 p i.toNatClampNeg)) :: s2, m), ?_, at_j_ok hG2 (at_fr_ok h.1.1 k1 k2) e⟩
      show (bif am_in i n then _ else none) = _
      rw [i1]
      rfl
    · cases e
  · cases e
theorem at_last_ok (hX : at_XX X) {alts : List at_N} (h : at_G X m0 m ν S lv st fl fs) (e : at_last pc S lv st = some alts) : ∃ c, fl_last pc fl fs m = some c ∧ at_Nx X m0 ν S.1.1.length alts c := by
  unfold at_last at e
  split at e
  · rename_i xa a q r
    obtain ⟨t, pa⟩ := q
    obtain ⟨v0, s0, rfl, ⟨x, rfl, ex⟩, hw0, hG0⟩ := h.pop
    obtain ⟨v, s, rfl, ⟨i, rfl, ei⟩, hw, hG⟩ := hG0.pop
    obtain ⟨v2, s2, rfl, ⟨p, rfl, ea, hk, hp⟩, hw2, hG2⟩ := hG.pop
    dsimp only at e ea hk hw2
    split at e
    · rename_i n z e2
      obtain ⟨hb, e⟩ := am_bif e
      cases e
      obtain ⟨b1, b2⟩ := at_inR_ok h.1.1.1 hb
      rw [← ei] at b1 b2
      obtain ⟨i1, i2⟩ := at_in_ok b1 b2
      unfold fl_last
      dsimp only
      rw [e2]
      refine ⟨(pc + 1, fl, s2, (m.1, fl_upL m.2.1 p i.toNatClampNeg x, m.2.2)), ?_, at_Nx.one (by rfl) at_ag.rfl (Nat.le_refl _) (hG2.mem (m' := (m.1, fl_upL m.2.1 p i.toNatClampNeg x, m.2.2)) at_ag.rfl (Nat.le_refl _) (Nat.le_refl _) (h.1.lng hX.2.1))⟩
      show (bif am_in i n then _ else none) = _
      rw [i1]
      rfl
    · cases e
  · cases e
theorem at_qald_ok {alts : List at_N} (h : at_G X m0 m ν S lv st fl fs) (e : at_qald pc S lv st = some alts) : ∃ c, fl_qald pc fl fs m = some c ∧ at_Nx X m0 ν S.1.1.length alts c := by
  unfold at_qald at e
  split at e
  · rename_i a q r
    obtain ⟨t0, pa⟩ := q
    obtain ⟨v, s, rfl, ⟨i, rfl, ei⟩, hw, hG⟩ := h.pop
    obtain ⟨v2, s2, rfl, ⟨p, rfl, ea, hk, hp⟩, hw2, hG2⟩ := hG.pop
    dsimp only at e ea hk hw2
    split at e
    · rename_i t n τ b d e2
      obtain ⟨hb, e⟩ := am_bif e
      cases e
      simp only [Bool.and_eq_true, Bool.not_eq_true'] at hb
      obtain ⟨h1, h2, h3, h4⟩ := hb
      have h1 := Nat.le_of_ble_eq_true h1
      have h2 : t < 5 := by unfold Nat.blt at h2; exact Nat.le_of_ble_eq_true h2
      have h3 : d ≠ 0 := fun q => by rw [q] at h3; cases h3
      obtain ⟨b1, b2⟩ := at_inR_ok h.1.1.1 h4
      rw [← ei] at b1 b2
      obtain ⟨i1, i2⟩ := at_in_ok b1 b2
      unfold fl_qald
      dsimp only
      rw [e2]
      dsimp only
      obtain ⟨f1, f2⟩ := fk_elt (h := m.2.2) (i := i.toNatClampNeg) hp (by rw [hk]; exact e2) h3 (by omega)
      refine ⟨(pc + 1, fl, .inr (.inr (.inl (τ, p + b + d * i.toNatClampNeg))) :: s2, m), ?_, at_Nx.one (by rfl) at_ag.rfl (Nat.le_refl _) (hG2.push ⟨p + b + d * i.toNatClampNeg, rfl, ?_, f1, f2⟩ (at_wf_add (at_wf_add hw2 at_wf_c) (at_wf_mul hw)))⟩
      · have hc : (decide (2 ≤ t ∧ t < 5) && (decide (d ≠ 0) && am_in i n)) = true := by
          simp only [Bool.and_eq_true, decide_eq_true_eq]
          exact ⟨⟨h1, h2⟩, h3, i1⟩
        rw [hc]
        rfl
      · dsimp only
        rw [at_ev_add, at_ev_add, at_ev_mul, at_ev_c, ea, ← ei, ← i2]
        simp only [Int.natCast_add, Int.natCast_mul]
    · cases e
  · cases e
theorem at_ofNat {n : Nat} (h : n < 2147483648) : (Int32.ofNat n).toInt = n := by
  have e : Int32.ofNat n = Int32.ofInt n := rfl
  rw [e, Int32.toInt_ofInt_of_le (by omega) (by omega)]
theorem at_len_ok {alts : List at_N} (h : at_G X m0 m ν S lv st fl fs) (e : at_len pc S lv st = some alts) : ∃ c, fl_len (pw_P L xs) pc fl fs m = some c ∧ at_Nx X m0 ν S.1.1.length alts c := by
  unfold at_len at e
  split at e
  · rename_i q r
    obtain ⟨t0, pa⟩ := q
    obtain ⟨v2, s2, rfl, ⟨p, rfl, ea, hk, hp⟩, hw2, hG2⟩ := h.pop
    dsimp only at e ea hk hw2
    split at e
    · rename_i t n z e2
      obtain ⟨hb, e⟩ := am_bif e
      simp only [Bool.and_eq_true] at hb
      obtain ⟨h1, h2⟩ := hb
      have h1 : t < 5 := by unfold Nat.blt at h1; exact Nat.le_of_ble_eq_true h1
      have h2 : n < 2147483648 := by unfold Nat.blt at h2; exact Nat.le_of_ble_eq_true h2
      unfold fl_len
      dsimp only
      rw [e2]
      dsimp only
      rw [if_pos h1]
      refine ⟨_, rfl, at_i_ok hG2 ?_ e⟩
      rw [at_ofNat h2]
      exact at_Sp.c h.1.1 _
    · cases e
  · rename_i c r
    obtain ⟨v2, s2, rfl, hv2, hw2, hG2⟩ := h.pop
    cases hv2
    obtain ⟨hb, e⟩ := am_bif e
    simp only [Bool.and_eq_true] at hb
    obtain ⟨hb1, hb2⟩ := hb
    have hct : c < pw_tab_l.length := by unfold Nat.blt at hb1; exact Nat.le_of_ble_eq_true hb1
    have h2 : (at_tab (c + 1)).length < 2147483648 := by unfold Nat.blt at hb2; exact Nat.le_of_ble_eq_true hb2
    have ecst : am_cst (pw_P L xs) (c + 1) = some ((at_tab (c + 1)).length, fun j => (at_tab (c + 1)).getD j 0) := by
      show pw_cst L xs (c + 1) = _
      unfold pw_cst
      dsimp only
      rw [if_pos hct]
      rfl
    unfold fl_len
    dsimp only
    rw [ecst]
    refine ⟨_, rfl, at_i_ok hG2 ?_ e⟩
    rw [at_ofNat h2]
    exact at_Sp.c h.1.1 _
  · cases e
end ATY

end

/-! 68.stepok3.lean.txt -/
section
/-! ===== THE LOOKER'S STEP IS A STEP ===== -/
theorem at_b32 {z : Int} (h1 : at_m4 ≤ z) (h2 : z ≤ at_x4) : z.bmod (2 ^ 32) = z := by
  unfold at_m4 at h1
  unfold at_x4 at h2
  exact Int.bmod_eq_of_le (by omega) (by omega)
theorem at_b64 {z : Int} (h1 : at_m8 ≤ z) (h2 : z ≤ at_x8) : z.bmod (2 ^ 64) = z := by
  unfold at_m8 at h1
  unfold at_x8 at h2
  exact Int.bmod_eq_of_le (by omega) (by omega)
theorem at_and32 {x y : Int32} (h : 0 ≤ y.toInt) : 0 ≤ (x &&& y).toInt ∧ (x &&& y).toInt ≤ y.toInt := by
  have e : (x &&& y).toInt = (x.toBitVec &&& y.toBitVec).toInt := rfl
  have ey : y.toInt = y.toBitVec.toInt := rfl
  rw [ey] at h ⊢
  rw [e]
  have hm : y.toBitVec.msb = false := by
    rw [BitVec.msb_eq_toInt]
    simp only [decide_eq_false_iff_not]
    omega
  have hm2 : (x.toBitVec &&& y.toBitVec).msb = false := by rw [BitVec.msb_and, hm, Bool.and_false]
  rw [BitVec.toInt_eq_toNat_of_msb hm2, BitVec.toInt_eq_toNat_of_msb hm, BitVec.toNat_and]
  have := Nat.and_le_right (n := x.toBitVec.toNat) (m := y.toBitVec.toNat)
  omega
theorem at_and32' {x y : Int32} (h : 0 ≤ x.toInt) : 0 ≤ (x &&& y).toInt ∧ (x &&& y).toInt ≤ x.toInt := by
  rw [Int32.and_comm]
  exact at_and32 h
theorem at_rem32 {x y : Int32} (h1 : at_m4 ≤ x.toInt.tmod y.toInt) (h2 : x.toInt.tmod y.toInt ≤ at_x4) : (x - (x / y) * y).toInt = x.toInt.tmod y.toInt := by
  have e : x - (x / y) * y = Int32.ofInt (x.toInt.tmod y.toInt) := by
    refine Int32.toInt_inj.mp ?_
    rw [Int32.toInt_ofInt, Int32.toInt_sub, Int32.toInt_mul, Int32.toInt_div, Int.tmod_def]
    show _ = Int.bmod _ (2 ^ 32)
    rw [Int.bmod_mul_bmod, Int.sub_bmod_bmod, Int.mul_comm]
  rw [e, Int32.toInt_ofInt]
  exact at_b32 h1 h2
theorem at_shl1 : ∀ k : Nat, k < 31 → ((1 : Int32) <<< (Int32.ofNat k &&& 31)).toInt = 2 ^ k := by decide
theorem at_c1 (c : ClassFile.Cond) (x : Int32) : am_c1 c x = at_cz c x.toInt := by
  have h0 : (x = 0) ↔ x.toInt = 0 := ⟨fun h => by rw [h]; rfl, fun h => Int32.toInt.inj h⟩
  cases c
  · show decide (x = 0) = decide (x.toInt = 0); simp only [h0]
  · show (!decide (x = 0)) = !decide (x.toInt = 0); simp only [h0]
  · show decide (x < 0) = decide (x.toInt < 0); simp only [Int32.lt_iff_toInt_lt]; rfl
  · show decide (0 ≤ x) = decide (0 ≤ x.toInt); simp only [Int32.le_iff_toInt_le]; rfl
  · show decide (0 < x) = decide (0 < x.toInt); simp only [Int32.lt_iff_toInt_lt]; rfl
  · show decide (x ≤ 0) = decide (x.toInt ≤ 0); simp only [Int32.le_iff_toInt_le]; rfl
theorem at_c2 (c : ClassFile.Cond) (x y : Int32) : am_c2 c x y = at_cz c (x.toInt - y.toInt) := by
  have h0 : (x = y) ↔ x.toInt - y.toInt = 0 := ⟨fun h => by rw [h]; omega, fun h => Int32.toInt.inj (by omega)⟩
  cases c
  · show decide (x = y) = decide (x.toInt - y.toInt = 0); simp only [h0]
  · show (!decide (x = y)) = !decide (x.toInt - y.toInt = 0); simp only [h0]
  · show decide (x < y) = decide (x.toInt - y.toInt < 0); rw [decide_eq_decide, Int32.lt_iff_toInt_lt]; omega
  · show decide (y ≤ x) = decide (0 ≤ x.toInt - y.toInt); rw [decide_eq_decide, Int32.le_iff_toInt_le]; omega
  · show decide (y < x) = decide (0 < x.toInt - y.toInt); rw [decide_eq_decide, Int32.lt_iff_toInt_lt]; omega
  · show decide (x ≤ y) = decide (x.toInt - y.toInt ≤ 0); rw [decide_eq_decide, Int32.le_iff_toInt_le]; omega
theorem at_c3 (c : ClassFile.Cond) {x : Int32} {d : Int} (h : (x = 1 ∧ 0 < d) ∨ (x = 0 ∧ d = 0) ∨ (x = -1 ∧ d < 0)) : am_c1 c x = at_cz c d := by
  rcases h with ⟨rfl, h⟩ | ⟨rfl, h⟩ | ⟨rfl, h⟩ <;> cases c <;> simp [am_c1, at_cz] <;> omega
section ATZ
variable {X : fl_M → Prop} {m0 m : fl_M} {ν ν' : Nat → Int} {S : at_S} {lv : at_L} {st r : List at_V} {fl : fl_L} {fs : List fl_V} {L : Nat} {xs : Nat → Int32} {mi pc : Nat}
theorem at_sh_ok {P : at_P} (hP : at_KP ν P) {a b : at_A} {x y : Int32} (ea : x.toInt = at_ev ν a) (eb : y.toInt = at_ev ν b) : at_Sp ν P (at_sh P a b) (x <<< (y &&& 31)).toInt := by
  obtain ⟨k1, k2⟩ := at_i32' (x <<< (y &&& 31))
  unfold at_sh
  split
  · rename_i e
    have e1 := at_ic_ok hP.1.1 e
    cases hb : decide (0 ≤ at_lo P.1 b) && decide (at_hi P.1 b ≤ 30) with
    | false => exact at_fr_ok hP k1 k2
    | true =>
      simp only [Bool.and_eq_true, decide_eq_true_eq] at hb
      have l := at_lo_le hP.1.1 b
      have u := at_hi_le hP.1.1 b
      have hx : x = 1 := Int32.toInt.inj (by rw [ea, e1]; rfl)
      obtain ⟨k, hk⟩ : ∃ k : Nat, y.toInt = k := ⟨y.toInt.toNat, by omega⟩
      have hy : y = Int32.ofNat k := Int32.toInt.inj (by rw [at_ofNat (by omega), hk])
      have hs := at_shl1 k (by omega)
      rw [hx, hy, hs]
      refine at_fr_ok hP ?_ ?_
      · have : (at_lo P.1 b).toNat ≤ k := by omega
        have := Nat.pow_le_pow_right (show 0 < 2 by decide) this
        exact_mod_cast this
      · have : k ≤ (at_hi P.1 b).toNat := by omega
        have := Nat.pow_le_pow_right (show 0 < 2 by decide) this
        exact_mod_cast this
  · exact at_fr_ok hP k1 k2
theorem at_cpy_ok (hX : at_XX X) {alts : List at_N} (h : at_G X m0 m ν S lv st fl fs) (e : at_cpy pc S lv st = some alts) : ∃ c, fl_n1 pc fl fs m = some c ∧ at_Nx X m0 ν S.1.1.length alts c := by
  unfold at_cpy at e
  split at e
  · rename_i an ad qb asp qa r
    obtain ⟨tb, pb⟩ := qb
    obtain ⟨ta, pa⟩ := qa
    obtain ⟨v0, s0, rfl, ⟨n, rfl, en⟩, hw0, hG0⟩ := h.pop
    obtain ⟨v1, s1, rfl, ⟨dp, rfl, ed⟩, hw1, hG1⟩ := hG0.pop
    obtain ⟨v2, s2, rfl, ⟨b, rfl, eb, hkb, hpb⟩, hw2, hG2⟩ := hG1.pop
    obtain ⟨v3, s3, rfl, ⟨sp, rfl, es⟩, hw3, hG3⟩ := hG2.pop
    obtain ⟨v4, s4, rfl, ⟨a, rfl, ea, hka, hpa⟩, hw4, hG4⟩ := hG3.pop
    dsimp only at e eb hkb ea hka
    split at e
    · rename_i n0 z0 n1 z1 e1 e2
      split at e
      · rename_i kn kd ks c1 c2 c3
        obtain ⟨hb, e⟩ := am_bif e
        simp only [Bool.and_eq_true, decide_eq_true_eq] at hb
        obtain ⟨b1, b2, b3, b4, b5, b6⟩ := hb
        split at e
        · rename_i S' eS
          cases e
          have c1 := at_ic_ok h.1.1.1.1 c1
          have c2 := at_ic_ok h.1.1.1.1 c2
          have c3 := at_ic_ok h.1.1.1.1 c3
          have tn : (n.toNatClampNeg : Int) = kn := by have : n.toNatClampNeg = n.toInt.toNat := rfl; omega
          have td : (dp.toNatClampNeg : Int) = kd := by have : dp.toNatClampNeg = dp.toInt.toNat := rfl; omega
          have ts : (sp.toNatClampNeg : Int) = ks := by have : sp.toNatClampNeg = sp.toInt.toNat := rfl; omega
          rw [← tn, ← td, ← ts] at eS
          obtain ⟨q1, q2⟩ := at_cp_ok (fun m p w => hX.2.2 m p w) h.1 (a := a) (b := b) (N := n0) hka hkb hpa hpb (by omega) eS
          have hneg : ∀ x : Int32, 0 ≤ x.toInt → ¬ x < 0 := fun x hx => by
            rw [Int32.lt_iff_toInt_lt]
            show ¬ x.toInt < 0
            omega
          have hcond : (decide (fl_sum s4 ≤ 8) && (!(decide (sp < 0)) && (!(decide (dp < 0)) && (!(decide (n < 0)) && (decide (sp.toNatClampNeg + n.toNatClampNeg ≤ n0) && decide (dp.toNatClampNeg + n.toNatClampNeg ≤ n1)))))) = true := by
            rw [hG4.2.2.2.1.sum, decide_eq_true b6, decide_eq_false (hneg sp (by omega)), decide_eq_false (hneg dp (by omega)), decide_eq_false (hneg n (by omega)), decide_eq_true (show sp.toNatClampNeg + n.toNatClampNeg ≤ n0 by omega), decide_eq_true (show dp.toNatClampNeg + n.toNatClampNeg ≤ n1 by omega)]
            rfl
          unfold fl_n1
          dsimp only
          rw [e1, e2]
          refine ⟨(pc + 3, fl, s4, (fl_row m.1 b (va_cpy (m.1 a) (m.1 b) sp.toNatClampNeg dp.toNatClampNeg n.toNatClampNeg), m.2)), ?_, at_Nx.one (by rfl) (ν' := ν) at_ag.rfl (by rw [q1]; exact Nat.le_refl _) (hG4.mem (m' := (fl_row m.1 b (va_cpy (m.1 a) (m.1 b) sp.toNatClampNeg dp.toNatClampNeg n.toNatClampNeg), m.2)) at_ag.rfl (by rw [q1]; exact Nat.le_refl _) (Nat.le_refl _) q2)⟩
          show (bif (decide (fl_sum s4 ≤ 8) && (!(decide (sp < 0)) && (!(decide (dp < 0)) && (!(decide (n < 0)) && (decide (sp.toNatClampNeg + n.toNatClampNeg ≤ n0) && decide (dp.toNatClampNeg + n.toNatClampNeg ≤ n1)))))) then _ else none) = _
          rw [hcond]
          rfl
        · cases e
      · cases e
    · cases e
  · cases e
theorem at_ts_ok {d lo hi : Int} {offs : Array Int} {x : Int32} {a : at_A} {alts : List at_N} (h : at_G X m0 m ν S lv r fl fs) (ha : at_wf S.1.1.length a) (ea : x.toInt = at_ev ν a) (e : at_ts a d lo hi offs pc S lv r = some alts) : ∃ c, (bif am_swk x lo hi offs then fl_go pc (am_sw x d lo hi offs) fl fs m else none) = some c ∧ at_Nx X m0 ν S.1.1.length alts c := by
  unfold at_ts at e
  obtain ⟨hb, e⟩ := am_bif e
  cases e
  simp only [Bool.and_eq_true, decide_eq_true_eq] at hb
  obtain ⟨b1, b2, b3⟩ := hb
  by_cases hx : x.toInt < lo ∨ hi < x.toInt
  · have e1 : am_swk x lo hi offs = true := by
      unfold am_swk
      rw [decide_eq_true hx]
      rfl
    have e2 : am_sw x d lo hi offs = d := by
      unfold am_sw
      rw [if_pos hx]
    rw [e1, e2]
    obtain ⟨t, et⟩ := Option.isSome_iff_exists.mp b3
    refine ⟨(t, fl, fs, m), ?_, (t, S, lv, r), ?_, ν, rfl, at_ag.rfl, Nat.le_refl _, h⟩
    · show fl_go pc d fl fs m = _
      unfold fl_go
      rw [et]
    · refine List.mem_append_right _ ?_
      have l := at_lo_le h.1.1.1.1 a
      have u := at_hi_le h.1.1.1.1 a
      have : (decide (lo ≤ at_lo S.1.1 a) && decide (at_hi S.1.1 a ≤ hi)) = false := by
        cases hc : decide (lo ≤ at_lo S.1.1 a) && decide (at_hi S.1.1 a ≤ hi) with
        | false => rfl
        | true =>
          simp only [Bool.and_eq_true, decide_eq_true_eq] at hc
          omega
      rw [this, et]
      exact List.mem_cons_self
  · have hk : (x.toInt - lo).toNat < offs.size := by omega
    obtain ⟨k, hk0⟩ : ∃ k, (x.toInt - lo).toNat = k := ⟨_, rfl⟩
    rw [hk0] at hk
    have e0 : offs[k]? = some offs[k] := Array.getElem?_eq_getElem hk
    have e1 : am_swk x lo hi offs = true := by
      unfold am_swk
      rw [hk0, e0]
      simp
    have e2 : am_sw x d lo hi offs = (offs[k]?).getD 0 := by
      unfold am_sw
      rw [if_neg hx, hk0, e0]
      rfl
    rw [e1, e2]
    have := List.all_eq_true.mp b2 k (List.mem_range.mpr hk)
    obtain ⟨t, et⟩ := Option.isSome_iff_exists.mp this
    have hz : at_cz .eq (at_ev ν (at_sub a (at_c (lo + k)))) = true := by
      rw [at_ev_sub, at_ev_c]
      exact decide_eq_true (by omega)
    obtain ⟨P', e3, hx3⟩ := at_cd_ok h.1.1 (at_wf_sub ha at_wf_c) hz
    refine ⟨(t, fl, fs, m), ?_, (t, (P', S.2), lv, r), ?_, ν, rfl, hx3.1, hx3.2.1, h.ext hx3⟩
    · show fl_go pc _ fl fs m = _
      unfold fl_go
      rw [et]
    · refine List.mem_append_left _ (List.mem_flatMap.mpr ⟨k, List.mem_range.mpr hk, ?_⟩)
      unfold at_tc
      rw [et]
      dsimp only
      rw [e3]
      exact List.mem_cons_self
end ATZ

end

/-! 69.stepok4.lean.txt -/
section
/-! ===== at_st_ok: THE LOOKER'S STEP IS A STEP ===== -/
section ATA
variable {X : fl_M → Prop} {m0 m : fl_M} {ν ν' : Nat → Int} {S : at_S} {lv : at_L} {st r : List at_V} {fl : fl_L} {fs : List fl_V} {L : Nat} {xs : Nat → Int32} {mi pc : Nat}
/-- two ints, one int -/
theorem at_2i {g : Int32 → Int32 → Int32} {f : at_P → at_A → at_A → at_P × at_A} {pc' : Nat} {alts : List at_N} {a b : at_A} (h : at_G X m0 m ν S lv (.inl b :: .inl a :: r) fl fs) (hf : ∀ x y : Int32, at_wf S.1.1.length a → at_wf S.1.1.length b → x.toInt = at_ev ν a → y.toInt = at_ev ν b → at_Sp ν S.1 (f S.1 a b) (g x y).toInt) (e : at_i pc' S lv r (f S.1 a b) = some alts) : ∃ (x y : Int32) (s : List fl_V), fs = .inl y :: .inl x :: s ∧ x.toInt = at_ev ν a ∧ y.toInt = at_ev ν b ∧ at_Nx X m0 ν S.1.1.length alts (pc', fl, .inl (g x y) :: s, m) := by
  obtain ⟨v0, s0, rfl, ⟨y, rfl, ey⟩, hw0, hG0⟩ := h.pop
  obtain ⟨v1, s1, rfl, ⟨x, rfl, ex⟩, hw1, hG1⟩ := hG0.pop
  exact ⟨x, y, s1, rfl, ex, ey, at_i_ok hG1 (hf x y hw1 hw0 ex ey) e⟩
theorem at_2j {g : Int64 → Int64 → Int64} {f : at_P → at_A → at_A → at_P × at_A} {pc' : Nat} {alts : List at_N} {a b : at_A} (h : at_G X m0 m ν S lv (.inr (.inl b) :: .inr (.inl a) :: r) fl fs) (hf : ∀ x y : Int64, at_wf S.1.1.length a → at_wf S.1.1.length b → x.toInt = at_ev ν a → y.toInt = at_ev ν b → at_Sp ν S.1 (f S.1 a b) (g x y).toInt) (e : at_j pc' S lv r (f S.1 a b) = some alts) : ∃ (x y : Int64) (s : List fl_V), fs = .inr (.inl y) :: .inr (.inl x) :: s ∧ x.toInt = at_ev ν a ∧ y.toInt = at_ev ν b ∧ at_Nx X m0 ν S.1.1.length alts (pc', fl, .inr (.inl (g x y)) :: s, m) := by
  obtain ⟨v0, s0, rfl, ⟨y, rfl, ey⟩, hw0, hG0⟩ := h.pop
  obtain ⟨v1, s1, rfl, ⟨x, rfl, ex⟩, hw1, hG1⟩ := hG0.pop
  exact ⟨x, y, s1, rfl, ex, ey, at_j_ok hG1 (hf x y hw1 hw0 ex ey) e⟩
theorem at_II {pc' : Nat} {alts : List at_N} {a b : at_A} {f : at_P → at_A → at_A → at_P × at_A} {g : Int32 → Int32 → Int32} (h : at_G X m0 m ν S lv (.inl b :: .inl a :: r) fl fs) (hf : ∀ x y : Int32, at_wf S.1.1.length a → at_wf S.1.1.length b → x.toInt = at_ev ν a → y.toInt = at_ev ν b → at_Sp ν S.1 (f S.1 a b) (g x y).toInt) (e : at_i (pc + 1) S lv r (f S.1 a b) = some alts) : ∃ c, fl_I pc fl fs m g = some c ∧ at_Nx X m0 ν S.1.1.length alts c := by
  obtain ⟨x, y, s, rfl, -, -, hN⟩ := at_2i h hf e
  exact ⟨_, rfl, hN⟩
theorem at_JJ {pc' : Nat} {alts : List at_N} {a b : at_A} {f : at_P → at_A → at_A → at_P × at_A} {g : Int64 → Int64 → Int64} (h : at_G X m0 m ν S lv (.inr (.inl b) :: .inr (.inl a) :: r) fl fs) (hf : ∀ x y : Int64, at_wf S.1.1.length a → at_wf S.1.1.length b → x.toInt = at_ev ν a → y.toInt = at_ev ν b → at_Sp ν S.1 (f S.1 a b) (g x y).toInt) (e : at_j (pc + 1) S lv r (f S.1 a b) = some alts) : ∃ c, fl_J pc fl fs m g = some c ∧ at_Nx X m0 ν S.1.1.length alts c := by
  obtain ⟨x, y, s, rfl, -, -, hN⟩ := at_2j h hf e
  exact ⟨_, rfl, hN⟩
/-- a step of the looker -/
def at_Ok (X : fl_M → Prop) (m0 m : fl_M) (ν : Nat → Int) (S : at_S) (alts : List at_N) (o : Option fl_C) : Prop := ∃ c, o = some c ∧ at_Nx X m0 ν S.1.1.length alts c
theorem at_st_ok (hX : at_XX X) {ins : Instr} {alts : List at_N} (h : at_G X m0 m ν S lv st fl fs) (e : at_st mi ins pc S lv st = some alts) : at_Ok X m0 m ν S alts (fl_st (pw_P L xs) mi ins pc fl fs m) := by
  have hK := h.1.1
  cases ins
  all_goals first | (cases e; done) | skip
  case iconst n => exact ⟨_, rfl, at_i_ok h (at_Sp.c hK _) e⟩
  case bipush n => exact ⟨_, rfl, at_i_ok h (at_Sp.c hK _) e⟩
  case sipush n => exact ⟨_, rfl, at_i_ok h (at_Sp.c hK _) e⟩
  case lconst n => exact ⟨_, rfl, at_j_ok h (at_Sp.c hK _) e⟩
  case ldc i =>
    dsimp only [at_st] at e
    split at e
    · rename_i v ev
      refine ⟨(pc + 2, fl, .inl v :: fs, m), ?_, at_i_ok h (at_Sp.c hK _) e⟩
      show (match pw_con (pw_own mi) i with | some (.int v) => (some (pc + 2, fl, (Sum.inl v : fl_V) :: fs, m) : Option fl_C) | _ => none) = _
      rw [ev]
    · cases e
  case ldc_w i =>
    dsimp only [at_st] at e
    split at e
    · rename_i v ev
      refine ⟨(pc + 3, fl, .inl v :: fs, m), ?_, at_i_ok h (at_Sp.c hK _) e⟩
      show (match pw_con (pw_own mi) i with | some (.int v) => (some (pc + 3, fl, (Sum.inl v : fl_V) :: fs, m) : Option fl_C) | _ => none) = _
      rw [ev]
    · cases e
  case ldc2_w i =>
    dsimp only [at_st] at e
    split at e
    · rename_i v ev
      refine ⟨(pc + 3, fl, .inr (.inl v) :: fs, m), ?_, at_j_ok h (at_Sp.c hK _) e⟩
      show (match pw_con (pw_own mi) i with | some (.long v) => (some (pc + 3, fl, (Sum.inr (Sum.inl v) : fl_V) :: fs, m) : Option fl_C) | _ => none) = _
      rw [ev]
    · cases e
  case iload_n k => exact at_pu_ok h e
  case lload_n k => exact at_pu_ok h e
  case aload_n k => exact at_pu_ok h e
  case iload k => exact at_pu_ok h e
  case lload k => exact at_pu_ok h e
  case aload k => exact at_pu_ok h e
  case istore_n k => exact at_so_ok h e
  case lstore_n k => exact at_so_ok h e
  case astore_n k => exact at_so_ok h e
  case istore k => exact at_so_ok h e
  case lstore k => exact at_so_ok h e
  case astore k => exact at_so_ok h e
  case iinc i n =>
    dsimp only [at_st] at e
    split at e
    · rename_i a ea
      obtain ⟨hb, e⟩ := am_bif e
      cases e
      have hi : i < pw_mxl mi := by unfold Nat.blt at hb; exact Nat.le_of_ble_eq_true hb
      obtain ⟨v, e1, x, rfl, ex⟩ := h.2.1.2 _ _ ea
      have wa : at_wf S.1.1.length a := h.2.2.1 _ (List.mem_of_getElem? ea)
      obtain ⟨k1, k2⟩ := at_i32' (x + Int32.ofInt n)
      obtain ⟨ν1, hx, hw, hv⟩ := at_fx_ok hK (a := at_add a (at_c (Int32.ofInt n).toInt)) (at_wf_add wa at_wf_c) k1 k2 (fun q1 q2 => by
        rw [at_ev_add, at_ev_c, ← ex] at q1 q2 ⊢
        rw [Int32.toInt_add]
        exact at_b32 q1 q2)
      refine ⟨(pc + 3, fl_s fl i (.inl (x + Int32.ofInt n)), fs, m), ?_, at_Nx.one (by rfl) hx.1 hx.2.1 (at_G.set (a := Sum.inl _) (v := Sum.inl _) (h.ext hx) ⟨_, rfl, hv.symm⟩ hw)⟩
      show (match fl[(i : Nat)]? with | some (some (.inl x)) => (if i < pw_mxl mi then some (pc + 3, fl_s fl i (.inl (x + Int32.ofInt n)), fs, m) else none) | _ => none) = _
      rw [e1]
      dsimp only
      rw [if_pos hi]
    · cases e
  case iadd =>
    dsimp only [at_st] at e
    split at e
    · refine at_II (f := fun P a b => at_fx P (at_add a b) at_m4 at_x4) (g := (· + ·)) (pc' := 0) h (fun x y wa wb ex ey => ?_) e
      obtain ⟨k1, k2⟩ := at_i32' (x + y)
      refine at_fx_ok hK (at_wf_add wa wb) k1 k2 (fun q1 q2 => ?_)
      rw [at_ev_add, ← ex, ← ey] at q1 q2 ⊢
      rw [Int32.toInt_add]
      exact at_b32 q1 q2
    · cases e
  case isub =>
    dsimp only [at_st] at e
    split at e
    · refine at_II (f := fun P a b => at_fx P (at_sub a b) at_m4 at_x4) (g := (· - ·)) (pc' := 0) h (fun x y wa wb ex ey => ?_) e
      obtain ⟨k1, k2⟩ := at_i32' (x - y)
      refine at_fx_ok hK (at_wf_sub wa wb) k1 k2 (fun q1 q2 => ?_)
      rw [at_ev_sub, ← ex, ← ey] at q1 q2 ⊢
      rw [Int32.toInt_sub]
      exact at_b32 q1 q2
    · cases e
  case imul =>
    dsimp only [at_st] at e
    split at e
    · refine at_II (f := fun P a b => at_ml P a b at_m4 at_x4) (g := (· * ·)) (pc' := 0) h (fun x y wa wb ex ey => ?_) e
      obtain ⟨k1, k2⟩ := at_i32' (x * y)
      refine at_ml_ok hK wa wb k1 k2 (fun q1 q2 => ?_)
      rw [← ex, ← ey] at q1 q2 ⊢
      rw [Int32.toInt_mul]
      exact at_b32 q1 q2
    · cases e
  case iand =>
    dsimp only [at_st] at e
    split at e
    · refine at_II (f := fun P a b => at_an P a b at_m4 at_x4) (g := (· &&& ·)) (pc' := 0) h (fun x y wa wb ex ey => ?_) e
      obtain ⟨k1, k2⟩ := at_i32' (x &&& y)
      refine at_an_ok hK wa wb k1 k2 (fun q => ?_) (fun q => ?_)
      · rw [← ex] at q ⊢; exact at_and32' q
      · rw [← ey] at q ⊢; exact at_and32 q
    · cases e
  case ishl =>
    dsimp only [at_st] at e
    split at e
    · exact at_II (f := fun P a b => at_sh P a b) (g := fun x y => x <<< (y &&& 31)) (pc' := 0) h (fun x y wa wb ex ey => at_sh_ok hK ex ey) e
    · cases e
  case ior =>
    dsimp only [at_st] at e
    split at e
    · exact at_II (f := fun P a b => at_fr P at_m4 at_x4) (g := (· ||| ·)) (pc' := 0) h (fun x y wa wb ex ey => at_fr_ok hK (at_i32' _).1 (at_i32' _).2) e
    · cases e
  case ixor =>
    dsimp only [at_st] at e
    split at e
    · exact at_II (f := fun P a b => at_fr P at_m4 at_x4) (g := (· ^^^ ·)) (pc' := 0) h (fun x y wa wb ex ey => at_fr_ok hK (at_i32' _).1 (at_i32' _).2) e
    · cases e
  case ishr =>
    dsimp only [at_st] at e
    split at e
    · exact at_II (f := fun P a b => at_fr P at_m4 at_x4) (g := fun x y => x >>> (y &&& 31)) (pc' := 0) h (fun x y wa wb ex ey => at_fr_ok hK (at_i32' _).1 (at_i32' _).2) e
    · cases e
  case iushr =>
    dsimp only [at_st] at e
    split at e
    · exact at_II (f := fun P a b => at_fr P at_m4 at_x4) (g := fun x y => (x.toUInt32 >>> (y.toUInt32 &&& Int32.toUInt32 31)).toInt32) (pc' := 0) h (fun x y wa wb ex ey => at_fr_ok hK (at_i32' _).1 (at_i32' _).2) e
    · cases e
  case idiv =>
    dsimp only [at_st] at e
    split at e
    · rename_i b a r
      split at e
      · rename_i q eq
        obtain ⟨v0, s0, rfl, ⟨y, rfl, ey⟩, hw0, hG0⟩ := h.pop
        obtain ⟨v1, s1, rfl, ⟨x, rfl, ex⟩, hw1, hG1⟩ := hG0.pop
        obtain ⟨k1, k2⟩ := at_i32' (x / y)
        obtain ⟨hn, hs⟩ := at_dv_ok hK hw1 hw0 eq k1 k2 (fun q1 q2 => by
          rw [← ex, ← ey] at q1 q2 ⊢
          rw [Int32.toInt_div]
          exact at_b32 q1 q2) (by rw [← ex]; exact (at_i32' x).2) (by decide)
        have hy : y ≠ 0 := by rintro rfl; exact hn ey.symm
        refine ⟨(pc + 1, fl, .inl (x / y) :: s1, m), ?_, at_i_ok hG1 hs e⟩
        show (if y = 0 then none else _) = _
        rw [if_neg hy]
      · cases e
    · cases e
  case irem =>
    dsimp only [at_st] at e
    split at e
    · rename_i b a r
      split at e
      · rename_i q eq
        obtain ⟨v0, s0, rfl, ⟨y, rfl, ey⟩, hw0, hG0⟩ := h.pop
        obtain ⟨v1, s1, rfl, ⟨x, rfl, ex⟩, hw1, hG1⟩ := hG0.pop
        obtain ⟨k1, k2⟩ := at_i32' (x - (x / y) * y)
        obtain ⟨hn, hs⟩ := at_rm_ok hK eq k1 k2 (fun q1 q2 => by
          rw [← ex, ← ey] at q1 q2 ⊢
          exact at_rem32 q1 q2)
        have hy : y ≠ 0 := by rintro rfl; exact hn ey.symm
        refine ⟨(pc + 1, fl, .inl (x - (x / y) * y) :: s1, m), ?_, at_i_ok hG1 hs e⟩
        show (if y = 0 then none else _) = _
        rw [if_neg hy]
      · cases e
    · cases e
  case ineg =>
    dsimp only [at_st] at e
    split at e
    · rename_i a r
      obtain ⟨v0, s0, rfl, ⟨x, rfl, ex⟩, hw0, hG0⟩ := h.pop
      obtain ⟨k1, k2⟩ := at_i32' (-x)
      refine ⟨(pc + 1, fl, .inl (-x) :: s0, m), rfl, at_i_ok hG0 (at_fx_ok hK (at_wf_mul hw0) k1 k2 (fun q1 q2 => ?_)) e⟩
      rw [at_ev_mul, ← ex] at q1 q2 ⊢
      rw [Int32.toInt_neg, Int.neg_one_mul]
      rw [Int.neg_one_mul] at q1 q2
      exact at_b32 q1 q2
    · cases e
  case ladd =>
    dsimp only [at_st] at e
    split at e
    · refine at_JJ (f := fun P a b => at_fx P (at_add a b) at_m8 at_x8) (g := (· + ·)) (pc' := 0) h (fun x y wa wb ex ey => ?_) e
      obtain ⟨k1, k2⟩ := at_i64 (x + y)
      refine at_fx_ok hK (at_wf_add wa wb) k1 k2 (fun q1 q2 => ?_)
      rw [at_ev_add, ← ex, ← ey] at q1 q2 ⊢
      rw [Int64.toInt_add]
      exact at_b64 q1 q2
    · cases e
  case lsub =>
    dsimp only [at_st] at e
    split at e
    · refine at_JJ (f := fun P a b => at_fx P (at_sub a b) at_m8 at_x8) (g := (· - ·)) (pc' := 0) h (fun x y wa wb ex ey => ?_) e
      obtain ⟨k1, k2⟩ := at_i64 (x - y)
      refine at_fx_ok hK (at_wf_sub wa wb) k1 k2 (fun q1 q2 => ?_)
      rw [at_ev_sub, ← ex, ← ey] at q1 q2 ⊢
      rw [Int64.toInt_sub]
      exact at_b64 q1 q2
    · cases e
  case lmul =>
    dsimp only [at_st] at e
    split at e
    · refine at_JJ (f := fun P a b => at_ml P a b at_m8 at_x8) (g := (· * ·)) (pc' := 0) h (fun x y wa wb ex ey => ?_) e
      obtain ⟨k1, k2⟩ := at_i64 (x * y)
      refine at_ml_ok hK wa wb k1 k2 (fun q1 q2 => ?_)
      rw [← ex, ← ey] at q1 q2 ⊢
      rw [Int64.toInt_mul]
      exact at_b64 q1 q2
    · cases e
  case land =>
    dsimp only [at_st] at e
    split at e
    · exact at_JJ (f := fun P a b => at_fr P at_m8 at_x8) (g := (· &&& ·)) (pc' := 0) h (fun x y wa wb ex ey => at_fr_ok hK (at_i64 _).1 (at_i64 _).2) e
    · cases e
  case ldiv =>
    dsimp only [at_st] at e
    split at e
    · rename_i b a r
      split at e
      · rename_i q eq
        obtain ⟨v0, s0, rfl, ⟨y, rfl, ey⟩, hw0, hG0⟩ := h.pop
        obtain ⟨v1, s1, rfl, ⟨x, rfl, ex⟩, hw1, hG1⟩ := hG0.pop
        obtain ⟨k1, k2⟩ := at_i64 (x / y)
        obtain ⟨hn, hs⟩ := at_dv_ok hK hw1 hw0 eq k1 k2 (fun q1 q2 => by
          rw [← ex, ← ey] at q1 q2 ⊢
          rw [Int64.toInt_div]
          exact at_b64 q1 q2) (by rw [← ex]; exact (at_i64 x).2) (by decide)
        have hy : y ≠ 0 := by rintro rfl; exact hn ey.symm
        refine ⟨(pc + 1, fl, .inr (.inl (x / y)) :: s1, m), ?_, at_j_ok hG1 hs e⟩
        show (if y = 0 then none else _) = _
        rw [if_neg hy]
      · cases e
    · cases e
  case lshl =>
    dsimp only [at_st] at e
    split at e
    · obtain ⟨v0, s0, rfl, ⟨y, rfl, ey⟩, hw0, hG0⟩ := h.pop
      obtain ⟨v1, s1, rfl, ⟨x, rfl, ex⟩, hw1, hG1⟩ := hG0.pop
      exact ⟨_, rfl, at_j_ok hG1 (at_fr_ok hK (at_i64 _).1 (at_i64 _).2) e⟩
    · cases e
  case lshr =>
    dsimp only [at_st] at e
    split at e
    · obtain ⟨v0, s0, rfl, ⟨y, rfl, ey⟩, hw0, hG0⟩ := h.pop
      obtain ⟨v1, s1, rfl, ⟨x, rfl, ex⟩, hw1, hG1⟩ := hG0.pop
      exact ⟨_, rfl, at_j_ok hG1 (at_fr_ok hK (at_i64 _).1 (at_i64 _).2) e⟩
    · cases e
  case lcmp =>
    dsimp only [at_st] at e
    split at e
    · rename_i b a r
      cases e
      obtain ⟨v0, s0, rfl, ⟨y, rfl, ey⟩, hw0, hG0⟩ := h.pop
      obtain ⟨v1, s1, rfl, ⟨x, rfl, ex⟩, hw1, hG1⟩ := hG0.pop
      refine ⟨_, rfl, at_Nx.one (by rfl) at_ag.rfl (Nat.le_refl _) (at_G.push (a := .inr (.inr (.inr (.inr (at_sub a b))))) (v := .inl (lg_cmp x y)) hG1 ⟨_, rfl, ?_⟩ (at_wf_sub hw1 hw0))⟩
      rw [at_ev_sub, ← ex, ← ey]
      unfold lg_cmp
      by_cases h1 : x > y
      · rw [if_pos h1]
        have : y.toInt < x.toInt := Int64.lt_iff_toInt_lt.mp h1
        exact Or.inl ⟨rfl, by omega⟩
      · rw [if_neg h1]
        by_cases h2 : x = y
        · rw [if_pos h2]
          exact Or.inr (Or.inl ⟨rfl, by rw [h2]; omega⟩)
        · rw [if_neg h2]
          refine Or.inr (Or.inr ⟨rfl, ?_⟩)
          have h3 : ¬ y.toInt < x.toInt := fun q => h1 (Int64.lt_iff_toInt_lt.mpr q)
          have h4 : x.toInt ≠ y.toInt := fun q => h2 (Int64.toInt.inj q)
          omega
    · cases e
  case i2l =>
    dsimp only [at_st] at e
    split at e
    · rename_i a r
      cases e
      obtain ⟨v0, s0, rfl, ⟨x, rfl, ex⟩, hw0, hG0⟩ := h.pop
      exact ⟨_, rfl, at_Nx.one (by rfl) at_ag.rfl (Nat.le_refl _) (at_G.push (a := .inr (.inl a)) (v := .inr (.inl x.toInt64)) hG0 ⟨_, rfl, by rw [Int32.toInt_toInt64]; exact ex⟩ hw0)⟩
    · cases e
  case l2i =>
    dsimp only [at_st] at e
    split at e
    · rename_i a r
      obtain ⟨v0, s0, rfl, ⟨x, rfl, ex⟩, hw0, hG0⟩ := h.pop
      obtain ⟨k1, k2⟩ := at_i32' x.toInt32
      refine ⟨(pc + 1, fl, .inl x.toInt32 :: s0, m), rfl, at_i_ok hG0 (at_fx_ok hK hw0 k1 k2 (fun q1 q2 => ?_)) e⟩
      rw [← ex] at q1 q2 ⊢
      rw [Int64.toInt_toInt32]
      exact at_b32 q1 q2
    · cases e
  case dup =>
    dsimp only [at_st] at e
    split at e
    · rename_i a r
      obtain ⟨hb, e⟩ := am_bif e
      cases e
      obtain ⟨v0, s0, rfl, hv, hw, hG⟩ := h.pop
      refine ⟨(pc + 1, fl, v0 :: v0 :: s0, m), ?_, at_Nx.one (by rfl) at_ag.rfl (Nat.le_refl _) (h.push hv hw)⟩
      show (if fl_cat v0 = 1 then _ else none) = _
      rw [hv.cat, if_pos (Nat.eq_of_beq_eq_true hb)]
    · cases e
  case pop =>
    dsimp only [at_st] at e
    split at e
    · rename_i a r
      obtain ⟨hb, e⟩ := am_bif e
      cases e
      obtain ⟨v0, s0, rfl, hv, hw, hG⟩ := h.pop
      refine ⟨(pc + 1, fl, s0, m), ?_, at_Nx.one (by rfl) at_ag.rfl (Nat.le_refl _) hG⟩
      show (if fl_cat v0 = 1 then _ else none) = _
      rw [hv.cat, if_pos (Nat.eq_of_beq_eq_true hb)]
    · cases e
  case pop2 =>
    dsimp only [at_st] at e
    split at e
    · rename_i a r
      obtain ⟨hb, e⟩ := am_bif e
      cases e
      obtain ⟨v0, s0, rfl, hv, hw, hG⟩ := h.pop
      refine ⟨(pc + 1, fl, s0, m), ?_, at_Nx.one (by rfl) at_ag.rfl (Nat.le_refl _) hG⟩
      show (if fl_cat v0 = 2 then _ else none) = _
      rw [hv.cat, if_pos (Nat.eq_of_beq_eq_true hb)]
    · cases e
  case dup2 =>
    dsimp only [at_st] at e
    split at e
    · rename_i a b r
      obtain ⟨hb, e⟩ := am_bif e
      cases e
      simp only [Bool.and_eq_true] at hb
      obtain ⟨v0, s0, rfl, hv, hw, hG⟩ := h.pop
      obtain ⟨v1, s1, rfl, hv1, hw1, hG1⟩ := hG.pop
      refine ⟨(pc + 1, fl, v0 :: v1 :: v0 :: v1 :: s1, m), ?_, at_Nx.one (by rfl) at_ag.rfl (Nat.le_refl _) ((h.push hv1 hw1).push hv hw)⟩
      show (if fl_cat v0 = 1 ∧ fl_cat v1 = 1 then _ else none) = _
      rw [hv.cat, hv1.cat, if_pos ⟨Nat.eq_of_beq_eq_true hb.1, Nat.eq_of_beq_eq_true hb.2⟩]
    · cases e
  case ifCond c off =>
    dsimp only [at_st] at e
    split at e
    · obtain ⟨v0, s0, rfl, ⟨x, rfl, ex⟩, hw, hG⟩ := h.pop
      exact at_br_ok hG hw (by rw [at_c1, ex]) e
    · obtain ⟨v0, s0, rfl, ⟨x, rfl, ex⟩, hw, hG⟩ := h.pop
      exact at_br_ok hG hw (at_c3 c ex) e
    · cases e
  case if_icmp c off =>
    dsimp only [at_st] at e
    split at e
    · obtain ⟨v0, s0, rfl, ⟨y, rfl, ey⟩, hw0, hG0⟩ := h.pop
      obtain ⟨v1, s1, rfl, ⟨x, rfl, ex⟩, hw1, hG1⟩ := hG0.pop
      exact at_br_ok hG1 (at_wf_sub hw1 hw0) (by rw [at_c2, at_ev_sub, ex, ey]) e
    · cases e
  case goto off =>
    dsimp only [at_st] at e
    split at e
    · rename_i t et
      cases e
      refine ⟨(t, fl, fs, m), ?_, at_Nx.one (by rfl) at_ag.rfl (Nat.le_refl _) h⟩
      show fl_go pc off fl fs m = _
      unfold fl_go
      rw [et]
    · cases e
  case tableswitch d lo hi offs =>
    dsimp only [at_st] at e
    split at e
    · obtain ⟨v0, s0, rfl, ⟨x, rfl, ex⟩, hw, hG⟩ := h.pop
      exact at_ts_ok hG hw ex e
    · cases e
  case getfield i => exact at_gf_ok h e
  case putfield i => exact at_pf_ok2 hX h e
  case getstatic i =>
    dsimp only [at_st] at e
    split at e
    · rename_i c ec
      cases e
      refine ⟨(pc + 3, fl, .inr (.inr (.inr (.inl c))) :: fs, m), ?_, at_Nx.one (by rfl) at_ag.rfl (Nat.le_refl _) (at_G.push (a := .inr (.inr (.inr (.inl c)))) (v := .inr (.inr (.inr (.inl c)))) h rfl True.intro)⟩
      show (match pw_sta (pw_own mi) i with | some c => (some (pc + 3, fl, (.inr (.inr (.inr (.inl c))) : fl_V) :: fs, m) : Option fl_C) | none => none) = _
      rw [ec]
    · cases e
  case iaload => exact at_ald_ok h e
  case iastore => exact at_ast_ok hX h e
  case laload => exact at_lald_ok h e
  case lastore => exact at_last_ok hX h e
  case aaload => exact at_qald_ok h e
  case arraylength => exact at_len_ok h e
  case invokestatic i =>
    dsimp only [at_st] at e
    split at e
    · rename_i en
      obtain ⟨c, e1, e2⟩ := at_cpy_ok hX h e
      refine ⟨c, ?_, e2⟩
      show (match am_ntk (pw_P L xs) mi (.invokestatic i) with | some 1 => fl_n1 pc fl fs m | _ => none) = _
      have : am_ntk (pw_P L xs) mi (.invokestatic i) = some 1 := by
        show (match pw_nat mi i with | some 1 => some 1 | some 3 => some 3 | some 4 => some 4 | _ => none) = _
        rw [en]
        rfl
      rw [this]
      exact e1
    · cases e
end ATA

end

/-! 70.exec.lean.txt -/
section
/-! ===== the looker's run: calls by contract or in line, loops by their shape ===== -/
/-- an argument: a reference (kind, place), an int or a long in a range -/
abbrev at_K : Type := (Nat × Option Nat) ⊕ (Bool × Int × Int)
/-- a contract: method, arguments, which of them (and so much more) is below the number of cells; answer, is it below the number of cells; what is written -/
abbrev at_C : Type := Nat × List at_K × List (Nat × Int) × Option (Nat ⊕ (Bool × Int × Int)) × Bool × List at_W
/-- a number in terms of locals (0), words (1), the number of cells (2) -/
abbrev at_T : Type := Int × List (Int × Nat × Nat)
/-- a loop: method, place, kind of local 0; passed by where a local is a number; locals that change; what is written; words that are named (of local i's object, of the reference's row); what holds; what falls -/
abbrev at_J : Type := (Nat × Nat × Option Nat) × Option (Nat × Int) × List (Nat × Option (Bool × Int × Int)) × List at_W × List (Option Nat × at_T × Int × Int) × List at_T × at_T
/-- a loop that is being gone through: place, its shape, the base's locals, facts that stay, its start, the named words, their names, what falls -/
abbrev at_Ac : Type := Nat × at_J × at_L × List at_F × at_S × at_L × List (Nat × at_A × at_A) × at_A
abbrev at_O : Type := at_S × Option at_V
def at_tmt (lv : at_L) (bv : List at_A) (n : Option at_A) (t : Int × Nat × Nat) : Option at_A := match t.2.1 with
  | 0 => (match lv[t.2.2]? with
    | some (some (.inl a)) => some (at_mul t.1 a)
    | some (some (.inr (.inl a))) => some (at_mul t.1 a)
    | _ => none)
  | 1 => (match bv[t.2.2]? with
    | some a => some (at_mul t.1 a)
    | none => none)
  | _ => (match n with
    | some a => some (at_mul t.1 a)
    | none => none)
def at_tml (lv : at_L) (bv : List at_A) (n : Option at_A) : List (Int × Nat × Nat) → Option at_A
  | [] => some (at_c 0)
  | t :: r => match at_tmt lv bv n t, at_tml lv bv n r with
    | some a, some b => some (at_add a b)
    | _, _ => none
def at_tm (lv : at_L) (bv : List at_A) (n : Option at_A) (t : at_T) : Option at_A := match at_tml lv bv n t.2 with
  | some a => some (at_add a (at_c t.1))
  | none => none
def at_cvW (w w' : at_W) : Bool := Nat.beq w.1 w'.1 && (bif w'.2.1 then w.2.1 && (decide (w'.2.2.1 ≤ w.2.2.1) && decide (w.2.2.2 ≤ w'.2.2.2)) else bif w.2.1 then decide (w'.2.2.1 ≤ 444 + w.2.2.1) && decide (1359 + w.2.2.2 ≤ w'.2.2.2) else decide (w'.2.2.1 ≤ w.2.2.1) && decide (w.2.2.2 ≤ w'.2.2.2))
/-- may the fact's word be written? -/
def at_mh (sy : List (Int × Int)) (f : at_F) (w : at_W) : Bool := Nat.beq f.1 w.1 && (bif w.2.1 then !at_dj sy f.2.2.1 (0, 444 + w.2.2.1, 61, 16, w.2.2.2 - w.2.2.1 + 1, 0, 0) else !(decide (at_hi sy f.2.2.1 < w.2.2.1) || decide (w.2.2.2 < at_lo sy f.2.2.1)))
/-- the named words' places -/
def at_bl (S : at_S) (lv : at_L) : List (Option Nat × at_T × Int × Int) → Option (at_S × List (Nat × at_A × at_A) × List at_A)
  | [] => some (S, [], [])
  | b :: r => match at_tm lv [] none b.2.1, (match b.1 with
      | none => some (at_TA, at_c 280)
      | some i => match lv[i]? with
        | some (some (.inr (.inr (.inl q)))) => some q
        | _ => none) with
    | some ix, some q => bif at_nn S.1 ix then
        (fun s : at_S × at_A => bif at_inR s.1.1 s.2 b.2.2.1 b.2.2.2 then (match at_bl s.1 lv r with
          | some z => some (z.1, (q.1, q.2, ix) :: z.2.1, s.2 :: z.2.2)
          | none => none) else none) (at_ld S q.1 q.2 ix) else none
    | _, _ => none
def at_hc1 (P : at_P) (lv : at_L) (h : Nat × Option (Bool × Int × Int)) : Bool := match h.2 with
  | none => true
  | some (b, lo, hi) => match lv[h.1]? with
    | some (some (.inl a)) => !b && at_inR P a lo hi
    | some (some (.inr (.inl a))) => b && at_inR P a lo hi
    | _ => false
def at_er (hav : List (Nat × Option (Bool × Int × Int))) (lv : at_L) : at_L := hav.foldl (fun l h => l.set h.1 none) lv
def at_hv : List (Nat × Option (Bool × Int × Int)) → at_P → at_L → at_P × at_L
  | [], P, lv => (P, lv)
  | (_, none) :: r, P, lv => at_hv r P lv
  | (i, some (b, lo, hi)) :: r, P, lv => at_hv r (at_new P lo hi) (lv.set i (some (bif b then .inr (.inl (at_nv P)) else .inl (at_nv P))))
def at_bh : List (Option Nat × at_T × Int × Int) → at_P → at_P × List at_A
  | [], P => (P, [])
  | b :: r, P => (fun z : at_P × List at_A => (z.1, at_nv P :: z.2)) (at_bh r (at_new P b.2.2.1 b.2.2.2))
def at_cons (lv : at_L) (bv : List at_A) (n : Option at_A) : List at_T → at_P → Option at_P
  | [], P => some P
  | t :: r, P => match at_tm lv bv n t with
    | some a => (match at_as P a with
      | some P' => at_cons lv bv n r P'
      | none => none)
    | none => none
def at_ckc (P : at_P) (lv : at_L) (bv : List at_A) (n : Option at_A) (ts : List at_T) : Bool := ts.all (fun t => match at_tm lv bv n t with
  | some a => at_le P a
  | none => false)
def at_nF (fs : List at_F) : Option at_A := at_ff fs at_TA (at_c 280) (at_c 2)
def at_loc (l : List (Nat × at_A × at_A)) (f : at_F) : Bool := l.any (fun q => Nat.beq q.1 f.1 && (at_eq q.2.1 f.2.1 && at_eq q.2.2 f.2.2.1))
def at_enter (S : at_S) (lv : at_L) (j : at_J) : Option (at_S × at_L × at_Ac) :=
  match at_bl (at_cs S).1 lv j.2.2.2.2.1 with
  | none => none
  | some (S2, locs, vals) =>
    bif j.2.2.1.all (at_hc1 S2.1 lv) && at_ckc S2.1 lv vals (at_nF S2.2.1) j.2.2.2.2.2.1 then
      (fun (lv0 : at_L) (f0 : List at_F) => (fun h : at_P × at_L => (fun b : at_P × List at_A =>
        match at_cons h.2 b.2 (at_nF f0) j.2.2.2.2.2.1 b.1, at_tm h.2 b.2 (at_nF f0) j.2.2.2.2.2.2 with
        | some P3, some me => (fun SJ : at_S => some (SJ, h.2, (j.1.2.1, j, lv0, f0, SJ, h.2, locs, me))) (P3, (locs.zip b.2).map (fun q => (q.1.1, q.1.2.1, q.1.2.2, q.2)) ++ f0, j.2.2.2.1 ++ S2.2.2.1, S2.2.2.2)
        | _, _ => none) (at_bh j.2.2.2.2.1 h.1)) (at_hv j.2.2.1 S2.1 lv0)) (at_er j.2.2.1 lv) (S2.2.1.filter (fun f => !(j.2.2.2.1.any (at_mh S2.1.1 f) || at_loc locs f)))
    else none
def at_eqV (a b : at_V) : Bool := match a, b with
  | .inl a, .inl b => at_eq a b
  | .inr (.inl a), .inr (.inl b) => at_eq a b
  | .inr (.inr (.inl p)), .inr (.inr (.inl q)) => Nat.beq p.1 q.1 && at_eq p.2 q.2
  | .inr (.inr (.inr (.inl c))), .inr (.inr (.inr (.inl d))) => Nat.beq c d
  | .inr (.inr (.inr (.inr a))), .inr (.inr (.inr (.inr b))) => at_eq a b
  | _, _ => false
/-- what stands in the base stands here too -/
def at_un : at_L → at_L → Bool
  | [], [] => true
  | none :: r, _ :: s => at_un r s
  | some a :: r, some b :: s => at_eqV a b && at_un r s
  | _, _ => false
def at_eqF (f g : at_F) : Bool := Nat.beq f.1 g.1 && (at_eq f.2.1 g.2.1 && (at_eq f.2.2.1 g.2.2.1 && at_eq f.2.2.2 g.2.2.2))
def at_bvs (fs : List at_F) : List (Nat × at_A × at_A) → Option (List at_A)
  | [] => some []
  | q :: r => match at_ff fs q.1 q.2.1 q.2.2, at_bvs fs r with
    | some v, some vs => some (v :: vs)
    | _, _ => none
def at_bck (S : at_S) (lv : at_L) (A : at_Ac) : Bool :=
  (fun (j : at_J) => match at_bvs S.2.1 A.2.2.2.2.2.2.1 with
  | none => false
  | some vals => j.2.2.1.all (at_hc1 S.1 lv) && (at_un A.2.2.1 lv && ((vals.zip j.2.2.2.2.1).all (fun q => at_inR S.1 q.1 q.2.2.2.1 q.2.2.2.2) && (at_ckc S.1 lv vals (at_nF S.2.1) j.2.2.2.2.2.1 && (A.2.2.2.1.all (fun f => S.2.1.any (at_eqF f)) && (S.2.2.1.all (fun w => A.2.2.2.2.1.2.2.1.any (at_cvW w)) && (S.2.2.2.all (fun b => at_hb A.2.2.2.2.1.2.2.2 b.1 b.2) && (match at_tm lv vals (at_nF S.2.1) j.2.2.2.2.2.2 with
    | some me => at_le S.1 (at_sub (at_c 1) A.2.2.2.2.2.2.2) && at_le S.1 (at_add (at_sub me A.2.2.2.2.2.2.2) (at_c 1))
    | none => false)))))))) A.2.1
def at_eqO (a b : Option Nat) : Bool := match a, b with
  | none, none => true
  | some a, some b => Nat.beq a b
  | _, _ => false
def at_fj (JT : List at_J) (mi pc : Nat) (k0 : Option Nat) : Option at_J := JT.find? (fun j => Nat.beq j.1.1 mi && (Nat.beq j.1.2.1 pc && at_eqO j.1.2.2 k0))
def at_skip (S : at_S) (lv : at_L) (j : at_J) : Bool := match j.2.1 with
  | none => false
  | some (i, k) => match lv[i]? with
    | some (some (.inl a)) => (match at_ic S.1.1 a with
      | some z => decide (z = k)
      | none => false)
    | _ => false
/-- at a loop's head: nothing to do; back at it; into it -/
def at_head (JT : List at_J) (mi : Nat) (k0 : Option Nat) (pc : Nat) (S : at_S) (lv : at_L) (act : List at_Ac) : Option (Option (Option (at_S × at_L × at_Ac))) := match at_fj JT mi pc k0 with
  | none => some none
  | some j => bif at_skip S lv j then some none else match act.find? (fun A => Nat.beq A.1 pc) with
    | some A => bif at_bck S lv A then some (some none) else none
    | none => match at_enter S lv j with
      | some x => some (some (some x))
      | none => none
def at_jn {α : Type} : List (Option (List α)) → Option (List α)
  | [] => some []
  | none :: _ => none
  | some l :: r => match at_jn r with
    | some q => some (l ++ q)
    | none => none
def at_kd0 (as_ : List at_V) : Option Nat := match as_ with
  | .inr (.inr (.inl q)) :: _ => some q.1
  | _ => none
def at_ar : List at_V → at_L
  | [] => []
  | v :: r => bif Nat.beq (at_cat v) 2 then some v :: none :: at_ar r else some v :: at_ar r
def at_args (n : Nat) (as_ : List at_V) : at_L := at_ar as_ ++ List.replicate (n - (at_ar as_).length) none
def at_rc (ins : Instr) (mj n : Nat) (st : List at_V) : Bool :=
  Nat.ble n st.length && (Nat.ble ((st.drop n).map at_cat).sum 8 && (Nat.ble ((st.take n).map at_cat).sum (pw_mxl mj) && (match ins with
  | .invokestatic _ => true
  | .invokespecial _ => (match (st.take n).reverse with
    | .inr (.inr (.inl _)) :: _ => true
    | _ => false)
  | .invokevirtual _ => (match (st.take n).reverse with
    | .inr (.inr (.inl q)) :: _ => (match fk_kd q.1 with
      | .inl (cj, _) => Nat.beq cj (pw_own mj)
      | _ => false)
    | _ => false)
  | _ => false)))
/-- do the arguments have the contract's kinds? -/
def at_kmt : List at_K → List at_V → Bool
  | [], [] => true
  | .inl k :: r, .inr (.inr (.inl q)) :: s => Nat.beq k.1 q.1 && at_kmt r s
  | .inr (false, _) :: r, .inl _ :: s => at_kmt r s
  | .inr (true, _) :: r, .inr (.inl _) :: s => at_kmt r s
  | _, _ => false
def at_fcn (CT : List at_C) (mj : Nat) (as_ : List at_V) : Option at_C := CT.find? (fun c => Nat.beq c.1 mj && at_kmt c.2.1 as_)
def at_aok (P : at_P) : List at_K → List at_V → Bool
  | [], [] => true
  | .inl (_, none) :: r, .inr (.inr (.inl _)) :: s => at_aok P r s
  | .inl (_, some p) :: r, .inr (.inr (.inl q)) :: s => at_eq q.2 (at_c p) && at_aok P r s
  | .inr (false, lo, hi) :: r, .inl a :: s => at_inR P a lo hi && at_aok P r s
  | .inr (true, lo, hi) :: r, .inr (.inl a) :: s => at_inR P a lo hi && at_aok P r s
  | _, _ => false
def at_ltk (P : at_P) (n : at_A) (as_ : List at_V) (q : Nat × Int) : Bool := match as_[q.1]? with
  | some (.inl a) => at_le P (at_add (at_sub a n) (at_c (q.2 + 1)))
  | _ => false
/-- the answer of a call by contract -/
def at_urn (lt b : Bool) (S1 : at_S) (v : at_P × at_A) : at_O := ((bif lt then (fun s2 : at_S × at_A => (at_try s2.1.1 (at_add (at_sub v.2 s2.2) (at_c 1)), s2.1.2)) (at_cs (v.1, S1.2)) else (v.1, S1.2)), some (bif b then .inr (.inl v.2) else .inl v.2))
def at_urt (c : at_C) (S1 : at_S) : at_O := match c.2.2.2.1 with
  | none => (S1, none)
  | some (.inl τ) => ((at_new S1.1 0 1000000, S1.2), some (.inr (.inr (.inl (τ, at_nv S1.1)))))
  | some (.inr (b, lo, hi)) => at_urn c.2.2.2.2.1 b S1 (bif decide (lo = hi) then (S1.1, at_c lo) else at_fr S1.1 lo hi)
/-- a call by contract -/
def at_use (S : at_S) (as_ : List at_V) (c : at_C) : Option at_O :=
  (fun s : at_S × at_A => bif s.1.2.2.2.isEmpty && (at_aok s.1.1 c.2.1 as_ && c.2.2.1.all (at_ltk s.1.1 s.2 as_)) then
    some (at_urt c (s.1.1, s.1.2.1.filter (fun f => !c.2.2.2.2.2.any (at_mh s.1.1.1 f)), c.2.2.2.2.2.filter (fun w => !s.1.2.2.1.any (at_eqW w)) ++ s.1.2.2.1, s.1.2.2.2))
  else none) (at_cs S)
/-- the lesser of two; held to two bounds -/
def at_pmin (P : at_P) (a b : at_A) : at_P × at_A := (fun z : at_A => (at_try (at_try (at_new P (min (at_lo P.1 a) (at_lo P.1 b)) (min (at_hi P.1 a) (at_hi P.1 b))) (at_sub z a)) (at_sub z b), z)) (at_nv P)
def at_phel (P : at_P) (l h : at_A) : at_P × at_A := (fun z : at_A => (at_try (at_try (at_new P (at_lo P.1 l) (at_hi P.1 h)) (at_sub z h)) (at_sub l z), z)) (at_nv P)
def at_prim (mj : Nat) (S : at_S) (as_ : List at_V) : Option at_O := match mj, as_ with
  | 187, [.inl a, .inl b] => (fun q : at_P × at_A => some ((q.1, S.2), some (.inl q.2))) (at_pmin S.1 a b)
  | 186, [.inl _, .inl l, .inl h] => bif at_le S.1 (at_sub l h) then (fun q : at_P × at_A => some ((q.1, S.2), some (.inl q.2))) (at_phel S.1 l h) else none
  | _, _ => none
/-- a call: by what is known of it, or none: in line -/
def at_call (CT : List at_C) (S : at_S) (mj : Nat) (as_ : List at_V) : Option (Option at_O) := match at_prim mj S as_ with
  | some o => some (some o)
  | none => match at_fcn CT mj as_ with
    | some c => some (at_use S as_ c)
    | none => none
def at_ret (mi : Nat) (ins : Instr) (S : at_S) (st : List at_V) : Option at_O := match ins, st with
  | .return_, [] => (match pw_ret mi with
    | none => some (S, none)
    | some _ => none)
  | .ireturn, [.inl a] => (match pw_ret mi with
    | some .int => some (S, some (.inl a))
    | some .boolean => bif at_inR S.1 a 0 1 then some (S, some (.inl a)) else none
    | _ => none)
  | .lreturn, [.inr (.inl a)] => (match pw_ret mi with
    | some .long => some (S, some (.inr (.inl a)))
    | _ => none)
  | _, _ => none
def at_ex (CT : List at_C) (JT : List at_J) : Nat → Nat → Option Nat → Nat → Bool → at_S → at_L → List at_V → List at_Ac → Option (List at_O)
  | 0, _, _, _, _, _, _, _, _ => none
  | f + 1, mi, k0, pc, hd, S, lv, st, act => match (bif hd && st.isEmpty then at_head JT mi k0 pc S lv act else some none) with
    | none => none
    | some (some none) => some []
    | some (some (some (SJ, lvJ, A))) => at_ex CT JT f mi k0 pc false SJ lvJ [] (A :: act)
    | some none => match pw_code mi pc with
      | none => none
      | some ins => match at_cl mi ins with
        | some (mj, n) => bif at_rc ins mj n st then (match at_call CT S mj (st.take n).reverse with
          | some none => none
          | some (some o) => at_ex CT JT f mi k0 (pc + 3) true o.1 lv (o.2.toList ++ st.drop n) act
          | none => match at_ex CT JT f mj (at_kd0 (st.take n).reverse) 0 true S (at_args (pw_mxl mj) (st.take n).reverse) [] [] with
            | none => none
            | some outs => at_jn (outs.map (fun o => at_ex CT JT f mi k0 (pc + 3) true o.1 lv (o.2.toList ++ st.drop n) act))) else none
        | none => match at_ret mi ins S st with
          | some o => some [o]
          | none => match at_st mi ins pc S lv st with
            | none => none
            | some alts => at_jn (alts.map (fun a => at_ex CT JT f mi k0 a.1 true a.2.1 a.2.2.1 a.2.2.2 act))
/-! a contract that the looker proves itself -/
def at_sta : List at_K → at_P → at_P × List at_V
  | [], P => (P, [])
  | .inl (τ, some p) :: r, P => (fun z : at_P × List at_V => (z.1, .inr (.inr (.inl (τ, at_c p))) :: z.2)) (at_sta r P)
  | .inl (τ, none) :: r, P => (fun z : at_P × List at_V => (z.1, .inr (.inr (.inl (τ, at_nv P))) :: z.2)) (at_sta r (at_new P 0 1000000))
  | .inr (b, lo, hi) :: r, P => (fun z : at_P × List at_V => (z.1, (bif b then .inr (.inl (at_nv P)) else .inl (at_nv P)) :: z.2)) (at_sta r (at_new P lo hi))
def at_stl (as_ : List at_V) : List (Nat × Int) → at_S → Option at_S
  | [], S => some S
  | q :: r, S => match as_[q.1]? with
    | some (.inl a) => (fun s : at_S × at_A => match at_as s.1.1 (at_add (at_sub a s.2) (at_c (q.2 + 1))) with
      | some P => at_stl as_ r (P, s.1.2)
      | none => none) (at_cs S)
    | _ => none
def at_oko (c : at_C) (o : at_O) : Bool := o.1.2.2.2.isEmpty && (o.1.2.2.1.all (fun w => c.2.2.2.2.2.any (at_cvW w)) && (match c.2.2.2.1, o.2 with
  | none, none => true
  | some (.inr (false, lo, hi)), some (.inl a) => at_inR o.1.1 a lo hi && (!c.2.2.2.2.1 || (fun s : at_S × at_A => at_le s.1.1 (at_add (at_sub a s.2) (at_c 1))) (at_cs o.1))
  | some (.inr (true, lo, hi)), some (.inr (.inl a)) => at_inR o.1.1 a lo hi && !c.2.2.2.2.1
  | _, _ => false))
def at_chk (CT : List at_C) (JT : List at_J) (f : Nat) (c : at_C) : Bool := (fun z : at_P × List at_V => match at_stl z.2 c.2.2.1 (z.1, [], [], []) with
  | some S => (match at_ex CT JT f c.1 (at_kd0 z.2) 0 true S (at_args (pw_mxl c.1) z.2) [] [] with
    | some outs => outs.all (at_oko c)
    | none => false)
  | none => false) (at_sta c.2.1 ([], [], []))
/-- contracts, each by those ahead of it -/
def at_all (CT : List at_C) (JT : List at_J) (f : Nat) : List at_C → Bool
  | [] => true
  | c :: r => at_chk CT JT f c && at_all (CT ++ [c]) JT f r

end

/-! 71.data.lean.txt -/
section
/-! ===== printed by wip/gen/t1data.py and looks3.py: contracts and loops for the looker ===== -/
def at_qm0 : at_C := (24, [.inl (73, none), .inr (false, 0, 19)], [], some (.inl 25), false, [(74, false, 0, 19)])
def at_qm1 : at_C := (156, [.inl (0, some 0)], [], some (.inr (true, -9223372036854775808, 9223372036854775807)), false, [])
def at_qm2 : at_C := (157, [.inl (0, some 0)], [], some (.inr (false, -2147483648, 2147483647)), false, [])
def at_qm3 : at_C := (242, [.inl (76, some 277)], [], some (.inr (false, -1, 19)), false, [(79, false, 0, 0), (79, false, 2, 1419)])
def at_qm4 : at_C := (241, [.inl (76, some 277)], [], none, false, [(79, false, 0, 1), (79, false, 1420, 29779)])
def at_qm5 : at_C := (217, [.inl (76, some 277), .inr (false, 0, 15)], [(1, 0)], none, false, [(79, false, 444, 1419)])
def at_qm6 : at_C := (292, [.inl (76, some 277)], [], some (.inr (true, -9223372036854775808, 9223372036854775807)), false, [])
def at_qm7 : at_C := (293, [.inl (76, some 277)], [], some (.inr (false, -2147483648, 2147483647)), false, [])
def at_qm8 : at_C := (296, [.inl (76, some 277)], [], some (.inr (false, -1, 1000)), false, [])
def at_qm9 : at_C := (308, [.inl (76, some 277), .inr (false, -2147483648, 2147483647), .inr (false, -2147483648, 2147483647), .inr (false, -2147483648, 2147483647)], [], some (.inr (false, -2147483648, 2147483647)), false, [(83, false, 0, 16249)])
def at_qm10 : at_C := (238, [.inl (76, some 277)], [], none, false, [(82, false, 0, 1417)])
def at_qm11 : at_C := (239, [.inl (76, some 277)], [], none, false, [(79, false, 2, 1419)])
def at_qm12 : at_C := (323, [.inl (76, some 277)], [], some (.inr (false, -2147483648, 2147483647)), false, [(80, false, 0, 29779)])
def at_qm13 : at_C := (324, [.inl (76, some 277)], [], some (.inr (false, -2147483648, 2147483647)), false, [(79, false, 0, 29779)])
def at_q0 : at_C := (33, [.inl (25, none), .inl (1, some 1)], [], none, false, [(25, false, 5, 16), (27, false, 6, 8), (28, false, 0, 29), (29, false, 0, 2), (30, false, 0, 23), (31, false, 0, 11), (32, false, 0, 47), (33, false, 0, 39), (34, false, 3, 6), (35, false, 0, 10), (36, false, 0, 3), (37, false, 2, 3), (38, false, 0, 71), (40, false, 2, 3), (41, false, 0, 95), (42, false, 0, 18), (43, false, 2, 2), (44, false, 0, 31), (45, false, 0, 10), (46, false, 2, 3), (47, false, 0, 15), (48, false, 0, 15)])
def at_q1 : at_C := (5, [.inl (18, none), .inr (false, -2147483648, 2147483647)], [], none, false, [(18, false, 2, 4)])
def at_q2 : at_C := (338, [.inl (21, none), .inr (false, -2147483648, 2147483647)], [], none, false, [(21, false, 0, 10)])
def at_q3 : at_C := (101, [.inl (0, some 0), .inr (false, -2147483648, 2147483647), .inr (false, -2147483648, 2147483647), .inr (false, -2147483648, 2147483647)], [], some (.inr (false, -1, 15)), false, [(1, false, 5, 5), (18, false, 0, 18), (19, false, 2, 2), (20, false, 0, 0), (21, false, 0, 10), (25, false, 5, 16), (27, false, 6, 8), (28, false, 0, 29), (29, false, 0, 2), (30, false, 0, 23), (31, false, 0, 11), (32, false, 0, 47), (33, false, 0, 39), (34, false, 3, 6), (35, false, 0, 10), (36, false, 0, 3), (37, false, 2, 3), (38, false, 0, 71), (40, false, 2, 3), (41, false, 0, 95), (42, false, 0, 18), (43, false, 2, 2), (44, false, 0, 31), (45, false, 0, 10), (46, false, 2, 3), (47, false, 0, 15), (48, false, 0, 15), (73, false, 1, 2), (74, false, 0, 19)])
def at_q4 : at_C := (102, [.inl (0, some 0), .inr (false, -2147483648, 2147483647), .inr (false, -2147483648, 2147483647)], [], some (.inr (false, 0, 1)), false, [(18, false, 2, 4), (25, false, 5, 16), (27, false, 6, 8), (28, false, 0, 29), (29, false, 0, 2), (30, false, 0, 23), (31, false, 0, 11), (32, false, 0, 47), (33, false, 0, 39), (34, false, 3, 6), (35, false, 0, 10), (36, false, 0, 3), (37, false, 2, 3), (38, false, 0, 71), (40, false, 2, 3), (41, false, 0, 95), (42, false, 0, 18), (43, false, 2, 2), (44, false, 0, 31), (45, false, 0, 10), (46, false, 2, 3), (47, false, 0, 15), (48, false, 0, 15), (73, false, 1, 2), (74, false, 0, 19)])
def at_q5 : at_C := (103, [.inl (0, some 0), .inr (false, -2147483648, 2147483647), .inr (false, -2147483648, 2147483647)], [], some (.inr (false, 0, 1)), false, [(18, false, 6, 6), (25, false, 5, 16), (27, false, 6, 8), (28, false, 0, 29), (29, false, 0, 2), (30, false, 0, 23), (31, false, 0, 11), (32, false, 0, 47), (33, false, 0, 39), (34, false, 3, 6), (35, false, 0, 10), (36, false, 0, 3), (37, false, 2, 3), (38, false, 0, 71), (40, false, 2, 3), (41, false, 0, 95), (42, false, 0, 18), (43, false, 2, 2), (44, false, 0, 31), (45, false, 0, 10), (46, false, 2, 3), (47, false, 0, 15), (48, false, 0, 15), (73, false, 1, 2), (74, false, 0, 19)])
def at_q6 : at_C := (104, [.inl (0, some 0), .inr (false, -2147483648, 2147483647), .inr (false, -2147483648, 2147483647)], [], some (.inr (false, 0, 1)), false, [(4, false, 0, 29), (25, false, 5, 16), (27, false, 6, 8), (28, false, 0, 29), (29, false, 0, 2), (30, false, 0, 23), (31, false, 0, 11), (32, false, 0, 47), (33, false, 0, 39), (34, false, 3, 6), (35, false, 0, 10), (36, false, 0, 3), (37, false, 2, 3), (38, false, 0, 71), (40, false, 2, 3), (41, false, 0, 95), (42, false, 0, 18), (43, false, 2, 2), (44, false, 0, 31), (45, false, 0, 10), (46, false, 2, 3), (47, false, 0, 15), (48, false, 0, 15), (73, false, 1, 2), (74, false, 0, 19)])
def at_q7 : at_C := (38, [.inl (1, some 1), .inr (false, -2147483648, 2147483647)], [], some (.inr (false, -2147483648, 2147483647)), false, [])
def at_q8 : at_C := (53, [.inl (1, some 1)], [], some (.inr (false, -2147483648, 2147483647)), false, [])
def at_q9 : at_C := (54, [.inl (1, some 1), .inr (false, -2147483648, 2147483647)], [], some (.inr (false, 0, 1)), false, [])
def at_q10 : at_C := (58, [.inl (1, some 1)], [], some (.inr (false, 0, 1)), false, [(1, false, 7, 8)])
def at_q11 : at_C := (79, [.inl (3, some 3), .inr (false, -2147483648, 2147483647)], [], some (.inr (false, -2147483648, 2147483647)), false, [])
def at_q12 : at_C := (9, [.inl (18, none), .inr (false, -2147483648, 2147483647), .inl (3, some 3)], [], some (.inr (false, 0, 2147483647)), false, [])
def at_q13 : at_C := (51, [.inl (1, some 1), .inr (false, -2147483648, 2147483647)], [], some (.inr (false, -1, 15)), false, [])
def at_q14 : at_C := (60, [.inl (1, some 1), .inr (false, -2147483648, 2147483647)], [], none, false, [(18, false, 18, 18)])
def at_q15 : at_C := (59, [.inl (1, some 1)], [], none, false, [(1, false, 9, 9), (18, false, 18, 18)])
def at_q16 : at_C := (6, [.inl (18, none), .inr (false, -2147483648, 2147483647)], [], none, false, [(18, false, 8, 8)])
def at_q17 : at_C := (10, [.inl (18, none), .inr (false, -2147483648, 2147483647), .inl (3, some 3)], [], none, false, [(18, false, 0, 0), (18, false, 2, 4), (18, false, 6, 9)])
def at_q18 : at_C := (61, [.inl (1, some 1)], [], none, false, [(18, false, 0, 0), (18, false, 2, 4), (18, false, 6, 9)])
def at_q19 : at_C := (13, [.inl (18, none), .inr (false, -2147483648, 2147483647)], [], none, false, [(18, false, 2, 4), (18, false, 8, 8)])
def at_q20 : at_C := (39, [.inl (1, some 1)], [], some (.inr (false, 0, 1000)), false, [])
def at_q21 : at_C := (12, [.inl (18, none), .inr (false, -2147483648, 2147483647)], [], some (.inr (false, -2147483648, 35996400)), false, [(18, false, 2, 4), (18, false, 8, 8)])
def at_q22 : at_C := (64, [.inl (1, some 1), .inr (false, -2147483648, 2147483647), .inr (false, -2147483648, 2147483647)], [], some (.inr (false, -1, 15)), false, [])
def at_q23 : at_C := (63, [.inl (1, some 1)], [], none, false, [(1, false, 11, 11), (1, false, 13, 13), (1, false, 16, 16), (18, false, 2, 4), (18, false, 8, 8)])
def at_q24 : at_C := (62, [.inl (1, some 1)], [], none, false, [(1, false, 11, 11), (1, false, 13, 16), (18, false, 2, 4), (18, false, 8, 8)])
def at_q25 : at_C := (67, [.inl (1, some 1)], [], none, false, [(4, false, 20, 20)])
def at_q26 : at_C := (14, [.inl (18, none), .inr (false, -2147483648, 2147483647), .inr (false, -2147483648, 2147483647)], [], none, false, [(18, false, 11, 11), (18, false, 14, 14), (18, false, 16, 16)])
def at_q27 : at_C := (179, [.inr (false, -2147483648, 2147483647)], [], some (.inr (false, 0, 1000)), false, [])
def at_q28 : at_C := (15, [.inl (18, none)], [], none, false, [(18, false, 8, 8), (18, false, 15, 17)])
def at_q29 : at_C := (66, [.inl (1, some 1)], [], none, false, [(1, false, 8, 8), (1, false, 12, 12), (4, false, 20, 20), (18, false, 8, 8), (18, false, 11, 11), (18, false, 14, 17)])
def at_q30 : at_C := (68, [.inl (1, some 1)], [], some (.inr (false, -2147483648, 2147483647)), false, [(12, false, 0, 3)])
def at_q31 : at_C := (96, [.inl (10, some 10), .inr (false, 0, 1)], [], some (.inr (false, 0, 64)), false, [(10, false, 5, 5)])
def at_q32 : at_C := (41, [.inl (1, some 1), .inr (false, 0, 16), .inr (false, 0, 16)], [], some (.inr (false, -1000, 9999000)), false, [])
def at_q33 : at_C := (97, [.inl (10, some 10), .inr (false, 0, 1)], [], some (.inr (false, 0, 256)), false, [(10, false, 6, 6)])
def at_q34 : at_C := (98, [.inl (10, some 10), .inr (false, -2147483648, 2147483647)], [], some (.inr (false, 0, 512)), false, [(10, false, 4, 4)])
def at_q35 : at_C := (69, [.inl (1, some 1)], [], some (.inr (false, -2147483648, 2147483647)), false, [(10, false, 4, 6)])
def at_q36 : at_C := (99, [.inl (10, some 10), .inr (false, -2147483648, 2147483647), .inr (false, -2147483648, 2147483647)], [], some (.inr (false, -2147483648, 2147483647)), false, [(10, false, 3, 3), (11, false, 0, 10), (13, false, 2, 3), (14, false, -69, 140)])
def at_q37 : at_C := (91, [.inl (19, none)], [], none, false, [(19, false, 2, 2), (20, false, 1, 29), (21, false, 0, 10)])
def at_q38 : at_C := (88, [.inl (19, none), .inr (false, 0, 9999000)], [], none, false, [(19, false, 2, 2), (20, false, 0, 31), (21, false, 0, 10)])
def at_q39 : at_C := (16, [.inl (18, none), .inr (false, -2147483648, 2147483647)], [], none, false, [(18, false, 10, 10), (18, false, 12, 13), (19, false, 2, 2), (20, false, 0, 31), (21, false, 0, 10)])
def at_q40 : at_C := (70, [.inl (1, some 1)], [], none, false, [(16, false, 2, 3), (17, false, -93, 188), (18, false, 10, 10), (18, false, 12, 13), (19, false, 2, 2), (20, false, 0, 31), (21, false, 0, 10)])
def at_q41 : at_C := (72, [.inl (1, some 1), .inr (false, -2147483648, 2147483647)], [], some (.inr (false, -2147483648, 2147483647)), false, [])
def at_q42 : at_C := (71, [.inl (1, some 1)], [], none, false, [(4, false, 0, 29)])
def at_q43 : at_C := (57, [.inl (1, some 1)], [], some (.inr (false, -2147483648, 2147483647)), false, [(1, false, 6, 16), (4, false, 0, 29), (10, false, 3, 6), (11, false, 0, 10), (12, false, 0, 3), (13, false, 2, 3), (14, false, -69, 140), (16, false, 2, 3), (17, false, -93, 188), (18, false, 0, 0), (18, false, 2, 4), (18, false, 6, 18), (19, false, 2, 2), (20, false, 0, 31), (21, false, 0, 10)])
def at_q44 : at_C := (55, [.inl (1, some 1), .inr (false, -2147483648, 2147483647)], [], some (.inr (false, -2147483648, 2147483647)), false, [(1, false, 6, 16), (4, false, 0, 29), (10, false, 3, 6), (11, false, 0, 10), (12, false, 0, 3), (13, false, 2, 3), (14, false, -69, 140), (16, false, 2, 3), (17, false, -93, 188), (18, false, 0, 0), (18, false, 2, 4), (18, false, 6, 18), (19, false, 2, 2), (20, false, 0, 31), (21, false, 0, 10)])
def at_q45 : at_C := (105, [.inl (0, some 0), .inr (false, -2147483648, 2147483647)], [], some (.inr (false, -2147483648, 2147483647)), false, [(1, false, 6, 16), (4, false, 0, 29), (10, false, 3, 6), (11, false, 0, 10), (12, false, 0, 3), (13, false, 2, 3), (14, false, -69, 140), (16, false, 2, 3), (17, false, -93, 188), (18, false, 0, 0), (18, false, 2, 4), (18, false, 6, 18), (19, false, 2, 2), (20, false, 0, 31), (21, false, 0, 10), (25, false, 5, 16), (27, false, 6, 8), (28, false, 0, 29), (29, false, 0, 2), (30, false, 0, 23), (31, false, 0, 11), (32, false, 0, 47), (33, false, 0, 39), (34, false, 3, 6), (35, false, 0, 10), (36, false, 0, 3), (37, false, 2, 3), (38, false, 0, 71), (40, false, 2, 3), (41, false, 0, 95), (42, false, 0, 18), (43, false, 2, 2), (44, false, 0, 31), (45, false, 0, 10), (46, false, 2, 3), (47, false, 0, 15), (48, false, 0, 15), (73, false, 1, 2), (74, false, 0, 19)])
def at_q46 : at_C := (106, [.inl (0, some 0)], [], some (.inr (false, 0, 1)), false, [(1, false, 7, 7), (25, false, 5, 16), (27, false, 6, 8), (28, false, 0, 29), (29, false, 0, 2), (30, false, 0, 23), (31, false, 0, 11), (32, false, 0, 47), (33, false, 0, 39), (34, false, 3, 6), (35, false, 0, 10), (36, false, 0, 3), (37, false, 2, 3), (38, false, 0, 71), (40, false, 2, 3), (41, false, 0, 95), (42, false, 0, 18), (43, false, 2, 2), (44, false, 0, 31), (45, false, 0, 10), (46, false, 2, 3), (47, false, 0, 15), (48, false, 0, 15), (73, false, 1, 2), (74, false, 0, 19)])
def at_q47 : at_C := (107, [.inl (0, some 0)], [], some (.inr (false, 0, 1)), false, [(1, false, 7, 7), (1, false, 9, 9), (25, false, 5, 16), (27, false, 6, 8), (28, false, 0, 29), (29, false, 0, 2), (30, false, 0, 23), (31, false, 0, 11), (32, false, 0, 47), (33, false, 0, 39), (34, false, 3, 6), (35, false, 0, 10), (36, false, 0, 3), (37, false, 2, 3), (38, false, 0, 71), (40, false, 2, 3), (41, false, 0, 95), (42, false, 0, 18), (43, false, 2, 2), (44, false, 0, 31), (45, false, 0, 10), (46, false, 2, 3), (47, false, 0, 15), (48, false, 0, 15), (73, false, 1, 2), (74, false, 0, 19)])
def at_q48 : at_C := (108, [.inl (0, some 0), .inr (false, -2147483648, 2147483647)], [], some (.inr (false, 0, 1)), false, [(10, false, 3, 3), (25, false, 5, 16), (27, false, 6, 8), (28, false, 0, 29), (29, false, 0, 2), (30, false, 0, 23), (31, false, 0, 11), (32, false, 0, 47), (33, false, 0, 39), (34, false, 3, 6), (35, false, 0, 10), (36, false, 0, 3), (37, false, 2, 3), (38, false, 0, 71), (40, false, 2, 3), (41, false, 0, 95), (42, false, 0, 18), (43, false, 2, 2), (44, false, 0, 31), (45, false, 0, 10), (46, false, 2, 3), (47, false, 0, 15), (48, false, 0, 15), (73, false, 1, 2), (74, false, 0, 19)])
def at_q49 : at_C := (109, [.inl (0, some 0), .inr (false, -2147483648, 2147483647), .inr (false, -2147483648, 2147483647)], [], some (.inr (false, 0, 1)), false, [(5, false, 0, 2), (25, false, 5, 16), (27, false, 6, 8), (28, false, 0, 29), (29, false, 0, 2), (30, false, 0, 23), (31, false, 0, 11), (32, false, 0, 47), (33, false, 0, 39), (34, false, 3, 6), (35, false, 0, 10), (36, false, 0, 3), (37, false, 2, 3), (38, false, 0, 71), (40, false, 2, 3), (41, false, 0, 95), (42, false, 0, 18), (43, false, 2, 2), (44, false, 0, 31), (45, false, 0, 10), (46, false, 2, 3), (47, false, 0, 15), (48, false, 0, 15), (73, false, 1, 2), (74, false, 0, 19)])
def at_q50 : at_C := (110, [.inl (0, some 0), .inr (false, -2147483648, 2147483647), .inr (false, -2147483648, 2147483647)], [], some (.inr (false, -1, 6)), false, [(3, false, 6, 6), (7, false, 0, 11), (25, false, 5, 16), (27, false, 6, 8), (28, false, 0, 29), (29, false, 0, 2), (30, false, 0, 23), (31, false, 0, 11), (32, false, 0, 47), (33, false, 0, 39), (34, false, 3, 6), (35, false, 0, 10), (36, false, 0, 3), (37, false, 2, 3), (38, false, 0, 71), (40, false, 2, 3), (41, false, 0, 95), (42, false, 0, 18), (43, false, 2, 2), (44, false, 0, 31), (45, false, 0, 10), (46, false, 2, 3), (47, false, 0, 15), (48, false, 0, 15), (73, false, 1, 2), (74, false, 0, 19)])
def at_q51 : at_C := (111, [.inl (0, some 0)], [], some (.inr (false, -2147483648, 2147483647)), false, [(10, false, 4, 4), (25, false, 5, 16), (27, false, 6, 8), (28, false, 0, 29), (29, false, 0, 2), (30, false, 0, 23), (31, false, 0, 11), (32, false, 0, 47), (33, false, 0, 39), (34, false, 3, 6), (35, false, 0, 10), (36, false, 0, 3), (37, false, 2, 3), (38, false, 0, 71), (40, false, 2, 3), (41, false, 0, 95), (42, false, 0, 18), (43, false, 2, 2), (44, false, 0, 31), (45, false, 0, 10), (46, false, 2, 3), (47, false, 0, 15), (48, false, 0, 15), (73, false, 1, 2), (74, false, 0, 19)])
def at_q52 : at_C := (112, [.inl (0, some 0), .inr (false, -2147483648, 2147483647), .inr (false, -2147483648, 2147483647)], [], some (.inr (false, 0, 1)), false, [(6, false, 0, 23), (25, false, 5, 16), (27, false, 6, 8), (28, false, 0, 29), (29, false, 0, 2), (30, false, 0, 23), (31, false, 0, 11), (32, false, 0, 47), (33, false, 0, 39), (34, false, 3, 6), (35, false, 0, 10), (36, false, 0, 3), (37, false, 2, 3), (38, false, 0, 71), (40, false, 2, 3), (41, false, 0, 95), (42, false, 0, 18), (43, false, 2, 2), (44, false, 0, 31), (45, false, 0, 10), (46, false, 2, 3), (47, false, 0, 15), (48, false, 0, 15), (73, false, 1, 2), (74, false, 0, 19)])
def at_q53 : at_C := (36, [.inl (1, some 1), .inr (false, 0, 2)], [], none, false, [(22, false, 2, 3), (23, false, 0, 15), (24, false, 0, 15)])
def at_q54 : at_C := (113, [.inl (0, some 0), .inr (false, -2147483648, 2147483647)], [], some (.inr (false, 0, 1)), false, [(22, false, 2, 3), (23, false, 0, 15), (24, false, 0, 15), (25, false, 5, 16), (27, false, 6, 8), (28, false, 0, 29), (29, false, 0, 2), (30, false, 0, 23), (31, false, 0, 11), (32, false, 0, 47), (33, false, 0, 39), (34, false, 3, 6), (35, false, 0, 10), (36, false, 0, 3), (37, false, 2, 3), (38, false, 0, 71), (40, false, 2, 3), (41, false, 0, 95), (42, false, 0, 18), (43, false, 2, 2), (44, false, 0, 31), (45, false, 0, 10), (46, false, 2, 3), (47, false, 0, 15), (48, false, 0, 15), (73, false, 1, 2), (74, false, 0, 19)])
def at_q55 : at_C := (114, [.inl (0, some 0), .inr (false, -2147483648, 2147483647), .inr (false, -2147483648, 2147483647)], [], some (.inr (false, -1, 24)), false, [(3, false, 7, 7), (8, false, 0, 47), (25, false, 5, 16), (27, false, 6, 8), (28, false, 0, 29), (29, false, 0, 2), (30, false, 0, 23), (31, false, 0, 11), (32, false, 0, 47), (33, false, 0, 39), (34, false, 3, 6), (35, false, 0, 10), (36, false, 0, 3), (37, false, 2, 3), (38, false, 0, 71), (40, false, 2, 3), (41, false, 0, 95), (42, false, 0, 18), (43, false, 2, 2), (44, false, 0, 31), (45, false, 0, 10), (46, false, 2, 3), (47, false, 0, 15), (48, false, 0, 15), (73, false, 1, 2), (74, false, 0, 19)])
def at_q56 : at_C := (115, [.inl (0, some 0), .inr (false, -2147483648, 2147483647), .inr (false, 0, 1), .inr (false, -2147483648, 2147483647), .inr (false, -2147483648, 2147483647), .inr (false, -2147483648, 2147483647)], [], some (.inr (false, -1, 8)), false, [(3, false, 8, 8), (9, false, 0, 39), (25, false, 5, 16), (27, false, 6, 8), (28, false, 0, 29), (29, false, 0, 2), (30, false, 0, 23), (31, false, 0, 11), (32, false, 0, 47), (33, false, 0, 39), (34, false, 3, 6), (35, false, 0, 10), (36, false, 0, 3), (37, false, 2, 3), (38, false, 0, 71), (40, false, 2, 3), (41, false, 0, 95), (42, false, 0, 18), (43, false, 2, 2), (44, false, 0, 31), (45, false, 0, 10), (46, false, 2, 3), (47, false, 0, 15), (48, false, 0, 15), (73, false, 1, 2), (74, false, 0, 19)])
def at_q57 : at_C := (116, [.inl (0, some 0)], [], some (.inr (false, 0, 8)), false, [(3, false, 8, 8), (25, false, 5, 16), (27, false, 6, 8), (28, false, 0, 29), (29, false, 0, 2), (30, false, 0, 23), (31, false, 0, 11), (32, false, 0, 47), (33, false, 0, 39), (34, false, 3, 6), (35, false, 0, 10), (36, false, 0, 3), (37, false, 2, 3), (38, false, 0, 71), (40, false, 2, 3), (41, false, 0, 95), (42, false, 0, 18), (43, false, 2, 2), (44, false, 0, 31), (45, false, 0, 10), (46, false, 2, 3), (47, false, 0, 15), (48, false, 0, 15), (73, false, 1, 2), (74, false, 0, 19)])
def at_q58 : at_C := (117, [.inl (0, some 0)], [], some (.inr (false, 0, 24)), false, [(3, false, 7, 7), (25, false, 5, 16), (27, false, 6, 8), (28, false, 0, 29), (29, false, 0, 2), (30, false, 0, 23), (31, false, 0, 11), (32, false, 0, 47), (33, false, 0, 39), (34, false, 3, 6), (35, false, 0, 10), (36, false, 0, 3), (37, false, 2, 3), (38, false, 0, 71), (40, false, 2, 3), (41, false, 0, 95), (42, false, 0, 18), (43, false, 2, 2), (44, false, 0, 31), (45, false, 0, 10), (46, false, 2, 3), (47, false, 0, 15), (48, false, 0, 15), (73, false, 1, 2), (74, false, 0, 19)])
def at_q59 : at_C := (82, [.inl (3, some 3)], [], some (.inr (false, -2147483648, 2147483647)), false, [])
def at_q60 : at_C := (56, [.inl (1, some 1)], [], some (.inr (false, -2147483648, 2147483647)), false, [(1, false, 6, 16), (4, false, 0, 29), (10, false, 3, 6), (11, false, 0, 10), (12, false, 0, 3), (13, false, 2, 3), (14, false, -69, 140), (16, false, 2, 3), (17, false, -93, 188), (18, false, 0, 0), (18, false, 2, 4), (18, false, 6, 18), (19, false, 2, 2), (20, false, 0, 31), (21, false, 0, 10)])
def at_q61 : at_C := (118, [.inl (0, some 0)], [], some (.inr (false, -2147483648, 2147483647)), false, [(1, false, 6, 16), (4, false, 0, 29), (10, false, 3, 6), (11, false, 0, 10), (12, false, 0, 3), (13, false, 2, 3), (14, false, -69, 140), (16, false, 2, 3), (17, false, -93, 188), (18, false, 0, 0), (18, false, 2, 4), (18, false, 6, 18), (19, false, 2, 2), (20, false, 0, 31), (21, false, 0, 10), (25, false, 5, 16), (27, false, 6, 8), (28, false, 0, 29), (29, false, 0, 2), (30, false, 0, 23), (31, false, 0, 11), (32, false, 0, 47), (33, false, 0, 39), (34, false, 3, 6), (35, false, 0, 10), (36, false, 0, 3), (37, false, 2, 3), (38, false, 0, 71), (40, false, 2, 3), (41, false, 0, 95), (42, false, 0, 18), (43, false, 2, 2), (44, false, 0, 31), (45, false, 0, 10), (46, false, 2, 3), (47, false, 0, 15), (48, false, 0, 15), (73, false, 1, 2), (74, false, 0, 19)])
def at_q62 : at_C := (33, [.inl (1, some 1), .inl (25, none)], [], none, false, [(1, false, 5, 16), (3, false, 6, 8), (4, false, 0, 29), (5, false, 0, 2), (6, false, 0, 23), (7, false, 0, 11), (8, false, 0, 47), (9, false, 0, 39), (10, false, 3, 6), (11, false, 0, 10), (12, false, 0, 3), (13, false, 2, 3), (14, false, 0, 71), (16, false, 2, 3), (17, false, 0, 95), (18, false, 0, 18), (19, false, 2, 2), (20, false, 0, 31), (21, false, 0, 10), (22, false, 2, 3), (23, false, 0, 15), (24, false, 0, 15)])
def at_q63 : at_C := (119, [.inl (0, some 0)], [], some (.inr (false, -1, 19)), false, [(1, false, 5, 16), (3, false, 6, 8), (4, false, 0, 29), (5, false, 0, 2), (6, false, 0, 23), (7, false, 0, 11), (8, false, 0, 47), (9, false, 0, 39), (10, false, 3, 6), (11, false, 0, 10), (12, false, 0, 3), (13, false, 2, 3), (14, false, 0, 71), (16, false, 2, 3), (17, false, 0, 95), (18, false, 0, 18), (19, false, 2, 2), (20, false, 0, 31), (21, false, 0, 10), (22, false, 2, 3), (23, false, 0, 15), (24, false, 0, 15), (73, false, 2, 2), (74, false, 0, 19)])
def at_q64 : at_C := (33, [.inl (25, none), .inl (25, none)], [], none, false, [(25, false, 5, 16), (27, false, 6, 8), (28, false, 0, 29), (29, false, 0, 2), (30, false, 0, 23), (31, false, 0, 11), (32, false, 0, 47), (33, false, 0, 39), (34, false, 3, 6), (35, false, 0, 10), (36, false, 0, 3), (37, false, 2, 3), (38, false, 0, 71), (40, false, 2, 3), (41, false, 0, 95), (42, false, 0, 18), (43, false, 2, 2), (44, false, 0, 31), (45, false, 0, 10), (46, false, 2, 3), (47, false, 0, 15), (48, false, 0, 15)])
def at_q65 : at_C := (22, [.inl (73, none), .inl (73, none)], [], none, false, [(25, false, 5, 16), (27, false, 6, 8), (28, false, 0, 29), (29, false, 0, 2), (30, false, 0, 23), (31, false, 0, 11), (32, false, 0, 47), (33, false, 0, 39), (34, false, 3, 6), (35, false, 0, 10), (36, false, 0, 3), (37, false, 2, 3), (38, false, 0, 71), (40, false, 2, 3), (41, false, 0, 95), (42, false, 0, 18), (43, false, 2, 2), (44, false, 0, 31), (45, false, 0, 10), (46, false, 2, 3), (47, false, 0, 15), (48, false, 0, 15), (73, false, 1, 2), (74, false, 0, 19)])
def at_q66 : at_C := (120, [.inl (0, some 0)], [], some (.inr (false, -2147483648, 2147483647)), false, [(25, false, 5, 16), (27, false, 6, 8), (28, false, 0, 29), (29, false, 0, 2), (30, false, 0, 23), (31, false, 0, 11), (32, false, 0, 47), (33, false, 0, 39), (34, false, 3, 6), (35, false, 0, 10), (36, false, 0, 3), (37, false, 2, 3), (38, false, 0, 71), (40, false, 2, 3), (41, false, 0, 95), (42, false, 0, 18), (43, false, 2, 2), (44, false, 0, 31), (45, false, 0, 10), (46, false, 2, 3), (47, false, 0, 15), (48, false, 0, 15), (73, false, 1, 2), (74, false, 0, 19)])
def at_q67 : at_C := (121, [.inl (0, some 0)], [], some (.inr (false, -2147483648, 2147483647)), false, [(1, false, 5, 16), (3, false, 6, 8), (4, false, 0, 29), (5, false, 0, 2), (6, false, 0, 23), (7, false, 0, 11), (8, false, 0, 47), (9, false, 0, 39), (10, false, 3, 6), (11, false, 0, 10), (12, false, 0, 3), (13, false, 2, 3), (14, false, 0, 71), (16, false, 2, 3), (17, false, 0, 95), (18, false, 0, 18), (19, false, 2, 2), (20, false, 0, 31), (21, false, 0, 10), (22, false, 2, 3), (23, false, 0, 15), (24, false, 0, 15), (25, false, 5, 16), (27, false, 6, 8), (28, false, 0, 29), (29, false, 0, 2), (30, false, 0, 23), (31, false, 0, 11), (32, false, 0, 47), (33, false, 0, 39), (34, false, 3, 6), (35, false, 0, 10), (36, false, 0, 3), (37, false, 2, 3), (38, false, 0, 71), (40, false, 2, 3), (41, false, 0, 95), (42, false, 0, 18), (43, false, 2, 2), (44, false, 0, 31), (45, false, 0, 10), (46, false, 2, 3), (47, false, 0, 15), (48, false, 0, 15), (73, false, 1, 2), (74, false, 0, 19)])
def at_q68 : at_C := (122, [.inl (0, some 0), .inr (false, -2147483648, 2147483647)], [], some (.inr (false, -2147483648, 2147483647)), false, [])
def at_q69 : at_C := (123, [.inl (0, some 0), .inr (false, -2147483648, 2147483647)], [], some (.inr (false, -2147483648, 2147483647)), false, [])
def at_q70 : at_C := (124, [.inl (0, some 0), .inr (false, -2147483648, 2147483647), .inr (false, -2147483648, 2147483647)], [], some (.inr (false, -2147483648, 2147483647)), false, [])
def at_q71 : at_C := (125, [.inl (0, some 0), .inr (false, -2147483648, 2147483647), .inr (false, -2147483648, 2147483647)], [], some (.inr (false, -2147483648, 2147483647)), false, [])
def at_q72 : at_C := (74, [.inl (1, some 1), .inr (false, 0, 12), .inr (false, 1, 16), .inr (false, -2147483648, 2147483647)], [], some (.inr (false, -2147483648, 2147483647)), false, [])
def at_q73 : at_C := (126, [.inl (0, some 0), .inr (false, -2147483648, 2147483647), .inr (false, -2147483648, 2147483647)], [], some (.inr (false, -2147483648, 2147483647)), false, [])
def at_q74 : at_C := (127, [.inl (0, some 0), .inr (false, -2147483648, 2147483647), .inr (false, -2147483648, 2147483647)], [], some (.inr (false, -2147483648, 2147483647)), false, [])
def at_q75 : at_C := (128, [.inl (0, some 0), .inr (false, -2147483648, 2147483647), .inr (false, -2147483648, 2147483647)], [], some (.inr (false, -2147483648, 2147483647)), false, [])
def at_q76 : at_C := (129, [.inl (0, some 0), .inr (false, -2147483648, 2147483647), .inr (false, -2147483648, 2147483647)], [], some (.inr (false, -1, 9999000)), false, [])
def at_q77 : at_C := (130, [.inl (0, some 0), .inr (false, -2147483648, 2147483647)], [], some (.inr (false, -2147483648, 2147483647)), false, [])
def at_q78 : at_C := (17, [.inl (18, none), .inr (false, -2147483648, 2147483647), .inl (3, some 3), .inr (false, -2147483648, 2147483647)], [], some (.inr (false, -2147483648, 2147483647)), false, [])
def at_q79 : at_C := (131, [.inl (0, some 0)], [], some (.inr (false, -2147483648, 2147483647)), false, [])
def at_q80 : at_C := (132, [.inl (0, some 0), .inr (false, -2147483648, 2147483647)], [], some (.inr (false, -2147483648, 2147483647)), false, [])
def at_q81 : at_C := (133, [.inl (0, some 0), .inr (false, -2147483648, 2147483647), .inr (false, -2147483648, 2147483647)], [], some (.inr (false, -2147483648, 2147483647)), false, [])
def at_q82 : at_C := (134, [.inl (0, some 0), .inr (false, -2147483648, 2147483647)], [], some (.inr (false, -2147483648, 2147483647)), false, [])
def at_q83 : at_C := (135, [.inl (0, some 0), .inr (false, -2147483648, 2147483647), .inr (false, -2147483648, 2147483647), .inr (false, -2147483648, 2147483647)], [], some (.inr (false, -2147483648, 2147483647)), false, [])
def at_q84 : at_C := (47, [.inl (1, some 1), .inr (false, 0, 15)], [], some (.inr (false, -2147483648, 2147483647)), false, [])
def at_q85 : at_C := (46, [.inl (1, some 1), .inr (false, -2147483648, 2147483647)], [], some (.inr (false, -1, 15)), false, [])
def at_q86 : at_C := (136, [.inl (0, some 0), .inr (false, -2147483648, 2147483647)], [], some (.inr (false, -1, 15)), false, [])
def at_q87 : at_C := (137, [.inl (0, some 0)], [], some (.inr (false, -1, 9999000)), false, [])
def at_q88 : at_C := (138, [.inl (0, some 0)], [], some (.inr (false, -2147483648, 2147483647)), false, [])
def at_q89 : at_C := (43, [.inl (1, some 1)], [], some (.inr (true, -9223372036854775808, 9223372036854775807)), false, [])
def at_q90 : at_C := (42, [.inl (1, some 1)], [], some (.inr (true, -9223372036854775808, 9223372036854775807)), false, [])
def at_q91 : at_C := (139, [.inl (0, some 0)], [], some (.inr (false, -2147483648, 2147483647)), false, [])
def at_q92 : at_C := (140, [.inl (0, some 0), .inr (false, -2147483648, 2147483647)], [], some (.inr (false, -2147483648, 2147483647)), false, [])
def at_q93 : at_C := (45, [.inl (1, some 1), .inr (false, -2147483648, 2147483647)], [], some (.inr (false, -2147483648, 2147483647)), false, [])
def at_q94 : at_C := (141, [.inl (0, some 0), .inr (false, -2147483648, 2147483647)], [], some (.inr (false, -2147483648, 2147483647)), false, [])
def at_q95 : at_C := (337, [.inl (75, none), .inr (true, -9223372036854775808, 9223372036854775807)], [], none, false, [(75, false, 0, 324)])
def at_q96 : at_C := (171, [.inl (0, some 0), .inr (false, 0, 24), .inr (false, 1, 12)], [], none, false, [(75, false, 0, 324)])
def at_q97 : at_C := (142, [.inl (0, some 0), .inr (false, -2147483648, 2147483647), .inr (false, -2147483648, 2147483647), .inr (false, -2147483648, 2147483647)], [], some (.inr (false, -2147483648, 2147483647)), false, [(75, false, 0, 324)])
def at_q98 : at_C := (143, [.inl (0, some 0), .inr (false, -2147483648, 2147483647), .inr (false, -2147483648, 2147483647)], [], some (.inr (false, -277776, 277776)), false, [])
def at_q99 : at_C := (144, [.inl (0, some 0)], [], some (.inr (false, -2147483648, 2147483647)), false, [])
def at_q100 : at_C := (145, [.inl (0, some 0), .inr (false, -2147483648, 2147483647)], [], some (.inr (false, -2147483648, 2147483647)), false, [])
def at_q101 : at_C := (146, [.inl (0, some 0), .inr (false, -2147483648, 2147483647)], [], some (.inr (false, -4158, 8358)), false, [])
def at_q102 : at_C := (147, [.inl (0, some 0), .inr (false, -2147483648, 2147483647)], [], some (.inr (false, 0, 1000)), false, [])
def at_q103 : at_C := (148, [.inl (0, some 0), .inr (false, -2147483648, 2147483647)], [], some (.inr (false, -2147483648, 2147483647)), false, [])
def at_q104 : at_C := (149, [.inl (0, some 0), .inr (false, -2147483648, 2147483647)], [], some (.inr (false, -1, 15)), false, [])
def at_q105 : at_C := (150, [.inl (0, some 0)], [], some (.inr (false, -1000, 9999000)), false, [])
def at_q106 : at_C := (151, [.inl (0, some 0), .inr (false, -2147483648, 2147483647)], [], some (.inr (false, 0, 1)), false, [])
def at_q107 : at_C := (152, [.inl (0, some 0), .inr (false, -2147483648, 2147483647)], [], some (.inr (false, -2147483648, 2147483647)), false, [])
def at_q108 : at_C := (153, [.inl (0, some 0), .inr (false, -2147483648, 2147483647), .inr (false, -2147483648, 2147483647)], [], some (.inr (false, -2147483648, 2147483647)), false, [])
def at_q109 : at_C := (154, [.inl (0, some 0), .inr (false, -2147483648, 2147483647), .inr (false, -2147483648, 2147483647)], [], some (.inr (false, -2147483648, 2147483647)), false, [])
def at_q110 : at_C := (155, [.inl (0, some 0), .inr (false, -2147483648, 2147483647)], [], some (.inr (false, -1000000000, 2147483647)), false, [])
def at_q111 : at_C := (158, [.inl (0, some 0)], [], some (.inr (false, 0, 20)), false, [])
def at_q112 : at_C := (33, [.inl (49, some 181), .inl (1, some 1)], [], none, false, [(49, false, 5, 16), (51, false, 6, 8), (52, false, 0, 29), (53, false, 0, 2), (54, false, 0, 23), (55, false, 0, 11), (56, false, 0, 47), (57, false, 0, 39), (58, false, 3, 6), (59, false, 0, 10), (60, false, 0, 3), (61, false, 2, 3), (62, false, 0, 71), (64, false, 2, 3), (65, false, 0, 95), (66, false, 0, 18), (67, false, 2, 2), (68, false, 0, 31), (69, false, 0, 10), (70, false, 2, 3), (71, false, 0, 15), (72, false, 0, 15)])
def at_q113 : at_C := (38, [.inl (49, some 181), .inr (false, -2147483648, 2147483647)], [], some (.inr (false, -2147483648, 2147483647)), false, [])
def at_q114 : at_C := (53, [.inl (49, some 181)], [], some (.inr (false, -2147483648, 2147483647)), false, [])
def at_q115 : at_C := (54, [.inl (49, some 181), .inr (false, -2147483648, 2147483647)], [], some (.inr (false, 0, 1)), false, [])
def at_q116 : at_C := (58, [.inl (49, some 181)], [], some (.inr (false, 0, 1)), false, [(49, false, 7, 8)])
def at_q117 : at_C := (79, [.inl (51, some 183), .inr (false, -2147483648, 2147483647)], [], some (.inr (false, -2147483648, 2147483647)), false, [])
def at_q118 : at_C := (9, [.inl (66, none), .inr (false, -2147483648, 2147483647), .inl (51, some 183)], [], some (.inr (false, 0, 2147483647)), false, [])
def at_q119 : at_C := (51, [.inl (49, some 181), .inr (false, -2147483648, 2147483647)], [], some (.inr (false, -1, 15)), false, [])
def at_q120 : at_C := (60, [.inl (49, some 181), .inr (false, -2147483648, 2147483647)], [], none, false, [(66, false, 18, 18)])
def at_q121 : at_C := (59, [.inl (49, some 181)], [], none, false, [(49, false, 9, 9), (66, false, 18, 18)])
def at_q122 : at_C := (6, [.inl (66, none), .inr (false, -2147483648, 2147483647)], [], none, false, [(66, false, 8, 8)])
def at_q123 : at_C := (5, [.inl (66, none), .inr (false, -2147483648, 2147483647)], [], none, false, [(66, false, 2, 4)])
def at_q124 : at_C := (10, [.inl (66, none), .inr (false, -2147483648, 2147483647), .inl (51, some 183)], [], none, false, [(66, false, 0, 0), (66, false, 2, 4), (66, false, 6, 9)])
def at_q125 : at_C := (61, [.inl (49, some 181)], [], none, false, [(66, false, 0, 0), (66, false, 2, 4), (66, false, 6, 9)])
def at_q126 : at_C := (13, [.inl (66, none), .inr (false, -2147483648, 2147483647)], [], none, false, [(66, false, 2, 4), (66, false, 8, 8)])
def at_q127 : at_C := (39, [.inl (49, some 181)], [], some (.inr (false, 0, 1000)), false, [])
def at_q128 : at_C := (12, [.inl (66, none), .inr (false, -2147483648, 2147483647)], [], some (.inr (false, -2147483648, 35996400)), false, [(66, false, 2, 4), (66, false, 8, 8)])
def at_q129 : at_C := (64, [.inl (49, some 181), .inr (false, -2147483648, 2147483647), .inr (false, -2147483648, 2147483647)], [], some (.inr (false, -1, 15)), false, [])
def at_q130 : at_C := (63, [.inl (49, some 181)], [], none, false, [(49, false, 11, 11), (49, false, 13, 13), (49, false, 16, 16), (66, false, 2, 4), (66, false, 8, 8)])
def at_q131 : at_C := (62, [.inl (49, some 181)], [], none, false, [(49, false, 11, 11), (49, false, 13, 16), (66, false, 2, 4), (66, false, 8, 8)])
def at_q132 : at_C := (67, [.inl (49, some 181)], [], none, false, [(52, false, 20, 20)])
def at_q133 : at_C := (14, [.inl (66, none), .inr (false, -2147483648, 2147483647), .inr (false, -2147483648, 2147483647)], [], none, false, [(66, false, 11, 11), (66, false, 14, 14), (66, false, 16, 16)])
def at_q134 : at_C := (15, [.inl (66, none)], [], none, false, [(66, false, 8, 8), (66, false, 15, 17)])
def at_q135 : at_C := (66, [.inl (49, some 181)], [], none, false, [(49, false, 8, 8), (49, false, 12, 12), (52, false, 20, 20), (66, false, 8, 8), (66, false, 11, 11), (66, false, 14, 17)])
def at_q136 : at_C := (68, [.inl (49, some 181)], [], some (.inr (false, -2147483648, 2147483647)), false, [(60, false, 0, 3)])
def at_q137 : at_C := (96, [.inl (58, some 190), .inr (false, 0, 1)], [], some (.inr (false, 0, 64)), false, [(58, false, 5, 5)])
def at_q138 : at_C := (41, [.inl (49, some 181), .inr (false, 0, 16), .inr (false, 0, 16)], [], some (.inr (false, -1000, 9999000)), false, [])
def at_q139 : at_C := (97, [.inl (58, some 190), .inr (false, 0, 1)], [], some (.inr (false, 0, 256)), false, [(58, false, 6, 6)])
def at_q140 : at_C := (98, [.inl (58, some 190), .inr (false, -2147483648, 2147483647)], [], some (.inr (false, 0, 512)), false, [(58, false, 4, 4)])
def at_q141 : at_C := (69, [.inl (49, some 181)], [], some (.inr (false, -2147483648, 2147483647)), false, [(58, false, 4, 6)])
def at_q142 : at_C := (99, [.inl (58, some 190), .inr (false, -2147483648, 2147483647), .inr (false, -2147483648, 2147483647)], [], some (.inr (false, -2147483648, 2147483647)), false, [(58, false, 3, 3), (59, false, 0, 10), (61, false, 2, 3), (62, false, -69, 140)])
def at_q143 : at_C := (91, [.inl (67, none)], [], none, false, [(67, false, 2, 2), (68, false, 1, 29), (69, false, 0, 10)])
def at_q144 : at_C := (88, [.inl (67, none), .inr (false, 0, 9999000)], [], none, false, [(67, false, 2, 2), (68, false, 0, 31), (69, false, 0, 10)])
def at_q145 : at_C := (16, [.inl (66, none), .inr (false, -2147483648, 2147483647)], [], none, false, [(66, false, 10, 10), (66, false, 12, 13), (67, false, 2, 2), (68, false, 0, 31), (69, false, 0, 10)])
def at_q146 : at_C := (70, [.inl (49, some 181)], [], none, false, [(64, false, 2, 3), (65, false, -93, 188), (66, false, 10, 10), (66, false, 12, 13), (67, false, 2, 2), (68, false, 0, 31), (69, false, 0, 10)])
def at_q147 : at_C := (72, [.inl (49, some 181), .inr (false, -2147483648, 2147483647)], [], some (.inr (false, -2147483648, 2147483647)), false, [])
def at_q148 : at_C := (71, [.inl (49, some 181)], [], none, false, [(52, false, 0, 29)])
def at_q149 : at_C := (57, [.inl (49, some 181)], [], some (.inr (false, -2147483648, 2147483647)), false, [(49, false, 6, 16), (52, false, 0, 29), (58, false, 3, 6), (59, false, 0, 10), (60, false, 0, 3), (61, false, 2, 3), (62, false, -69, 140), (64, false, 2, 3), (65, false, -93, 188), (66, false, 0, 0), (66, false, 2, 4), (66, false, 6, 18), (67, false, 2, 2), (68, false, 0, 31), (69, false, 0, 10)])
def at_q150 : at_C := (55, [.inl (49, some 181), .inr (false, -2147483648, 2147483647)], [], some (.inr (false, -2147483648, 2147483647)), false, [(49, false, 6, 16), (52, false, 0, 29), (58, false, 3, 6), (59, false, 0, 10), (60, false, 0, 3), (61, false, 2, 3), (62, false, -69, 140), (64, false, 2, 3), (65, false, -93, 188), (66, false, 0, 0), (66, false, 2, 4), (66, false, 6, 18), (67, false, 2, 2), (68, false, 0, 31), (69, false, 0, 10)])
def at_q151 : at_C := (159, [.inl (0, some 0), .inr (false, -2147483648, 2147483647), .inr (false, -2147483648, 2147483647)], [], some (.inr (false, -2147483648, 2147483647)), false, [(49, false, 5, 16), (51, false, 6, 8), (52, false, 0, 29), (53, false, 0, 2), (54, false, 0, 23), (55, false, 0, 11), (56, false, 0, 47), (57, false, 0, 39), (58, false, 3, 6), (59, false, 0, 10), (60, false, 0, 3), (61, false, 2, 3), (62, false, -69, 140), (64, false, 2, 3), (65, false, -93, 188), (66, false, 0, 18), (67, false, 2, 2), (68, false, 0, 31), (69, false, 0, 10), (70, false, 2, 3), (71, false, 0, 15), (72, false, 0, 15)])
def at_q152 : at_C := (160, [.inl (0, some 0), .inr (false, -2147483648, 2147483647), .inr (false, -2147483648, 2147483647), .inr (false, -2147483648, 2147483647)], [], some (.inr (false, -2147483648, 2147483647)), false, [(49, false, 5, 16), (51, false, 6, 8), (52, false, 0, 29), (53, false, 0, 2), (54, false, 0, 23), (55, false, 0, 11), (56, false, 0, 47), (57, false, 0, 39), (58, false, 3, 6), (59, false, 0, 10), (60, false, 0, 3), (61, false, 2, 3), (62, false, -69, 140), (64, false, 2, 3), (65, false, -93, 188), (66, false, 0, 18), (67, false, 2, 2), (68, false, 0, 31), (69, false, 0, 10), (70, false, 2, 3), (71, false, 0, 15), (72, false, 0, 15)])
def at_q153 : at_C := (56, [.inl (49, some 181)], [], some (.inr (false, -2147483648, 2147483647)), false, [(49, false, 6, 16), (52, false, 0, 29), (58, false, 3, 6), (59, false, 0, 10), (60, false, 0, 3), (61, false, 2, 3), (62, false, -69, 140), (64, false, 2, 3), (65, false, -93, 188), (66, false, 0, 0), (66, false, 2, 4), (66, false, 6, 18), (67, false, 2, 2), (68, false, 0, 31), (69, false, 0, 10)])
def at_q154 : at_C := (161, [.inl (0, some 0), .inr (false, -2147483648, 2147483647)], [], some (.inr (false, -2147483648, 2147483647)), false, [(49, false, 5, 16), (51, false, 6, 8), (52, false, 0, 29), (53, false, 0, 2), (54, false, 0, 23), (55, false, 0, 11), (56, false, 0, 47), (57, false, 0, 39), (58, false, 3, 6), (59, false, 0, 10), (60, false, 0, 3), (61, false, 2, 3), (62, false, -69, 140), (64, false, 2, 3), (65, false, -93, 188), (66, false, 0, 18), (67, false, 2, 2), (68, false, 0, 31), (69, false, 0, 10), (70, false, 2, 3), (71, false, 0, 15), (72, false, 0, 15)])
def at_q155 : at_C := (162, [.inl (0, some 0)], [], some (.inr (false, -1, 2000)), false, [(49, false, 5, 16), (51, false, 6, 8), (52, false, 0, 29), (53, false, 0, 2), (54, false, 0, 23), (55, false, 0, 11), (56, false, 0, 47), (57, false, 0, 39), (58, false, 3, 6), (59, false, 0, 10), (60, false, 0, 3), (61, false, 2, 3), (62, false, -69, 140), (64, false, 2, 3), (65, false, -93, 188), (66, false, 0, 18), (67, false, 2, 2), (68, false, 0, 31), (69, false, 0, 10), (70, false, 2, 3), (71, false, 0, 15), (72, false, 0, 15)])
def at_q156 : at_C := (163, [.inl (0, some 0), .inr (false, -2147483648, 2147483647)], [], some (.inr (false, -2147483648, 2147483647)), false, [(49, false, 5, 16), (51, false, 6, 8), (52, false, 0, 29), (53, false, 0, 2), (54, false, 0, 23), (55, false, 0, 11), (56, false, 0, 47), (57, false, 0, 39), (58, false, 3, 6), (59, false, 0, 10), (60, false, 0, 3), (61, false, 2, 3), (62, false, -69, 140), (64, false, 2, 3), (65, false, -93, 188), (66, false, 0, 18), (67, false, 2, 2), (68, false, 0, 31), (69, false, 0, 10), (70, false, 2, 3), (71, false, 0, 15), (72, false, 0, 15)])
def at_q157 : at_C := (170, [.inl (0, some 0), .inr (false, -2147483648, 2147483647), .inr (false, -2147483648, 2147483647)], [], some (.inr (false, 0, 1)), false, [(49, false, 5, 16), (51, false, 6, 8), (52, false, 0, 29), (53, false, 0, 2), (54, false, 0, 23), (55, false, 0, 11), (56, false, 0, 47), (57, false, 0, 39), (58, false, 3, 6), (59, false, 0, 10), (60, false, 0, 3), (61, false, 2, 3), (62, false, -69, 140), (64, false, 2, 3), (65, false, -93, 188), (66, false, 0, 18), (67, false, 2, 2), (68, false, 0, 31), (69, false, 0, 10), (70, false, 2, 3), (71, false, 0, 15), (72, false, 0, 15)])
def at_q158 : at_C := (164, [.inl (0, some 0), .inr (false, -2147483648, 2147483647), .inr (false, -2147483648, 2147483647)], [], some (.inr (false, -2147483600, 2147483600)), false, [(49, false, 5, 16), (51, false, 6, 8), (52, false, 0, 29), (53, false, 0, 2), (54, false, 0, 23), (55, false, 0, 11), (56, false, 0, 47), (57, false, 0, 39), (58, false, 3, 6), (59, false, 0, 10), (60, false, 0, 3), (61, false, 2, 3), (62, false, -69, 140), (64, false, 2, 3), (65, false, -93, 188), (66, false, 0, 18), (67, false, 2, 2), (68, false, 0, 31), (69, false, 0, 10), (70, false, 2, 3), (71, false, 0, 15), (72, false, 0, 15)])
def at_q159 : at_C := (169, [.inl (0, some 0), .inr (false, -2147483648, 2147483647), .inr (false, 0, 29), .inr (false, -2147483648, 2147483647)], [], some (.inr (false, -1000, 9999000)), false, [(49, false, 5, 16), (51, false, 6, 8), (52, false, 0, 29), (53, false, 0, 2), (54, false, 0, 23), (55, false, 0, 11), (56, false, 0, 47), (57, false, 0, 39), (58, false, 3, 6), (59, false, 0, 10), (60, false, 0, 3), (61, false, 2, 3), (62, false, -69, 140), (64, false, 2, 3), (65, false, -93, 188), (66, false, 0, 18), (67, false, 2, 2), (68, false, 0, 31), (69, false, 0, 10), (70, false, 2, 3), (71, false, 0, 15), (72, false, 0, 15)])
def at_q160 : at_C := (165, [.inl (0, some 0), .inr (false, -2147483648, 2147483647), .inr (false, -2147483648, 2147483647)], [], some (.inr (false, -1, 99)), false, [(49, false, 5, 16), (51, false, 6, 8), (52, false, 0, 29), (53, false, 0, 2), (54, false, 0, 23), (55, false, 0, 11), (56, false, 0, 47), (57, false, 0, 39), (58, false, 3, 6), (59, false, 0, 10), (60, false, 0, 3), (61, false, 2, 3), (62, false, -69, 140), (64, false, 2, 3), (65, false, -93, 188), (66, false, 0, 18), (67, false, 2, 2), (68, false, 0, 31), (69, false, 0, 10), (70, false, 2, 3), (71, false, 0, 15), (72, false, 0, 15)])
def at_q161 : at_C := (166, [.inl (0, some 0), .inr (false, -2147483648, 2147483647)], [], some (.inr (false, -1, 2000)), false, [(49, false, 5, 16), (51, false, 6, 8), (52, false, 0, 29), (53, false, 0, 2), (54, false, 0, 23), (55, false, 0, 11), (56, false, 0, 47), (57, false, 0, 39), (58, false, 3, 6), (59, false, 0, 10), (60, false, 0, 3), (61, false, 2, 3), (62, false, -69, 140), (64, false, 2, 3), (65, false, -93, 188), (66, false, 0, 18), (67, false, 2, 2), (68, false, 0, 31), (69, false, 0, 10), (70, false, 2, 3), (71, false, 0, 15), (72, false, 0, 15)])
def at_q162 : at_C := (49, [.inl (49, some 181), .inr (false, -2147483648, 2147483647)], [], some (.inr (false, 0, 1)), false, [])
def at_q163 : at_C := (167, [.inl (0, some 0), .inr (false, -2147483648, 2147483647)], [], some (.inr (false, -1, 2000)), false, [(49, false, 5, 16), (51, false, 6, 8), (52, false, 0, 29), (53, false, 0, 2), (54, false, 0, 23), (55, false, 0, 11), (56, false, 0, 47), (57, false, 0, 39), (58, false, 3, 6), (59, false, 0, 10), (60, false, 0, 3), (61, false, 2, 3), (62, false, -69, 140), (64, false, 2, 3), (65, false, -93, 188), (66, false, 0, 18), (67, false, 2, 2), (68, false, 0, 31), (69, false, 0, 10), (70, false, 2, 3), (71, false, 0, 15), (72, false, 0, 15)])
def at_q164 : at_C := (168, [.inl (0, some 0), .inr (false, -2147483648, 2147483647)], [], some (.inr (false, -1, 2)), false, [(49, false, 5, 16), (51, false, 6, 8), (52, false, 0, 29), (53, false, 0, 2), (54, false, 0, 23), (55, false, 0, 11), (56, false, 0, 47), (57, false, 0, 39), (58, false, 3, 6), (59, false, 0, 10), (60, false, 0, 3), (61, false, 2, 3), (62, false, -69, 140), (64, false, 2, 3), (65, false, -93, 188), (66, false, 0, 18), (67, false, 2, 2), (68, false, 0, 31), (69, false, 0, 10), (70, false, 2, 3), (71, false, 0, 15), (72, false, 0, 15)])
def at_q165 : at_C := (197, [.inl (76, some 277), .inr (false, 0, 15)], [(1, 0)], some (.inr (false, 0, 1000)), false, [])
def at_q166 : at_C := (243, [.inl (76, some 277), .inr (false, -2147483648, 2147483647), .inr (false, -2147483648, 2147483647), .inr (false, -2147483648, 2147483647)], [], some (.inr (false, -1, 15)), false, [(79, false, 0, 2), (79, false, 1420, 29779), (79, true, 0, 60)])
def at_q167 : at_C := (244, [.inl (76, some 277), .inr (false, -2147483648, 2147483647), .inr (false, -2147483648, 2147483647)], [], some (.inr (false, 0, 1)), false, [(79, false, 0, 1), (79, false, 1420, 29779), (79, true, 1, 1)])
def at_q168 : at_C := (245, [.inl (76, some 277), .inr (false, -2147483648, 2147483647), .inr (false, -2147483648, 2147483647)], [], some (.inr (false, 0, 1)), false, [(79, false, 0, 1), (79, false, 1420, 29779), (79, true, 3, 3)])
def at_q169 : at_C := (247, [.inl (76, some 277), .inr (false, -2147483648, 2147483647), .inr (false, -2147483648, 2147483647)], [], some (.inr (false, 0, 1)), false, [(79, false, 0, 1), (79, false, 34, 63), (79, false, 1420, 29779)])
def at_q170 : at_C := (198, [.inl (76, some 277), .inr (false, 0, 1000)], [], some (.inr (false, -2147483648, 2147483647)), false, [])
def at_q171 : at_C := (202, [.inl (76, some 277)], [], some (.inr (false, -2147483648, 2147483647)), false, [])
def at_q172 : at_C := (207, [.inl (76, some 277)], [], some (.inr (false, -2147483648, 2147483647)), false, [])
def at_q173 : at_C := (208, [.inl (76, some 277)], [], some (.inr (false, 0, 1)), false, [])
def at_q174 : at_C := (211, [.inl (76, some 277)], [], none, false, [(76, false, 4, 4), (79, false, 3, 4)])
def at_q175 : at_C := (209, [.inl (76, some 277), .inr (false, 0, 15), .inr (false, -2147483648, 2147483647)], [(1, 0)], some (.inr (false, 0, 2147483647)), false, [])
def at_q176 : at_C := (212, [.inl (76, some 277), .inr (false, -2147483648, 2147483647)], [], some (.inr (false, -1, 15)), true, [])
def at_q177 : at_C := (210, [.inl (76, some 277), .inr (false, -2147483648, 2147483647)], [], some (.inr (false, -99999, 99999)), false, [])
def at_q178 : at_C := (213, [.inl (76, some 277)], [], none, false, [(79, false, 5, 5), (79, true, 60, 60)])
def at_q179 : at_C := (218, [.inl (76, some 277)], [], none, false, [(79, false, 444, 1419), (79, true, 1, 1), (79, true, 3, 3)])
def at_q180 : at_C := (221, [.inl (76, some 277), .inr (false, 0, 14)], [(1, 1)], none, false, [(76, false, 6, 6), (79, false, 11, 12), (79, true, 1, 1), (79, true, 4, 4)])
def at_q181 : at_C := (204, [.inl (76, some 277)], [], some (.inr (false, 0, 1000)), false, [])
def at_q182 : at_C := (219, [.inl (76, some 277), .inr (false, -2147483648, 2147483647)], [], some (.inr (false, -1, 15)), true, [])
def at_q183 : at_C := (220, [.inl (76, some 277)], [], none, false, [(76, false, 6, 6), (79, false, 8, 8), (79, false, 10, 10), (79, false, 13, 13), (79, true, 1, 1), (79, true, 4, 4), (81, false, 0, 15)])
def at_q184 : at_C := (222, [.inl (76, some 277)], [], none, false, [(76, false, 6, 6), (79, false, 8, 8), (79, false, 10, 13), (79, true, 1, 1), (79, true, 4, 4), (81, false, 0, 15)])
def at_q185 : at_C := (203, [.inl (76, some 277)], [], some (.inr (false, -2147483648, 2147483647)), false, [])
def at_q186 : at_C := (223, [.inl (76, some 277), .inr (false, -2147483648, 2147483647)], [], some (.inr (false, 0, 1000)), false, [])
def at_q187 : at_C := (225, [.inl (76, some 277)], [], none, false, [(79, false, 4, 4), (79, false, 9, 9), (79, false, 14, 14), (79, true, 4, 4), (79, true, 11, 16)])
def at_q188 : at_C := (229, [.inl (76, some 277), .inr (false, -2147483648, 2147483647)], [], none, false, [(79, false, 20, 20), (79, false, 167, 214)])
def at_q189 : at_C := (228, [.inl (76, some 277), .inr (false, -2147483648, 2147483647)], [], some (.inr (false, -1, 15)), false, [])
def at_q190 : at_C := (205, [.inl (76, some 277)], [], some (.inr (false, -1000, 1000)), false, [])
def at_q191 : at_C := (227, [.inl (76, some 277), .inr (false, -2147483648, 2147483647)], [], some (.inr (false, 0, 1)), false, [])
def at_q192 : at_C := (230, [.inl (76, some 277)], [], some (.inr (false, -2147483648, 2147483647)), false, [(79, false, 3, 3), (79, false, 6, 6), (79, false, 15, 16), (79, false, 20, 20), (79, false, 22, 33), (79, false, 167, 214), (79, false, 311, 314)])
def at_q193 : at_C := (234, [.inl (76, some 277), .inr (false, 0, 15)], [(1, 0)], none, false, [(79, true, 10, 10), (79, true, 17, 59)])
def at_q194 : at_C := (233, [.inl (76, some 277), .inr (false, 0, 15)], [(1, 0)], none, false, [(79, true, 10, 10), (79, true, 17, 59)])
def at_q195 : at_C := (235, [.inl (76, some 277)], [], none, false, [(79, false, 21, 21), (79, false, 215, 310), (79, true, 7, 8), (79, true, 10, 10), (79, true, 17, 59)])
def at_q196 : at_C := (226, [.inl (76, some 277)], [], none, false, [(79, false, 54, 54)])
def at_q197 : at_C := (268, [.inl (76, some 277), .inr (false, -2147483648, 2147483647)], [], some (.inr (false, -2147483648, 2147483647)), false, [])
def at_q198 : at_C := (236, [.inl (76, some 277)], [], none, false, [(79, false, 34, 63)])
def at_q199 : at_C := (237, [.inl (76, some 277)], [], some (.inr (false, -2147483648, 2147483647)), false, [(76, false, 4, 4), (76, false, 6, 6), (79, false, 3, 16), (79, false, 20, 63), (79, false, 167, 314), (79, false, 444, 1419), (79, true, 1, 1), (79, true, 3, 4), (79, true, 7, 8), (79, true, 10, 60), (81, false, 0, 15)])
def at_q200 : at_C := (248, [.inl (76, some 277), .inr (false, -2147483648, 2147483647)], [], some (.inr (false, -2147483648, 2147483647)), false, [(76, false, 4, 4), (76, false, 6, 6), (79, false, 3, 16), (79, false, 20, 63), (79, false, 167, 314), (79, false, 444, 1419), (79, true, 1, 1), (79, true, 3, 4), (79, true, 7, 8), (79, true, 10, 60), (81, false, 0, 15)])
def at_q201 : at_C := (250, [.inl (76, some 277), .inr (false, -2147483648, 2147483647)], [], some (.inr (false, -2147483648, 2147483647)), false, [(76, false, 4, 4), (76, false, 6, 6), (79, false, 0, 1), (79, false, 3, 16), (79, false, 20, 63), (79, false, 167, 314), (79, false, 444, 29779), (79, true, 1, 1), (79, true, 3, 4), (79, true, 7, 8), (79, true, 10, 60), (81, false, 0, 15)])
def at_q202 : at_C := (251, [.inl (76, some 277)], [], some (.inr (false, 0, 1)), false, [(79, false, 0, 1), (79, false, 3, 3), (79, false, 1420, 29779)])
def at_q203 : at_C := (252, [.inl (76, some 277)], [], some (.inr (false, 0, 1)), false, [(79, false, 0, 1), (79, false, 3, 3), (79, false, 5, 5), (79, false, 1420, 29779)])
def at_q204 : at_C := (253, [.inl (76, some 277), .inr (false, -2147483648, 2147483647)], [], some (.inr (false, 0, 1)), false, [])
def at_q205 : at_C := (254, [.inl (76, some 277), .inr (false, -2147483648, 2147483647)], [], some (.inr (false, 0, 1)), false, [(79, false, 0, 1), (79, false, 6, 6), (79, false, 1420, 29779)])
def at_q206 : at_C := (255, [.inl (76, some 277)], [], some (.inr (false, -2147483648, 2147483647)), false, [(79, false, 0, 1), (79, false, 22, 22), (79, false, 1420, 29779)])
def at_q207 : at_C := (256, [.inl (76, some 277), .inr (false, -2147483648, 2147483647), .inr (false, -2147483648, 2147483647)], [], some (.inr (false, 0, 1)), false, [(79, false, 0, 1), (79, false, 315, 338), (79, false, 1420, 29779)])
def at_q208 : at_C := (257, [.inl (76, some 277), .inr (false, -2147483648, 2147483647)], [], some (.inr (false, 0, 1)), false, [(79, false, 0, 1), (79, false, 339, 443), (79, false, 1420, 29779)])
def at_q209 : at_C := (258, [.inl (76, some 277), .inr (false, -2147483648, 2147483647), .inr (false, -2147483648, 2147483647)], [], some (.inr (false, 0, 1)), false, [(79, false, 0, 1), (79, false, 64, 66), (79, false, 1420, 29779)])
def at_q210 : at_C := (259, [.inl (76, some 277), .inr (false, -2147483648, 2147483647), .inr (false, -2147483648, 2147483647)], [], some (.inr (false, -1, 6)), false, [(79, false, 0, 1), (79, false, 17, 17), (79, false, 67, 78), (79, false, 1420, 29779)])
def at_q211 : at_C := (260, [.inl (76, some 277), .inr (false, -2147483648, 2147483647), .inr (false, -2147483648, 2147483647)], [], some (.inr (false, -1, 24)), false, [(79, false, 0, 1), (79, false, 19, 19), (79, false, 119, 166), (79, false, 1420, 29779)])
def at_q212 : at_C := (261, [.inl (76, some 277), .inr (false, -2147483648, 2147483647), .inr (false, 0, 1), .inr (false, -2147483648, 2147483647), .inr (false, -2147483648, 2147483647), .inr (false, -2147483648, 2147483647)], [], some (.inr (false, -1, 8)), false, [(79, false, 0, 1), (79, false, 18, 18), (79, false, 79, 118), (79, false, 1420, 29779)])
def at_q213 : at_C := (263, [.inl (76, some 277)], [], some (.inr (false, 0, 8)), false, [(79, false, 0, 1), (79, false, 18, 18), (79, false, 79, 166), (79, false, 1420, 29779)])
def at_q214 : at_C := (264, [.inl (76, some 277)], [], some (.inr (false, 0, 24)), false, [(79, false, 0, 1), (79, false, 19, 19), (79, false, 79, 166), (79, false, 1420, 29779)])
def at_q215 : at_C := (265, [.inl (76, some 277)], [], some (.inr (false, -2147483648, 2147483647)), false, [])
def at_q216 : at_C := (266, [.inl (76, some 277)], [], some (.inr (false, -2147483648, 2147483647)), false, [(76, false, 4, 4), (76, false, 6, 6), (79, false, 3, 16), (79, false, 20, 63), (79, false, 167, 314), (79, false, 444, 1419), (79, true, 1, 1), (79, true, 3, 4), (79, true, 7, 8), (79, true, 10, 60), (81, false, 0, 15)])
def at_q217 : at_C := (267, [.inl (76, some 277)], [], some (.inr (false, -2147483648, 2147483647)), false, [(76, false, 4, 4), (76, false, 6, 6), (79, false, 0, 1), (79, false, 3, 16), (79, false, 20, 63), (79, false, 167, 314), (79, false, 444, 29779), (79, true, 1, 1), (79, true, 3, 4), (79, true, 7, 8), (79, true, 10, 60), (81, false, 0, 15)])
def at_q218 : at_C := (269, [.inl (76, some 277), .inr (false, -2147483648, 2147483647)], [], some (.inr (false, -1000000000, 99999)), false, [])
def at_q219 : at_C := (270, [.inl (76, some 277), .inr (false, 0, 15), .inr (false, -2147483648, 2147483647)], [(1, 0)], some (.inr (false, -2147483648, 2147483647)), false, [])
def at_q220 : at_C := (271, [.inl (76, some 277), .inr (false, -2147483648, 2147483647), .inr (false, -2147483648, 2147483647)], [], some (.inr (false, -2147483648, 2147483647)), false, [])
def at_q221 : at_C := (272, [.inl (76, some 277), .inr (false, -2147483648, 2147483647), .inr (false, -2147483648, 2147483647)], [], some (.inr (false, -2147483648, 2147483647)), false, [])
def at_q222 : at_C := (273, [.inl (76, some 277), .inr (false, -2147483648, 2147483647), .inr (false, -2147483648, 2147483647)], [], some (.inr (false, -2147483648, 2147483647)), false, [])
def at_q223 : at_C := (274, [.inl (76, some 277), .inr (false, -2147483648, 2147483647), .inr (false, -2147483648, 2147483647)], [], some (.inr (false, -2147483648, 2147483647)), false, [])
def at_q224 : at_C := (275, [.inl (76, some 277), .inr (false, -2147483648, 2147483647), .inr (false, -2147483648, 2147483647)], [], some (.inr (false, -2147483648, 2147483647)), false, [])
def at_q225 : at_C := (276, [.inl (76, some 277), .inr (false, -2147483648, 2147483647), .inr (false, -2147483648, 2147483647)], [], some (.inr (false, -1, 1000)), false, [])
def at_q226 : at_C := (277, [.inl (76, some 277), .inr (false, -2147483648, 2147483647)], [], some (.inr (false, -2147483648, 2147483647)), false, [])
def at_q227 : at_C := (278, [.inl (76, some 277)], [], some (.inr (false, -2147483648, 2147483647)), false, [])
def at_q228 : at_C := (279, [.inl (76, some 277), .inr (false, -2147483648, 2147483647)], [], some (.inr (false, -36096398, 36096398)), false, [])
def at_q229 : at_C := (280, [.inl (76, some 277), .inr (false, -2147483648, 2147483647), .inr (false, -2147483648, 2147483647)], [], some (.inr (false, -2147483648, 2147483647)), false, [])
def at_q230 : at_C := (281, [.inl (76, some 277)], [], some (.inr (false, -2147483648, 2147483647)), false, [])
def at_q231 : at_C := (282, [.inl (76, some 277), .inr (false, -2147483648, 2147483647)], [], some (.inr (false, -2147483648, 2147483647)), false, [])
def at_q232 : at_C := (283, [.inl (76, some 277), .inr (false, -2147483648, 2147483647)], [], some (.inr (false, -2147483648, 2147483647)), false, [])
def at_q233 : at_C := (284, [.inl (76, some 277), .inr (false, -2147483648, 2147483647)], [], some (.inr (false, 0, 1000)), false, [])
def at_q234 : at_C := (285, [.inl (76, some 277), .inr (false, -2147483648, 2147483647)], [], some (.inr (false, -99999, 99999)), false, [])
def at_q235 : at_C := (286, [.inl (76, some 277), .inr (false, -2147483648, 2147483647)], [], some (.inr (false, -1, 15)), false, [])
def at_q236 : at_C := (287, [.inl (76, some 277)], [], some (.inr (false, -1000, 1000)), false, [])
def at_q237 : at_C := (288, [.inl (76, some 277), .inr (false, -2147483648, 2147483647)], [], some (.inr (false, -2147483648, 2147483647)), false, [])
def at_q238 : at_C := (289, [.inl (76, some 277), .inr (false, -2147483648, 2147483647), .inr (false, -2147483648, 2147483647)], [], some (.inr (false, -2147483648, 2147483647)), false, [])
def at_q239 : at_C := (290, [.inl (76, some 277), .inr (false, -2147483648, 2147483647), .inr (false, -2147483648, 2147483647)], [], some (.inr (false, -2147483648, 2147483647)), false, [])
def at_q240 : at_C := (291, [.inl (76, some 277), .inr (false, -2147483648, 2147483647)], [], some (.inr (false, -1000000000, 2000000000)), false, [])
def at_q241 : at_C := (294, [.inl (76, some 277), .inr (false, -2147483648, 2147483647), .inr (false, -2147483648, 2147483647), .inr (false, -2147483648, 2147483647)], [], some (.inr (false, -2147483648, 2147483647)), false, [])
def at_q242 : at_C := (295, [.inl (76, some 277), .inr (false, -2147483648, 2147483647)], [], some (.inr (false, -1, 15)), false, [])
def at_q243 : at_C := (297, [.inl (76, some 277)], [], some (.inr (false, -2147483648, 2147483647)), false, [])
def at_q244 : at_C := (298, [.inl (76, some 277), .inr (false, -2147483648, 2147483647)], [], some (.inr (false, -2147483648, 2147483647)), false, [])
def at_q245 : at_C := (300, [.inl (76, some 277)], [], some (.inr (false, -2147483648, 2147483647)), false, [])
def at_q246 : at_C := (301, [.inl (76, some 277), .inr (false, -2147483648, 2147483647)], [], some (.inr (false, -2147483648, 2147483647)), false, [])
def at_q247 : at_C := (302, [.inl (76, some 277), .inr (false, -2147483648, 2147483647)], [], some (.inr (false, -2147483648, 2147483647)), false, [])
def at_q248 : at_C := (303, [.inr (false, 0, 255)], [], some (.inr (false, -2147483648, 2147483647)), false, [])
def at_q249 : at_C := (304, [.inl (76, some 277), .inr (false, -2147483648, 2147483647)], [], some (.inr (false, -2147483648, 2147483647)), false, [])
def at_q250 : at_C := (309, [.inl (76, some 277), .inr (false, -2147483648, 2147483647), .inr (false, -2147483648, 2147483647)], [], some (.inr (false, -277777, 277778)), false, [])
def at_q251 : at_C := (310, [.inl (76, some 277), .inr (false, -2147483648, 2147483647), .inr (false, -2147483648, 2147483647)], [], some (.inr (false, -2147483648, 2147483647)), false, [(76, false, 4, 4), (76, false, 6, 6), (79, false, 2, 1419), (79, true, 1, 1), (79, true, 3, 4), (79, true, 7, 8), (79, true, 10, 60), (81, false, 0, 15), (82, false, 0, 1417)])
def at_q252 : at_C := (311, [.inl (76, some 277), .inr (false, -2147483648, 2147483647), .inr (false, -2147483648, 2147483647), .inr (false, -2147483648, 2147483647)], [], some (.inr (false, -2147483648, 2147483647)), false, [(76, false, 4, 4), (76, false, 6, 6), (79, false, 2, 1419), (79, true, 1, 1), (79, true, 3, 4), (79, true, 7, 8), (79, true, 10, 60), (81, false, 0, 15), (82, false, 0, 1417)])
def at_q253 : at_C := (312, [.inl (76, some 277), .inr (false, -2147483648, 2147483647)], [], some (.inr (false, -2147483648, 2147483647)), false, [(76, false, 4, 4), (76, false, 6, 6), (79, false, 2, 1419), (79, true, 1, 1), (79, true, 3, 4), (79, true, 7, 8), (79, true, 10, 60), (81, false, 0, 15), (82, false, 0, 1417)])
def at_q254 : at_C := (313, [.inl (76, some 277)], [], some (.inr (false, -1, 2000)), false, [(76, false, 4, 4), (76, false, 6, 6), (79, false, 2, 1419), (79, true, 1, 1), (79, true, 3, 4), (79, true, 7, 8), (79, true, 10, 60), (81, false, 0, 15), (82, false, 0, 1417)])
def at_q255 : at_C := (314, [.inl (76, some 277), .inr (false, -2147483648, 2147483647)], [], some (.inr (false, -1, 10)), false, [(76, false, 4, 4), (76, false, 6, 6), (79, false, 2, 1419), (79, true, 1, 1), (79, true, 3, 4), (79, true, 7, 8), (79, true, 10, 60), (81, false, 0, 15), (82, false, 0, 1417)])
def at_q256 : at_C := (315, [.inl (76, some 277), .inr (false, -99999, 99999), .inr (false, -2147483648, 2147483647)], [], some (.inr (false, 0, 1)), false, [(76, false, 4, 4), (76, false, 6, 7), (79, false, 2, 1419), (79, true, 1, 1), (79, true, 3, 4), (79, true, 7, 8), (79, true, 10, 60), (81, false, 0, 15), (82, false, 0, 1417)])
def at_q257 : at_C := (316, [.inl (76, some 277), .inr (false, -2147483648, 2147483647), .inr (false, -2147483648, 2147483647)], [], some (.inr (false, -99900, 99900)), false, [(76, false, 4, 4), (76, false, 6, 7), (79, false, 2, 1419), (79, true, 1, 1), (79, true, 3, 4), (79, true, 7, 8), (79, true, 10, 60), (81, false, 0, 15), (82, false, 0, 1417)])
def at_q258 : at_C := (317, [.inl (76, some 277), .inr (false, -2147483648, 2147483647)], [], some (.inr (false, -1, 2000)), false, [(76, false, 4, 4), (76, false, 6, 7), (79, false, 2, 1419), (79, true, 1, 1), (79, true, 3, 4), (79, true, 7, 8), (79, true, 10, 60), (81, false, 0, 15), (82, false, 0, 1417)])
def at_q259 : at_C := (319, [.inl (76, some 277), .inr (false, -2147483648, 2147483647), .inr (false, -2147483648, 2147483647)], [], some (.inr (false, -1, 99)), false, [(76, false, 4, 4), (76, false, 6, 6), (79, false, 2, 1419), (79, true, 1, 1), (79, true, 3, 4), (79, true, 7, 8), (79, true, 10, 60), (81, false, 0, 15), (82, false, 0, 1417)])
def at_q260 : at_C := (320, [.inl (76, some 277), .inr (false, -2147483648, 2147483647)], [], some (.inr (false, 0, 1)), false, [])
def at_q261 : at_C := (321, [.inl (76, some 277), .inr (false, -2147483648, 2147483647)], [], some (.inr (false, -1, 2000)), false, [(76, false, 4, 4), (76, false, 6, 6), (79, false, 2, 1419), (79, true, 1, 1), (79, true, 3, 4), (79, true, 7, 8), (79, true, 10, 60), (81, false, 0, 15), (82, false, 0, 1417)])
def at_q262 : at_C := (322, [.inl (76, some 277), .inr (false, -2147483648, 2147483647)], [], some (.inr (false, -1, 2)), false, [(76, false, 4, 4), (76, false, 6, 6), (79, false, 2, 1419), (79, true, 1, 1), (79, true, 3, 4), (79, true, 7, 8), (79, true, 10, 60), (81, false, 0, 15), (82, false, 0, 1417)])
def at_q263 : at_C := (325, [.inl (76, some 277)], [], some (.inr (false, 0, 20)), false, [])
def at_jt0 : at_J := ((131, 18, some 0), none, [(1, some (false, -2147483648, 2147483647)), (3, some (false, 0, 16))], [], [], [], (16, [(-1, 0, 3)]))
def at_jt1 : at_J := ((138, 24, some 0), none, [(2, some (false, -2147483648, 2147483647)), (3, some (false, 0, 16))], [], [], [], (16, [(-1, 0, 3)]))
def at_jt2 : at_J := ((140, 33, some 0), none, [(3, some (false, -2147483648, 2147483647)), (4, some (false, 0, 15))], [], [], [], (15, [(-1, 0, 4)]))
def at_jt3 : at_J := ((141, 45, some 0), none, [(3, some (false, -1, 256)), (4, some (false, -2147483648, 2147483647)), (5, some (false, 1, 300)), (6, none)], [], [], [], (300, [(-1, 0, 5)]))
def at_jt4 : at_J := ((142, 45, some 0), none, [(4, some (true, -9223372036854775808, 1152921504606846976)), (6, some (false, 0, 15)), (7, none)], [], [], [], (15, [(-1, 0, 6)]))
def at_jt5 : at_J := ((143, 28, some 0), none, [(3, some (false, -1000000000, 35996400)), (4, some (false, 0, 16)), (5, none)], [], [], [], (16, [(-1, 0, 4)]))
def at_jt6 : at_J := ((144, 4, some 0), none, [(1, some (true, -9223372036854775808, 9223372036854775807)), (3, some (false, 0, 16))], [], [], [], (16, [(-1, 0, 3)]))
def at_jt7 : at_J := ((145, 17, some 0), none, [(2, some (false, -2147483648, 2147483647)), (3, some (false, 0, 16))], [], [], [], (16, [(-1, 0, 3)]))
def at_jt8 : at_J := ((155, 27, some 0), none, [(2, some (false, -1000000000, 2147483647)), (3, some (false, 0, 16)), (4, none)], [], [], [], (16, [(-1, 0, 3)]))
def at_jt9 : at_J := ((162, 13, some 0), none, [(1, some (false, 1, 9999)), (2, none)], [(49, false, 6, 16), (62, false, -69, 140), (65, false, -93, 188), (66, false, 0, 0), (66, false, 2, 4), (66, false, 6, 18)], [], [], (9999, [(-1, 0, 1)]))
def at_jt10 : at_J := ((163, 41, some 0), none, [(2, some (false, 0, 300)), (3, none)], [(49, false, 6, 16), (62, false, -69, 140), (65, false, -93, 188), (66, false, 0, 0), (66, false, 2, 4), (66, false, 6, 18)], [], [], (300, [(-1, 0, 2)]))
def at_jt11 : at_J := ((164, 84, some 0), none, [(5, some (false, -2147483600, 2147483600))], [(49, false, 5, 16), (51, false, 6, 8), (52, false, 0, 29), (53, false, 0, 2), (54, false, 0, 23), (55, false, 0, 11), (56, false, 0, 47), (57, false, 0, 39), (58, false, 3, 6), (59, false, 0, 10), (60, false, 0, 3), (61, false, 2, 3), (62, false, -69, 140), (64, false, 2, 3), (65, false, -93, 188), (66, false, 0, 18), (67, false, 2, 2), (68, false, 0, 31), (69, false, 0, 10), (70, false, 2, 3), (71, false, 0, 15), (72, false, 0, 15)], [], [], (2147483600, [(1, 0, 5)]))
def at_jt12 : at_J := ((165, 36, some 0), none, [(3, some (false, -1, 99))], [(49, false, 5, 16), (51, false, 6, 8), (52, false, 0, 29), (53, false, 0, 2), (54, false, 0, 23), (55, false, 0, 11), (56, false, 0, 47), (57, false, 0, 39), (58, false, 3, 6), (59, false, 0, 10), (60, false, 0, 3), (61, false, 2, 3), (62, false, -69, 140), (64, false, 2, 3), (65, false, -93, 188), (66, false, 0, 18), (67, false, 2, 2), (68, false, 0, 31), (69, false, 0, 10), (70, false, 2, 3), (71, false, 0, 15), (72, false, 0, 15)], [], [], (1, [(1, 0, 3)]))
def at_jt13 : at_J := ((166, 51, some 0), none, [(2, some (false, 1, 9999))], [(49, false, 6, 16), (52, false, 20, 20), (62, false, -69, 140), (65, false, -93, 188), (66, false, 0, 0), (66, false, 2, 4), (66, false, 6, 18)], [], [], (9999, [(-1, 0, 2)]))
def at_jt14 : at_J := ((167, 24, some 0), none, [(2, some (false, 0, 9999))], [(49, false, 6, 16), (62, false, -69, 140), (65, false, -93, 188), (66, false, 0, 0), (66, false, 2, 4), (66, false, 6, 18)], [], [], (9999, [(-1, 0, 2)]))
def at_jt15 : at_J := ((168, 32, some 0), none, [(2, some (false, -1, 2)), (3, some (false, -1000, 2147483647)), (4, some (false, 0, 3)), (5, none)], [(49, false, 5, 16), (51, false, 6, 8), (52, false, 0, 29), (53, false, 0, 2), (54, false, 0, 23), (55, false, 0, 11), (56, false, 0, 47), (57, false, 0, 39), (58, false, 3, 6), (59, false, 0, 10), (60, false, 0, 3), (61, false, 2, 3), (62, false, -69, 140), (64, false, 2, 3), (65, false, -93, 188), (66, false, 0, 18), (67, false, 2, 2), (68, false, 0, 31), (69, false, 0, 10), (70, false, 2, 3), (71, false, 0, 15), (72, false, 0, 15)], [], [], (3, [(-1, 0, 4)]))
def at_jt16 : at_J := ((169, 27, some 0), none, [(4, some (false, 0, 2147483647))], [(49, false, 6, 16), (52, false, 0, 29), (62, false, -69, 140), (65, false, -93, 188), (66, false, 0, 0), (66, false, 2, 4), (66, false, 6, 18)], [], [], (2147483647, [(-1, 0, 4)]))
def at_jt17 : at_J := ((170, 52, some 0), none, [(3, some (false, 0, 2147483647))], [(49, false, 6, 16), (52, false, 20, 20), (52, false, 23, 23), (62, false, -69, 140), (65, false, -93, 188), (66, false, 0, 0), (66, false, 2, 4), (66, false, 6, 18)], [], [], (2147483647, [(-1, 0, 3)]))
def at_jt18 : at_J := ((171, 29, some 0), none, [(3, some (false, 0, 24)), (4, none), (6, none), (7, none)], [(75, false, 0, 312)], [], [], (24, [(-1, 0, 3)]))
def at_jt19 : at_J := ((171, 60, some 0), none, [(6, some (false, -1, 24)), (7, none)], [(75, false, 0, 312)], [], [], (1, [(1, 0, 6)]))
def at_jt20 : at_J := ((171, 68, some 0), none, [(7, some (false, -1, 12))], [(75, false, 0, 324)], [], [], (1, [(1, 0, 7)]))
def at_jt21 : at_J := ((179, 8, none), none, [(1, some (false, 0, 1000)), (2, some (false, 0, 1000)), (3, some (false, 0, 10)), (4, none)], [], [], [], (10, [(-1, 0, 3)]))
def at_jt22 : at_J := ((202, 4, some 76), none, [(1, some (false, -2147483648, 2147483647)), (2, some (false, 0, 16))], [], [], [], (16, [(-1, 0, 2)]))
def at_jt23 : at_J := ((203, 4, some 76), none, [(1, some (false, -2147483648, 2147483647)), (2, some (false, 0, 16))], [], [], [], (16, [(-1, 0, 2)]))
def at_jt24 : at_J := ((204, 6, some 76), none, [(1, some (false, 0, 1000)), (2, some (false, 0, 16))], [], [], [], (16, [(-1, 0, 2)]))
def at_jt25 : at_J := ((205, 4, some 76), none, [(1, some (false, 0, 1000)), (2, some (false, 0, 16))], [], [], [], (16, [(-1, 0, 2)]))
def at_jt26 : at_J := ((207, 4, some 76), none, [(1, some (false, -2147483648, 2147483647)), (2, some (false, 0, 3))], [], [], [], (3, [(-1, 0, 2)]))
def at_jt27 : at_J := ((209, 84, some 76), none, [(6, some (false, -2147483648, 2147483647)), (7, some (false, 0, 7))], [], [], [], (7, [(-1, 0, 7)]))
def at_jt28 : at_J := ((210, 8, some 76), none, [(2, some (false, -99999, 99999)), (3, some (false, 0, 16))], [], [], [], (16, [(-1, 0, 3)]))
def at_jt29 : at_J := ((212, 4, some 76), none, [(2, some (false, -1, 15)), (3, some (false, 0, 16))], [], [], [(1, [(1, 0, 2), (-1, 2, 0)])], (16, [(-1, 0, 3)]))
def at_jt30 : at_J := ((218, 2, some 76), none, [(1, some (false, 0, 16))], [(79, true, 1, 1), (79, true, 3, 3)], [], [], (16, [(-1, 0, 1)]))
def at_jt31 : at_J := ((218, 25, some 76), none, [(1, some (false, 0, 15))], [(79, true, 3, 3)], [], [], (15, [(-1, 0, 1)]))
def at_jt32 : at_J := ((218, 50, some 76), none, [(1, some (false, 0, 16))], [(79, false, 444, 1419)], [], [], (16, [(-1, 0, 1)]))
def at_jt33 : at_J := ((219, 4, some 76), none, [(2, some (false, -1, 15)), (3, some (false, 0, 16))], [], [], [(1, [(1, 0, 2), (-1, 2, 0)])], (16, [(-1, 0, 3)]))
def at_jt34 : at_J := ((22, 15, some 73), none, [(2, some (false, 0, 20))], [(25, false, 5, 16), (27, false, 6, 8), (28, false, 0, 29), (29, false, 0, 2), (30, false, 0, 23), (31, false, 0, 11), (32, false, 0, 47), (33, false, 0, 39), (34, false, 3, 6), (35, false, 0, 10), (36, false, 0, 3), (37, false, 2, 3), (38, false, 0, 71), (40, false, 2, 3), (41, false, 0, 95), (42, false, 0, 18), (43, false, 2, 2), (44, false, 0, 31), (45, false, 0, 10), (46, false, 2, 3), (47, false, 0, 15), (48, false, 0, 15), (74, false, 0, 19)], [], [], (20, [(-1, 0, 2)]))
def at_jt35 : at_J := ((220, 40, some 76), none, [(3, some (false, 0, 16))], [(81, false, 0, 15)], [], [], (16, [(-1, 0, 3)]))
def at_jt36 : at_J := ((220, 81, some 76), some (3, -1), [(2, some (false, 1, 2147483647)), (3, some (false, -1, 15)), (4, none)], [(76, false, 6, 6), (79, false, 8, 8), (79, false, 10, 10), (79, false, 13, 13), (79, true, 1, 1), (79, true, 4, 4)], [], [(1, [(1, 0, 3), (-1, 2, 0)])], (0, [(1, 0, 2)]))
def at_jt37 : at_J := ((222, 57, some 76), none, [(1, some (false, 0, 16))], [(76, false, 6, 6), (79, false, 11, 12), (79, true, 1, 1), (79, true, 4, 4)], [], [], (16, [(-1, 0, 1)]))
def at_jt38 : at_J := ((223, 2, some 76), none, [(2, some (false, 0, 1000))], [], [], [], (1000, [(-1, 0, 2)]))
def at_jt39 : at_J := ((225, 163, some 76), none, [(2, some (false, 0, 16))], [(79, true, 4, 4), (79, true, 12, 13), (79, true, 16, 16)], [], [], (16, [(-1, 0, 2)]))
def at_jt40 : at_J := ((225, 17, some 76), none, [(2, some (false, 0, 16)), (3, none)], [(79, true, 11, 11), (79, true, 13, 15)], [], [], (16, [(-1, 0, 2)]))
def at_jt41 : at_J := ((226, 4, some 76), none, [(1, some (false, 0, 1)), (2, some (false, 0, 16))], [], [], [], (16, [(-1, 0, 2)]))
def at_jt42 : at_J := ((228, 2, some 76), none, [(2, some (false, 0, 16)), (3, none)], [], [], [], (16, [(-1, 0, 2)]))
def at_jt43 : at_J := ((229, 16, some 76), none, [(2, some (false, 167, 256))], [(79, false, 167, 212)], [], [], (256, [(-1, 0, 2)]))
def at_jt44 : at_J := ((230, 123, some 76), none, [(2, some (false, -2147483648, 2147483647)), (3, some (false, 0, 11))], [(79, false, 6, 6), (79, false, 20, 20), (79, false, 23, 33), (79, false, 167, 214), (79, false, 311, 314)], [], [], (11, [(-1, 0, 3)]))
def at_jt45 : at_J := ((230, 91, some 76), none, [(1, some (false, -2147483648, 2147483647)), (3, some (false, 0, 11))], [], [], [], (11, [(-1, 0, 3)]))
def at_jt46 : at_J := ((232, 2, some 76), none, [(3, some (false, 0, 31))], [(79, true, 17, 47)], [], [], (31, [(-1, 0, 3)]))
def at_jt47 : at_J := ((234, 2, some 76), none, [(2, some (false, 1, 1)), (3, none), (4, none), (5, none), (6, none)], [(79, true, 10, 10), (79, true, 17, 59)], [(none, (454, [(61, 0, 1)]), 1, 32)], [], (0, [(1, 1, 0)]))
def at_jt48 : at_J := ((235, 117, some 76), none, [(2, some (false, 0, 16)), (3, none)], [(79, true, 7, 8), (79, true, 10, 10), (79, true, 17, 59)], [], [], (16, [(-1, 0, 2)]))
def at_jt49 : at_J := ((235, 16, some 76), none, [(1, some (false, 215, 999))], [(79, false, 215, 307)], [], [], (999, [(-1, 0, 1)]))
def at_jt50 : at_J := ((236, 2, some 76), none, [(1, some (false, 0, 8)), (2, none), (3, none)], [(79, false, 34, 63)], [], [], (8, [(-1, 0, 1)]))
def at_jt51 : at_J := ((243, 71, some 76), none, [(5, some (false, 0, 61))], [(79, true, 0, 60)], [], [], (61, [(-1, 0, 5)]))
def at_jt52 : at_J := ((248, 4, some 76), none, [(2, some (false, -2147483648, 2147483647)), (3, some (false, 0, 2147483647))], [(76, false, 4, 4), (76, false, 6, 6), (79, false, 3, 16), (79, false, 20, 63), (79, false, 167, 314), (79, false, 444, 1419), (79, true, 1, 1), (79, true, 3, 4), (79, true, 7, 8), (79, true, 10, 60), (81, false, 0, 15)], [], [], (2147483647, [(-1, 0, 3)]))
def at_jt53 : at_J := ((257, 62, some 76), none, [(3, some (false, 0, 16))], [(79, false, 342, 443)], [], [], (16, [(-1, 0, 3)]))
def at_jt54 : at_J := ((262, 15, some 76), none, [(5, some (false, 79, 256))], [(79, false, 79, 166)], [], [], (256, [(-1, 0, 5)]))
def at_jt55 : at_J := ((265, 4, some 76), none, [(1, some (false, -2147483648, 2147483647)), (2, some (false, 0, 24))], [], [], [], (24, [(-1, 0, 2)]))
def at_jt56 : at_J := ((266, 35, some 76), none, [(1, some (false, -2147483648, 2147483647)), (3, some (false, 0, 99))], [(76, false, 4, 4), (76, false, 6, 6), (79, false, 3, 16), (79, false, 20, 63), (79, false, 167, 314), (79, false, 444, 1419), (79, true, 1, 1), (79, true, 3, 4), (79, true, 7, 8), (79, true, 10, 60), (81, false, 0, 15)], [], [], (99, [(-1, 0, 3)]))
def at_jt57 : at_J := ((266, 4, some 76), none, [(1, some (false, -2147483648, 2147483647)), (2, some (false, 0, 24)), (3, none)], [(76, false, 4, 4), (76, false, 6, 6), (79, false, 3, 16), (79, false, 20, 63), (79, false, 167, 314), (79, false, 444, 1419), (79, true, 1, 1), (79, true, 3, 4), (79, true, 7, 8), (79, true, 10, 60), (81, false, 0, 15)], [], [], (24, [(-1, 0, 2)]))
def at_jt58 : at_J := ((273, 56, some 76), none, [(3, some (false, -2147483648, 2147483647)), (4, some (false, -2000000000, 2147483647)), (5, some (false, 0, 1000)), (6, some (false, 0, 1000)), (7, some (false, -2147483648, 2147483647)), (8, some (false, 0, 16))], [], [], [], (16, [(-1, 0, 8)]))
def at_jt59 : at_J := ((278, 11, some 76), none, [(1, some (false, -2147483648, 2147483647)), (3, some (false, 0, 16))], [], [], [], (16, [(-1, 0, 3)]))
def at_jt60 : at_J := ((281, 4, some 76), none, [(1, some (true, -9223372036854775808, 9223372036854775807)), (3, some (false, 0, 16))], [], [], [], (16, [(-1, 0, 3)]))
def at_jt61 : at_J := ((282, 17, some 76), none, [(2, some (false, -2147483648, 2147483647)), (3, some (false, 0, 16))], [], [], [], (16, [(-1, 0, 3)]))
def at_jt62 : at_J := ((291, 25, some 76), none, [(2, some (false, -1000000000, 2000000000)), (3, some (false, 0, 16))], [], [], [], (16, [(-1, 0, 3)]))
def at_jt63 : at_J := ((295, 17, some 76), none, [(3, some (false, -2147483648, 2147483647)), (4, some (false, 0, 16))], [], [], [], (16, [(-1, 0, 4)]))
def at_jt64 : at_J := ((295, 2, some 76), none, [(2, some (false, 0, 16)), (3, none), (4, none)], [], [], [], (16, [(-1, 0, 2)]))
def at_jt65 : at_J := ((297, 20, some 76), none, [(2, some (false, -2147483648, 2147483647)), (3, some (false, 0, 16))], [], [], [], (16, [(-1, 0, 3)]))
def at_jt66 : at_J := ((299, 7, some 76), none, [(1, some (true, -9223372036854775808, 9223372036854775807)), (3, some (true, 0, 575942400)), (5, some (false, 0, 16))], [], [], [(0, [(360000, 0, 5), (-1, 0, 3)]), (0, [(1, 0, 3), (-35996400, 0, 5)])], (16, [(-1, 0, 5)]))
def at_jt67 : at_J := ((301, 24, some 76), none, [(2, some (false, -2147483648, 2147483647)), (3, some (false, 0, 15))], [], [], [], (15, [(-1, 0, 3)]))
def at_jt68 : at_J := ((302, 4, some 76), none, [(2, some (false, -2147483648, 2147483647)), (3, some (false, 0, 16))], [], [], [], (16, [(-1, 0, 3)]))
def at_jt69 : at_J := ((303, 4, none), none, [(1, some (false, -2147483648, 2147483647)), (2, some (false, 0, 255))], [], [], [], (0, [(1, 0, 2)]))
def at_jt70 : at_J := ((304, 42, some 76), none, [(2, some (false, -1, 256)), (3, some (false, 1, 300))], [], [], [], (300, [(-1, 0, 3)]))
def at_jt71 : at_J := ((309, 28, some 76), none, [(3, some (false, -1000000000, 35996400)), (4, some (false, 0, 16))], [], [], [], (16, [(-1, 0, 4)]))
def at_jt72 : at_J := ((313, 10, some 76), none, [(1, some (false, 0, 2000)), (2, some (false, -2147483648, 2147483647)), (3, some (false, 0, 1))], [(76, false, 4, 4), (76, false, 6, 6), (79, false, 3, 16), (79, false, 20, 63), (79, false, 167, 314), (79, false, 444, 1419), (79, true, 1, 1), (79, true, 3, 4), (79, true, 7, 8), (79, true, 10, 60), (81, false, 0, 15)], [], [], (2000, [(-1, 0, 1)]))
def at_jt73 : at_J := ((314, 30, some 76), none, [(3, some (false, -2147483648, 2147483647)), (4, some (false, 0, 300))], [(76, false, 4, 4), (76, false, 6, 6), (79, false, 3, 16), (79, false, 20, 63), (79, false, 167, 314), (79, false, 444, 1419), (79, true, 1, 1), (79, true, 3, 4), (79, true, 7, 8), (79, true, 10, 60), (81, false, 0, 15)], [], [], (300, [(-1, 0, 4)]))
def at_jt74 : at_J := ((314, 71, some 76), none, [(5, some (false, 0, 11))], [], [], [], (11, [(-1, 0, 5)]))
def at_jt75 : at_J := ((315, 22, some 76), none, [(3, some (false, 0, 1)), (4, some (false, 0, 2147483647))], [(76, false, 4, 4), (76, false, 6, 6), (79, false, 3, 16), (79, false, 20, 63), (79, false, 167, 314), (79, false, 444, 1419), (79, true, 1, 1), (79, true, 3, 4), (79, true, 7, 8), (79, true, 10, 60), (81, false, 0, 15)], [], [], (2147483647, [(-1, 0, 4)]))
def at_jt76 : at_J := ((316, 43, some 76), none, [(3, some (false, -99900, 99900))], [(76, false, 4, 4), (76, false, 6, 7), (79, false, 2, 1419), (79, true, 1, 1), (79, true, 3, 4), (79, true, 7, 8), (79, true, 10, 60), (81, false, 0, 15), (82, false, 0, 1417)], [], [], (99900, [(1, 0, 3)]))
def at_jt77 : at_J := ((317, 37, some 76), none, [(2, some (false, 0, 2000)), (3, some (false, -2147483648, 2147483647)), (4, some (false, 0, 1))], [(76, false, 4, 4), (76, false, 6, 6), (79, false, 3, 16), (79, false, 20, 63), (79, false, 167, 314), (79, false, 444, 1419), (79, true, 1, 1), (79, true, 3, 4), (79, true, 7, 8), (79, true, 10, 60), (81, false, 0, 15)], [], [], (2000, [(-1, 0, 2)]))
def at_jt78 : at_J := ((319, 35, some 76), none, [(3, some (false, -1, 99))], [(76, false, 4, 4), (76, false, 6, 6), (79, false, 2, 1419), (79, true, 1, 1), (79, true, 3, 4), (79, true, 7, 8), (79, true, 10, 60), (81, false, 0, 15), (82, false, 0, 1417)], [], [], (1, [(1, 0, 3)]))
def at_jt79 : at_J := ((320, 2, some 76), none, [(2, some (false, 0, 16))], [], [], [], (16, [(-1, 0, 2)]))
def at_jt80 : at_J := ((321, 26, some 76), none, [(2, some (false, 0, 2000)), (3, some (false, -2147483648, 2147483647)), (4, some (false, 0, 1))], [(76, false, 4, 4), (76, false, 6, 6), (79, false, 3, 16), (79, false, 20, 63), (79, false, 167, 314), (79, false, 444, 1419), (79, true, 1, 1), (79, true, 3, 4), (79, true, 7, 8), (79, true, 10, 60), (81, false, 0, 15)], [], [], (2000, [(-1, 0, 2)]))
def at_jt81 : at_J := ((322, 36, some 76), none, [(2, some (false, 0, 2)), (3, some (false, -1000, 1000)), (4, some (false, 1, 3)), (5, none)], [(79, false, 2, 1419)], [], [], (3, [(-1, 0, 4)]))
def at_jt82 : at_J := ((33, 2, some 1), none, [(2, some (false, 0, 16))], [(18, false, 0, 18), (19, false, 2, 2), (20, false, 0, 31), (21, false, 0, 10)], [], [], (16, [(-1, 0, 2)]))
def at_jt83 : at_J := ((33, 2, some 25), none, [(2, some (false, 0, 16))], [(42, false, 0, 18), (43, false, 2, 2), (44, false, 0, 31), (45, false, 0, 10)], [], [], (16, [(-1, 0, 2)]))
def at_jt84 : at_J := ((33, 2, some 49), none, [(2, some (false, 0, 16))], [(66, false, 0, 18), (67, false, 2, 2), (68, false, 0, 31), (69, false, 0, 10)], [], [], (16, [(-1, 0, 2)]))
def at_jt85 : at_J := ((33, 33, some 1), none, [(2, some (false, 0, 3))], [(22, false, 2, 3), (23, false, 0, 15), (24, false, 0, 15)], [], [], (3, [(-1, 0, 2)]))
def at_jt86 : at_J := ((33, 33, some 25), none, [(2, some (false, 0, 3))], [(46, false, 2, 3), (47, false, 0, 15), (48, false, 0, 15)], [], [], (3, [(-1, 0, 2)]))
def at_jt87 : at_J := ((33, 33, some 49), none, [(2, some (false, 0, 3))], [(70, false, 2, 3), (71, false, 0, 15), (72, false, 0, 15)], [], [], (3, [(-1, 0, 2)]))
def at_jt88 : at_J := ((337, 6, some 75), none, [(3, some (false, 0, 999))], [(75, false, 0, 324)], [], [], (999, [(-1, 0, 3)]))
def at_jt89 : at_J := ((338, 5, some 21), none, [(2, some (false, 0, 11))], [(21, false, 0, 10)], [], [], (11, [(-1, 0, 2)]))
def at_jt90 : at_J := ((36, 9, some 1), none, [(3, some (false, 0, 16))], [(23, false, 0, 15), (24, false, 0, 15)], [], [], (16, [(-1, 0, 3)]))
def at_jt91 : at_J := ((38, 4, some 1), none, [(2, some (false, -2147483648, 2147483647)), (3, some (false, 0, 16))], [], [], [], (16, [(-1, 0, 3)]))
def at_jt92 : at_J := ((38, 4, some 49), none, [(2, some (false, -2147483648, 2147483647)), (3, some (false, 0, 16))], [], [], [], (16, [(-1, 0, 3)]))
def at_jt93 : at_J := ((39, 6, some 1), none, [(1, some (false, 0, 1000)), (2, some (false, 0, 16))], [], [], [], (16, [(-1, 0, 2)]))
def at_jt94 : at_J := ((39, 6, some 49), none, [(1, some (false, 0, 1000)), (2, some (false, 0, 16))], [], [], [], (16, [(-1, 0, 2)]))
def at_jt95 : at_J := ((41, 10, some 1), none, [(3, some (false, 0, 1000)), (4, some (false, 0, 9999000)), (5, some (false, 0, 16))], [], [], [], (16, [(-1, 0, 5)]))
def at_jt96 : at_J := ((41, 10, some 49), none, [(3, some (false, 0, 1000)), (4, some (false, 0, 9999000)), (5, some (false, 0, 16))], [], [], [], (16, [(-1, 0, 5)]))
def at_jt97 : at_J := ((42, 4, some 1), none, [(1, some (true, -9223372036854775808, 9223372036854775807)), (3, some (false, 0, 16))], [], [], [], (16, [(-1, 0, 3)]))
def at_jt98 : at_J := ((43, 4, some 1), none, [(1, some (true, -9223372036854775808, 9223372036854775807)), (3, some (false, 0, 16))], [], [], [], (16, [(-1, 0, 3)]))
def at_jt99 : at_J := ((45, 4, some 1), none, [(2, some (false, -2147483648, 2147483647)), (3, some (false, 0, 16))], [], [], [], (16, [(-1, 0, 3)]))
def at_jt100 : at_J := ((46, 2, some 1), none, [(2, some (false, 0, 16))], [], [], [], (16, [(-1, 0, 2)]))
def at_jt101 : at_J := ((47, 15, some 1), none, [(2, some (false, -2147483648, 2147483647)), (4, some (false, 0, 16)), (5, none)], [], [], [], (16, [(-1, 0, 4)]))
def at_jt102 : at_J := ((49, 2, some 49), none, [(2, some (false, 0, 16))], [], [], [], (16, [(-1, 0, 2)]))
def at_jt103 : at_J := ((51, 8, some 1), none, [(2, some (false, -1, 15)), (3, some (false, 0, 2147483647)), (4, some (false, 0, 16)), (5, none)], [], [], [], (16, [(-1, 0, 4)]))
def at_jt104 : at_J := ((51, 8, some 49), none, [(2, some (false, -1, 15)), (3, some (false, 0, 2147483647)), (4, some (false, 0, 16)), (5, none)], [], [], [], (16, [(-1, 0, 4)]))
def at_jt105 : at_J := ((53, 7, some 1), none, [(1, some (false, -2147483648, 2147483647)), (2, some (false, 0, 3))], [], [], [], (3, [(-1, 0, 2)]))
def at_jt106 : at_J := ((53, 7, some 49), none, [(1, some (false, -2147483648, 2147483647)), (2, some (false, 0, 3))], [], [], [], (3, [(-1, 0, 2)]))
def at_jt107 : at_J := ((55, 4, some 1), none, [(2, some (false, -2147483648, 2147483647)), (3, some (false, 0, 2147483647))], [(1, false, 6, 16), (4, false, 0, 29), (10, false, 3, 6), (11, false, 0, 10), (12, false, 0, 3), (13, false, 2, 3), (14, false, -69, 140), (16, false, 2, 3), (17, false, -93, 188), (18, false, 0, 0), (18, false, 2, 4), (18, false, 6, 18), (19, false, 2, 2), (20, false, 0, 31), (21, false, 0, 10)], [], [], (2147483647, [(-1, 0, 3)]))
def at_jt108 : at_J := ((55, 4, some 49), none, [(2, some (false, -2147483648, 2147483647)), (3, some (false, 0, 2147483647))], [(49, false, 6, 16), (52, false, 0, 29), (58, false, 3, 6), (59, false, 0, 10), (60, false, 0, 3), (61, false, 2, 3), (62, false, -69, 140), (64, false, 2, 3), (65, false, -93, 188), (66, false, 0, 0), (66, false, 2, 4), (66, false, 6, 18), (67, false, 2, 2), (68, false, 0, 31), (69, false, 0, 10)], [], [], (2147483647, [(-1, 0, 3)]))
def at_jt109 : at_J := ((56, 4, some 1), none, [(1, some (false, -2147483648, 2147483647)), (2, some (false, 0, 24)), (3, none), (4, none)], [(1, false, 6, 16), (4, false, 0, 29), (10, false, 3, 6), (11, false, 0, 10), (12, false, 0, 3), (13, false, 2, 3), (14, false, -69, 140), (16, false, 2, 3), (17, false, -93, 188), (18, false, 0, 0), (18, false, 2, 4), (18, false, 6, 18), (19, false, 2, 2), (20, false, 0, 31), (21, false, 0, 10)], [], [], (24, [(-1, 0, 2)]))
def at_jt110 : at_J := ((56, 4, some 49), none, [(1, some (false, -2147483648, 2147483647)), (2, some (false, 0, 24)), (3, none), (4, none)], [(49, false, 6, 16), (52, false, 0, 29), (58, false, 3, 6), (59, false, 0, 10), (60, false, 0, 3), (61, false, 2, 3), (62, false, -69, 140), (64, false, 2, 3), (65, false, -93, 188), (66, false, 0, 0), (66, false, 2, 4), (66, false, 6, 18), (67, false, 2, 2), (68, false, 0, 31), (69, false, 0, 10)], [], [], (24, [(-1, 0, 2)]))
def at_jt111 : at_J := ((56, 64, some 1), none, [(1, some (false, -2147483648, 2147483647)), (4, some (false, 0, 2147483647))], [(1, false, 6, 16), (4, false, 0, 29), (10, false, 3, 6), (11, false, 0, 10), (12, false, 0, 3), (13, false, 2, 3), (14, false, -69, 140), (16, false, 2, 3), (17, false, -93, 188), (18, false, 0, 0), (18, false, 2, 4), (18, false, 6, 18), (19, false, 2, 2), (20, false, 0, 31), (21, false, 0, 10)], [], [], (2147483647, [(-1, 0, 4)]))
def at_jt112 : at_J := ((56, 64, some 49), none, [(1, some (false, -2147483648, 2147483647)), (4, some (false, 0, 2147483647))], [(49, false, 6, 16), (52, false, 0, 29), (58, false, 3, 6), (59, false, 0, 10), (60, false, 0, 3), (61, false, 2, 3), (62, false, -69, 140), (64, false, 2, 3), (65, false, -93, 188), (66, false, 0, 0), (66, false, 2, 4), (66, false, 6, 18), (67, false, 2, 2), (68, false, 0, 31), (69, false, 0, 10)], [], [], (2147483647, [(-1, 0, 4)]))
def at_jt113 : at_J := ((61, 2, some 1), none, [(1, some (false, 0, 16))], [(18, false, 0, 0), (18, false, 2, 4), (18, false, 6, 9)], [], [], (16, [(-1, 0, 1)]))
def at_jt114 : at_J := ((61, 2, some 49), none, [(1, some (false, 0, 16))], [(66, false, 0, 0), (66, false, 2, 4), (66, false, 6, 9)], [], [], (16, [(-1, 0, 1)]))
def at_jt115 : at_J := ((61, 35, some 1), none, [(1, some (false, 0, 15)), (2, none)], [(18, false, 6, 6)], [], [], (15, [(-1, 0, 1)]))
def at_jt116 : at_J := ((61, 35, some 49), none, [(1, some (false, 0, 15)), (2, none)], [(66, false, 6, 6)], [], [], (15, [(-1, 0, 1)]))
def at_jt117 : at_J := ((62, 67, some 1), none, [(1, some (false, 0, 16))], [(1, false, 14, 15), (18, false, 2, 4), (18, false, 8, 8)], [], [], (16, [(-1, 0, 1)]))
def at_jt118 : at_J := ((62, 67, some 49), none, [(1, some (false, 0, 16))], [(49, false, 14, 15), (66, false, 2, 4), (66, false, 8, 8)], [], [], (16, [(-1, 0, 1)]))
def at_jt119 : at_J := ((63, 49, some 1), none, [(3, some (false, 0, 2147483647)), (4, none)], [(1, false, 16, 16)], [], [], (2147483647, [(-1, 0, 3)]))
def at_jt120 : at_J := ((63, 49, some 49), none, [(3, some (false, 0, 2147483647)), (4, none)], [(49, false, 16, 16)], [], [], (2147483647, [(-1, 0, 3)]))
def at_jt121 : at_J := ((63, 95, some 1), none, [(3, some (false, 0, 16))], [(1, false, 11, 11), (1, false, 13, 13), (18, false, 2, 4), (18, false, 8, 8)], [], [], (16, [(-1, 0, 3)]))
def at_jt122 : at_J := ((63, 95, some 49), none, [(3, some (false, 0, 16))], [(49, false, 11, 11), (49, false, 13, 13), (66, false, 2, 4), (66, false, 8, 8)], [], [], (16, [(-1, 0, 3)]))
def at_jt123 : at_J := ((64, 8, some 1), none, [(3, some (false, -1, 15)), (4, some (false, -2147483648, 2147483647)), (5, some (false, 0, 16))], [], [], [], (16, [(-1, 0, 5)]))
def at_jt124 : at_J := ((64, 8, some 49), none, [(3, some (false, -1, 15)), (4, some (false, -2147483648, 2147483647)), (5, some (false, 0, 16))], [], [], [], (16, [(-1, 0, 5)]))
def at_jt125 : at_J := ((66, 46, some 1), none, [(2, some (false, 0, 16))], [(18, false, 8, 8), (18, false, 11, 11), (18, false, 14, 17)], [], [], (16, [(-1, 0, 2)]))
def at_jt126 : at_J := ((66, 46, some 49), none, [(2, some (false, 0, 16))], [(66, false, 8, 8), (66, false, 11, 11), (66, false, 14, 17)], [], [], (16, [(-1, 0, 2)]))
def at_jt127 : at_J := ((67, 33, some 1), none, [(3, some (false, 0, 16)), (4, none)], [], [], [], (16, [(-1, 0, 3)]))
def at_jt128 : at_J := ((67, 33, some 49), none, [(3, some (false, 0, 16)), (4, none)], [], [], [], (16, [(-1, 0, 3)]))
def at_jt129 : at_J := ((68, 26, some 1), none, [(2, some (false, -1, 15)), (3, some (false, -1, 15)), (4, some (false, -1, 15)), (5, some (false, -1, 15)), (6, some (false, -1, 15)), (7, none), (8, none)], [], [], [], (1, [(1, 0, 6)]))
def at_jt130 : at_J := ((68, 26, some 49), none, [(2, some (false, -1, 15)), (3, some (false, -1, 15)), (4, some (false, -1, 15)), (5, some (false, -1, 15)), (6, some (false, -1, 15)), (7, none), (8, none)], [], [], [], (1, [(1, 0, 6)]))
def at_jt131 : at_J := ((70, 25, some 1), none, [(1, some (false, 0, 16))], [(18, false, 10, 10), (18, false, 12, 13), (19, false, 2, 2), (20, false, 0, 31), (21, false, 0, 10)], [], [], (16, [(-1, 0, 1)]))
def at_jt132 : at_J := ((70, 25, some 49), none, [(1, some (false, 0, 16))], [(66, false, 10, 10), (66, false, 12, 13), (67, false, 2, 2), (68, false, 0, 31), (69, false, 0, 10)], [], [], (16, [(-1, 0, 1)]))
def at_jt133 : at_J := ((71, 10, some 1), none, [(2, some (false, 0, 8)), (3, none), (4, none), (5, none)], [(4, false, 0, 29)], [], [], (8, [(-1, 0, 2)]))
def at_jt134 : at_J := ((71, 10, some 49), none, [(2, some (false, 0, 8)), (3, none), (4, none), (5, none)], [(52, false, 0, 29)], [], [], (8, [(-1, 0, 2)]))
def at_jt135 : at_J := ((74, 11, some 1), none, [(4, some (false, -2147483648, 2147483647)), (5, some (false, -2147483648, 2147483647)), (6, some (false, 0, 16))], [], [], [], (16, [(-1, 0, 6)]))
def at_jt136 : at_J := ((79, 5, some 3), none, [(2, some (false, -2147483648, 2147483647)), (3, some (false, 0, 7))], [], [], [], (7, [(-1, 0, 3)]))
def at_jt137 : at_J := ((79, 5, some 51), none, [(2, some (false, -2147483648, 2147483647)), (3, some (false, 0, 7))], [], [], [], (7, [(-1, 0, 3)]))
def at_jt138 : at_J := ((82, 4, some 3), none, [(1, some (false, -2147483648, 2147483647)), (2, some (false, 0, 24))], [], [], [], (24, [(-1, 0, 2)]))
def at_jt139 : at_J := ((91, 0, some 19), none, [(1, none)], [(19, false, 2, 2), (20, false, 1, 29), (21, false, 0, 10)], [(some 0, (2, []), 0, 32)], [], (0, [(1, 1, 0)]))
def at_jt140 : at_J := ((91, 0, some 67), none, [(1, none)], [(67, false, 2, 2), (68, false, 1, 29), (69, false, 0, 10)], [(some 0, (2, []), 0, 32)], [], (0, [(1, 1, 0)]))
def at_jt141 : at_J := ((99, 5, some 10), none, [(3, some (false, -2147483648, 2147483647)), (4, some (false, 0, 11)), (5, none)], [(10, false, 3, 3), (11, false, 0, 10), (13, false, 2, 3), (14, false, -69, 140)], [], [], (11, [(-1, 0, 4)]))
def at_jt142 : at_J := ((99, 5, some 58), none, [(3, some (false, -2147483648, 2147483647)), (4, some (false, 0, 11)), (5, none)], [(58, false, 3, 3), (59, false, 0, 10), (61, false, 2, 3), (62, false, -69, 140)], [], [], (11, [(-1, 0, 4)]))
def at_CM : List at_C := [at_qm0, at_qm1, at_qm2, at_qm3, at_qm4, at_qm5, at_qm6, at_qm7, at_qm8, at_qm9, at_qm10, at_qm11, at_qm12, at_qm13]
def at_CA : List at_C := [at_q0, at_q1, at_q2, at_q3, at_q4, at_q5, at_q6, at_q7, at_q8, at_q9, at_q10, at_q11, at_q12, at_q13, at_q14, at_q15, at_q16, at_q17, at_q18, at_q19, at_q20, at_q21, at_q22, at_q23, at_q24, at_q25, at_q26, at_q27, at_q28, at_q29, at_q30, at_q31, at_q32, at_q33, at_q34, at_q35, at_q36, at_q37, at_q38, at_q39, at_q40, at_q41, at_q42, at_q43, at_q44, at_q45, at_q46, at_q47, at_q48, at_q49, at_q50, at_q51, at_q52, at_q53, at_q54, at_q55, at_q56, at_q57, at_q58, at_q59, at_q60, at_q61, at_q62, at_q63, at_q64, at_q65, at_q66, at_q67, at_q68, at_q69, at_q70, at_q71, at_q72, at_q73, at_q74, at_q75, at_q76, at_q77, at_q78, at_q79, at_q80, at_q81, at_q82, at_q83, at_q84, at_q85, at_q86, at_q87, at_q88, at_q89, at_q90, at_q91, at_q92, at_q93, at_q94, at_q95, at_q96, at_q97, at_q98, at_q99, at_q100, at_q101, at_q102, at_q103, at_q104, at_q105, at_q106, at_q107, at_q108, at_q109, at_q110, at_q111, at_q112, at_q113, at_q114, at_q115, at_q116, at_q117, at_q118, at_q119, at_q120, at_q121, at_q122, at_q123, at_q124, at_q125, at_q126, at_q127, at_q128, at_q129, at_q130, at_q131, at_q132, at_q133, at_q134, at_q135, at_q136, at_q137, at_q138, at_q139, at_q140, at_q141, at_q142, at_q143, at_q144, at_q145, at_q146, at_q147, at_q148, at_q149, at_q150, at_q151, at_q152, at_q153, at_q154, at_q155, at_q156, at_q157, at_q158, at_q159, at_q160, at_q161, at_q162, at_q163, at_q164, at_q165, at_q166, at_q167, at_q168, at_q169, at_q170, at_q171, at_q172, at_q173, at_q174, at_q175, at_q176, at_q177, at_q178, at_q179, at_q180, at_q181, at_q182, at_q183, at_q184, at_q185, at_q186, at_q187, at_q188, at_q189, at_q190, at_q191, at_q192, at_q193, at_q194, at_q195, at_q196, at_q197, at_q198, at_q199, at_q200, at_q201, at_q202, at_q203, at_q204, at_q205, at_q206, at_q207, at_q208, at_q209, at_q210, at_q211, at_q212, at_q213, at_q214, at_q215, at_q216, at_q217, at_q218, at_q219, at_q220, at_q221, at_q222, at_q223, at_q224, at_q225, at_q226, at_q227, at_q228, at_q229, at_q230, at_q231, at_q232, at_q233, at_q234, at_q235, at_q236, at_q237, at_q238, at_q239, at_q240, at_q241, at_q242, at_q243, at_q244, at_q245, at_q246, at_q247, at_q248, at_q249, at_q250, at_q251, at_q252, at_q253, at_q254, at_q255, at_q256, at_q257, at_q258, at_q259, at_q260, at_q261, at_q262, at_q263]
def at_JT : List at_J := [at_jt0, at_jt1, at_jt2, at_jt3, at_jt4, at_jt5, at_jt6, at_jt7, at_jt8, at_jt9, at_jt10, at_jt11, at_jt12, at_jt13, at_jt14, at_jt15, at_jt16, at_jt17, at_jt18, at_jt19, at_jt20, at_jt21, at_jt22, at_jt23, at_jt24, at_jt25, at_jt26, at_jt27, at_jt28, at_jt29, at_jt30, at_jt31, at_jt32, at_jt33, at_jt34, at_jt35, at_jt36, at_jt37, at_jt38, at_jt39, at_jt40, at_jt41, at_jt42, at_jt43, at_jt44, at_jt45, at_jt46, at_jt47, at_jt48, at_jt49, at_jt50, at_jt51, at_jt52, at_jt53, at_jt54, at_jt55, at_jt56, at_jt57, at_jt58, at_jt59, at_jt60, at_jt61, at_jt62, at_jt63, at_jt64, at_jt65, at_jt66, at_jt67, at_jt68, at_jt69, at_jt70, at_jt71, at_jt72, at_jt73, at_jt74, at_jt75, at_jt76, at_jt77, at_jt78, at_jt79, at_jt80, at_jt81, at_jt82, at_jt83, at_jt84, at_jt85, at_jt86, at_jt87, at_jt88, at_jt89, at_jt90, at_jt91, at_jt92, at_jt93, at_jt94, at_jt95, at_jt96, at_jt97, at_jt98, at_jt99, at_jt100, at_jt101, at_jt102, at_jt103, at_jt104, at_jt105, at_jt106, at_jt107, at_jt108, at_jt109, at_jt110, at_jt111, at_jt112, at_jt113, at_jt114, at_jt115, at_jt116, at_jt117, at_jt118, at_jt119, at_jt120, at_jt121, at_jt122, at_jt123, at_jt124, at_jt125, at_jt126, at_jt127, at_jt128, at_jt129, at_jt130, at_jt131, at_jt132, at_jt133, at_jt134, at_jt135, at_jt136, at_jt137, at_jt138, at_jt139, at_jt140, at_jt141, at_jt142]

end

/-! 72.loop.lean.txt -/
section
/-! ===== loops: their shape over numbers ===== -/
/-- a template over the machine's own values -/
def at_smt (m : fl_M) (fl : fl_L) (zs : List Int) (t : Int × Nat × Nat) : Int := match t.2.1 with
  | 0 => (match fl[t.2.2]? with
    | some (some (.inl x)) => t.1 * x.toInt
    | some (some (.inr (.inl x))) => t.1 * x.toInt
    | _ => 0)
  | 1 => t.1 * zs.getD t.2.2 0
  | _ => t.1 * at_w m 2
def at_sml (m : fl_M) (fl : fl_L) (zs : List Int) : List (Int × Nat × Nat) → Int
  | [] => 0
  | t :: r => at_smt m fl zs t + at_sml m fl zs r
def at_sm (m : fl_M) (fl : fl_L) (zs : List Int) (t : at_T) : Int := at_sml m fl zs t.2 + t.1
/-- names that stand for numbers -/
def at_vz (ν : Nat → Int) (n : Nat) : List at_A → List Int → Prop
  | [], [] => True
  | a :: r, z :: s => at_wf n a ∧ at_ev ν a = z ∧ at_vz ν n r s
  | _, _ => False
theorem at_vz.get {ν : Nat → Int} {n : Nat} {as_ : List at_A} {zs : List Int} (h : at_vz ν n as_ zs) {k : Nat} {a : at_A} (e : as_[k]? = some a) : at_wf n a ∧ at_ev ν a = zs.getD k 0 := by
  induction as_ generalizing zs k with
  | nil => simp at e
  | cons b r ih =>
    cases zs with
    | nil => cases h
    | cons z s =>
      obtain ⟨h1, h2, h3⟩ := h
      cases k with
      | zero => cases e; exact ⟨h1, h2⟩
      | succ k => exact ih h3 e
theorem at_vz.ag {ν ν' : Nat → Int} {n k : Nat} {as_ : List at_A} {zs : List Int} (h : at_vz ν n as_ zs) (hag : at_ag n ν ν') (hk : n ≤ k) : at_vz ν' k as_ zs := by
  induction as_ generalizing zs with
  | nil => cases zs with
    | nil => exact True.intro
    | cons z s => cases h
  | cons b r ih =>
    cases zs with
    | nil => cases h
    | cons z s =>
      obtain ⟨h1, h2, h3⟩ := h
      exact ⟨h1.mono hk, by rw [at_ev_ag hag h1]; exact h2, ih h3⟩
section ATLP
variable {m : fl_M} {ν ν' : Nat → Int} {n h : Nat} {lv : at_L} {fl : fl_L} {bv : List at_A} {zs : List Int} {nn : Option at_A}
theorem at_tmt_ok (hl : at_LR ν h lv fl) (hw : ∀ a, some a ∈ lv → at_wV n a) (hb : at_vz ν n bv zs) (hn : ∀ a, nn = some a → at_wf n a ∧ at_ev ν a = at_w m 2) {t : Int × Nat × Nat} {a : at_A} (e : at_tmt lv bv nn t = some a) : at_wf n a ∧ at_ev ν a = at_smt m fl zs t := by
  obtain ⟨k, tg, i⟩ := t
  match tg, e with
  | 0, e =>
    replace e : (match lv[i]? with
      | some (some (.inl a)) => some (at_mul k a)
      | some (some (.inr (.inl a))) => some (at_mul k a)
      | _ => none) = some a := e
    show _ ∧ _ = (match fl[i]? with
      | some (some (.inl x)) => k * x.toInt
      | some (some (.inr (.inl x))) => k * x.toInt
      | _ => 0)
    split at e
    · rename_i b eb
      cases e
      obtain ⟨v, e1, x, rfl, ex⟩ := hl.2 i _ eb
      rw [e1]
      refine ⟨at_wf_mul (hw _ (List.mem_of_getElem? eb)), ?_⟩
      rw [at_ev_mul, ← ex]
    · rename_i b eb
      cases e
      obtain ⟨v, e1, x, rfl, ex⟩ := hl.2 i _ eb
      rw [e1]
      refine ⟨at_wf_mul (hw _ (List.mem_of_getElem? eb)), ?_⟩
      rw [at_ev_mul, ← ex]
    · cases e
  | 1, e =>
    replace e : (match bv[i]? with
      | some a => some (at_mul k a)
      | none => none) = some a := e
    show _ ∧ _ = k * zs.getD i 0
    split at e
    · rename_i b eb
      cases e
      obtain ⟨q1, q2⟩ := hb.get eb
      exact ⟨at_wf_mul q1, by rw [at_ev_mul, q2]⟩
    · cases e
  | tg + 2, e =>
    show _ ∧ _ = k * at_w m 2
    cases nn with
    | none =>
      have e : (none : Option at_A) = some a := e
      cases e
    | some b =>
      have e : some (at_mul k b) = some a := e
      cases e
      obtain ⟨q1, q2⟩ := hn b rfl
      exact ⟨at_wf_mul q1, by rw [at_ev_mul, q2]⟩
theorem at_tml_ok (hl : at_LR ν h lv fl) (hw : ∀ a, some a ∈ lv → at_wV n a) (hb : at_vz ν n bv zs) (hn : ∀ a, nn = some a → at_wf n a ∧ at_ev ν a = at_w m 2) {l : List (Int × Nat × Nat)} {a : at_A} (e : at_tml lv bv nn l = some a) : at_wf n a ∧ at_ev ν a = at_sml m fl zs l := by
  induction l generalizing a with
  | nil => cases e; exact ⟨at_wf_c, at_ev_c _ _⟩
  | cons t r ih =>
    unfold at_tml at e
    split at e
    · rename_i b c eb ec
      cases e
      obtain ⟨b1, b2⟩ := at_tmt_ok hl hw hb hn eb
      obtain ⟨c1, c2⟩ := ih ec
      exact ⟨at_wf_add b1 c1, by rw [at_ev_add, b2, c2]; rfl⟩
    · cases e
theorem at_tm_ok (hl : at_LR ν h lv fl) (hw : ∀ a, some a ∈ lv → at_wV n a) (hb : at_vz ν n bv zs) (hn : ∀ a, nn = some a → at_wf n a ∧ at_ev ν a = at_w m 2) {t : at_T} {a : at_A} (e : at_tm lv bv nn t = some a) : at_wf n a ∧ at_ev ν a = at_sm m fl zs t := by
  unfold at_tm at e
  split at e
  · rename_i b eb
    cases e
    obtain ⟨b1, b2⟩ := at_tml_ok hl hw hb hn eb
    exact ⟨at_wf_add b1 at_wf_c, by rw [at_ev_add, at_ev_c, b2]; rfl⟩
  · cases e
/-- the locals that change have values in their ranges -/
def at_hz (fl : fl_L) (q : Nat × Option (Bool × Int × Int)) : Prop := match q.2 with
  | none => True
  | some (false, lo, hi) => ∃ x : Int32, fl[q.1]? = some (some (.inl x)) ∧ lo ≤ x.toInt ∧ x.toInt ≤ hi
  | some (true, lo, hi) => ∃ x : Int64, fl[q.1]? = some (some (.inr (.inl x))) ∧ lo ≤ x.toInt ∧ x.toInt ≤ hi
theorem at_set_LR {a : at_V} {v : fl_V} {i : Nat} (hl : at_LR ν h lv fl) (e : fl[i]? = some (some v)) (hv : at_RV ν h a v) : at_LR ν h (lv.set i (some a)) fl := by
  refine ⟨by rw [List.length_set]; exact hl.1, fun j b eb => ?_⟩
  rcases at_set_get eb with ⟨rfl, h2, -⟩ | ⟨-, h2⟩
  · cases h2
    exact ⟨v, e, hv⟩
  · exact hl.2 j b h2
theorem at_set_none {i : Nat} (hl : at_LR ν h lv fl) : at_LR ν h (lv.set i none) fl := by
  refine ⟨by rw [List.length_set]; exact hl.1, fun j b eb => ?_⟩
  rcases at_set_get eb with ⟨-, h2, -⟩ | ⟨-, h2⟩
  · cases h2
  · exact hl.2 j b h2
theorem at_set_mem {i : Nat} {o : Option at_V} {b : at_V} (hb : some b ∈ lv.set i o) : o = some b ∨ some b ∈ lv := by
  obtain ⟨j, e⟩ := List.getElem?_of_mem hb
  rcases at_set_get e with ⟨-, h2, -⟩ | ⟨-, h2⟩
  · exact Or.inl h2
  · exact Or.inr (List.mem_of_getElem? h2)
theorem at_hv_ok : ∀ (hav : List (Nat × Option (Bool × Int × Int))) (P : at_P) (lv : at_L) (ν : Nat → Int), at_KP ν P → at_LR ν h lv fl → (∀ a, some a ∈ lv → at_wV P.1.length a) → (∀ q ∈ hav, at_hz fl q) → ∃ ν', at_X ν P ν' (at_hv hav P lv).1 ∧ at_LR ν' h (at_hv hav P lv).2 fl ∧ ∀ a, some a ∈ (at_hv hav P lv).2 → at_wV (at_hv hav P lv).1.1.length a := by
  intro hav
  induction hav with
  | nil => intro P lv ν hP hl hw _; exact ⟨ν, at_X.rfl hP, hl, hw⟩
  | cons q r ih =>
    intro P lv ν hP hl hw hz
    obtain ⟨i, o⟩ := q
    have hq := hz (i, o) List.mem_cons_self
    have hr := fun q hq => hz q (List.mem_cons_of_mem _ hq)
    cases o with
    | none => exact ih P lv ν hP hl hw hr
    | some s =>
      obtain ⟨b, lo, hi⟩ := s
      have key : ∀ (v : fl_V) (z : Int), fl[i]? = some (some v) → lo ≤ z → z ≤ hi → (∀ ν', at_ev ν' (at_nv P) = z → at_RV ν' h (bif b then .inr (.inl (at_nv P)) else .inl (at_nv P)) v) → ∃ ν', at_X ν P ν' (at_hv ((i, some (b, lo, hi)) :: r) P lv).1 ∧ at_LR ν' h (at_hv ((i, some (b, lo, hi)) :: r) P lv).2 fl ∧ ∀ a, some a ∈ (at_hv ((i, some (b, lo, hi)) :: r) P lv).2 → at_wV (at_hv ((i, some (b, lo, hi)) :: r) P lv).1.1.length a := by
        intro v z e h1 h2 hv
        obtain ⟨ν1, hx, hw1, he1⟩ := at_new_X hP h1 h2
        have hl1 : at_LR ν1 h (lv.set i (some (bif b then .inr (.inl (at_nv P)) else .inl (at_nv P)))) fl := at_set_LR (hl.ag hw hx.1 (Nat.le_refl _)) e (hv ν1 he1)
        obtain ⟨ν2, hx2, hl2, hw2⟩ := ih (at_new P lo hi) _ ν1 hx.2.2 hl1 (fun a ha => by
          rcases at_set_mem ha with h | h
          · cases h
            cases b <;> exact hw1
          · exact (hw a h).mono hx.2.1) hr
        exact ⟨ν2, hx.trans hx2, hl2, hw2⟩
      cases b with
      | false =>
        obtain ⟨x, e, h1, h2⟩ := hq
        exact key _ x.toInt e h1 h2 (fun ν' he => ⟨x, rfl, he.symm⟩)
      | true =>
        obtain ⟨x, e, h1, h2⟩ := hq
        exact key _ x.toInt e h1 h2 (fun ν' he => ⟨x, rfl, he.symm⟩)
/-- the named words have values in their ranges -/
def at_bz : List (Option Nat × at_T × Int × Int) → List Int → Prop
  | [], [] => True
  | b :: r, z :: s => (b.2.2.1 ≤ z ∧ z ≤ b.2.2.2) ∧ at_bz r s
  | _, _ => False
theorem at_bh_ok : ∀ (bnd : List (Option Nat × at_T × Int × Int)) (zs : List Int) (P : at_P) (ν : Nat → Int), at_KP ν P → at_bz bnd zs → ∃ ν', at_X ν P ν' (at_bh bnd P).1 ∧ at_vz ν' (at_bh bnd P).1.1.length (at_bh bnd P).2 zs := by
  intro bnd
  induction bnd with
  | nil =>
    intro zs P ν hP hz
    cases zs with
    | nil => exact ⟨ν, at_X.rfl hP, True.intro⟩
    | cons z s => cases hz
  | cons b r ih =>
    intro zs P ν hP hz
    cases zs with
    | nil => cases hz
    | cons z s =>
      obtain ⟨⟨h1, h2⟩, h3⟩ := hz
      obtain ⟨ν1, hx, hw1, he1⟩ := at_new_X hP h1 h2
      obtain ⟨ν2, hx2, hv2⟩ := ih s (at_new P b.2.2.1 b.2.2.2) ν1 hx.2.2 h3
      exact ⟨ν2, hx.trans hx2, hw1.mono hx2.2.1, by rw [at_ev_ag hx2.1 hw1]; exact he1, hv2⟩
theorem at_cons_ok : ∀ (ts : List at_T) (P P' : at_P), at_KP ν P → (∀ t ∈ ts, at_sm m fl zs t ≤ 0) → at_LR ν h lv fl → (∀ a, some a ∈ lv → at_wV P.1.length a) → at_vz ν P.1.length bv zs → (∀ a, nn = some a → at_wf P.1.length a ∧ at_ev ν a = at_w m 2) → at_cons lv bv nn ts P = some P' → at_X ν P ν P' ∧ P'.1.length = P.1.length := by
  intro ts
  induction ts with
  | nil => intro P P' hP _ _ _ _ _ e; cases e; exact ⟨at_X.rfl hP, rfl⟩
  | cons t r ih =>
    intro P P' hP ht hl hw hb hn e
    unfold at_cons at e
    split at e
    · rename_i a ea
      obtain ⟨q1, q2⟩ := at_tm_ok hl hw hb hn ea
      obtain ⟨P1, e1, x1, l1⟩ := at_as_X hP q1 (by rw [q2]; exact ht t List.mem_cons_self)
      rw [e1] at e
      obtain ⟨x2, l2⟩ := ih P1 P' x1.2.2 (fun t' ht' => ht t' (List.mem_cons_of_mem _ ht')) hl (by rw [l1]; exact hw) (by rw [l1]; exact hb) (by rw [l1]; exact hn) e
      exact ⟨x1.trans x2, by rw [l2, l1]⟩
    · cases e
end ATLP

end

/-! 73.fit.lean.txt -/
section
/-! ===== a state that has a loop's shape ===== -/
theorem at_ffl_ok {ν : Nat → Int} {m : fl_M} {n t p i : Nat} {pl idx v : at_A} (ep : at_ev ν pl = p) (ei : at_ev ν idx = i) : ∀ fs : List at_F, (∀ f ∈ fs, at_FT ν m f ∧ at_FW n f) → at_ff fs t pl idx = some v → at_ev ν v = (m.1 p i).toInt ∧ at_wf n v := by
  intro fs
  induction fs with
  | nil => intro _ e; cases e
  | cons f r ih =>
    intro hf e
    unfold at_ff at e
    cases hb : Nat.beq f.1 t && (at_eq f.2.1 pl && at_eq f.2.2.1 idx) with
    | false => rw [hb] at e; exact ih (fun g hg => hf g (List.mem_cons_of_mem _ hg)) e
    | true =>
      rw [hb] at e
      cases e
      simp only [Bool.and_eq_true] at hb
      obtain ⟨-, b2, b3⟩ := hb
      obtain ⟨⟨p', i', e1, e2, e3, e4⟩, w1, w2, w3⟩ := hf f List.mem_cons_self
      rw [at_eq_ok b2, ep] at e1
      rw [at_eq_ok b3, ei] at e2
      have e1 : p = p' := by omega
      have e2 : i = i' := by omega
      subst e1 e2
      exact ⟨e4.symm, w3⟩
/-- the named words hold these numbers -/
def at_lz (ν : Nat → Int) (n : Nat) (m : fl_M) : List (Nat × at_A × at_A) → List Int → Prop
  | [], [] => True
  | q :: r, z :: s => (∃ p i : Nat, at_wf n q.2.1 ∧ at_wf n q.2.2 ∧ at_ev ν q.2.1 = p ∧ at_ev ν q.2.2 = i ∧ fk_K p = q.1 ∧ (m.1 p i).toInt = z) ∧ at_lz ν n m r s
  | _, _ => False
/-- how a loop's start is laid over its base -/
def at_AO (P2 : at_P) (wr2 : List at_W) (brk2 : List (Nat × at_A)) (A : at_Ac) : Prop :=
  ∃ P3, at_cons (at_hv A.2.1.2.2.1 P2 A.2.2.1).2 (at_bh A.2.1.2.2.2.2.1 (at_hv A.2.1.2.2.1 P2 A.2.2.1).1).2 (at_nF A.2.2.2.1) A.2.1.2.2.2.2.2.1 (at_bh A.2.1.2.2.2.2.1 (at_hv A.2.1.2.2.1 P2 A.2.2.1).1).1 = some P3 ∧
    at_tm (at_hv A.2.1.2.2.1 P2 A.2.2.1).2 (at_bh A.2.1.2.2.2.2.1 (at_hv A.2.1.2.2.1 P2 A.2.2.1).1).2 (at_nF A.2.2.2.1) A.2.1.2.2.2.2.2.2 = some A.2.2.2.2.2.2.2 ∧
    A.2.2.2.2.1 = (P3, (A.2.2.2.2.2.2.1.zip (at_bh A.2.1.2.2.2.2.1 (at_hv A.2.1.2.2.1 P2 A.2.2.1).1).2).map (fun q => (q.1.1, q.1.2.1, q.1.2.2, q.2)) ++ A.2.2.2.1, A.2.1.2.2.2.1 ++ wr2, brk2) ∧
    A.2.2.2.2.2.1 = (at_hv A.2.1.2.2.1 P2 A.2.2.1).2
def at_Ft (X : fl_M → Prop) (m0 : fl_M) (h0 : Nat) (P2 : at_P) (wr2 : List at_W) (brk2 : List (Nat × at_A)) (A : at_Ac) (ν : Nat → Int) (m : fl_M) (fl : fl_L) (zs : List Int) : Prop :=
  h0 ≤ m.2.2 ∧ at_KP ν P2 ∧ at_LR ν m.2.2 A.2.2.1 fl ∧ (∀ a, some a ∈ A.2.2.1 → at_wV P2.1.length a) ∧ (∀ f ∈ A.2.2.2.1, at_FT ν m f ∧ at_FW P2.1.length f) ∧ (∀ b ∈ brk2, at_wf P2.1.length b.2) ∧ at_RG m ∧ at_RL ν brk2 m ∧ X m ∧ at_MD m0 m (A.2.1.2.2.2.1 ++ wr2) ∧ (∀ q ∈ A.2.1.2.2.1, at_hz fl q) ∧ at_bz A.2.1.2.2.2.2.1 zs ∧ at_lz ν P2.1.length m A.2.2.2.2.2.2.1 zs ∧ ∀ t ∈ A.2.1.2.2.2.2.2.1, at_sm m fl zs t ≤ 0
theorem at_lz_facts {ν ν' : Nat → Int} {n k : Nat} {m : fl_M} (hag : at_ag n ν ν') (hk : n ≤ k) : ∀ (locs : List (Nat × at_A × at_A)) (zs : List Int) (bv : List at_A), at_lz ν n m locs zs → at_vz ν' k bv zs → ∀ f ∈ (locs.zip bv).map (fun q => ((q.1.1, q.1.2.1, q.1.2.2, q.2) : at_F)), at_FT ν' m f ∧ at_FW k f := by
  intro locs
  induction locs with
  | nil => intro zs bv _ _ f hf; simp at hf
  | cons q r ih =>
    intro zs bv hl hb f hf
    cases zs with
    | nil => cases hl
    | cons z s =>
      cases bv with
      | nil => cases hb
      | cons b bs =>
        obtain ⟨⟨p, i, w1, w2, e1, e2, e3, e4⟩, h2⟩ := hl
        obtain ⟨b1, b2, b3⟩ := hb
        rw [List.zip_cons_cons, List.map_cons] at hf
        rcases List.mem_cons.mp hf with rfl | hf
        · exact ⟨⟨p, i, by rw [at_ev_ag hag w1]; exact e1, by rw [at_ev_ag hag w2]; exact e2, e3, by rw [e4, b2]⟩, w1.mono hk, w2.mono hk, b1⟩
        · exact ih s bs h2 b3 f hf
theorem at_fit_ok {X : fl_M → Prop} {m0 : fl_M} {h0 : Nat} {P2 : at_P} {wr2 : List at_W} {brk2 : List (Nat × at_A)} {A : at_Ac} {ν : Nat → Int} {m : fl_M} {fl : fl_L} {zs : List Int} (hA : at_AO P2 wr2 brk2 A) (h : at_Ft X m0 h0 P2 wr2 brk2 A ν m fl zs) : ∃ ν', at_ag P2.1.length ν ν' ∧ P2.1.length ≤ A.2.2.2.2.1.1.1.length ∧ at_G X m0 m ν' A.2.2.2.2.1 A.2.2.2.2.2.1 [] fl [] ∧ at_wf A.2.2.2.2.1.1.1.length A.2.2.2.2.2.2.2 ∧ at_ev ν' A.2.2.2.2.2.2.2 = at_sm m fl zs A.2.1.2.2.2.2.2.2 := by
  obtain ⟨k0, k1, k2, k3, k4, k5, k6, k7, k8, k9, k10, k11, k12, k13⟩ := h
  obtain ⟨P3, a1, a2, a3, a4⟩ := hA
  obtain ⟨ν3, x3, l3, w3⟩ := at_hv_ok A.2.1.2.2.1 P2 A.2.2.1 ν k1 k2 k3 k10
  obtain ⟨ν4, x4, v4⟩ := at_bh_ok A.2.1.2.2.2.2.1 zs _ ν3 x3.2.2 k11
  have x34 := x3.trans x4
  have hn : ∀ a, at_nF A.2.2.2.1 = some a → at_wf (at_bh A.2.1.2.2.2.2.1 (at_hv A.2.1.2.2.1 P2 A.2.2.1).1).1.1.length a ∧ at_ev ν4 a = at_w m 2 := by
    intro a ea
    obtain ⟨q1, q2⟩ := at_ffl_ok (p := 280) (i := 2) (n := P2.1.length) (m := m) (ν := ν) (at_ev_c _ _) (at_ev_c _ _) A.2.2.2.1 k4 ea
    exact ⟨q2.mono x34.2.1, by rw [at_ev_ag x34.1 q2]; exact q1⟩
  have l4 := l3.ag w3 x4.1 (Nat.le_refl m.2.2)
  have w4 : ∀ a, some a ∈ (at_hv A.2.1.2.2.1 P2 A.2.2.1).2 → at_wV (at_bh A.2.1.2.2.2.2.1 (at_hv A.2.1.2.2.1 P2 A.2.2.1).1).1.1.length a := fun a ha => (w3 a ha).mono x4.2.1
  obtain ⟨x5, e5⟩ := at_cons_ok A.2.1.2.2.2.2.2.1 _ P3 x4.2.2 k13 l4 w4 v4 hn a1
  obtain ⟨t1, t2⟩ := at_tm_ok l4 w4 v4 hn a2
  have hlen : A.2.2.2.2.1.1.1.length = (at_bh A.2.1.2.2.2.2.1 (at_hv A.2.1.2.2.1 P2 A.2.2.1).1).1.1.length := by rw [a3]; exact e5
  refine ⟨ν4, x34.1, by rw [hlen]; exact x34.2.1, ?_, by rw [hlen]; exact t1, t2⟩
  rw [a4]
  unfold at_G
  rw [hlen]
  refine ⟨?_, l4, w4, True.intro, fun a ha => by cases ha⟩
  rw [a3]
  refine ⟨x5.2.2, ?_, ?_, k6, k7.ag x34.1 k5, k8, k9⟩
  · dsimp only
    rw [e5]
    intro f hf
    rcases List.mem_append.mp hf with hf | hf
    · exact at_lz_facts x34.1 x34.2.1 _ zs _ k12 v4 f hf
    · obtain ⟨⟨p, i, e1, e2, e3, e4⟩, q1, q2, q3⟩ := k4 f hf
      exact ⟨⟨p, i, by rw [at_ev_ag x34.1 q1]; exact e1, by rw [at_ev_ag x34.1 q2]; exact e2, e3, by rw [at_ev_ag x34.1 q3]; exact e4⟩, q1.mono x34.2.1, q2.mono x34.2.1, q3.mono x34.2.1⟩
  · dsimp only
    rw [e5]
    exact fun b hb => (k5 b hb).mono x34.2.1
/-! into a loop -/
theorem at_hc1_ok {ν : Nat → Int} {P : at_P} {h : Nat} {lv : at_L} {fl : fl_L} (hP : at_GP ν P) (hl : at_LR ν h lv fl) {q : Nat × Option (Bool × Int × Int)} (e : at_hc1 P lv q = true) : at_hz fl q := by
  obtain ⟨i, o⟩ := q
  unfold at_hc1 at e
  unfold at_hz
  cases o with
  | none => exact True.intro
  | some s =>
    obtain ⟨b, lo, hi⟩ := s
    dsimp only at e
    split at e
    · rename_i a ea
      obtain ⟨v, e1, x, rfl, ex⟩ := hl.2 i _ ea
      simp only [Bool.and_eq_true, Bool.not_eq_true'] at e
      obtain ⟨rfl, e⟩ := e
      obtain ⟨k1, k2⟩ := at_inR_ok hP e
      exact ⟨x, e1, by omega, by omega⟩
    · rename_i a ea
      obtain ⟨v, e1, x, rfl, ex⟩ := hl.2 i _ ea
      simp only [Bool.and_eq_true] at e
      obtain ⟨rfl, e⟩ := e
      obtain ⟨k1, k2⟩ := at_inR_ok hP e
      exact ⟨x, e1, by omega, by omega⟩
    · cases e
theorem at_er_ok {ν : Nat → Int} {h n : Nat} {fl : fl_L} : ∀ (hav : List (Nat × Option (Bool × Int × Int))) (lv : at_L), at_LR ν h lv fl → (∀ a, some a ∈ lv → at_wV n a) → at_LR ν h (at_er hav lv) fl ∧ ∀ a, some a ∈ at_er hav lv → at_wV n a := by
  intro hav
  induction hav with
  | nil => intro lv hl hw; exact ⟨hl, hw⟩
  | cons q r ih =>
    intro lv hl hw
    exact ih (lv.set q.1 none) (at_set_none hl) (fun a ha => by
      rcases at_set_mem ha with h | h
      · cases h
      · exact hw a h)
theorem at_ckc_ok {ν : Nat → Int} {P : at_P} {h : Nat} {m : fl_M} {lv : at_L} {fl : fl_L} {bv : List at_A} {zs : List Int} {nn : Option at_A} (hP : at_KP ν P) (hl : at_LR ν h lv fl) (hw : ∀ a, some a ∈ lv → at_wV P.1.length a) (hb : at_vz ν P.1.length bv zs) (hn : ∀ a, nn = some a → at_wf P.1.length a ∧ at_ev ν a = at_w m 2) {ts : List at_T} (e : at_ckc P lv bv nn ts = true) : ∀ t ∈ ts, at_sm m fl zs t ≤ 0 := by
  intro t ht
  have := List.all_eq_true.mp e t ht
  split at this
  · rename_i a ea
    obtain ⟨q1, q2⟩ := at_tm_ok hl hw hb hn ea
    rw [← q2]
    exact at_le_ok hP.1 this
  · cases this

end

/-! 74.enter.lean.txt -/
section
/-! ===== into a loop, back at its head ===== -/
section ATEN
variable {X : fl_M → Prop} {m0 m : fl_M} {ν ν' : Nat → Int} {S : at_S} {lv : at_L} {fl : fl_L}
theorem at_bl_ok : ∀ (bnd : List (Option Nat × at_T × Int × Int)) (S : at_S) (ν : Nat → Int) (S2 : at_S) (locs : List (Nat × at_A × at_A)) (vals : List at_A), at_GS X m0 m ν S → at_LR ν m.2.2 lv fl → (∀ a, some a ∈ lv → at_wV S.1.1.length a) → at_bl S lv bnd = some (S2, locs, vals) → ∃ ν' zs, at_ag S.1.1.length ν ν' ∧ S.1.1.length ≤ S2.1.1.length ∧ at_GS X m0 m ν' S2 ∧ S2.2.2 = S.2.2 ∧ at_bz bnd zs ∧ at_lz ν' S2.1.1.length m locs zs ∧ at_vz ν' S2.1.1.length vals zs := by
  intro bnd
  induction bnd with
  | nil =>
    intro S ν S2 locs vals h hl hw e
    cases e
    exact ⟨ν, [], at_ag.rfl, Nat.le_refl _, h, rfl, True.intro, True.intro, True.intro⟩
  | cons b r ih =>
    intro S ν S2 locs vals h hl hw e
    unfold at_bl at e
    split at e
    · rename_i ix q eix eq
      obtain ⟨hb, e⟩ := am_bif e
      obtain ⟨wi, vi⟩ := at_tm_ok (m := m) (zs := []) hl hw (show at_vz ν _ [] [] from True.intro) (fun a ha => by cases ha) eix
      have hi := at_nn_ok h.1.1 hb
      obtain ⟨i, ei⟩ : ∃ i : Nat, at_ev ν ix = i := ⟨(at_ev ν ix).toNat, by omega⟩
      have hq : ∃ p : Nat, at_wf S.1.1.length q.2 ∧ at_ev ν q.2 = p ∧ fk_K p = q.1 ∧ p < fl_N m.2.2 := by
        split at eq
        · cases eq
          exact ⟨280, at_wf_c, at_ev_c _ _, at_K280, at_280 _⟩
        · split at eq
          · rename_i q' eq'
            cases eq
            obtain ⟨v, e1, p, -, e2, e3, e4⟩ := hl.2 _ _ eq'
            exact ⟨p, hw _ (List.mem_of_getElem? eq'), e2, e3, e4⟩
          · cases eq
      obtain ⟨p, wq, ep, hk, hp⟩ := hq
      obtain ⟨ν1, ag1, le1, g1, w1, e1, same1⟩ := at_ld_ok h wq wi ep ei hk hp
      dsimp only at e
      obtain ⟨hr, e⟩ := am_bif e
      obtain ⟨r1, r2⟩ := at_inR_ok g1.1.1 hr
      split at e
      · rename_i z ez
        cases e
        obtain ⟨z1, z2, z3⟩ := z
        obtain ⟨ν2, zs, ag2, le2, g2, same2, bz2, lz2, vz2⟩ := ih _ ν1 z1 z2 z3 g1 (hl.ag hw ag1 (Nat.le_refl _)) (fun a ha => (hw a ha).mono le1) ez
        refine ⟨ν2, (m.1 p i).toInt :: zs, ag1.trans ag2 le1, Nat.le_trans le1 le2, g2, same2.trans same1, ⟨⟨by omega, by omega⟩, bz2⟩, ⟨⟨p, i, (wq.mono le1).mono le2, (wi.mono le1).mono le2, ?_, ?_, hk, rfl⟩, lz2⟩, ⟨w1.mono le2, ?_, vz2⟩⟩
        · dsimp only; rw [at_ev_ag ag2 (wq.mono le1), at_ev_ag ag1 wq]; exact ep
        · dsimp only; rw [at_ev_ag ag2 (wi.mono le1), at_ev_ag ag1 wi]; exact ei
        · rw [at_ev_ag ag2 w1]; exact e1
      · cases e
    · cases e
theorem at_enter_ok {j : at_J} {SJ : at_S} {lvJ : at_L} {A : at_Ac} (h : at_G X m0 m ν S lv [] fl []) (e : at_enter S lv j = some (SJ, lvJ, A)) : ∃ P2 wr2 brk2 ν2 zs, at_ag S.1.1.length ν ν2 ∧ S.1.1.length ≤ P2.1.length ∧ at_AO P2 wr2 brk2 A ∧ at_Ft X m0 m.2.2 P2 wr2 brk2 A ν2 m fl zs ∧ A.1 = j.1.2.1 ∧ SJ = A.2.2.2.2.1 ∧ lvJ = A.2.2.2.2.2.1 := by
  obtain ⟨ν1, ag1, le1, g1, w1, e1, same1⟩ := at_cs_ok h.1
  unfold at_enter at e
  have hl1 := h.2.1.ag h.2.2.1 ag1 (Nat.le_refl m.2.2)
  have hw1 : ∀ a, some a ∈ lv → at_wV (at_cs S).1.1.1.length a := fun a ha => (h.2.2.1 a ha).mono le1
  split at e
  · cases e
  · rename_i S2 locs vals ebl
    obtain ⟨ν2, zs, ag2, le2, g2, same2, bz2, lz2, vz2⟩ := at_bl_ok _ _ ν1 S2 locs vals g1 hl1 hw1 ebl
    obtain ⟨hb, e⟩ := am_bif e
    simp only [Bool.and_eq_true] at hb
    obtain ⟨hb1, hb2⟩ := hb
    have hl2 := hl1.ag hw1 ag2 (Nat.le_refl m.2.2)
    have hw2 : ∀ a, some a ∈ lv → at_wV S2.1.1.length a := fun a ha => (hw1 a ha).mono le2
    have hn : ∀ a, at_nF S2.2.1 = some a → at_wf S2.1.1.length a ∧ at_ev ν2 a = at_w m 2 := by
      intro a ea
      obtain ⟨q1, q2⟩ := at_ffl_ok (p := 280) (i := 2) (n := S2.1.1.length) (m := m) (ν := ν2) (at_ev_c _ _) (at_ev_c _ _) S2.2.1 g2.2.1 ea
      exact ⟨q2, q1⟩
    have hc := at_ckc_ok g2.1 hl2 hw2 vz2 hn hb2
    dsimp only at e
    split at e
    · rename_i P3 me e3 e4
      cases e
      obtain ⟨er1, er2⟩ := at_er_ok j.2.2.1 lv hl2 hw2
      refine ⟨S2.1, S2.2.2.1, S2.2.2.2, ν2, zs, ag1.trans ag2 le1, Nat.le_trans le1 le2, ⟨P3, e3, e4, rfl, rfl⟩, ?_, rfl, rfl, rfl⟩
      refine ⟨Nat.le_refl _, g2.1, er1, er2, fun f hf => g2.2.1 f (List.mem_filter.mp hf).1, g2.2.2.1, g2.2.2.2.1, g2.2.2.2.2.1, g2.2.2.2.2.2.1, ?_, fun q hq => at_hc1_ok g2.1.1 hl2 (List.all_eq_true.mp hb1 q hq), bz2, lz2, hc⟩
      refine ⟨g2.2.2.2.2.2.2.1, fun p i hne => ?_⟩
      obtain ⟨w, hw, hcv⟩ := g2.2.2.2.2.2.2.2 p i hne
      exact ⟨w, List.mem_append_right _ hw, hcv⟩
    · cases e
theorem at_cvW_ok {w w' : at_W} {t : Nat} {i : Int} (e : at_cvW w w' = true) (h : at_cv w t i) : at_cv w' t i := by
  obtain ⟨a1, a2, a3, a4⟩ := w
  obtain ⟨b1, b2, b3, b4⟩ := w'
  unfold at_cvW at e
  unfold at_cv at h ⊢
  simp only [Bool.and_eq_true] at e
  obtain ⟨e1, e2⟩ := e
  have e1 := Nat.eq_of_beq_eq_true e1
  dsimp only at e1 e2 h ⊢
  subst e1
  refine ⟨h.1, ?_⟩
  have h := h.2
  cases b2 with
  | true =>
    simp only [cond_true, Bool.and_eq_true, decide_eq_true_eq] at e2
    obtain ⟨rfl, e3, e4⟩ := e2
    rw [if_pos rfl] at h ⊢
    obtain ⟨o, o1, o2, o3, o4⟩ := h
    exact ⟨o, o1, o2, by omega, by omega⟩
  | false =>
    rw [if_neg (by decide)]
    cases a2 with
    | true =>
      simp only [cond_true, cond_false, Bool.and_eq_true, decide_eq_true_eq] at e2
      rw [if_pos rfl] at h
      obtain ⟨o, o1, o2, o3, o4⟩ := h
      omega
    | false =>
      simp only [cond_false, Bool.and_eq_true, decide_eq_true_eq] at e2
      rw [if_neg (by decide)] at h
      omega
theorem at_eqV_ok {a b : at_V} (e : at_eqV a b = true) : a = b := by
  unfold at_eqV at e
  split at e
  · rw [at_eq_ok e]
  · rw [at_eq_ok e]
  · rename_i p q
    simp only [Bool.and_eq_true] at e
    obtain ⟨p1, p2⟩ := p
    obtain ⟨q1, q2⟩ := q
    have e1 : p1 = q1 := Nat.eq_of_beq_eq_true e.1
    have e2 : p2 = q2 := at_eq_ok e.2
    rw [e1, e2]
  · rw [Nat.eq_of_beq_eq_true e]
  · rw [at_eq_ok e]
  · cases e
theorem at_un_ok : ∀ {l0 l : at_L}, at_un l0 l = true → l0.length = l.length ∧ ∀ (i : Nat) (a : at_V), l0[i]? = some (some a) → l[i]? = some (some a) := by
  intro l0
  induction l0 with
  | nil =>
    intro l e
    cases l with
    | nil => exact ⟨rfl, fun i a h => by simp at h⟩
    | cons b s => cases e
  | cons a r ih =>
    intro l e
    cases l with
    | nil => cases a <;> cases e
    | cons b s =>
      cases a with
      | none =>
        obtain ⟨h1, h2⟩ := ih (show at_un r s = true from e)
        refine ⟨by simp [h1], fun i c hc => ?_⟩
        cases i with
        | zero => cases hc
        | succ i => exact h2 i c hc
      | some a =>
        cases b with
        | none => cases e
        | some b =>
          have e : (at_eqV a b && at_un r s) = true := e
          simp only [Bool.and_eq_true] at e
          obtain ⟨h1, h2⟩ := ih e.2
          have hab := at_eqV_ok e.1
          subst hab
          refine ⟨by simp [h1], fun i c hc => ?_⟩
          cases i with
          | zero => exact hc
          | succ i => exact h2 i c hc
theorem at_eqF_ok {f g : at_F} (e : at_eqF f g = true) : f = g := by
  obtain ⟨f1, f2, f3, f4⟩ := f
  obtain ⟨g1, g2, g3, g4⟩ := g
  unfold at_eqF at e
  simp only [Bool.and_eq_true] at e
  obtain ⟨e1, e2, e3, e4⟩ := e
  have e1 := Nat.eq_of_beq_eq_true e1
  have e2 := at_eq_ok e2
  have e3 := at_eq_ok e3
  have e4 := at_eq_ok e4
  rw [e1, e2, e3, e4]
/-- the named words, where they are now -/
theorem at_bvs_ok {n k : Nat} {ν2 : Nat → Int} {m' : fl_M} (hag : at_ag n ν2 ν) : ∀ (locs : List (Nat × at_A × at_A)) (zs' : List Int) (fs : List at_F) (vals : List at_A), (∀ f ∈ fs, at_FT ν m f ∧ at_FW k f) → at_lz ν2 n m' locs zs' → at_bvs fs locs = some vals → ∃ zs, at_lz ν2 n m locs zs ∧ at_vz ν k vals zs ∧ zs.length = zs'.length := by
  intro locs
  induction locs with
  | nil =>
    intro zs' fs vals hf hl e
    cases e
    cases zs' with
    | nil => exact ⟨[], True.intro, True.intro, rfl⟩
    | cons z s => cases hl
  | cons q r ih =>
    intro zs' fs vals hf hl e
    cases zs' with
    | nil => cases hl
    | cons z s =>
      obtain ⟨⟨p, i, w1, w2, e1, e2, e3, e4⟩, h2⟩ := hl
      unfold at_bvs at e
      split at e
      · rename_i v vs ev evs
        cases e
        obtain ⟨zs, q1, q2, q3⟩ := ih s fs vs hf h2 evs
        obtain ⟨f1, f2⟩ := at_ffl_ok (p := p) (i := i) (n := k) (m := m) (ν := ν) (by rw [at_ev_ag hag w1]; exact e1) (by rw [at_ev_ag hag w2]; exact e2) fs hf ev
        exact ⟨(m.1 p i).toInt :: zs, ⟨⟨p, i, w1, w2, e1, e2, e3, rfl⟩, q1⟩, ⟨f2, f1, q2⟩, by simp [q3]⟩
      · cases e
theorem at_bz_ok {k : Nat} {P : at_P} (hP : at_GP ν P) : ∀ (vals : List at_A) (zs zs' : List Int) (bnd : List (Option Nat × at_T × Int × Int)), at_vz ν k vals zs → at_bz bnd zs' → zs.length = zs'.length → (vals.zip bnd).all (fun q => at_inR P q.1 q.2.2.2.1 q.2.2.2.2) = true → at_bz bnd zs := by
  intro vals
  induction vals with
  | nil =>
    intro zs zs' bnd hv hb hl _
    cases zs with
    | nil =>
      cases zs' with
      | nil => exact hb
      | cons z s => cases hl
    | cons z s => cases hv
  | cons v r ih =>
    intro zs zs' bnd hv hb hl e
    cases zs with
    | nil => cases hv
    | cons z s =>
      cases zs' with
      | nil => cases hl
      | cons z' s' =>
        cases bnd with
        | nil => cases hb
        | cons b bs =>
          rw [List.zip_cons_cons, List.all_cons, Bool.and_eq_true] at e
          obtain ⟨k1, k2⟩ := at_inR_ok hP e.1
          obtain ⟨v1, v2, v3⟩ := hv
          exact ⟨⟨by rw [← v2]; exact k1, by rw [← v2]; exact k2⟩, ih s s' bs v3 hb.2 (by simpa using hl) e.2⟩
theorem at_back_ok {h0 : Nat} {P2 : at_P} {wr2 : List at_W} {brk2 : List (Nat × at_A)} {A : at_Ac} {ν2 : Nat → Int} {m' : fl_M} {fl' : fl_L} {zs' : List Int} (hA : at_AO P2 wr2 brk2 A) (hF : at_Ft X m0 h0 P2 wr2 brk2 A ν2 m' fl' zs') (hag : at_ag P2.1.length ν2 ν) (h : at_G X m0 m ν S lv [] fl []) (hh : h0 ≤ m.2.2) (e : at_bck S lv A = true) : ∃ zs, at_Ft X m0 h0 P2 wr2 brk2 A ν2 m fl zs ∧ at_sm m fl zs A.2.1.2.2.2.2.2.2 ≤ at_ev ν A.2.2.2.2.2.2.2 - 1 ∧ 1 ≤ at_ev ν A.2.2.2.2.2.2.2 := by
  obtain ⟨k0, k1, k2, k3, k4, k5, k6, k7, k8, k9, k10, k11, k12, k13⟩ := hF
  obtain ⟨P3, a1, a2, a3, a4⟩ := hA
  unfold at_bck at e
  dsimp only at e
  split at e
  · cases e
  · rename_i vals ev
    simp only [Bool.and_eq_true] at e
    obtain ⟨e1, e2, e3, e4, e5, e6, e7, e8⟩ := e
    have hK := h.1.1
    obtain ⟨zs, q1, q2, q3⟩ := at_bvs_ok (m := m) hag _ zs' _ vals h.1.2.1 k12 ev
    have hn : ∀ a, at_nF S.2.1 = some a → at_wf S.1.1.length a ∧ at_ev ν a = at_w m 2 := by
      intro a ea
      obtain ⟨t1, t2⟩ := at_ffl_ok (p := 280) (i := 2) (n := S.1.1.length) (m := m) (ν := ν) (at_ev_c _ _) (at_ev_c _ _) S.2.1 h.1.2.1 ea
      exact ⟨t2, t1⟩
    have hc := at_ckc_ok hK h.2.1 h.2.2.1 q2 hn e4
    split at e8
    · rename_i me eme
      simp only [Bool.and_eq_true] at e8
      obtain ⟨t1, t2⟩ := at_tm_ok h.2.1 h.2.2.1 q2 hn eme
      have s1 := at_le_ok hK.1 e8.1
      have s2 := at_le_ok hK.1 e8.2
      rw [at_ev_sub, at_ev_c] at s1
      rw [at_ev_add, at_ev_sub, at_ev_c, t2] at s2
      refine ⟨zs, ⟨hh, k1, ?_, k3, ?_, k5, h.1.2.2.2.1, ?_, h.1.2.2.2.2.2.1, ?_, fun q hq => at_hc1_ok hK.1 h.2.1 (List.all_eq_true.mp e1 q hq), at_bz_ok hK.1 vals zs zs' _ q2 k11 q3 e3, q1, hc⟩, by omega, by omega⟩
      · obtain ⟨u1, u2⟩ := at_un_ok e2
        refine ⟨u1.trans h.2.1.1, fun i a ea => ?_⟩
        obtain ⟨v, v1, v2⟩ := h.2.1.2 i a (u2 i a ea)
        exact ⟨v, v1, at_RV.ag v2 (k3 a (List.mem_of_getElem? ea)) (fun x hx => (hag x hx).symm) (Nat.le_refl _)⟩
      · intro f hf
        obtain ⟨g, hg, eg⟩ := List.any_eq_true.mp (List.all_eq_true.mp e5 f hf)
        have eg := at_eqF_ok eg
        subst eg
        obtain ⟨p, i, c1, c2, c3, c4⟩ := (h.1.2.1 f hg).1
        obtain ⟨w1, w2, w3⟩ := (k4 f hf).2
        exact ⟨⟨p, i, by rw [← at_ev_ag hag w1]; exact c1, by rw [← at_ev_ag hag w2]; exact c2, c3, by rw [← at_ev_ag hag w3]; exact c4⟩, w1, w2, w3⟩
      · have hsub : ∀ b ∈ S.2.2.2, b ∈ brk2 := fun b hb => by
          have := at_hb_ok (List.all_eq_true.mp e7 b hb)
          rw [a3] at this
          exact this
        obtain ⟨r1, r2⟩ := h.1.2.2.2.2.1
        have e0 : ∀ w c, at_nb ν2 brk2 w c → at_nb ν S.2.2.2 w c := fun w c hnb b hb hw => by
          rw [at_ev_ag hag (k5 b (hsub b hb))]
          exact hnb b (hsub b hb) hw
        refine ⟨fun c hc hl => ?_, r2⟩
        obtain ⟨x1, x2, x3, x4⟩ := r1 c hc hl
        exact ⟨fun a => x1 (e0 _ _ a), fun a => x2 (e0 _ _ a), fun a => x3 (e0 _ _ a), fun a => x4 (e0 _ _ a)⟩
      · refine ⟨h.1.2.2.2.2.2.2.1, fun p i hne => ?_⟩
        obtain ⟨w, hw, hcv⟩ := h.1.2.2.2.2.2.2.2 p i hne
        obtain ⟨w', hw', ecv⟩ := List.any_eq_true.mp (List.all_eq_true.mp e6 w hw)
        rw [a3] at hw'
        exact ⟨w', hw', at_cvW_ok ecv hcv⟩
    · cases e8
end ATEN

end
