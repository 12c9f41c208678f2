/-! ===== the looker's run: calls by contract or in line, loops by their shape ===== -/
/-- an argument: a reference (kind, place), an int or a long in a range -/
abbrev at_K : Type := (Nat × Option Nat) ⊕ (Bool × Int × Int)
/-- a contract: method, arguments, which of them (and so much more) is below the number of cells; answer, is it below the number of cells; what is written -/
abbrev at_C : Type := Nat × List at_K × List (Nat × Int) × Option (Nat ⊕ (Bool × Int × Int)) × Bool × List at_W
/-- a number in terms of locals (0), words (1), the number of cells (2) -/
abbrev at_T : Type := Int × List (Int × Nat × Nat)
/-- a loop: method, place, kind of local 0; passed by where a local is a number; locals that change; what is written; words that are named (of local i's object, of the reference's row); what holds; what falls -/
abbrev at_J : Type := (Nat × Nat × Option Nat) × Option (Nat × Int) × List (Nat × Option (Bool × Int × Int)) × List at_W × List (Option Nat × at_T × Int × Int) × List at_T × at_T
/-- a loop that is being gone through: place, its shape, the base's locals, facts that stay, its start, the named words, their names, what falls -/
abbrev at_Ac : Type := Nat × at_J × at_L × List at_F × at_S × at_L × List (Nat × at_A × at_A) × at_A
abbrev at_O : Type := at_S × Option at_V
def at_tmt (lv : at_L) (bv : List at_A) (n : Option at_A) (t : Int × Nat × Nat) : Option at_A := match t.2.1 with
  | 0 => (match lv[t.2.2]? with
    | some (some (.inl a)) => some (at_mul t.1 a)
    | some (some (.inr (.inl a))) => some (at_mul t.1 a)
    | _ => none)
  | 1 => (match bv[t.2.2]? with
    | some a => some (at_mul t.1 a)
    | none => none)
  | _ => (match n with
    | some a => some (at_mul t.1 a)
    | none => none)
def at_tml (lv : at_L) (bv : List at_A) (n : Option at_A) : List (Int × Nat × Nat) → Option at_A
  | [] => some (at_c 0)
  | t :: r => match at_tmt lv bv n t, at_tml lv bv n r with
    | some a, some b => some (at_add a b)
    | _, _ => none
def at_tm (lv : at_L) (bv : List at_A) (n : Option at_A) (t : at_T) : Option at_A := match at_tml lv bv n t.2 with
  | some a => some (at_add a (at_c t.1))
  | none => none
def at_cvW (w w' : at_W) : Bool := Nat.beq w.1 w'.1 && (bif w'.2.1 then w.2.1 && (decide (w'.2.2.1 ≤ w.2.2.1) && decide (w.2.2.2 ≤ w'.2.2.2)) else bif w.2.1 then decide (w'.2.2.1 ≤ 444 + w.2.2.1) && decide (1359 + w.2.2.2 ≤ w'.2.2.2) else decide (w'.2.2.1 ≤ w.2.2.1) && decide (w.2.2.2 ≤ w'.2.2.2))
/-- may the fact's word be written? -/
def at_mh (sy : List (Int × Int)) (f : at_F) (w : at_W) : Bool := Nat.beq f.1 w.1 && (bif w.2.1 then !at_dj sy f.2.2.1 (0, 444 + w.2.2.1, 61, 16, w.2.2.2 - w.2.2.1 + 1, 0, 0) else !(decide (at_hi sy f.2.2.1 < w.2.2.1) || decide (w.2.2.2 < at_lo sy f.2.2.1)))
/-- the named words' places -/
def at_bl (S : at_S) (lv : at_L) : List (Option Nat × at_T × Int × Int) → Option (at_S × List (Nat × at_A × at_A) × List at_A)
  | [] => some (S, [], [])
  | b :: r => match at_tm lv [] none b.2.1, (match b.1 with
      | none => some (at_TA, at_c 280)
      | some i => match lv[i]? with
        | some (some (.inr (.inr (.inl q)))) => some q
        | _ => none) with
    | some ix, some q => bif at_nn S.1 ix then
        (fun s : at_S × at_A => bif at_inR s.1.1 s.2 b.2.2.1 b.2.2.2 then (match at_bl s.1 lv r with
          | some z => some (z.1, (q.1, q.2, ix) :: z.2.1, s.2 :: z.2.2)
          | none => none) else none) (at_ld S q.1 q.2 ix) else none
    | _, _ => none
def at_hc1 (P : at_P) (lv : at_L) (h : Nat × Option (Bool × Int × Int)) : Bool := match h.2 with
  | none => true
  | some (b, lo, hi) => match lv[h.1]? with
    | some (some (.inl a)) => !b && at_inR P a lo hi
    | some (some (.inr (.inl a))) => b && at_inR P a lo hi
    | _ => false
def at_er (hav : List (Nat × Option (Bool × Int × Int))) (lv : at_L) : at_L := hav.foldl (fun l h => l.set h.1 none) lv
def at_hv : List (Nat × Option (Bool × Int × Int)) → at_P → at_L → at_P × at_L
  | [], P, lv => (P, lv)
  | (_, none) :: r, P, lv => at_hv r P lv
  | (i, some (b, lo, hi)) :: r, P, lv => at_hv r (at_new P lo hi) (lv.set i (some (bif b then .inr (.inl (at_nv P)) else .inl (at_nv P))))
def at_bh : List (Option Nat × at_T × Int × Int) → at_P → at_P × List at_A
  | [], P => (P, [])
  | b :: r, P => (fun z : at_P × List at_A => (z.1, at_nv P :: z.2)) (at_bh r (at_new P b.2.2.1 b.2.2.2))
def at_cons (lv : at_L) (bv : List at_A) (n : Option at_A) : List at_T → at_P → Option at_P
  | [], P => some P
  | t :: r, P => match at_tm lv bv n t with
    | some a => (match at_as P a with
      | some P' => at_cons lv bv n r P'
      | none => none)
    | none => none
def at_ckc (P : at_P) (lv : at_L) (bv : List at_A) (n : Option at_A) (ts : List at_T) : Bool := ts.all (fun t => match at_tm lv bv n t with
  | some a => at_le P a
  | none => false)
def at_nF (fs : List at_F) : Option at_A := at_ff fs at_TA (at_c 280) (at_c 2)
def at_loc (l : List (Nat × at_A × at_A)) (f : at_F) : Bool := l.any (fun q => Nat.beq q.1 f.1 && (at_eq q.2.1 f.2.1 && at_eq q.2.2 f.2.2.1))
def at_enter (S : at_S) (lv : at_L) (j : at_J) : Option (at_S × at_L × at_Ac) :=
  match at_bl (at_cs S).1 lv j.2.2.2.2.1 with
  | none => none
  | some (S2, locs, vals) =>
    bif j.2.2.1.all (at_hc1 S2.1 lv) && at_ckc S2.1 lv vals (at_nF S2.2.1) j.2.2.2.2.2.1 then
      (fun (lv0 : at_L) (f0 : List at_F) => (fun h : at_P × at_L => (fun b : at_P × List at_A =>
        match at_cons h.2 b.2 (at_nF f0) j.2.2.2.2.2.1 b.1, at_tm h.2 b.2 (at_nF f0) j.2.2.2.2.2.2 with
        | some P3, some me => (fun SJ : at_S => some (SJ, h.2, (j.1.2.1, j, lv0, f0, SJ, h.2, locs, me))) (P3, (locs.zip b.2).map (fun q => (q.1.1, q.1.2.1, q.1.2.2, q.2)) ++ f0, j.2.2.2.1 ++ S2.2.2.1, S2.2.2.2)
        | _, _ => none) (at_bh j.2.2.2.2.1 h.1)) (at_hv j.2.2.1 S2.1 lv0)) (at_er j.2.2.1 lv) (S2.2.1.filter (fun f => !(j.2.2.2.1.any (at_mh S2.1.1 f) || at_loc locs f)))
    else none
def at_eqV (a b : at_V) : Bool := match a, b with
  | .inl a, .inl b => at_eq a b
  | .inr (.inl a), .inr (.inl b) => at_eq a b
  | .inr (.inr (.inl p)), .inr (.inr (.inl q)) => Nat.beq p.1 q.1 && at_eq p.2 q.2
  | .inr (.inr (.inr (.inl c))), .inr (.inr (.inr (.inl d))) => Nat.beq c d
  | .inr (.inr (.inr (.inr a))), .inr (.inr (.inr (.inr b))) => at_eq a b
  | _, _ => false
/-- what stands in the base stands here too -/
def at_un : at_L → at_L → Bool
  | [], [] => true
  | none :: r, _ :: s => at_un r s
  | some a :: r, some b :: s => at_eqV a b && at_un r s
  | _, _ => false
def at_eqF (f g : at_F) : Bool := Nat.beq f.1 g.1 && (at_eq f.2.1 g.2.1 && (at_eq f.2.2.1 g.2.2.1 && at_eq f.2.2.2 g.2.2.2))
def at_bvs (fs : List at_F) : List (Nat × at_A × at_A) → Option (List at_A)
  | [] => some []
  | q :: r => match at_ff fs q.1 q.2.1 q.2.2, at_bvs fs r with
    | some v, some vs => some (v :: vs)
    | _, _ => none
def at_bck (S : at_S) (lv : at_L) (A : at_Ac) : Bool :=
  (fun (j : at_J) => match at_bvs S.2.1 A.2.2.2.2.2.2.1 with
  | none => false
  | some vals => j.2.2.1.all (at_hc1 S.1 lv) && (at_un A.2.2.1 lv && ((vals.zip j.2.2.2.2.1).all (fun q => at_inR S.1 q.1 q.2.2.2.1 q.2.2.2.2) && (at_ckc S.1 lv vals (at_nF S.2.1) j.2.2.2.2.2.1 && (A.2.2.2.1.all (fun f => S.2.1.any (at_eqF f)) && (S.2.2.1.all (fun w => A.2.2.2.2.1.2.2.1.any (at_cvW w)) && (S.2.2.2.all (fun b => at_hb A.2.2.2.2.1.2.2.2 b.1 b.2) && (match at_tm lv vals (at_nF S.2.1) j.2.2.2.2.2.2 with
    | some me => at_le S.1 (at_sub (at_c 1) A.2.2.2.2.2.2.2) && at_le S.1 (at_add (at_sub me A.2.2.2.2.2.2.2) (at_c 1))
    | none => false)))))))) A.2.1
def at_eqO (a b : Option Nat) : Bool := match a, b with
  | none, none => true
  | some a, some b => Nat.beq a b
  | _, _ => false
def at_fj (JT : List at_J) (mi pc : Nat) (k0 : Option Nat) : Option at_J := JT.find? (fun j => Nat.beq j.1.1 mi && (Nat.beq j.1.2.1 pc && at_eqO j.1.2.2 k0))
def at_skip (S : at_S) (lv : at_L) (j : at_J) : Bool := match j.2.1 with
  | none => false
  | some (i, k) => match lv[i]? with
    | some (some (.inl a)) => (match at_ic S.1.1 a with
      | some z => decide (z = k)
      | none => false)
    | _ => false
/-- at a loop's head: nothing to do; back at it; into it -/
def at_head (JT : List at_J) (mi : Nat) (k0 : Option Nat) (pc : Nat) (S : at_S) (lv : at_L) (act : List at_Ac) : Option (Option (Option (at_S × at_L × at_Ac))) := match at_fj JT mi pc k0 with
  | none => some none
  | some j => bif at_skip S lv j then some none else match act.find? (fun A => Nat.beq A.1 pc) with
    | some A => bif at_bck S lv A then some (some none) else none
    | none => match at_enter S lv j with
      | some x => some (some (some x))
      | none => none
def at_jn {α : Type} : List (Option (List α)) → Option (List α)
  | [] => some []
  | none :: _ => none
  | some l :: r => match at_jn r with
    | some q => some (l ++ q)
    | none => none
def at_kd0 (as_ : List at_V) : Option Nat := match as_ with
  | .inr (.inr (.inl q)) :: _ => some q.1
  | _ => none
def at_ar : List at_V → at_L
  | [] => []
  | v :: r => bif Nat.beq (at_cat v) 2 then some v :: none :: at_ar r else some v :: at_ar r
def at_args (n : Nat) (as_ : List at_V) : at_L := at_ar as_ ++ List.replicate (n - (at_ar as_).length) none
def at_rc (ins : Instr) (mj n : Nat) (st : List at_V) : Bool :=
  Nat.ble n st.length && (Nat.ble ((st.drop n).map at_cat).sum 8 && (Nat.ble ((st.take n).map at_cat).sum (pw_mxl mj) && (match ins with
  | .invokestatic _ => true
  | .invokespecial _ => (match (st.take n).reverse with
    | .inr (.inr (.inl _)) :: _ => true
    | _ => false)
  | .invokevirtual _ => (match (st.take n).reverse with
    | .inr (.inr (.inl q)) :: _ => (match fk_kd q.1 with
      | .inl (cj, _) => Nat.beq cj (pw_own mj)
      | _ => false)
    | _ => false)
  | _ => false)))
/-- do the arguments have the contract's kinds? -/
def at_kmt : List at_K → List at_V → Bool
  | [], [] => true
  | .inl k :: r, .inr (.inr (.inl q)) :: s => Nat.beq k.1 q.1 && at_kmt r s
  | .inr (false, _) :: r, .inl _ :: s => at_kmt r s
  | .inr (true, _) :: r, .inr (.inl _) :: s => at_kmt r s
  | _, _ => false
def at_fcn (CT : List at_C) (mj : Nat) (as_ : List at_V) : Option at_C := CT.find? (fun c => Nat.beq c.1 mj && at_kmt c.2.1 as_)
def at_aok (P : at_P) : List at_K → List at_V → Bool
  | [], [] => true
  | .inl (_, none) :: r, .inr (.inr (.inl _)) :: s => at_aok P r s
  | .inl (_, some p) :: r, .inr (.inr (.inl q)) :: s => at_eq q.2 (at_c p) && at_aok P r s
  | .inr (false, lo, hi) :: r, .inl a :: s => at_inR P a lo hi && at_aok P r s
  | .inr (true, lo, hi) :: r, .inr (.inl a) :: s => at_inR P a lo hi && at_aok P r s
  | _, _ => false
def at_ltk (P : at_P) (n : at_A) (as_ : List at_V) (q : Nat × Int) : Bool := match as_[q.1]? with
  | some (.inl a) => at_le P (at_add (at_sub a n) (at_c (q.2 + 1)))
  | _ => false
/-- the answer of a call by contract -/
def at_urn (lt b : Bool) (S1 : at_S) (v : at_P × at_A) : at_O := ((bif lt then (fun s2 : at_S × at_A => (at_try s2.1.1 (at_add (at_sub v.2 s2.2) (at_c 1)), s2.1.2)) (at_cs (v.1, S1.2)) else (v.1, S1.2)), some (bif b then .inr (.inl v.2) else .inl v.2))
def at_urt (c : at_C) (S1 : at_S) : at_O := match c.2.2.2.1 with
  | none => (S1, none)
  | some (.inl τ) => ((at_new S1.1 0 1000000, S1.2), some (.inr (.inr (.inl (τ, at_nv S1.1)))))
  | some (.inr (b, lo, hi)) => at_urn c.2.2.2.2.1 b S1 (bif decide (lo = hi) then (S1.1, at_c lo) else at_fr S1.1 lo hi)
/-- a call by contract -/
def at_use (S : at_S) (as_ : List at_V) (c : at_C) : Option at_O :=
  (fun s : at_S × at_A => bif s.1.2.2.2.isEmpty && (at_aok s.1.1 c.2.1 as_ && c.2.2.1.all (at_ltk s.1.1 s.2 as_)) then
    some (at_urt c (s.1.1, s.1.2.1.filter (fun f => !c.2.2.2.2.2.any (at_mh s.1.1.1 f)), c.2.2.2.2.2.filter (fun w => !s.1.2.2.1.any (at_eqW w)) ++ s.1.2.2.1, s.1.2.2.2))
  else none) (at_cs S)
/-- the lesser of two; held to two bounds -/
def at_pmin (P : at_P) (a b : at_A) : at_P × at_A := (fun z : at_A => (at_try (at_try (at_new P (min (at_lo P.1 a) (at_lo P.1 b)) (min (at_hi P.1 a) (at_hi P.1 b))) (at_sub z a)) (at_sub z b), z)) (at_nv P)
def at_phel (P : at_P) (l h : at_A) : at_P × at_A := (fun z : at_A => (at_try (at_try (at_new P (at_lo P.1 l) (at_hi P.1 h)) (at_sub z h)) (at_sub l z), z)) (at_nv P)
def at_prim (mj : Nat) (S : at_S) (as_ : List at_V) : Option at_O := match mj, as_ with
  | 187, [.inl a, .inl b] => (fun q : at_P × at_A => some ((q.1, S.2), some (.inl q.2))) (at_pmin S.1 a b)
  | 186, [.inl _, .inl l, .inl h] => bif at_le S.1 (at_sub l h) then (fun q : at_P × at_A => some ((q.1, S.2), some (.inl q.2))) (at_phel S.1 l h) else none
  | _, _ => none
/-- a call: by what is known of it, or none: in line -/
def at_call (CT : List at_C) (S : at_S) (mj : Nat) (as_ : List at_V) : Option (Option at_O) := match at_prim mj S as_ with
  | some o => some (some o)
  | none => match at_fcn CT mj as_ with
    | some c => some (at_use S as_ c)
    | none => none
def at_ret (mi : Nat) (ins : Instr) (S : at_S) (st : List at_V) : Option at_O := match ins, st with
  | .return_, [] => (match pw_ret mi with
    | none => some (S, none)
    | some _ => none)
  | .ireturn, [.inl a] => (match pw_ret mi with
    | some .int => some (S, some (.inl a))
    | some .boolean => bif at_inR S.1 a 0 1 then some (S, some (.inl a)) else none
    | _ => none)
  | .lreturn, [.inr (.inl a)] => (match pw_ret mi with
    | some .long => some (S, some (.inr (.inl a)))
    | _ => none)
  | _, _ => none
def at_ex (CT : List at_C) (JT : List at_J) : Nat → Nat → Option Nat → Nat → Bool → at_S → at_L → List at_V → List at_Ac → Option (List at_O)
  | 0, _, _, _, _, _, _, _, _ => none
  | f + 1, mi, k0, pc, hd, S, lv, st, act => match (bif hd && st.isEmpty then at_head JT mi k0 pc S lv act else some none) with
    | none => none
    | some (some none) => some []
    | some (some (some (SJ, lvJ, A))) => at_ex CT JT f mi k0 pc false SJ lvJ [] (A :: act)
    | some none => match pw_code mi pc with
      | none => none
      | some ins => match at_cl mi ins with
        | some (mj, n) => bif at_rc ins mj n st then (match at_call CT S mj (st.take n).reverse with
          | some none => none
          | some (some o) => at_ex CT JT f mi k0 (pc + 3) true o.1 lv (o.2.toList ++ st.drop n) act
          | none => match at_ex CT JT f mj (at_kd0 (st.take n).reverse) 0 true S (at_args (pw_mxl mj) (st.take n).reverse) [] [] with
            | none => none
            | some outs => at_jn (outs.map (fun o => at_ex CT JT f mi k0 (pc + 3) true o.1 lv (o.2.toList ++ st.drop n) act))) else none
        | none => match at_ret mi ins S st with
          | some o => some [o]
          | none => match at_st mi ins pc S lv st with
            | none => none
            | some alts => at_jn (alts.map (fun a => at_ex CT JT f mi k0 a.1 true a.2.1 a.2.2.1 a.2.2.2 act))
/-! a contract that the looker proves itself -/
def at_sta : List at_K → at_P → at_P × List at_V
  | [], P => (P, [])
  | .inl (τ, some p) :: r, P => (fun z : at_P × List at_V => (z.1, .inr (.inr (.inl (τ, at_c p))) :: z.2)) (at_sta r P)
  | .inl (τ, none) :: r, P => (fun z : at_P × List at_V => (z.1, .inr (.inr (.inl (τ, at_nv P))) :: z.2)) (at_sta r (at_new P 0 1000000))
  | .inr (b, lo, hi) :: r, P => (fun z : at_P × List at_V => (z.1, (bif b then .inr (.inl (at_nv P)) else .inl (at_nv P)) :: z.2)) (at_sta r (at_new P lo hi))
def at_stl (as_ : List at_V) : List (Nat × Int) → at_S → Option at_S
  | [], S => some S
  | q :: r, S => match as_[q.1]? with
    | some (.inl a) => (fun s : at_S × at_A => match at_as s.1.1 (at_add (at_sub a s.2) (at_c (q.2 + 1))) with
      | some P => at_stl as_ r (P, s.1.2)
      | none => none) (at_cs S)
    | _ => none
def at_oko (c : at_C) (o : at_O) : Bool := o.1.2.2.2.isEmpty && (o.1.2.2.1.all (fun w => c.2.2.2.2.2.any (at_cvW w)) && (match c.2.2.2.1, o.2 with
  | none, none => true
  | some (.inr (false, lo, hi)), some (.inl a) => at_inR o.1.1 a lo hi && (!c.2.2.2.2.1 || (fun s : at_S × at_A => at_le s.1.1 (at_add (at_sub a s.2) (at_c 1))) (at_cs o.1))
  | some (.inr (true, lo, hi)), some (.inr (.inl a)) => at_inR o.1.1 a lo hi && !c.2.2.2.2.1
  | _, _ => false))
def at_chk (CT : List at_C) (JT : List at_J) (f : Nat) (c : at_C) : Bool := (fun z : at_P × List at_V => match at_stl z.2 c.2.2.1 (z.1, [], [], []) with
  | some S => (match at_ex CT JT f c.1 (at_kd0 z.2) 0 true S (at_args (pw_mxl c.1) z.2) [] [] with
    | some outs => outs.all (at_oko c)
    | none => false)
  | none => false) (at_sta c.2.1 ([], [], []))
/-- contracts, each by those ahead of it -/
def at_all (CT : List at_C) (JT : List at_J) (f : Nat) : List at_C → Bool
  | [] => true
  | c :: r => at_chk CT JT f c && at_all (CT ++ [c]) JT f r
