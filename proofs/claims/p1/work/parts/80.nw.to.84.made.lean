/-! 80.nw.lean.txt -/
section
/-! ===== what constructors make: a machine over lists behind a heap that it leaves alone; the kernel runs it ===== -/
/-- what is made: ints, longs (all 0), references, an object -/
abbrev nw_O : Type := (Nat × List Int32) ⊕ (Nat ⊕ ((Nat × Nat × List (Option Nat)) ⊕ (Nat × List Value)))
abbrev nw_H : Type := List nw_O × Nat
def nw_o (o : nw_O) : am_O := match o with
  | .inl q => .inl (0, q.1, .inl (fun i => q.2.getD i 0))
  | .inr (.inl n) => .inl (1, n, .inr (.inl (fun _ => 0)))
  | .inr (.inr (.inl q)) => .inl (q.1, q.2.1, .inr (.inr (.inr (.inr (fun i => q.2.2.getD i none)))))
  | .inr (.inr (.inr q)) => .inr q
def nw_sx {α : Type} (d : α) : Nat → List α → α → List α
  | 0, l, x => x :: l.tail
  | k + 1, l, x => l.headD d :: nw_sx d k l.tail x
theorem nw_sx_get {α : Type} (d x : α) : ∀ (k : Nat) (l : List α) (i : Nat), (nw_sx d k l x).getD i d = if i = k then x else l.getD i d := by
  intro k
  induction k with
  | zero =>
    intro l i
    unfold nw_sx
    cases i with
    | zero => simp
    | succ i => cases l <;> simp
  | succ k ih =>
    intro l i
    unfold nw_sx
    cases i with
    | zero => cases l <;> simp
    | succ i =>
      rw [List.getD_cons_succ, ih]
      cases l <;> simp
def nw_h (B : am_M) (H : nw_H) : am_M := (B.1 ++ H.1.map nw_o, B.2 + H.2)
def nw_at (N : Nat) (H : nw_H) (a : Nat) : Option nw_O := bif Nat.ble N a then H.1[a - N]? else none
def nw_wr (N : Nat) (H : nw_H) (a : Nat) (o : nw_O) : nw_H := (H.1.set (a - N) o, H.2)
theorem nw_at_ok {B : am_M} {H : nw_H} {a : Nat} {o : nw_O} (h : nw_at B.1.length H a = some o) : (nw_h B H).1[a]? = some (nw_o o) ∧ ∀ o', ((nw_h B H).1.set a (nw_o o'), (nw_h B H).2) = nw_h B (nw_wr B.1.length H a o') := by
  unfold nw_at at h
  cases hb : Nat.ble B.1.length a with
  | false => rw [hb] at h; cases h
  | true =>
    rw [hb] at h
    replace h : H.1[a - B.1.length]? = some o := h
    have hle : B.1.length ≤ a := Nat.le_of_ble_eq_true hb
    unfold nw_h nw_wr
    refine ⟨?_, fun o' => ?_⟩
    · rw [List.getElem?_append_right hle, List.getElem?_map, h]
      rfl
    · dsimp only
      rw [List.set_append_right _ _ hle, List.map_set]
def nw_P0 : am_Pg := pw_P 0 (fun _ => 0)
/-- instructions that leave the heap alone -/
def nw_pl (ins : Instr) : Bool := match ins with
  | .iconst _ => true
  | .bipush _ => true
  | .sipush _ => true
  | .ldc _ => true
  | .iload_n _ => true
  | .aload_n _ => true
  | .iload _ => true
  | .aload _ => true
  | .istore_n _ => true
  | .astore_n _ => true
  | .iinc _ _ => true
  | .iadd => true
  | .isub => true
  | .imul => true
  | .dup => true
  | .if_icmp _ _ => true
  | .goto _ => true
  | .getstatic _ => true
  | _ => false
theorem nw_pu_M {n pc : Nat} {lv : am_L} {st : List Value} {M M' : am_M} {o : Option Value} {c : am_C} (h : am_pu n pc lv st M o = some c) : am_pu n pc lv st M' o = some (c.1, c.2.1, c.2.2.1, M') := by
  unfold am_pu at h ⊢
  cases o with
  | none => cases h
  | some v => cases h; rfl
theorem nw_so_M {w n pc i nL : Nat} {lv : am_L} {st : List Value} {M M' : am_M} {c : am_C} (h : am_so w n pc i nL lv st M = some c) : am_so w n pc i nL lv st M' = some (c.1, c.2.1, c.2.2.1, M') := by
  unfold am_so at h ⊢
  cases st with
  | nil => cases h
  | cons v r =>
    dsimp only at h ⊢
    cases hl : am_ld w (some v) with
    | none => rw [hl] at h; cases h
    | some u =>
      rw [hl] at h
      dsimp only at h ⊢
      by_cases h1 : v.category = 2
      · rw [if_pos h1] at h ⊢
        by_cases h2 : i + 1 < nL
        · rw [if_pos h2] at h ⊢; cases h; rfl
        · rw [if_neg h2] at h; cases h
      · rw [if_neg h1] at h ⊢
        by_cases h2 : i < nL
        · rw [if_pos h2] at h ⊢; cases h; rfl
        · rw [if_neg h2] at h; cases h
theorem nw_2_M {pc : Nat} {lv : am_L} {st : List Value} {M M' : am_M} {f : Value → Value → Option Value} {c : am_C} (h : am_2 pc lv st M f = some c) : am_2 pc lv st M' f = some (c.1, c.2.1, c.2.2.1, M') := by
  unfold am_2 at h ⊢
  split at h
  · rename_i y x r
    cases hf : f x y with
    | none => rw [hf] at h; cases h
    | some v => rw [hf] at h; cases h; rfl
  · cases h
theorem nw_pl_ok {L mi pc : Nat} {xs : Nat → Int32} {ins : Instr} {lv : am_L} {st : List Value} {M M' : am_M} {c : am_C} (hp : nw_pl ins = true) (h : am_st nw_P0 mi ins pc lv st M = some c) : am_st (pw_P L xs) mi ins pc lv st M' = some (c.1, c.2.1, c.2.2.1, M') := by
  cases ins <;> first
    | (cases hp; done)
    | (cases h; rfl)
    | exact nw_pu_M h
    | exact nw_so_M h
    | exact nw_2_M h
    | skip
  case ldc i =>
    replace h : (match pw_con (pw_own mi) i with
      | some (.int v) => some (pc + 2, lv, .int v :: st, M)
      | some (.float v) => some (pc + 2, lv, .float v :: st, M)
      | _ => none) = some c := h
    show (match pw_con (pw_own mi) i with
      | some (.int v) => some (pc + 2, lv, Value.int v :: st, M')
      | some (.float v) => some (pc + 2, lv, .float v :: st, M')
      | _ => none) = _
    split at h
    · cases h; rfl
    · cases h; rfl
    · cases h
  case iinc i n =>
    replace h : (match am_lk lv i with
      | some (.int x) => if i < pw_mxl mi then some (pc + 3, am_s1 lv i (.int (x + Int32.ofInt n)), st, M) else none
      | _ => none) = some c := h
    show (match am_lk lv i with
      | some (.int x) => if i < pw_mxl mi then some (pc + 3, am_s1 lv i (.int (x + Int32.ofInt n)), st, M') else none
      | _ => none) = _
    split at h
    · by_cases hi : i < pw_mxl mi
      · rw [if_pos hi] at h ⊢; cases h; rfl
      · rw [if_neg hi] at h; cases h
    · cases h
  case dup =>
    cases st with
    | nil => cases h
    | cons v r =>
      replace h : (if v.category = 1 then some (pc + 1, lv, v :: v :: r, M) else none) = some c := h
      show (if v.category = 1 then some (pc + 1, lv, v :: v :: r, M') else none) = _
      by_cases hi : v.category = 1
      · rw [if_pos hi] at h ⊢; cases h; rfl
      · rw [if_neg hi] at h; cases h
  case if_icmp cd off =>
    obtain ⟨x, y, r, rfl⟩ : ∃ x y r, st = Value.int y :: .int x :: r := by
      cases st with
      | nil => cases h
      | cons v r =>
        cases r with
        | nil => cases v <;> cases h
        | cons w r => cases v <;> cases w <;> first | exact ⟨_, _, _, rfl⟩ | cases h
    replace h : am_br (am_c2 cd x y) pc off lv r M = some c := h
    show am_br (am_c2 cd x y) pc off lv r M' = _
    unfold am_br at h ⊢
    cases ht : am_tg pc off with
    | none => rw [ht] at h; cases h
    | some t =>
      rw [ht] at h
      dsimp only at h ⊢
      cases hb : am_c2 cd x y with
      | false => rw [hb] at h; cases h; rfl
      | true => rw [hb] at h; cases h; rfl
  case goto off =>
    replace h : am_go pc off lv st M = some c := h
    show am_go pc off lv st M' = _
    unfold am_go at h ⊢
    cases ht : am_tg pc off with
    | none => rw [ht] at h; cases h
    | some t => rw [ht] at h; cases h; rfl
  case getstatic i =>
    replace h : (match pw_sta (pw_own mi) i with
      | some k => some (pc + 3, lv, .retAddr k :: st, M)
      | none => none) = some c := h
    show (match pw_sta (pw_own mi) i with
      | some k => some (pc + 3, lv, Value.retAddr k :: st, M')
      | none => none) = _
    cases hs : pw_sta (pw_own mi) i with
    | none => rw [hs] at h; cases h
    | some t => rw [hs] at h; cases h; rfl

end

/-! 81.nwst.lean.txt -/
section
/-! ===== a step of that machine ===== -/
abbrev nw_C : Type := Nat × am_L × List Value × nw_H
def nw_gf (N own i pc : Nat) (lv : am_L) (st : List Value) (H : nw_H) : Option nw_C := match st with
  | .ref a :: r => match pw_fld own i, nw_at N H a with
    | some (ci, k), some (.inr (.inr (.inr (cj, fs)))) => if ci = cj then (match fs[k]? with
      | some v => some (pc + 3, lv, v :: r, H)
      | none => none) else none
    | _, _ => none
  | _ => none
def nw_pf (N mi own i pc : Nat) (lv : am_L) (st : List Value) (H : nw_H) : Option nw_C := match st with
  | v :: .ref a :: r => match pw_fld own i, nw_at N H a with
    | some (ci, k), some (.inr (.inr (.inr (cj, fs)))) => bif decide (ci = cj) && (decide (k < fs.length) && (am_ft (pw_fty ci k) v && (!pw_fin ci k || (pw_ini mi && decide (own = ci))))) then some (pc + 3, lv, r, nw_wr N H a (.inr (.inr (.inr (cj, fs.set k v))))) else none
    | _, _ => none
  | _ => none
def nw_ald (N pc : Nat) (lv : am_L) (st : List Value) (H : nw_H) : Option nw_C := match st with
  | .int i :: .ref a :: r => match nw_at N H a with
    | some (.inl (n, l)) => bif am_in i n then some (pc + 1, lv, .int (l.getD i.toNatClampNeg 0) :: r, H) else none
    | _ => none
  | .int i :: .retAddr (k + 1) :: r => bif decide (k < pw_tab_l.length) && am_in i (pw_tab_l.getD k []).length then some (pc + 1, lv, .int (pw_tbl k i.toNatClampNeg) :: r, H) else none
  | _ => none
def nw_ast (N pc : Nat) (lv : am_L) (st : List Value) (H : nw_H) : Option nw_C := match st with
  | .int x :: .int i :: .ref a :: r => match nw_at N H a with
    | some (.inl (n, l)) => bif am_in i n then some (pc + 1, lv, r, nw_wr N H a (.inl (n, nw_sx 0 i.toNatClampNeg l x))) else none
    | _ => none
  | _ => none
def nw_qast (N pc : Nat) (lv : am_L) (st : List Value) (H : nw_H) : Option nw_C := match st with
  | .ref v :: .int i :: .ref a :: r => match nw_at N H a, nw_at N H v with
    | some (.inr (.inr (.inl (t, n, l)))), some (.inr (.inr (.inr (cj, _)))) => bif decide (2 ≤ t ∧ t < 5) && (decide (pw_elt t = cj) && am_in i n) then some (pc + 1, lv, r, nw_wr N H a (.inr (.inr (.inl (t, n, nw_sx none i.toNatClampNeg l (some v)))))) else none
    | _, _ => none
  | _ => none
def nw_len (N pc : Nat) (lv : am_L) (st : List Value) (H : nw_H) : Option nw_C := match st with
  | .ref a :: r => match nw_at N H a with
    | some (.inl (n, _)) => some (pc + 1, lv, .int (Int32.ofNat n) :: r, H)
    | _ => none
  | _ => none
def nw_na (N : Nat) (t : ArrayType) (pc : Nat) (lv : am_L) (st : List Value) (H : nw_H) : Option nw_C := match t, st with
  | .int, .int n :: r => bif !(decide (n < 0)) && decide (n.toNatClampNeg ≤ 1000000) then some (pc + 2, lv, .ref (N + H.1.length) :: r, (H.1 ++ [.inl (n.toNatClampNeg, [])], H.2 + n.toNatClampNeg)) else none
  | .long, .int n :: r => bif !(decide (n < 0)) && decide (n.toNatClampNeg ≤ 1000000) then some (pc + 2, lv, .ref (N + H.1.length) :: r, (H.1 ++ [.inr (.inl n.toNatClampNeg)], H.2 + n.toNatClampNeg)) else none
  | _, _ => none
def nw_nq (N own i pc : Nat) (lv : am_L) (st : List Value) (H : nw_H) : Option nw_C := match pw_anw own i, st with
  | some t, .int n :: r => bif !(decide (n < 0)) && decide (n.toNatClampNeg ≤ 1000000) then some (pc + 3, lv, .ref (N + H.1.length) :: r, (H.1 ++ [.inr (.inr (.inl (t, n.toNatClampNeg, [])))], H.2 + n.toNatClampNeg)) else none
  | _, _ => none
def nw_nw (N own i pc : Nat) (lv : am_L) (st : List Value) (H : nw_H) : Option nw_C := match pw_new own i with
  | some q => some (pc + 3, lv, .ref (N + H.1.length) :: st, (H.1 ++ [.inr (.inr (.inr q))], H.2 + q.2.length))
  | none => none
def nw_ck (N pc : Nat) (lv : am_L) (st : List Value) (H : nw_H) : Option nw_C := match st with
  | .ref a :: r => match nw_at N H a with
    | some (.inl _) => some (pc + 3, lv, .ref a :: r, H)
    | _ => none
  | _ => none
def nw_n0 (pc : Nat) (lv : am_L) (st : List Value) (H : nw_H) : Option nw_C := match st with
  | .ref _ :: r => if am_sum r ≤ 8 then some (pc + 3, lv, r, H) else none
  | _ => none
def nw_n2 (N pc : Nat) (lv : am_L) (st : List Value) (H : nw_H) : Option nw_C := match st with
  | .retAddr (k + 1) :: r => bif decide (k < pw_tab_l.length) && decide (am_sum r ≤ 8) then some (pc + 3, lv, .ref (N + H.1.length) :: r, (H.1 ++ [.inl ((pw_tab_l.getD k []).length, pw_tab_l.getD k [])], H.2 + (pw_tab_l.getD k []).length)) else none
  | _ => none
def nw_st (N mi : Nat) (ins : Instr) (pc : Nat) (lv : am_L) (st : List Value) (H : nw_H) : Option nw_C := match ins with
  | .getfield i => nw_gf N (pw_own mi) i pc lv st H
  | .putfield i => nw_pf N mi (pw_own mi) i pc lv st H
  | .iaload => nw_ald N pc lv st H
  | .iastore => nw_ast N pc lv st H
  | .aastore => nw_qast N pc lv st H
  | .arraylength => nw_len N pc lv st H
  | .new i => nw_nw N (pw_own mi) i pc lv st H
  | .newarray t => nw_na N t pc lv st H
  | .anewarray i => nw_nq N (pw_own mi) i pc lv st H
  | .checkcast _ => nw_ck N pc lv st H
  | .invokespecial _ => (match am_ntk nw_P0 mi ins with
    | some 0 => nw_n0 pc lv st H
    | _ => none)
  | .invokevirtual _ => (match am_ntk nw_P0 mi ins with
    | some 2 => nw_n2 N pc lv st H
    | _ => none)
  | _ => bif nw_pl ins then (match am_st nw_P0 mi ins pc lv st ([], 0) with
    | some c => some (c.1, c.2.1, c.2.2.1, H)
    | none => none) else none
section NWT
variable {B : am_M} {L mi own i pc pc' : Nat} {xs : Nat → Int32} {lv lv' : am_L} {st st' : List Value} {H H' : nw_H}
theorem nw_app (o : nw_O) (n : Nat) : ((nw_h B H).1 ++ [nw_o o], (nw_h B H).2 + n) = nw_h B (H.1 ++ [o], H.2 + n) := by
  unfold nw_h
  simp [List.append_assoc, Nat.add_assoc]
theorem nw_hlen : (nw_h B H).1.length = B.1.length + H.1.length := by
  unfold nw_h
  simp
theorem nw_gf_ok (h : nw_gf B.1.length (pw_own mi) i pc lv st H = some (pc', lv', st', H')) : am_gf (pw_P L xs) (pw_own mi) i pc lv st (nw_h B H) = some (pc', lv', st', nw_h B H') := by
  unfold nw_gf at h
  split at h
  · rename_i a r
    split at h
    · rename_i ci k cj fs e1 e2
      have e3 := (nw_at_ok e2).1
      show ((match pw_fld (pw_own mi) i, (nw_h B H).1[a]? with
        | some (ci, k), some (.inr (cj, fs)) => if ci = cj then am_pu 3 pc lv r (nw_h B H) fs[k]? else none
        | _, _ => none) : Option am_C) = _
      rw [e1, e3]
      show ((if ci = cj then am_pu 3 pc lv r (nw_h B H) fs[k]? else none) : Option am_C) = _
      by_cases hc : ci = cj
      · rw [if_pos hc] at h ⊢
        cases hf : fs[k]? with
        | none => rw [hf] at h; cases h
        | some v => rw [hf] at h; cases h; rfl
      · rw [if_neg hc] at h; cases h
    · cases h
  · cases h
theorem nw_pf_ok (h : nw_pf B.1.length mi (pw_own mi) i pc lv st H = some (pc', lv', st', H')) : am_pf (pw_P L xs) mi (pw_own mi) i pc lv st (nw_h B H) = some (pc', lv', st', nw_h B H') := by
  unfold nw_pf at h
  split at h
  · rename_i v a r
    split at h
    · rename_i ci k cj fs e1 e2
      obtain ⟨e3, e4⟩ := nw_at_ok e2
      show ((match pw_fld (pw_own mi) i, (nw_h B H).1[a]? with
        | some (ci, k), some (.inr (cj, fs)) => bif decide (ci = cj) && (decide (k < fs.length) && (am_ft (pw_fty ci k) v && (!pw_fin ci k || (pw_ini mi && decide (pw_own mi = ci))))) then some (pc + 3, lv, r, ((nw_h B H).1.set a (.inr (cj, fs.set k v)), (nw_h B H).2)) else none
        | _, _ => none) : Option am_C) = _
      rw [e1, e3]
      obtain ⟨hb, h⟩ := am_bif h
      show ((bif decide (ci = cj) && (decide (k < fs.length) && (am_ft (pw_fty ci k) v && (!pw_fin ci k || (pw_ini mi && decide (pw_own mi = ci))))) then some (pc + 3, lv, r, ((nw_h B H).1.set a (.inr (cj, fs.set k v)), (nw_h B H).2)) else none) : Option am_C) = _
      rw [hb]
      cases h
      show (some (_, _, _, ((nw_h B H).1.set a (nw_o (.inr (.inr (.inr (cj, fs.set k v))))), (nw_h B H).2)) : Option am_C) = _
      rw [e4]
    · cases h
  · cases h
theorem nw_ald_ok (h : nw_ald B.1.length pc lv st H = some (pc', lv', st', H')) : am_ald (pw_P L xs) pc lv st (nw_h B H) = some (pc', lv', st', nw_h B H') := by
  unfold nw_ald at h
  split at h
  · rename_i j a r
    split at h
    · rename_i n l e2
      obtain ⟨e3, e4⟩ := nw_at_ok e2
      show ((match (nw_h B H).1[a]? with
        | some (.inl (0, n, .inl f)) => bif am_in j n then some (pc + 1, lv, .int (f j.toNatClampNeg) :: r, nw_h B H) else none
        | _ => none) : Option am_C) = _
      rw [e3]
      obtain ⟨hb, h⟩ := am_bif h
      show ((bif am_in j n then some (pc + 1, lv, Value.int (l.getD j.toNatClampNeg 0) :: r, nw_h B H) else none) : Option am_C) = _
      rw [hb]
      cases h
      rfl
    · cases h
  · rename_i j k r
    obtain ⟨hb, h⟩ := am_bif h
    simp only [Bool.and_eq_true, decide_eq_true_eq] at hb
    show ((match (if k < pw_tab_l.length then some ((pw_tab_l.getD k []).length, pw_tbl k) else none) with
      | some (n, f) => bif am_in j n then some (pc + 1, lv, Value.int (f j.toNatClampNeg) :: r, nw_h B H) else none
      | _ => none) : Option am_C) = _
    rw [if_pos hb.1]
    show ((bif am_in j (pw_tab_l.getD k []).length then some (pc + 1, lv, Value.int (pw_tbl k j.toNatClampNeg) :: r, nw_h B H) else none) : Option am_C) = _
    rw [hb.2]
    cases h
    rfl
  · cases h
theorem nw_ast_ok (h : nw_ast B.1.length pc lv st H = some (pc', lv', st', H')) : am_ast pc lv st (nw_h B H) = some (pc', lv', st', nw_h B H') := by
  unfold nw_ast at h
  split at h
  · rename_i x j a r
    split at h
    · rename_i n l e2
      obtain ⟨e3, e4⟩ := nw_at_ok e2
      show ((match (nw_h B H).1[a]? with
        | some (.inl (0, n, .inl f)) => bif am_in j n then some (pc + 1, lv, r, ((nw_h B H).1.set a (.inl (0, n, .inl (upd f j.toNatClampNeg x))), (nw_h B H).2)) else none
        | _ => none) : Option am_C) = _
      rw [e3]
      obtain ⟨hb, h⟩ := am_bif h
      show ((bif am_in j n then some (pc + 1, lv, r, ((nw_h B H).1.set a (.inl (0, n, .inl (upd (fun i => l.getD i 0) j.toNatClampNeg x))), (nw_h B H).2)) else none) : Option am_C) = _
      rw [hb]
      cases h
      have e5 : upd (fun i => l.getD i 0) j.toNatClampNeg x = fun i => (nw_sx 0 j.toNatClampNeg l x).getD i 0 := by
        funext i
        rw [nw_sx_get]
        rfl
      rw [e5]
      show (some (_, _, _, ((nw_h B H).1.set a (nw_o (.inl (n, nw_sx 0 j.toNatClampNeg l x))), (nw_h B H).2)) : Option am_C) = _
      rw [e4]
    · cases h
  · cases h
theorem nw_qast_ok (h : nw_qast B.1.length pc lv st H = some (pc', lv', st', H')) : am_qast (pw_P L xs) pc lv st (nw_h B H) = some (pc', lv', st', nw_h B H') := by
  unfold nw_qast at h
  split at h
  · rename_i v j a r
    split at h
    · rename_i t n l cj fs e2 e2'
      obtain ⟨e3, e4⟩ := nw_at_ok e2
      obtain ⟨e3', -⟩ := nw_at_ok e2'
      show ((match (nw_h B H).1[a]?, (nw_h B H).1[v]? with
        | some (.inl (t, n, .inr (.inr (.inr (.inr f))))), some (.inr (cj, _)) => bif decide (2 ≤ t ∧ t < 5) && (decide (pw_elt t = cj) && am_in j n) then some (pc + 1, lv, r, ((nw_h B H).1.set a (.inl (t, n, .inr (.inr (.inr (.inr (va_up f j.toNatClampNeg (some v))))))), (nw_h B H).2)) else none
        | _, _ => none) : Option am_C) = _
      rw [e3, e3']
      obtain ⟨hb, h⟩ := am_bif h
      show ((bif decide (2 ≤ t ∧ t < 5) && (decide (pw_elt t = cj) && am_in j n) then some (pc + 1, lv, r, ((nw_h B H).1.set a (.inl (t, n, .inr (.inr (.inr (.inr (va_up (fun i => l.getD i none) j.toNatClampNeg (some v))))))), (nw_h B H).2)) else none) : Option am_C) = _
      rw [hb]
      cases h
      have e5 : va_up (fun i => l.getD i none) j.toNatClampNeg (some v) = fun i => (nw_sx none j.toNatClampNeg l (some v)).getD i none := by
        funext i
        rw [nw_sx_get]
        rfl
      rw [e5]
      show (some (_, _, _, ((nw_h B H).1.set a (nw_o (.inr (.inr (.inl (t, n, nw_sx none j.toNatClampNeg l (some v)))))), (nw_h B H).2)) : Option am_C) = _
      rw [e4]
    · cases h
  · cases h
theorem nw_len_ok (h : nw_len B.1.length pc lv st H = some (pc', lv', st', H')) : am_len (pw_P L xs) pc lv st (nw_h B H) = some (pc', lv', st', nw_h B H') := by
  unfold nw_len at h
  split at h
  · rename_i a r
    split at h
    · rename_i n l e2
      obtain ⟨e3, -⟩ := nw_at_ok e2
      show ((match (nw_h B H).1[a]? with
        | some (.inl (t, n, _)) => if t < 5 then some (pc + 1, lv, .int (Int32.ofNat n) :: r, nw_h B H) else none
        | _ => none) : Option am_C) = _
      rw [e3]
      cases h
      rfl
    · cases h
  · cases h
theorem nw_na_ok {t : ArrayType} (h : nw_na B.1.length t pc lv st H = some (pc', lv', st', H')) : am_na t pc lv st (nw_h B H) = some (pc', lv', st', nw_h B H') := by
  unfold nw_na at h
  split at h
  · rename_i n r
    obtain ⟨hb, h⟩ := am_bif h
    show ((bif !(decide (n < 0)) && decide (n.toNatClampNeg ≤ 1000000) then some (pc + 2, lv, Value.ref (nw_h B H).1.length :: r, ((nw_h B H).1 ++ [.inl (0, n.toNatClampNeg, .inl (fun _ => 0))], (nw_h B H).2 + n.toNatClampNeg)) else none) : Option am_C) = _
    rw [hb]
    cases h
    have e : (fun _ => 0 : Nat → Int32) = fun i => ([] : List Int32).getD i 0 := rfl
    rw [nw_hlen, e]
    show (some (_, _, _ :: _, ((nw_h B H).1 ++ [nw_o (.inl (n.toNatClampNeg, []))], _)) : Option am_C) = _
    rw [nw_app]
  · rename_i n r
    obtain ⟨hb, h⟩ := am_bif h
    show ((bif !(decide (n < 0)) && decide (n.toNatClampNeg ≤ 1000000) then some (pc + 2, lv, Value.ref (nw_h B H).1.length :: r, ((nw_h B H).1 ++ [.inl (1, n.toNatClampNeg, .inr (.inl (fun _ => 0)))], (nw_h B H).2 + n.toNatClampNeg)) else none) : Option am_C) = _
    rw [hb]
    cases h
    rw [nw_hlen]
    show (some (_, _, _ :: _, ((nw_h B H).1 ++ [nw_o (.inr (.inl n.toNatClampNeg))], _)) : Option am_C) = _
    rw [nw_app]
  · cases h
theorem nw_nq_ok (h : nw_nq B.1.length (pw_own mi) i pc lv st H = some (pc', lv', st', H')) : am_nq (pw_P L xs) (pw_own mi) i pc lv st (nw_h B H) = some (pc', lv', st', nw_h B H') := by
  unfold nw_nq at h
  split at h
  · rename_i t n r e1
    obtain ⟨hb, h⟩ := am_bif h
    show ((match pw_anw (pw_own mi) i, (Value.int n :: r) with
      | some t, .int n :: r => bif !(decide (n < 0)) && decide (n.toNatClampNeg ≤ 1000000) then some (pc + 3, lv, .ref (nw_h B H).1.length :: r, ((nw_h B H).1 ++ [.inl (t, n.toNatClampNeg, .inr (.inr (.inr (.inr (fun _ => none)))))], (nw_h B H).2 + n.toNatClampNeg)) else none
      | _, _ => none) : Option am_C) = _
    rw [e1]
    show ((bif !(decide (n < 0)) && decide (n.toNatClampNeg ≤ 1000000) then some (pc + 3, lv, Value.ref (nw_h B H).1.length :: r, ((nw_h B H).1 ++ [.inl (t, n.toNatClampNeg, .inr (.inr (.inr (.inr (fun _ => none)))))], (nw_h B H).2 + n.toNatClampNeg)) else none) : Option am_C) = _
    rw [hb]
    cases h
    rw [nw_hlen]
    show (some (_, _, _ :: _, ((nw_h B H).1 ++ [nw_o (.inr (.inr (.inl (t, n.toNatClampNeg, []))))], _)) : Option am_C) = _
    rw [nw_app]
  · cases h
theorem nw_nw_ok (h : nw_nw B.1.length (pw_own mi) i pc lv st H = some (pc', lv', st', H')) : am_nw (pw_P L xs) (pw_own mi) i pc lv st (nw_h B H) = some (pc', lv', st', nw_h B H') := by
  unfold nw_nw at h
  show ((match pw_new (pw_own mi) i with
    | some (ci, fs) => some (pc + 3, lv, .ref (nw_h B H).1.length :: st, ((nw_h B H).1 ++ [.inr (ci, fs)], (nw_h B H).2 + fs.length))
    | none => none) : Option am_C) = _
  cases e1 : pw_new (pw_own mi) i with
  | none => rw [e1] at h; cases h
  | some q =>
    rw [e1] at h
    cases h
    obtain ⟨ci, fs⟩ := q
    rw [nw_hlen]
    show (some (_, _, _ :: _, ((nw_h B H).1 ++ [nw_o (.inr (.inr (.inr (ci, fs))))], _)) : Option am_C) = _
    rw [nw_app]
theorem nw_ck_ok (h : nw_ck B.1.length pc lv st H = some (pc', lv', st', H')) : am_st (pw_P L xs) mi (.checkcast i) pc lv st (nw_h B H) = some (pc', lv', st', nw_h B H') := by
  unfold nw_ck at h
  split at h
  · rename_i a r
    split at h
    · rename_i q e2
      obtain ⟨e3, -⟩ := nw_at_ok e2
      show ((match (nw_h B H).1[a]? with
        | some (.inl (0, _)) => some (pc + 3, lv, .ref a :: r, nw_h B H)
        | _ => none) : Option am_C) = _
      rw [e3]
      cases h
      rfl
    · cases h
  · cases h
theorem nw_n0_ok (h : nw_n0 pc lv st H = some (pc', lv', st', H')) : am_n0 pc lv st (nw_h B H) = some (pc', lv', st', nw_h B H') := by
  unfold nw_n0 at h
  split at h
  · rename_i a r
    show ((if am_sum r ≤ 8 then some (pc + 3, lv, r, nw_h B H) else none) : Option am_C) = _
    by_cases hs : am_sum r ≤ 8
    · rw [if_pos hs] at h ⊢; cases h; rfl
    · rw [if_neg hs] at h; cases h
  · cases h
theorem nw_n2_ok (h : nw_n2 B.1.length pc lv st H = some (pc', lv', st', H')) : am_n2 (pw_P L xs) pc lv st (nw_h B H) = some (pc', lv', st', nw_h B H') := by
  unfold nw_n2 at h
  split at h
  · rename_i k r
    obtain ⟨hb, h⟩ := am_bif h
    simp only [Bool.and_eq_true, decide_eq_true_eq] at hb
    show ((match (if k < pw_tab_l.length then some ((pw_tab_l.getD k []).length, pw_tbl k) else none) with
      | some (n, f) => if am_sum r ≤ 8 ∧ k + 1 ≠ 0 then some (pc + 3, lv, Value.ref (nw_h B H).1.length :: r, ((nw_h B H).1 ++ [.inl (0, n, .inl f)], (nw_h B H).2 + n)) else none
      | none => none) : Option am_C) = _
    rw [if_pos hb.1]
    show ((if am_sum r ≤ 8 ∧ k + 1 ≠ 0 then some (pc + 3, lv, Value.ref (nw_h B H).1.length :: r, ((nw_h B H).1 ++ [nw_o (.inl ((pw_tab_l.getD k []).length, pw_tab_l.getD k []))], (nw_h B H).2 + (pw_tab_l.getD k []).length)) else none) : Option am_C) = _
    rw [if_pos ⟨hb.2, Nat.succ_ne_zero k⟩, nw_hlen, nw_app]
    cases h
    rfl
  · cases h
theorem nw_st_ok {ins : Instr} (h : nw_st B.1.length mi ins pc lv st H = some (pc', lv', st', H')) : am_st (pw_P L xs) mi ins pc lv st (nw_h B H) = some (pc', lv', st', nw_h B H') := by
  cases ins <;> first
    | exact nw_gf_ok h
    | exact nw_pf_ok h
    | exact nw_ald_ok h
    | exact nw_ast_ok h
    | exact nw_qast_ok h
    | exact nw_len_ok h
    | exact nw_nw_ok h
    | exact nw_na_ok h
    | exact nw_nq_ok h
    | exact nw_ck_ok h
    | (cases h; done)
    | skip
  case invokespecial i =>
    replace h : ((match am_ntk nw_P0 mi (.invokespecial i) with
      | some 0 => nw_n0 pc lv st H
      | _ => none) : Option nw_C) = some (pc', lv', st', H') := h
    show ((match am_ntk (pw_P L xs) mi (.invokespecial i) with
      | some k => am_nt (pw_P L xs) k pc lv st (nw_h B H)
      | none => none) : Option am_C) = _
    split at h
    · rename_i e
      have e : am_ntk (pw_P L xs) mi (.invokespecial i) = some 0 := e
      rw [e]
      exact nw_n0_ok h
    · cases h
  case invokevirtual i =>
    replace h : ((match am_ntk nw_P0 mi (.invokevirtual i) with
      | some 2 => nw_n2 B.1.length pc lv st H
      | _ => none) : Option nw_C) = some (pc', lv', st', H') := h
    show ((match am_ntk (pw_P L xs) mi (.invokevirtual i) with
      | some k => am_nt (pw_P L xs) k pc lv st (nw_h B H)
      | none => none) : Option am_C) = _
    split at h
    · rename_i e
      have e : am_ntk (pw_P L xs) mi (.invokevirtual i) = some 2 := e
      rw [e]
      exact nw_n2_ok h
    · cases h
  all_goals
    unfold nw_st at h
    obtain ⟨hp, h⟩ := am_bif h
    split at h
    · rename_i c e
      cases h
      exact nw_pl_ok hp e
    · cases h
end NWT

end

/-! 82.nwev.lean.txt -/
section
/-! ===== its runs: a whole call, a stretch up to a place ===== -/
def nw_rv (N mj : Nat) (as_ : List Value) (H : nw_H) : Bool := match as_ with
  | .ref a :: _ => match nw_at N H a with
    | some (.inr (.inr (.inr (cj, _)))) => decide (cj = pw_own mj)
    | _ => false
  | _ => false
def nw_rc (N : Nat) (ins : Instr) (mj n : Nat) (st : List Value) (H : nw_H) : Bool :=
  decide (n ≤ st.length) && (decide (am_sum (st.drop n) ≤ 8 ∧ am_sum (st.take n) ≤ pw_mxl mj) && (match ins with
  | .invokestatic _ => true
  | .invokespecial _ => am_rs (st.take n).reverse
  | .invokevirtual _ => nw_rv N mj (st.take n).reverse H
  | _ => false))
def nw_ev (N : Nat) : Nat → Nat → Nat → am_L → List Value → nw_H → Option (Option Value × nw_H)
  | 0, _, _, _, _, _ => none
  | f + 1, mi, pc, lv, st, H => match pw_code mi pc with
    | none => none
    | some ins => match am_cl nw_P0 mi ins with
      | some (mj, n) => bif nw_rc N ins mj n st H then (match nw_ev N f mj 0 (lv_args 0 (st.take n).reverse) [] H with
          | some (v, H') => nw_ev N f mi (pc + 3) lv (v.toList ++ st.drop n) H'
          | none => none) else none
      | none => match am_rt nw_P0 mi ins st with
        | some v => some (v, H)
        | none => match nw_st N mi ins pc lv st H with
          | some c => nw_ev N f mi c.1 c.2.1 c.2.2.1 c.2.2.2
          | none => none
def nw_to (N mi stop : Nat) : Nat → Nat → am_L → List Value → nw_H → Option (am_L × List Value × nw_H)
  | 0, _, _, _, _ => none
  | f + 1, pc, lv, st, H => bif Nat.beq pc stop then some (lv, st, H) else match pw_code mi pc with
    | none => none
    | some ins => match am_cl nw_P0 mi ins with
      | some (mj, n) => bif nw_rc N ins mj n st H then (match nw_ev N f mj 0 (lv_args 0 (st.take n).reverse) [] H with
          | some (v, H') => nw_to N mi stop f (pc + 3) lv (v.toList ++ st.drop n) H'
          | none => none) else none
      | none => match am_rt nw_P0 mi ins st with
        | some _ => none
        | none => match nw_st N mi ins pc lv st H with
          | some c => nw_to N mi stop f c.1 c.2.1 c.2.2.1 c.2.2.2
          | none => none
section NWE
variable {B : am_M} {L : Nat} {xs : Nat → Int32}
theorem nw_rc_ok {mi mj n : Nat} {ins : Instr} {st : List Value} {H : nw_H} (h : nw_rc B.1.length ins mj n st H = true) : am_rc (pw_P L xs) mi ins mj n st (nw_h B H) = true := by
  unfold nw_rc at h
  unfold am_rc
  simp only [Bool.and_eq_true] at h ⊢
  obtain ⟨h1, h2, h3⟩ := h
  refine ⟨h1, h2, ?_⟩
  cases ins <;> first
    | exact h3
    | skip
  case invokevirtual i =>
    replace h3 : nw_rv B.1.length mj (st.take n).reverse H = true := h3
    show am_rv (pw_P L xs) mj (st.take n).reverse (nw_h B H) = true
    unfold nw_rv at h3
    split at h3
    · rename_i a r er
      split at h3
      · rename_i cj fs e2
        obtain ⟨e3, -⟩ := nw_at_ok e2
        rw [er]
        show (match (nw_h B H).1[a]? with
          | some (.inr (cj, _)) => decide (cj = pw_own mj)
          | _ => false) = true
        rw [e3]
        exact h3
      · cases h3
    · cases h3
theorem nw_ev_ok : ∀ (f mi pc : Nat) (lv : am_L) (st : List Value) (H : nw_H) (v : Option Value) (H' : nw_H), nw_ev B.1.length f mi pc lv st H = some (v, H') → am_ev (pw_P L xs) f mi pc lv st (nw_h B H) = some (v, nw_h B H') := by
  intro f
  induction f with
  | zero => intro mi pc lv st H v H' h; cases h
  | succ f ih =>
    intro mi pc lv st H v H' h
    rw [am_ev_s]
    unfold nw_ev at h
    unfold am_e1
    show (match pw_code mi pc with
      | none => none
      | some ins => match am_cl nw_P0 mi ins with
        | some (mj, n) => bif am_rc (pw_P L xs) mi ins mj n st (nw_h B H) then (match am_ev (pw_P L xs) f mj 0 (lv_args 0 (st.take n).reverse) [] (nw_h B H) with
            | some (v, M') => am_ev (pw_P L xs) f mi (pc + 3) lv (v.toList ++ st.drop n) M'
            | none => none) else none
        | none => match am_rt nw_P0 mi ins st with
          | some v => some (v, nw_h B H)
          | none => match am_st (pw_P L xs) mi ins pc lv st (nw_h B H) with
            | some (pc', lv', st', M') => am_ev (pw_P L xs) f mi pc' lv' st' M'
            | none => none) = _
    cases hc : pw_code mi pc with
    | none => rw [hc] at h; cases h
    | some ins =>
      rw [hc] at h
      dsimp only at h ⊢
      cases hcl : am_cl nw_P0 mi ins with
      | some q =>
        obtain ⟨mj, n⟩ := q
        rw [hcl] at h
        dsimp only at h ⊢
        obtain ⟨h1, h2⟩ := am_bif h
        clear h
        rw [nw_rc_ok (L := L) (xs := xs) (mi := mi) h1]
        dsimp only [cond_true]
        cases h3 : nw_ev B.1.length f mj 0 (lv_args 0 (st.take n).reverse) [] H with
        | none => rw [h3] at h2; cases h2
        | some q =>
          obtain ⟨v1, H1⟩ := q
          rw [h3] at h2
          rw [ih _ _ _ _ _ _ _ h3]
          exact ih _ _ _ _ _ _ _ h2
      | none =>
        rw [hcl] at h
        dsimp only at h ⊢
        cases hrt : am_rt nw_P0 mi ins st with
        | some v1 =>
          rw [hrt] at h
          cases h
          rfl
        | none =>
          rw [hrt] at h
          dsimp only at h ⊢
          cases hst : nw_st B.1.length mi ins pc lv st H with
          | none => rw [hst] at h; cases h
          | some q =>
            obtain ⟨p1, l1, s1, m1⟩ := q
            rw [hst] at h
            rw [nw_st_ok (L := L) (xs := xs) hst]
            exact ih _ _ _ _ _ _ _ h
theorem nw_to_ok {mi stop : Nat} {Q : Option Value → am_M → Prop} : ∀ (f pc : Nat) (lv : am_L) (st : List Value) (H : nw_H) (lv' : am_L) (st' : List Value) (H' : nw_H), nw_to B.1.length mi stop f pc lv st H = some (lv', st', H') → am_To (pw_P L xs) mi stop lv' st' (nw_h B H') Q → am_To (pw_P L xs) mi pc lv st (nw_h B H) Q := by
  intro f
  induction f with
  | zero => intro pc lv st H lv' st' H' h; cases h
  | succ f ih =>
    intro pc lv st H lv' st' H' h k
    unfold nw_to at h
    cases hs : Nat.beq pc stop with
    | true =>
      rw [hs] at h
      cases h
      rw [Nat.eq_of_beq_eq_true hs]
      exact k
    | false =>
      rw [hs] at h
      dsimp only [cond_false] at h
      cases hc : pw_code mi pc with
      | none => rw [hc] at h; cases h
      | some ins =>
        rw [hc] at h
        dsimp only at h
        cases hcl : am_cl nw_P0 mi ins with
        | some q =>
          obtain ⟨mj, n⟩ := q
          rw [hcl] at h
          dsimp only at h
          obtain ⟨h1, h2⟩ := am_bif h
          clear h
          cases h3 : nw_ev B.1.length f mj 0 (lv_args 0 (st.take n).reverse) [] H with
          | none => rw [h3] at h2; cases h2
          | some q =>
            obtain ⟨v1, H1⟩ := q
            rw [h3] at h2
            exact am_To.cal (P := pw_P L xs) hc hcl (nw_rc_ok h1) ⟨f, v1, nw_h B H1, nw_ev_ok _ _ _ _ _ _ _ _ h3, ih _ _ _ _ _ _ _ h2 k⟩
        | none =>
          rw [hcl] at h
          dsimp only at h
          cases hrt : am_rt nw_P0 mi ins st with
          | some v1 => rw [hrt] at h; cases h
          | none =>
            rw [hrt] at h
            dsimp only at h
            cases hst : nw_st B.1.length mi ins pc lv st H with
            | none => rw [hst] at h; cases h
            | some q =>
              obtain ⟨p1, l1, s1, m1⟩ := q
              rw [hst] at h
              exact am_To.stp (P := pw_P L xs) hc hcl hrt (nw_st_ok hst) (ih _ _ _ _ _ _ _ h k)
end NWE

end

/-! 83.words.lean.txt -/
section
/-! ===== printed by wip/gen/made.py: the words that the constructors leave ===== -/
/-- a fresh state, by its places -/
def at_w0l : List (List Int32) := [[0, 0, 0, 0, 0, 0, 0, 0, 0, 0, 0, 250], [], [], [4200, 2900, 600, 0, 50000, 200, 250, 0, 20, 9999, 500, 0, 100, 4, 10, 500, 90, 900, 0, 10, 0, 10, 0, 0, 0, 0, 0, 0, 0, 1], [], [], [], [], [], [], [-1, -1, -1, -1, -1, -1, -1, -1, -1, -1, -1], [-1, -1, -1, -1], [24], [], [], [32]]
/-- behind the states -/
def at_i0l : List (List Int32) := [[], [], [], [], [], [], [], [3000, 4500, 4200, 2000, 3700, 2900, 200, 900, 600, -400, 200, 0, 1, 99999, 50000, 1, 999, 200, -400, 600, 250, 0, 9999, 0, 0, 9999, 20, 0, 99999, 9999, 0, 9999, 500, 0, 2, 0, 0, 9999, 100, 0, 16, 4, 0, 999, 10, 0, 99999, 500, 0, 100, 90, 1, 2000, 900, -999, 999, 0, 1, 99, 10, -99999, 99999, 0, 1, 99, 10, 0, 64, 0, 0, 4500, 0, 0, 9999, 0, 0, 99, 0, 0, 200, 0, 0, 999, 0, 0, 999, 0, 0, 1, 1], [3000, 3450, 3550, 3600, 3650, 3700, 3760, 3840, 3930, 4040, 4200], [0, 0, 0, 0, 0, 0, 0, 0, 250, 0, 0, 0, 0, 0, 0, 0, 0, 0, 0, 0, 0, 0, 0, -1, -1, -1, -1, -1, -1, -1, -1, -1, -1, -1, 4200, 2900, 600, 0, 50000, 200, 250, 0, 20, 9999, 500, 0, 100, 4, 10, 500, 90, 900, 0, 10, 0, 10, 0, 0, 0, 0, 0, 0, 0, 1, 0, 0, 0, 0, 0, 0, 0, 0, 0, 0, 0, 0, 0, 0, 0, 0, 0, 0, 0, 0, 0, 0, 0, 0, 0, 0, 0, 0, 0, 0, 0, 0, 0, 0, 0, 0, 0, 0, 0, 0, 0, 0, 0, 0, 0, 0, 0, 0, 0, 0, 0, 0, 0, 0, 0, 0, 0, 0, 0, 0, 0, 0, 0, 0, 0, 0, 0, 0, 0, 0, 0, 0, 0, 0, 0, 0, 0, 0, 0, 0, 0, 0, 0, 0, 0, 0, 0, 0, 0, 0, 0, 0, 0, 0, 0, 0, 0, 0, 0, 0, 0, 0, 0, 0, 0, 0, 0, 0, 0, 0, 0, 0, 0, 0, 0, 0, 0, 0, 0, 0, 0, 0, 0, 0, 0, 0, 0, 0, 0, 0, 0, 0, 0, 0, 0, 0, 0, 0, 0, 0, 0, 0, 0, 0, 0, 0, 0, 0, 0, 0, 0, 0, 0, 0, 0, 0, 0, 0, 0, 0, 0, 0, 0, 0, 0, 0, 0, 0, 0, 0, 0, 0, 0, 0, 0, 0, 0, 0, 0, 0, 0, 0, 0, 0, 0, 0, 0, 0, 0, 0, 0, 0, 0, 0, 0, 0, 0, 0, 0, 0, 0, 0, 0, 0, 0, 0, 0, 0, 0, 0, 0, 0, 0, 0, 0, 0, 0, 0, 0, 0, 0, 0, 0, 0, 0, 0, 0, 0, 0, 0, 0, 0, 0, 0, 0, 0, 0, 0, 0, 0, 0, 0, 0, 0, 0, 0, 0, -1, -1, -1, -1], [], [], [], []]

end

/-! 84.made.lean.txt -/
section
/-! ===== what the constructors leave is flat memory ===== -/
def nw_zq : List Int32 → List Int32 → Bool
  | [], l => l.all (fun x => decide (x = 0))
  | a :: l, [] => decide (a = 0) && nw_zq l []
  | a :: l, b :: m => decide (a = b) && nw_zq l m
theorem nw_z0 {l : List Int32} (h : l.all (fun x => decide (x = 0)) = true) (i : Nat) : l.getD i 0 = 0 := by
  rw [List.getD_eq_getElem?_getD]
  cases e : l[i]? with
  | none => rfl
  | some x => exact of_decide_eq_true (List.all_eq_true.mp h x (List.mem_of_getElem? e))
theorem nw_zq_ok : ∀ (l m : List Int32), nw_zq l m = true → ∀ i, l.getD i 0 = m.getD i 0 := by
  intro l
  induction l with
  | nil =>
    intro m h i
    have h : m.all (fun x => decide (x = 0)) = true := by cases m <;> exact h
    rw [nw_z0 h]
    rfl
  | cons a l ih =>
    intro m h i
    cases m with
    | nil =>
      have h : (decide (a = 0) && nw_zq l []) = true := h
      rw [Bool.and_eq_true] at h
      cases i with
      | zero => exact of_decide_eq_true h.1
      | succ i =>
        have := ih [] h.2 i
        rw [List.getD_cons_succ, this]
        rfl
    | cons b m =>
      have h : (decide (a = b) && nw_zq l m) = true := h
      rw [Bool.and_eq_true] at h
      cases i with
      | zero => exact of_decide_eq_true h.1
      | succ i =>
        rw [List.getD_cons_succ, List.getD_cons_succ]
        exact ih m h.2 i
/-- an object that was made is the kind's, at its place, with its words -/
def nw_cko (k : fl_K) (p : Nat) (wl : List Int32) (o : nw_O) : Bool := match o, k with
  | .inl (n, l), .inr (0, n', _) => Nat.beq n n' && nw_zq l wl
  | .inr (.inl n), .inr (1, n', _) => Nat.beq n n'
  | .inr (.inr (.inl (t + 2, n, l))), .inr (t' + 2, n', _, b, d) => Nat.beq t t' && (Nat.beq n n' && (Nat.ble l.length n && (List.range n).all (fun i => decide (l.getD i none = if d = 0 then (if wl.getD i 0 = 0 then none else some (wl.getD i 0).toNatClampNeg) else some (p + b + d * i)))))
  | .inr (.inr (.inr (ci, fs))), .inl (cj, ks) => Nat.beq ci cj && decide (fs = ks.mapIdx (fl_fv p (fun i => wl.getD i 0)))
  | _, _ => false
theorem nw_cko_ok {k : fl_K} {p : Nat} {wl : List Int32} {o : nw_O} (h : nw_cko k p wl o = true) : nw_o o = fl_ob k p (fun i => wl.getD i 0) (fun _ => 0) := by
  unfold nw_cko at h
  split at h
  · rename_i n l n' z
    simp only [Bool.and_eq_true] at h
    obtain ⟨h1, h2⟩ := h
    rw [Nat.eq_of_beq_eq_true h1]
    show (.inl (0, n', .inl (fun i => l.getD i 0)) : am_O) = .inl (0, n', .inl (fun i => wl.getD i 0))
    have : (fun i => l.getD i 0) = fun i => wl.getD i 0 := funext (nw_zq_ok l wl h2)
    rw [this]
  · rename_i n n' z
    rw [Nat.eq_of_beq_eq_true h]
    rfl
  · rename_i t n l t' n' τ b d
    simp only [Bool.and_eq_true] at h
    obtain ⟨h1, h2, h3, h4⟩ := h
    rw [Nat.eq_of_beq_eq_true h1, Nat.eq_of_beq_eq_true h2] at *
    rw [fl_ob_2]
    show (.inl (t' + 2, n', .inr (.inr (.inr (.inr (fun i => l.getD i none))))) : am_O) = _
    have : (fun i => l.getD i none) = (fun i => if i < n' then (if d = 0 then (if wl.getD i 0 = 0 then none else some (wl.getD i 0).toNatClampNeg) else some (p + b + d * i)) else none) := by
      funext i
      by_cases hi : i < n'
      · rw [if_pos hi]
        exact of_decide_eq_true (List.all_eq_true.mp h4 i (List.mem_range.mpr hi))
      · rw [if_neg hi]
        have := Nat.le_of_ble_eq_true h3
        rw [List.getD_eq_getElem?_getD, List.getElem?_eq_none (by omega)]
        rfl
    rw [this]
  · rename_i ci fs cj ks
    simp only [Bool.and_eq_true] at h
    obtain ⟨h1, h2⟩ := h
    rw [Nat.eq_of_beq_eq_true h1, of_decide_eq_true h2]
    rfl
  · cases h
def nw_ckl (N : Nat) (wl : Nat → List Int32) : Nat → List nw_O → Bool
  | _, [] => true
  | r, o :: l => nw_cko (fk_kd (fk_K (N + r))) (N + r) (wl r) o && nw_ckl N wl (r + 1) l
theorem nw_ckl_ok {N : Nat} {wl : Nat → List Int32} : ∀ (l : List nw_O) (r : Nat), nw_ckl N wl r l = true → ∀ i : Nat, i < l.length → (l.map nw_o)[i]? = some (fl_ob (fk_kd (fk_K (N + (r + i)))) (N + (r + i)) (fun j => (wl (r + i)).getD j 0) (fun _ => 0)) := by
  intro l
  induction l with
  | nil => intro r _ i hi; simp at hi
  | cons o l ih =>
    intro r h i hi
    have h : (nw_cko (fk_kd (fk_K (N + r))) (N + r) (wl r) o && nw_ckl N wl (r + 1) l) = true := h
    rw [Bool.and_eq_true] at h
    cases i with
    | zero =>
      rw [List.map_cons, List.getElem?_cons_zero, nw_cko_ok h.1]
      rfl
    | succ i =>
      rw [List.map_cons, List.getElem?_cons_succ, ih (r + 1) h.2 i (by simpa using hi)]
      have : r + 1 + i = r + (i + 1) := by omega
      rw [this]
/-- the words of a fresh state; of all, at the start -/
def at_W0 (r i : Nat) : Int32 := (at_w0l.getD r []).getD i 0
def at_i0 (p : Nat) : List Int32 := if p = 0 then [] else if p < 271 then at_w0l.getD ((p - 1) % 90) [] else at_i0l.getD (p - 271) []
def nw_obj0 : nw_O := .inr (.inr (.inr ((pw_new (pw_own 24) 9).getD (0, []))))
def nw_ckst (N : Nat) (r : Option (Option Value × nw_H)) : Bool := match r with
  | some (none, H) => Nat.beq H.1.length 90 && (Nat.beq H.2 1564 && nw_ckl N (fun r => at_w0l.getD r []) 0 H.1)
  | _ => false
/-- the law up to the reference; its making; its constructor up to the copy -/
def nw_r1 : Option (am_L × List Value × nw_H) := nw_to 0 0 8 5000 0 (lv_args 0 [.retAddr 0]) [] ([], 0)
def nw_r2 : Option (am_L × List Value × nw_H) := nw_to 277 0 12 5000 8 [(1, .ref 0), (0, .retAddr 0)] [] ([], 0)
def nw_obj1 : nw_O := .inr (.inr (.inr ((pw_new (pw_own 0) 10).getD (0, []))))
def nw_r3 : Option (am_L × List Value × nw_H) := nw_to 277 183 765 5000 0 (lv_args 0 [.ref 277]) [] ([nw_obj1], 10)
def nw_ckr (N : Nat) (wl : Nat → List Int32) (lv : am_L) (st : List Value) (n s : Nat) (r : Option (am_L × List Value × nw_H)) : Bool := match r with
  | some (lv', st', H) => decide (lv' = lv) && (decide (st' = st) && (Nat.beq H.1.length n && (Nat.beq H.2 s && nw_ckl N wl 0 H.1)))
  | none => false
set_option maxRecDepth 1000000 in
theorem nw_r1_ck : nw_ckr 0 at_i0 [(1, .ref 0), (0, .retAddr 0)] [] 277 5395 nw_r1 = true := by decide +kernel
theorem nw_r2_ck : nw_r2 = some ([(1, .ref 0), (0, .retAddr 0)], [.ref 277, .ref 277], ([nw_obj1], 10)) := rfl
set_option maxRecDepth 1000000 in
theorem nw_r3_ck : (match nw_r3 with
  | some (_, st', H) => decide (st' = [.ref 281, .ref 280]) && (Nat.beq H.1.length 8 && (Nat.beq H.2 77355 && nw_ckl 277 (fun r => at_i0 (277 + r)) 0 H.1))
  | none => false) = true := by decide +kernel
def nw_one (h : Nat) : Bool := nw_ckst (285 + 90 * h) (nw_ev (285 + 90 * h) 2000 32 0 [(0, .ref (285 + 90 * h))] [] ([nw_obj0], 17))

end
