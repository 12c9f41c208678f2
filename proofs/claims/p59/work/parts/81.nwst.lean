/-! ===== a step of that machine ===== -/
abbrev nw_C : Type := Nat × am_L × List Value × nw_H
def nw_gf (N own i pc : Nat) (lv : am_L) (st : List Value) (H : nw_H) : Option nw_C := match st with
  | .ref a :: r => match pw_fld own i, nw_at N H a with
    | some (ci, k), some (.inr (.inr (.inr (cj, fs)))) => if ci = cj then (match fs[k]? with
      | some v => some (pc + 3, lv, v :: r, H)
      | none => none) else none
    | _, _ => none
  | _ => none
def nw_pf (N mi own i pc : Nat) (lv : am_L) (st : List Value) (H : nw_H) : Option nw_C := match st with
  | v :: .ref a :: r => match pw_fld own i, nw_at N H a with
    | some (ci, k), some (.inr (.inr (.inr (cj, fs)))) => bif decide (ci = cj) && (decide (k < fs.length) && (am_ft (pw_fty ci k) v && (!pw_fin ci k || (pw_ini mi && decide (own = ci))))) then some (pc + 3, lv, r, nw_wr N H a (.inr (.inr (.inr (cj, fs.set k v))))) else none
    | _, _ => none
  | _ => none
def nw_ald (N pc : Nat) (lv : am_L) (st : List Value) (H : nw_H) : Option nw_C := match st with
  | .int i :: .ref a :: r => match nw_at N H a with
    | some (.inl (n, l)) => bif am_in i n then some (pc + 1, lv, .int (l.getD i.toNatClampNeg 0) :: r, H) else none
    | _ => none
  | .int i :: .retAddr (k + 1) :: r => bif decide (k < pw_tab_l.length) && am_in i (pw_tab_l.getD k []).length then some (pc + 1, lv, .int (pw_tbl k i.toNatClampNeg) :: r, H) else none
  | _ => none
def nw_ast (N pc : Nat) (lv : am_L) (st : List Value) (H : nw_H) : Option nw_C := match st with
  | .int x :: .int i :: .ref a :: r => match nw_at N H a with
    | some (.inl (n, l)) => bif am_in i n then some (pc + 1, lv, r, nw_wr N H a (.inl (n, nw_sx 0 i.toNatClampNeg l x))) else none
    | _ => none
  | _ => none
def nw_qast (N pc : Nat) (lv : am_L) (st : List Value) (H : nw_H) : Option nw_C := match st with
  | .ref v :: .int i :: .ref a :: r => match nw_at N H a, nw_at N H v with
    | some (.inr (.inr (.inl (t, n, l)))), some (.inr (.inr (.inr (cj, _)))) => bif decide (2 ≤ t ∧ t < 5) && (decide (pw_elt t = cj) && am_in i n) then some (pc + 1, lv, r, nw_wr N H a (.inr (.inr (.inl (t, n, nw_sx none i.toNatClampNeg l (some v)))))) else none
    | _, _ => none
  | _ => none
def nw_len (N pc : Nat) (lv : am_L) (st : List Value) (H : nw_H) : Option nw_C := match st with
  | .ref a :: r => match nw_at N H a with
    | some (.inl (n, _)) => some (pc + 1, lv, .int (Int32.ofNat n) :: r, H)
    | _ => none
  | _ => none
def nw_na (N : Nat) (t : ArrayType) (pc : Nat) (lv : am_L) (st : List Value) (H : nw_H) : Option nw_C := match t, st with
  | .int, .int n :: r => bif !(decide (n < 0)) && decide (n.toNatClampNeg ≤ 1000000) then some (pc + 2, lv, .ref (N + H.1.length) :: r, (H.1 ++ [.inl (n.toNatClampNeg, [])], H.2 + n.toNatClampNeg)) else none
  | .long, .int n :: r => bif !(decide (n < 0)) && decide (n.toNatClampNeg ≤ 1000000) then some (pc + 2, lv, .ref (N + H.1.length) :: r, (H.1 ++ [.inr (.inl n.toNatClampNeg)], H.2 + n.toNatClampNeg)) else none
  | _, _ => none
def nw_nq (N own i pc : Nat) (lv : am_L) (st : List Value) (H : nw_H) : Option nw_C := match pw_anw own i, st with
  | some t, .int n :: r => bif !(decide (n < 0)) && decide (n.toNatClampNeg ≤ 1000000) then some (pc + 3, lv, .ref (N + H.1.length) :: r, (H.1 ++ [.inr (.inr (.inl (t, n.toNatClampNeg, [])))], H.2 + n.toNatClampNeg)) else none
  | _, _ => none
def nw_nw (N own i pc : Nat) (lv : am_L) (st : List Value) (H : nw_H) : Option nw_C := match pw_new own i with
  | some q => some (pc + 3, lv, .ref (N + H.1.length) :: st, (H.1 ++ [.inr (.inr (.inr q))], H.2 + q.2.length))
  | none => none
def nw_ck (N pc : Nat) (lv : am_L) (st : List Value) (H : nw_H) : Option nw_C := match st with
  | .ref a :: r => match nw_at N H a with
    | some (.inl _) => some (pc + 3, lv, .ref a :: r, H)
    | _ => none
  | _ => none
def nw_n0 (pc : Nat) (lv : am_L) (st : List Value) (H : nw_H) : Option nw_C := match st with
  | .ref _ :: r => if am_sum r ≤ 8 then some (pc + 3, lv, r, H) else none
  | _ => none
def nw_n2 (N pc : Nat) (lv : am_L) (st : List Value) (H : nw_H) : Option nw_C := match st with
  | .retAddr (k + 1) :: r => bif decide (k < pw_tab_l.length) && decide (am_sum r ≤ 8) then some (pc + 3, lv, .ref (N + H.1.length) :: r, (H.1 ++ [.inl ((pw_tab_l.getD k []).length, pw_tab_l.getD k [])], H.2 + (pw_tab_l.getD k []).length)) else none
  | _ => none
def nw_st (N mi : Nat) (ins : Instr) (pc : Nat) (lv : am_L) (st : List Value) (H : nw_H) : Option nw_C := match ins with
  | .getfield i => nw_gf N (pw_own mi) i pc lv st H
  | .putfield i => nw_pf N mi (pw_own mi) i pc lv st H
  | .iaload => nw_ald N pc lv st H
  | .iastore => nw_ast N pc lv st H
  | .aastore => nw_qast N pc lv st H
  | .arraylength => nw_len N pc lv st H
  | .new i => nw_nw N (pw_own mi) i pc lv st H
  | .newarray t => nw_na N t pc lv st H
  | .anewarray i => nw_nq N (pw_own mi) i pc lv st H
  | .checkcast _ => nw_ck N pc lv st H
  | .invokespecial _ => (match am_ntk nw_P0 mi ins with
    | some 0 => nw_n0 pc lv st H
    | _ => none)
  | .invokevirtual _ => (match am_ntk nw_P0 mi ins with
    | some 2 => nw_n2 N pc lv st H
    | _ => none)
  | _ => bif nw_pl ins then (match am_st nw_P0 mi ins pc lv st ([], 0) with
    | some c => some (c.1, c.2.1, c.2.2.1, H)
    | none => none) else none
section NWT
variable {B : am_M} {L mi own i pc pc' : Nat} {xs : Nat → Int32} {lv lv' : am_L} {st st' : List Value} {H H' : nw_H}
theorem nw_app (o : nw_O) (n : Nat) : ((nw_h B H).1 ++ [nw_o o], (nw_h B H).2 + n) = nw_h B (H.1 ++ [o], H.2 + n) := by
  unfold nw_h
  simp [List.append_assoc, Nat.add_assoc]
theorem nw_hlen : (nw_h B H).1.length = B.1.length + H.1.length := by
  unfold nw_h
  simp
theorem nw_gf_ok (h : nw_gf B.1.length (pw_own mi) i pc lv st H = some (pc', lv', st', H')) : am_gf (pw_P L xs) (pw_own mi) i pc lv st (nw_h B H) = some (pc', lv', st', nw_h B H') := by
  unfold nw_gf at h
  split at h
  · rename_i a r
    split at h
    · rename_i ci k cj fs e1 e2
      have e3 := (nw_at_ok e2).1
      show ((match pw_fld (pw_own mi) i, (nw_h B H).1[a]? with
        | some (ci, k), some (.inr (cj, fs)) => if ci = cj then am_pu 3 pc lv r (nw_h B H) fs[k]? else none
        | _, _ => none) : Option am_C) = _
      rw [e1, e3]
      show ((if ci = cj then am_pu 3 pc lv r (nw_h B H) fs[k]? else none) : Option am_C) = _
      by_cases hc : ci = cj
      · rw [if_pos hc] at h ⊢
        cases hf : fs[k]? with
        | none => rw [hf] at h; cases h
        | some v => rw [hf] at h; cases h; rfl
      · rw [if_neg hc] at h; cases h
    · cases h
  · cases h
theorem nw_pf_ok (h : nw_pf B.1.length mi (pw_own mi) i pc lv st H = some (pc', lv', st', H')) : am_pf (pw_P L xs) mi (pw_own mi) i pc lv st (nw_h B H) = some (pc', lv', st', nw_h B H') := by
  unfold nw_pf at h
  split at h
  · rename_i v a r
    split at h
    · rename_i ci k cj fs e1 e2
      obtain ⟨e3, e4⟩ := nw_at_ok e2
      show ((match pw_fld (pw_own mi) i, (nw_h B H).1[a]? with
        | some (ci, k), some (.inr (cj, fs)) => bif decide (ci = cj) && (decide (k < fs.length) && (am_ft (pw_fty ci k) v && (!pw_fin ci k || (pw_ini mi && decide (pw_own mi = ci))))) then some (pc + 3, lv, r, ((nw_h B H).1.set a (.inr (cj, fs.set k v)), (nw_h B H).2)) else none
        | _, _ => none) : Option am_C) = _
      rw [e1, e3]
      obtain ⟨hb, h⟩ := am_bif h
      show ((bif decide (ci = cj) && (decide (k < fs.length) && (am_ft (pw_fty ci k) v && (!pw_fin ci k || (pw_ini mi && decide (pw_own mi = ci))))) then some (pc + 3, lv, r, ((nw_h B H).1.set a (.inr (cj, fs.set k v)), (nw_h B H).2)) else none) : Option am_C) = _
      rw [hb]
      cases h
      show (some (_, _, _, ((nw_h B H).1.set a (nw_o (.inr (.inr (.inr (cj, fs.set k v))))), (nw_h B H).2)) : Option am_C) = _
      rw [e4]
    · cases h
  · cases h
theorem nw_ald_ok (h : nw_ald B.1.length pc lv st H = some (pc', lv', st', H')) : am_ald (pw_P L xs) pc lv st (nw_h B H) = some (pc', lv', st', nw_h B H') := by
  unfold nw_ald at h
  split at h
  · rename_i j a r
    split at h
    · rename_i n l e2
      obtain ⟨e3, e4⟩ := nw_at_ok e2
      show ((match (nw_h B H).1[a]? with
        | some (.inl (0, n, .inl f)) => bif am_in j n then some (pc + 1, lv, .int (f j.toNatClampNeg) :: r, nw_h B H) else none
        | _ => none) : Option am_C) = _
      rw [e3]
      obtain ⟨hb, h⟩ := am_bif h
      show ((bif am_in j n then some (pc + 1, lv, Value.int (l.getD j.toNatClampNeg 0) :: r, nw_h B H) else none) : Option am_C) = _
      rw [hb]
      cases h
      rfl
    · cases h
  · rename_i j k r
    obtain ⟨hb, h⟩ := am_bif h
    simp only [Bool.and_eq_true, decide_eq_true_eq] at hb
    show ((match (if k < pw_tab_l.length then some ((pw_tab_l.getD k []).length, pw_tbl k) else none) with
      | some (n, f) => bif am_in j n then some (pc + 1, lv, Value.int (f j.toNatClampNeg) :: r, nw_h B H) else none
      | _ => none) : Option am_C) = _
    rw [if_pos hb.1]
    show ((bif am_in j (pw_tab_l.getD k []).length then some (pc + 1, lv, Value.int (pw_tbl k j.toNatClampNeg) :: r, nw_h B H) else none) : Option am_C) = _
    rw [hb.2]
    cases h
    rfl
  · cases h
theorem nw_ast_ok (h : nw_ast B.1.length pc lv st H = some (pc', lv', st', H')) : am_ast pc lv st (nw_h B H) = some (pc', lv', st', nw_h B H') := by
  unfold nw_ast at h
  split at h
  · rename_i x j a r
    split at h
    · rename_i n l e2
      obtain ⟨e3, e4⟩ := nw_at_ok e2
      show ((match (nw_h B H).1[a]? with
        | some (.inl (0, n, .inl f)) => bif am_in j n then some (pc + 1, lv, r, ((nw_h B H).1.set a (.inl (0, n, .inl (upd f j.toNatClampNeg x))), (nw_h B H).2)) else none
        | _ => none) : Option am_C) = _
      rw [e3]
      obtain ⟨hb, h⟩ := am_bif h
      show ((bif am_in j n then some (pc + 1, lv, r, ((nw_h B H).1.set a (.inl (0, n, .inl (upd (fun i => l.getD i 0) j.toNatClampNeg x))), (nw_h B H).2)) else none) : Option am_C) = _
      rw [hb]
      cases h
      have e5 : upd (fun i => l.getD i 0) j.toNatClampNeg x = fun i => (nw_sx 0 j.toNatClampNeg l x).getD i 0 := by
        funext i
        rw [nw_sx_get]
        rfl
      rw [e5]
      show (some (_, _, _, ((nw_h B H).1.set a (nw_o (.inl (n, nw_sx 0 j.toNatClampNeg l x))), (nw_h B H).2)) : Option am_C) = _
      rw [e4]
    · cases h
  · cases h
theorem nw_qast_ok (h : nw_qast B.1.length pc lv st H = some (pc', lv', st', H')) : am_qast (pw_P L xs) pc lv st (nw_h B H) = some (pc', lv', st', nw_h B H') := by
  unfold nw_qast at h
  split at h
  · rename_i v j a r
    split at h
    · rename_i t n l cj fs e2 e2'
      obtain ⟨e3, e4⟩ := nw_at_ok e2
      obtain ⟨e3', -⟩ := nw_at_ok e2'
      show ((match (nw_h B H).1[a]?, (nw_h B H).1[v]? with
        | some (.inl (t, n, .inr (.inr (.inr (.inr f))))), some (.inr (cj, _)) => bif decide (2 ≤ t ∧ t < 5) && (decide (pw_elt t = cj) && am_in j n) then some (pc + 1, lv, r, ((nw_h B H).1.set a (.inl (t, n, .inr (.inr (.inr (.inr (va_up f j.toNatClampNeg (some v))))))), (nw_h B H).2)) else none
        | _, _ => none) : Option am_C) = _
      rw [e3, e3']
      obtain ⟨hb, h⟩ := am_bif h
      show ((bif decide (2 ≤ t ∧ t < 5) && (decide (pw_elt t = cj) && am_in j n) then some (pc + 1, lv, r, ((nw_h B H).1.set a (.inl (t, n, .inr (.inr (.inr (.inr (va_up (fun i => l.getD i none) j.toNatClampNeg (some v))))))), (nw_h B H).2)) else none) : Option am_C) = _
      rw [hb]
      cases h
      have e5 : va_up (fun i => l.getD i none) j.toNatClampNeg (some v) = fun i => (nw_sx none j.toNatClampNeg l (some v)).getD i none := by
        funext i
        rw [nw_sx_get]
        rfl
      rw [e5]
      show (some (_, _, _, ((nw_h B H).1.set a (nw_o (.inr (.inr (.inl (t, n, nw_sx none j.toNatClampNeg l (some v)))))), (nw_h B H).2)) : Option am_C) = _
      rw [e4]
    · cases h
  · cases h
theorem nw_len_ok (h : nw_len B.1.length pc lv st H = some (pc', lv', st', H')) : am_len (pw_P L xs) pc lv st (nw_h B H) = some (pc', lv', st', nw_h B H') := by
  unfold nw_len at h
  split at h
  · rename_i a r
    split at h
    · rename_i n l e2
      obtain ⟨e3, -⟩ := nw_at_ok e2
      show ((match (nw_h B H).1[a]? with
        | some (.inl (t, n, _)) => if t < 5 then some (pc + 1, lv, .int (Int32.ofNat n) :: r, nw_h B H) else none
        | _ => none) : Option am_C) = _
      rw [e3]
      cases h
      rfl
    · cases h
  · cases h
theorem nw_na_ok {t : ArrayType} (h : nw_na B.1.length t pc lv st H = some (pc', lv', st', H')) : am_na t pc lv st (nw_h B H) = some (pc', lv', st', nw_h B H') := by
  unfold nw_na at h
  split at h
  · rename_i n r
    obtain ⟨hb, h⟩ := am_bif h
    show ((bif !(decide (n < 0)) && decide (n.toNatClampNeg ≤ 1000000) then some (pc + 2, lv, Value.ref (nw_h B H).1.length :: r, ((nw_h B H).1 ++ [.inl (0, n.toNatClampNeg, .inl (fun _ => 0))], (nw_h B H).2 + n.toNatClampNeg)) else none) : Option am_C) = _
    rw [hb]
    cases h
    have e : (fun _ => 0 : Nat → Int32) = fun i => ([] : List Int32).getD i 0 := rfl
    rw [nw_hlen, e]
    show (some (_, _, _ :: _, ((nw_h B H).1 ++ [nw_o (.inl (n.toNatClampNeg, []))], _)) : Option am_C) = _
    rw [nw_app]
  · rename_i n r
    obtain ⟨hb, h⟩ := am_bif h
    show ((bif !(decide (n < 0)) && decide (n.toNatClampNeg ≤ 1000000) then some (pc + 2, lv, Value.ref (nw_h B H).1.length :: r, ((nw_h B H).1 ++ [.inl (1, n.toNatClampNeg, .inr (.inl (fun _ => 0)))], (nw_h B H).2 + n.toNatClampNeg)) else none) : Option am_C) = _
    rw [hb]
    cases h
    rw [nw_hlen]
    show (some (_, _, _ :: _, ((nw_h B H).1 ++ [nw_o (.inr (.inl n.toNatClampNeg))], _)) : Option am_C) = _
    rw [nw_app]
  · cases h
theorem nw_nq_ok (h : nw_nq B.1.length (pw_own mi) i pc lv st H = some (pc', lv', st', H')) : am_nq (pw_P L xs) (pw_own mi) i pc lv st (nw_h B H) = some (pc', lv', st', nw_h B H') := by
  unfold nw_nq at h
  split at h
  · rename_i t n r e1
    obtain ⟨hb, h⟩ := am_bif h
    show ((match pw_anw (pw_own mi) i, (Value.int n :: r) with
      | some t, .int n :: r => bif !(decide (n < 0)) && decide (n.toNatClampNeg ≤ 1000000) then some (pc + 3, lv, .ref (nw_h B H).1.length :: r, ((nw_h B H).1 ++ [.inl (t, n.toNatClampNeg, .inr (.inr (.inr (.inr (fun _ => none)))))], (nw_h B H).2 + n.toNatClampNeg)) else none
      | _, _ => none) : Option am_C) = _
    rw [e1]
    show ((bif !(decide (n < 0)) && decide (n.toNatClampNeg ≤ 1000000) then some (pc + 3, lv, Value.ref (nw_h B H).1.length :: r, ((nw_h B H).1 ++ [.inl (t, n.toNatClampNeg, .inr (.inr (.inr (.inr (fun _ => none)))))], (nw_h B H).2 + n.toNatClampNeg)) else none) : Option am_C) = _
    rw [hb]
    cases h
    rw [nw_hlen]
    show (some (_, _, _ :: _, ((nw_h B H).1 ++ [nw_o (.inr (.inr (.inl (t, n.toNatClampNeg, []))))], _)) : Option am_C) = _
    rw [nw_app]
  · cases h
theorem nw_nw_ok (h : nw_nw B.1.length (pw_own mi) i pc lv st H = some (pc', lv', st', H')) : am_nw (pw_P L xs) (pw_own mi) i pc lv st (nw_h B H) = some (pc', lv', st', nw_h B H') := by
  unfold nw_nw at h
  show ((match pw_new (pw_own mi) i with
    | some (ci, fs) => some (pc + 3, lv, .ref (nw_h B H).1.length :: st, ((nw_h B H).1 ++ [.inr (ci, fs)], (nw_h B H).2 + fs.length))
    | none => none) : Option am_C) = _
  cases e1 : pw_new (pw_own mi) i with
  | none => rw [e1] at h; cases h
  | some q =>
    rw [e1] at h
    cases h
    obtain ⟨ci, fs⟩ := q
    rw [nw_hlen]
    show (some (_, _, _ :: _, ((nw_h B H).1 ++ [nw_o (.inr (.inr (.inr (ci, fs))))], _)) : Option am_C) = _
    rw [nw_app]
theorem nw_ck_ok (h : nw_ck B.1.length pc lv st H = some (pc', lv', st', H')) : am_st (pw_P L xs) mi (.checkcast i) pc lv st (nw_h B H) = some (pc', lv', st', nw_h B H') := by
  unfold nw_ck at h
  split at h
  · rename_i a r
    split at h
    · rename_i q e2
      obtain ⟨e3, -⟩ := nw_at_ok e2
      show ((match (nw_h B H).1[a]? with
        | some (.inl (0, _)) => some (pc + 3, lv, .ref a :: r, nw_h B H)
        | _ => none) : Option am_C) = _
      rw [e3]
      cases h
      rfl
    · cases h
  · cases h
theorem nw_n0_ok (h : nw_n0 pc lv st H = some (pc', lv', st', H')) : am_n0 pc lv st (nw_h B H) = some (pc', lv', st', nw_h B H') := by
  unfold nw_n0 at h
  split at h
  · rename_i a r
    show ((if am_sum r ≤ 8 then some (pc + 3, lv, r, nw_h B H) else none) : Option am_C) = _
    by_cases hs : am_sum r ≤ 8
    · rw [if_pos hs] at h ⊢; cases h; rfl
    · rw [if_neg hs] at h; cases h
  · cases h
theorem nw_n2_ok (h : nw_n2 B.1.length pc lv st H = some (pc', lv', st', H')) : am_n2 (pw_P L xs) pc lv st (nw_h B H) = some (pc', lv', st', nw_h B H') := by
  unfold nw_n2 at h
  split at h
  · rename_i k r
    obtain ⟨hb, h⟩ := am_bif h
    simp only [Bool.and_eq_true, decide_eq_true_eq] at hb
    show ((match (if k < pw_tab_l.length then some ((pw_tab_l.getD k []).length, pw_tbl k) else none) with
      | some (n, f) => if am_sum r ≤ 8 ∧ k + 1 ≠ 0 then some (pc + 3, lv, Value.ref (nw_h B H).1.length :: r, ((nw_h B H).1 ++ [.inl (0, n, .inl f)], (nw_h B H).2 + n)) else none
      | none => none) : Option am_C) = _
    rw [if_pos hb.1]
    show ((if am_sum r ≤ 8 ∧ k + 1 ≠ 0 then some (pc + 3, lv, Value.ref (nw_h B H).1.length :: r, ((nw_h B H).1 ++ [nw_o (.inl ((pw_tab_l.getD k []).length, pw_tab_l.getD k []))], (nw_h B H).2 + (pw_tab_l.getD k []).length)) else none) : Option am_C) = _
    rw [if_pos ⟨hb.2, Nat.succ_ne_zero k⟩, nw_hlen, nw_app]
    cases h
    rfl
  · cases h
theorem nw_st_ok {ins : Instr} (h : nw_st B.1.length mi ins pc lv st H = some (pc', lv', st', H')) : am_st (pw_P L xs) mi ins pc lv st (nw_h B H) = some (pc', lv', st', nw_h B H') := by
  cases ins <;> first
    | exact nw_gf_ok h
    | exact nw_pf_ok h
    | exact nw_ald_ok h
    | exact nw_ast_ok h
    | exact nw_qast_ok h
    | exact nw_len_ok h
    | exact nw_nw_ok h
    | exact nw_na_ok h
    | exact nw_nq_ok h
    | exact nw_ck_ok h
    | (cases h; done)
    | skip
  case invokespecial i =>
    replace h : ((match am_ntk nw_P0 mi (.invokespecial i) with
      | some 0 => nw_n0 pc lv st H
      | _ => none) : Option nw_C) = some (pc', lv', st', H') := h
    show ((match am_ntk (pw_P L xs) mi (.invokespecial i) with
      | some k => am_nt (pw_P L xs) k pc lv st (nw_h B H)
      | none => none) : Option am_C) = _
    split at h
    · rename_i e
      have e : am_ntk (pw_P L xs) mi (.invokespecial i) = some 0 := e
      rw [e]
      exact nw_n0_ok h
    · cases h
  case invokevirtual i =>
    replace h : ((match am_ntk nw_P0 mi (.invokevirtual i) with
      | some 2 => nw_n2 B.1.length pc lv st H
      | _ => none) : Option nw_C) = some (pc', lv', st', H') := h
    show ((match am_ntk (pw_P L xs) mi (.invokevirtual i) with
      | some k => am_nt (pw_P L xs) k pc lv st (nw_h B H)
      | none => none) : Option am_C) = _
    split at h
    · rename_i e
      have e : am_ntk (pw_P L xs) mi (.invokevirtual i) = some 2 := e
      rw [e]
      exact nw_n2_ok h
    · cases h
  all_goals
    unfold nw_st at h
    obtain ⟨hp, h⟩ := am_bif h
    split at h
    · rename_i c e
      cases h
      exact nw_pl_ok hp e
    · cases h
end NWT
