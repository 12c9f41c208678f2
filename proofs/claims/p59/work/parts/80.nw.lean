/-! ===== what constructors make: a machine over lists behind a heap that it leaves alone; the kernel runs it ===== -/
/-- what is made: ints, longs (all 0), references, an object -/
abbrev nw_O : Type := (Nat × List Int32) ⊕ (Nat ⊕ ((Nat × Nat × List (Option Nat)) ⊕ (Nat × List Value)))
abbrev nw_H : Type := List nw_O × Nat
def nw_o (o : nw_O) : am_O := match o with
  | .inl q => .inl (0, q.1, .inl (fun i => q.2.getD i 0))
  | .inr (.inl n) => .inl (1, n, .inr (.inl (fun _ => 0)))
  | .inr (.inr (.inl q)) => .inl (q.1, q.2.1, .inr (.inr (.inr (.inr (fun i => q.2.2.getD i none)))))
  | .inr (.inr (.inr q)) => .inr q
def nw_sx {α : Type} (d : α) : Nat → List α → α → List α
  | 0, l, x => x :: l.tail
  | k + 1, l, x => l.headD d :: nw_sx d k l.tail x
theorem nw_sx_get {α : Type} (d x : α) : ∀ (k : Nat) (l : List α) (i : Nat), (nw_sx d k l x).getD i d = if i = k then x else l.getD i d := by
  intro k
  induction k with
  | zero =>
    intro l i
    unfold nw_sx
    cases i with
    | zero => simp
    | succ i => cases l <;> simp
  | succ k ih =>
    intro l i
    unfold nw_sx
    cases i with
    | zero => cases l <;> simp
    | succ i =>
      rw [List.getD_cons_succ, ih]
      cases l <;> simp
def nw_h (B : am_M) (H : nw_H) : am_M := (B.1 ++ H.1.map nw_o, B.2 + H.2)
def nw_at (N : Nat) (H : nw_H) (a : Nat) : Option nw_O := bif Nat.ble N a then H.1[a - N]? else none
def nw_wr (N : Nat) (H : nw_H) (a : Nat) (o : nw_O) : nw_H := (H.1.set (a - N) o, H.2)
theorem nw_at_ok {B : am_M} {H : nw_H} {a : Nat} {o : nw_O} (h : nw_at B.1.length H a = some o) : (nw_h B H).1[a]? = some (nw_o o) ∧ ∀ o', ((nw_h B H).1.set a (nw_o o'), (nw_h B H).2) = nw_h B (nw_wr B.1.length H a o') := by
  unfold nw_at at h
  cases hb : Nat.ble B.1.length a with
  | false => rw [hb] at h; cases h
  | true =>
    rw [hb] at h
    replace h : H.1[a - B.1.length]? = some o := h
    have hle : B.1.length ≤ a := Nat.le_of_ble_eq_true hb
    unfold nw_h nw_wr
    refine ⟨?_, fun o' => ?_⟩
    · rw [List.getElem?_append_right hle, List.getElem?_map, h]
      rfl
    · dsimp only
      rw [List.set_append_right _ _ hle, List.map_set]
def nw_P0 : am_Pg := pw_P 0 (fun _ => 0)
/-- instructions that leave the heap alone -/
def nw_pl (ins : Instr) : Bool := match ins with
  | .iconst _ => true
  | .bipush _ => true
  | .sipush _ => true
  | .ldc _ => true
  | .iload_n _ => true
  | .aload_n _ => true
  | .iload _ => true
  | .aload _ => true
  | .istore_n _ => true
  | .astore_n _ => true
  | .iinc _ _ => true
  | .iadd => true
  | .isub => true
  | .imul => true
  | .dup => true
  | .if_icmp _ _ => true
  | .goto _ => true
  | .getstatic _ => true
  | _ => false
theorem nw_pu_M {n pc : Nat} {lv : am_L} {st : List Value} {M M' : am_M} {o : Option Value} {c : am_C} (h : am_pu n pc lv st M o = some c) : am_pu n pc lv st M' o = some (c.1, c.2.1, c.2.2.1, M') := by
  unfold am_pu at h ⊢
  cases o with
  | none => cases h
  | some v => cases h; rfl
theorem nw_so_M {w n pc i nL : Nat} {lv : am_L} {st : List Value} {M M' : am_M} {c : am_C} (h : am_so w n pc i nL lv st M = some c) : am_so w n pc i nL lv st M' = some (c.1, c.2.1, c.2.2.1, M') := by
  unfold am_so at h ⊢
  cases st with
  | nil => cases h
  | cons v r =>
    dsimp only at h ⊢
    cases hl : am_ld w (some v) with
    | none => rw [hl] at h; cases h
    | some u =>
      rw [hl] at h
      dsimp only at h ⊢
      by_cases h1 : v.category = 2
      · rw [if_pos h1] at h ⊢
        by_cases h2 : i + 1 < nL
        · rw [if_pos h2] at h ⊢; cases h; rfl
        · rw [if_neg h2] at h; cases h
      · rw [if_neg h1] at h ⊢
        by_cases h2 : i < nL
        · rw [if_pos h2] at h ⊢; cases h; rfl
        · rw [if_neg h2] at h; cases h
theorem nw_2_M {pc : Nat} {lv : am_L} {st : List Value} {M M' : am_M} {f : Value → Value → Option Value} {c : am_C} (h : am_2 pc lv st M f = some c) : am_2 pc lv st M' f = some (c.1, c.2.1, c.2.2.1, M') := by
  unfold am_2 at h ⊢
  split at h
  · rename_i y x r
    cases hf : f x y with
    | none => rw [hf] at h; cases h
    | some v => rw [hf] at h; cases h; rfl
  · cases h
theorem nw_pl_ok {L mi pc : Nat} {xs : Nat → Int32} {ins : Instr} {lv : am_L} {st : List Value} {M M' : am_M} {c : am_C} (hp : nw_pl ins = true) (h : am_st nw_P0 mi ins pc lv st M = some c) : am_st (pw_P L xs) mi ins pc lv st M' = some (c.1, c.2.1, c.2.2.1, M') := by
  cases ins <;> first
    | (cases hp; done)
    | (cases h; rfl)
    | exact nw_pu_M h
    | exact nw_so_M h
    | exact nw_2_M h
    | skip
  case ldc i =>
    replace h : (match pw_con (pw_own mi) i with
      | some (.int v) => some (pc + 2, lv, .int v :: st, M)
      | some (.float v) => some (pc + 2, lv, .float v :: st, M)
      | _ => none) = some c := h
    show (match pw_con (pw_own mi) i with
      | some (.int v) => some (pc + 2, lv, Value.int v :: st, M')
      | some (.float v) => some (pc + 2, lv, .float v :: st, M')
      | _ => none) = _
    split at h
    · cases h; rfl
    · cases h; rfl
    · cases h
  case iinc i n =>
    replace h : (match am_lk lv i with
      | some (.int x) => if i < pw_mxl mi then some (pc + 3, am_s1 lv i (.int (x + Int32.ofInt n)), st, M) else none
      | _ => none) = some c := h
    show (match am_lk lv i with
      | some (.int x) => if i < pw_mxl mi then some (pc + 3, am_s1 lv i (.int (x + Int32.ofInt n)), st, M') else none
      | _ => none) = _
    split at h
    · by_cases hi : i < pw_mxl mi
      · rw [if_pos hi] at h ⊢; cases h; rfl
      · rw [if_neg hi] at h; cases h
    · cases h
  case dup =>
    cases st with
    | nil => cases h
    | cons v r =>
      replace h : (if v.category = 1 then some (pc + 1, lv, v :: v :: r, M) else none) = some c := h
      show (if v.category = 1 then some (pc + 1, lv, v :: v :: r, M') else none) = _
      by_cases hi : v.category = 1
      · rw [if_pos hi] at h ⊢; cases h; rfl
      · rw [if_neg hi] at h; cases h
  case if_icmp cd off =>
    obtain ⟨x, y, r, rfl⟩ : ∃ x y r, st = Value.int y :: .int x :: r := by
      cases st with
      | nil => cases h
      | cons v r =>
        cases r with
        | nil => cases v <;> cases h
        | cons w r => cases v <;> cases w <;> first | exact ⟨_, _, _, rfl⟩ | cases h
    replace h : am_br (am_c2 cd x y) pc off lv r M = some c := h
    show am_br (am_c2 cd x y) pc off lv r M' = _
    unfold am_br at h ⊢
    cases ht : am_tg pc off with
    | none => rw [ht] at h; cases h
    | some t =>
      rw [ht] at h
      dsimp only at h ⊢
      cases hb : am_c2 cd x y with
      | false => rw [hb] at h; cases h; rfl
      | true => rw [hb] at h; cases h; rfl
  case goto off =>
    replace h : am_go pc off lv st M = some c := h
    show am_go pc off lv st M' = _
    unfold am_go at h ⊢
    cases ht : am_tg pc off with
    | none => rw [ht] at h; cases h
    | some t => rw [ht] at h; cases h; rfl
  case getstatic i =>
    replace h : (match pw_sta (pw_own mi) i with
      | some k => some (pc + 3, lv, .retAddr k :: st, M)
      | none => none) = some c := h
    show (match pw_sta (pw_own mi) i with
      | some k => some (pc + 3, lv, Value.retAddr k :: st, M')
      | none => none) = _
    cases hs : pw_sta (pw_own mi) i with
    | none => rw [hs] at h; cases h
    | some t => rw [hs] at h; cases h; rfl
