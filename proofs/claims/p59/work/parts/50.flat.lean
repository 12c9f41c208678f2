/-! ===== FLAT MEMORY: all that the two constructors make has its kind and its place (49); what changes is words: ints, longs, how many states were made ===== -/
/-- a value: int, long, reference (kind, place), table, float, double -/
abbrev fl_V : Type := Int32 ⊕ (Int64 ⊕ ((Nat × Nat) ⊕ (Nat ⊕ (UInt32 ⊕ UInt64))))
abbrev fl_M : Type := (Nat → Nat → Int32) × ((Nat → Nat → Int64) × Nat)
abbrev fl_L : Type := List (Option fl_V)
abbrev fl_C : Type := Nat × fl_L × List fl_V × fl_M
/-- what it is on the pure machine -/
def fl_c (v : fl_V) : Value := match v with
  | .inl x => .int x
  | .inr (.inl x) => .long x
  | .inr (.inr (.inl q)) => .ref q.2
  | .inr (.inr (.inr (.inl c))) => .retAddr c
  | .inr (.inr (.inr (.inr (.inl x)))) => .float x
  | .inr (.inr (.inr (.inr (.inr x)))) => .double x
def fl_cat (v : fl_V) : Nat := match v with
  | .inl _ => 1
  | .inr (.inl _) => 2
  | .inr (.inr (.inl _)) => 1
  | .inr (.inr (.inr (.inl _))) => 1
  | .inr (.inr (.inr (.inr (.inl _)))) => 1
  | .inr (.inr (.inr (.inr (.inr _)))) => 2
theorem fl_cat_c (v : fl_V) : (fl_c v).category = fl_cat v := by
  rcases v with x | x | q | c | x | x <;> rfl
def fl_fv (p : Nat) (w : Nat → Int32) (j : Nat) (f : Option (Nat × Nat)) : Value := match f with
  | none => .int (w j)
  | some q => .ref (p + q.2)
def fl_ob (k : fl_K) (p : Nat) (w : Nat → Int32) (l : Nat → Int64) : am_O := match k with
  | .inl (ci, fs) => .inr (ci, fs.mapIdx (fl_fv p w))
  | .inr (0, n, _) => .inl (0, n, .inl w)
  | .inr (1, n, _) => .inl (1, n, .inr (.inl l))
  | .inr (t, n, _, b, m) => .inl (t, n, .inr (.inr (.inr (.inr (fun i => if i < n then (if m = 0 then (if w i = 0 then none else some (w i).toNatClampNeg) else some (p + b + m * i)) else none)))))
/-- the memory as the pure machine has it -/
def fl_H (m : fl_M) : am_M := ((List.range (fl_N m.2.2)).map (fun p => fl_ob (fk_kd (fk_K p)) p (m.1 p) (m.2.1 p)), fl_S m.2.2)
def fl_up (f : Nat → Nat → Int32) (p k : Nat) (v : Int32) : Nat → Nat → Int32 := fun q j => if q = p ∧ j = k then v else f q j
def fl_row (f : Nat → Nat → Int32) (p : Nat) (w : Nat → Int32) : Nat → Nat → Int32 := fun q j => if q = p then w j else f q j
def fl_upL (f : Nat → Nat → Int64) (p k : Nat) (v : Int64) : Nat → Nat → Int64 := fun q j => if q = p ∧ j = k then v else f q j
theorem fl_get {m : fl_M} {p : Nat} (h : p < fl_N m.2.2) : (fl_H m).1[p]? = some (fl_ob (fk_kd (fk_K p)) p (m.1 p) (m.2.1 p)) := by
  simp [fl_H, h]
theorem fl_row_self (f : Nat → Nat → Int32) (p : Nat) (w : Nat → Int32) : fl_row f p w p = w := by
  funext j
  simp [fl_row]
theorem fl_row_ne {f : Nat → Nat → Int32} {p q : Nat} {w : Nat → Int32} (h : q ≠ p) : fl_row f p w q = f q := by
  funext j
  simp [fl_row, h]
theorem fl_setR {m : fl_M} {p : Nat} {w : Nat → Int32} (h : p < fl_N m.2.2) : ((fl_H m).1.set p (fl_ob (fk_kd (fk_K p)) p w (m.2.1 p)), (fl_H m).2) = fl_H (fl_row m.1 p w, m.2) := by
  unfold fl_H
  refine Prod.ext ?_ rfl
  refine List.ext_getElem? (fun q => ?_)
  by_cases hq : q = p
  · subst hq
    simp [List.getElem?_set, h, fl_row_self]
  · rw [List.getElem?_set_ne (Ne.symm hq)]
    by_cases h2 : q < fl_N m.2.2
    · simp [h2, fl_row_ne hq]
    · simp [h2]
theorem fl_setL {m : fl_M} {p : Nat} {l : Nat → Int64} (h : p < fl_N m.2.2) : ((fl_H m).1.set p (fl_ob (fk_kd (fk_K p)) p (m.1 p) l), (fl_H m).2) = fl_H (m.1, (fun q j => if q = p then l j else m.2.1 q j), m.2.2) := by
  unfold fl_H
  refine Prod.ext ?_ rfl
  refine List.ext_getElem? (fun q => ?_)
  by_cases hq : q = p
  · subst hq
    simp [List.getElem?_set, h]
  · rw [List.getElem?_set_ne (Ne.symm hq)]
    by_cases h2 : q < fl_N m.2.2
    · simp [h2, hq]
    · simp [h2]
theorem fl_up_row (f : Nat → Nat → Int32) (p k : Nat) (v : Int32) : fl_up f p k v = fl_row f p (upd (f p) k v) := by
  funext q j
  unfold fl_up fl_row upd
  by_cases h1 : q = p <;> by_cases h2 : j = k <;> simp [h1, h2]
/-- a field is written -/
theorem fl_fset {p k : Nat} {w : Nat → Int32} {fs : List (Option (Nat × Nat))} {x : Int32} (h : fs[k]? = some none) : (fs.mapIdx (fl_fv p w)).set k (.int x) = fs.mapIdx (fl_fv p (upd w k x)) := by
  refine List.ext_getElem? (fun j => ?_)
  by_cases hj : j = k
  · subst hj
    have hl : j < fs.length := (List.getElem?_eq_some_iff.mp h).1
    rw [List.getElem?_set_self (by simpa using hl)]
    simp [List.getElem?_mapIdx, h, fl_fv, upd]
  · rw [List.getElem?_set_ne (Ne.symm hj)]
    simp only [List.getElem?_mapIdx]
    cases fs[j]? with
    | none => rfl
    | some o => cases o <;> simp [fl_fv, upd, hj]
/-- references that hold: the kind is right, the place is made -/
def fl_ok (h : Nat) (v : fl_V) : Prop := match v with
  | .inr (.inr (.inl q)) => fk_K q.2 = q.1 ∧ q.2 < fl_N h
  | _ => True
def fk_okf (K : Nat → Nat) (lim p : Nat) : Bool := match fk_kd (K p) with
  | .inl (_, fs) => fs.all (fun f => match f with
    | none => true
    | some q => decide (p + q.2 < lim) && decide (K (p + q.2) = q.1))
  | .inr (_, n, t, b, m) => decide (m = 0) || (List.range n).all (fun i => decide (p + b + m * i < lim) && decide (K (p + b + m * i) = t))
set_option maxRecDepth 100000 in
theorem fk_ok0 : (List.range 285).all (fk_okf (fun p => fk_K0.getD p 0) 285) = true := by decide +kernel
set_option maxRecDepth 100000 in
theorem fk_ok1 : (List.range 90).all (fk_okf (fun p => fk_K1.getD p 0) 90) = true := by decide +kernel
theorem fk_K_lo {p : Nat} (h : p < 285) : fk_K p = fk_K0.getD p 0 := by simp [fk_K, h]
theorem fk_K_hi {r q : Nat} (h : r < 90) : fk_K (285 + 90 * q + r) = fk_K1.getD r 0 := by
  unfold fk_K
  rw [if_neg (by omega)]
  have e : (285 + 90 * q + r - 285) % 90 = r := by omega
  rw [e]
/-- a field that is a reference leads to its kind -/
theorem fk_fld {h p ci k : Nat} {fs : List (Option (Nat × Nat))} {q : Nat × Nat} (hp : p < fl_N h) (hk : fk_kd (fk_K p) = .inl (ci, fs)) (hf : fs[k]? = some (some q)) : fk_K (p + q.2) = q.1 ∧ p + q.2 < fl_N h := by
  unfold fl_N at hp ⊢
  by_cases hl : p < 285
  · have H := List.all_eq_true.mp fk_ok0 p (List.mem_range.mpr hl)
    rw [fk_K_lo hl] at hk
    unfold fk_okf at H
    rw [hk] at H
    have := List.all_eq_true.mp H _ (List.mem_of_getElem? hf)
    simp only [Bool.and_eq_true, decide_eq_true_eq] at this
    exact ⟨(fk_K_lo this.1).trans this.2, by omega⟩
  · obtain ⟨d, r, hr, rfl⟩ : ∃ d r, r < 90 ∧ p = 285 + 90 * d + r := ⟨(p - 285) / 90, (p - 285) % 90, Nat.mod_lt _ (by decide), by omega⟩
    have H := List.all_eq_true.mp fk_ok1 r (List.mem_range.mpr hr)
    rw [fk_K_hi hr] at hk
    unfold fk_okf at H
    rw [hk] at H
    have := List.all_eq_true.mp H _ (List.mem_of_getElem? hf)
    simp only [Bool.and_eq_true, decide_eq_true_eq] at this
    refine ⟨?_, by omega⟩
    rw [Nat.add_assoc, fk_K_hi this.1]
    exact this.2
theorem fk_elt {h p t n τ b m i : Nat} (hp : p < fl_N h) (hk : fk_kd (fk_K p) = .inr (t, n, τ, b, m)) (hm : m ≠ 0) (hi : i < n) : fk_K (p + b + m * i) = τ ∧ p + b + m * i < fl_N h := by
  unfold fl_N at hp ⊢
  by_cases hl : p < 285
  · have H := List.all_eq_true.mp fk_ok0 p (List.mem_range.mpr hl)
    rw [fk_K_lo hl] at hk
    unfold fk_okf at H
    rw [hk] at H
    simp only [Bool.or_eq_true, decide_eq_true_eq] at H
    have := List.all_eq_true.mp (H.resolve_left hm) _ (List.mem_range.mpr hi)
    simp only [Bool.and_eq_true, decide_eq_true_eq] at this
    exact ⟨(fk_K_lo this.1).trans this.2, by omega⟩
  · obtain ⟨d, r, hr, rfl⟩ : ∃ d r, r < 90 ∧ p = 285 + 90 * d + r := ⟨(p - 285) / 90, (p - 285) % 90, Nat.mod_lt _ (by decide), by omega⟩
    have H := List.all_eq_true.mp fk_ok1 r (List.mem_range.mpr hr)
    rw [fk_K_hi hr] at hk
    unfold fk_okf at H
    rw [hk] at H
    simp only [Bool.or_eq_true, decide_eq_true_eq] at H
    have := List.all_eq_true.mp (H.resolve_left hm) _ (List.mem_range.mpr hi)
    simp only [Bool.and_eq_true, decide_eq_true_eq] at this
    refine ⟨?_, by omega⟩
    have e : 285 + 90 * d + r + b + m * i = 285 + 90 * d + (r + b + m * i) := by omega
    rw [e, fk_K_hi this.1]
    exact this.2
