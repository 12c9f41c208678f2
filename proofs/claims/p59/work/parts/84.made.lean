/-! ===== what the constructors leave is flat memory ===== -/
def nw_zq : List Int32 → List Int32 → Bool
  | [], l => l.all (fun x => decide (x = 0))
  | a :: l, [] => decide (a = 0) && nw_zq l []
  | a :: l, b :: m => decide (a = b) && nw_zq l m
theorem nw_z0 {l : List Int32} (h : l.all (fun x => decide (x = 0)) = true) (i : Nat) : l.getD i 0 = 0 := by
  rw [List.getD_eq_getElem?_getD]
  cases e : l[i]? with
  | none => rfl
  | some x => exact of_decide_eq_true (List.all_eq_true.mp h x (List.mem_of_getElem? e))
theorem nw_zq_ok : ∀ (l m : List Int32), nw_zq l m = true → ∀ i, l.getD i 0 = m.getD i 0 := by
  intro l
  induction l with
  | nil =>
    intro m h i
    have h : m.all (fun x => decide (x = 0)) = true := by cases m <;> exact h
    rw [nw_z0 h]
    rfl
  | cons a l ih =>
    intro m h i
    cases m with
    | nil =>
      have h : (decide (a = 0) && nw_zq l []) = true := h
      rw [Bool.and_eq_true] at h
      cases i with
      | zero => exact of_decide_eq_true h.1
      | succ i =>
        have := ih [] h.2 i
        rw [List.getD_cons_succ, this]
        rfl
    | cons b m =>
      have h : (decide (a = b) && nw_zq l m) = true := h
      rw [Bool.and_eq_true] at h
      cases i with
      | zero => exact of_decide_eq_true h.1
      | succ i =>
        rw [List.getD_cons_succ, List.getD_cons_succ]
        exact ih m h.2 i
/-- an object that was made is the kind's, at its place, with its words -/
def nw_cko (k : fl_K) (p : Nat) (wl : List Int32) (o : nw_O) : Bool := match o, k with
  | .inl (n, l), .inr (0, n', _) => Nat.beq n n' && nw_zq l wl
  | .inr (.inl n), .inr (1, n', _) => Nat.beq n n'
  | .inr (.inr (.inl (t + 2, n, l))), .inr (t' + 2, n', _, b, d) => Nat.beq t t' && (Nat.beq n n' && (Nat.ble l.length n && (List.range n).all (fun i => decide (l.getD i none = if d = 0 then (if wl.getD i 0 = 0 then none else some (wl.getD i 0).toNatClampNeg) else some (p + b + d * i)))))
  | .inr (.inr (.inr (ci, fs))), .inl (cj, ks) => Nat.beq ci cj && decide (fs = ks.mapIdx (fl_fv p (fun i => wl.getD i 0)))
  | _, _ => false
theorem nw_cko_ok {k : fl_K} {p : Nat} {wl : List Int32} {o : nw_O} (h : nw_cko k p wl o = true) : nw_o o = fl_ob k p (fun i => wl.getD i 0) (fun _ => 0) := by
  unfold nw_cko at h
  split at h
  · rename_i n l n' z
    simp only [Bool.and_eq_true] at h
    obtain ⟨h1, h2⟩ := h
    rw [Nat.eq_of_beq_eq_true h1]
    show (.inl (0, n', .inl (fun i => l.getD i 0)) : am_O) = .inl (0, n', .inl (fun i => wl.getD i 0))
    have : (fun i => l.getD i 0) = fun i => wl.getD i 0 := funext (nw_zq_ok l wl h2)
    rw [this]
  · rename_i n n' z
    rw [Nat.eq_of_beq_eq_true h]
    rfl
  · rename_i t n l t' n' τ b d
    simp only [Bool.and_eq_true] at h
    obtain ⟨h1, h2, h3, h4⟩ := h
    rw [Nat.eq_of_beq_eq_true h1, Nat.eq_of_beq_eq_true h2] at *
    rw [fl_ob_2]
    show (.inl (t' + 2, n', .inr (.inr (.inr (.inr (fun i => l.getD i none))))) : am_O) = _
    have : (fun i => l.getD i none) = (fun i => if i < n' then (if d = 0 then (if wl.getD i 0 = 0 then none else some (wl.getD i 0).toNatClampNeg) else some (p + b + d * i)) else none) := by
      funext i
      by_cases hi : i < n'
      · rw [if_pos hi]
        exact of_decide_eq_true (List.all_eq_true.mp h4 i (List.mem_range.mpr hi))
      · rw [if_neg hi]
        have := Nat.le_of_ble_eq_true h3
        rw [List.getD_eq_getElem?_getD, List.getElem?_eq_none (by omega)]
        rfl
    rw [this]
  · rename_i ci fs cj ks
    simp only [Bool.and_eq_true] at h
    obtain ⟨h1, h2⟩ := h
    rw [Nat.eq_of_beq_eq_true h1, of_decide_eq_true h2]
    rfl
  · cases h
def nw_ckl (N : Nat) (wl : Nat → List Int32) : Nat → List nw_O → Bool
  | _, [] => true
  | r, o :: l => nw_cko (fk_kd (fk_K (N + r))) (N + r) (wl r) o && nw_ckl N wl (r + 1) l
theorem nw_ckl_ok {N : Nat} {wl : Nat → List Int32} : ∀ (l : List nw_O) (r : Nat), nw_ckl N wl r l = true → ∀ i : Nat, i < l.length → (l.map nw_o)[i]? = some (fl_ob (fk_kd (fk_K (N + (r + i)))) (N + (r + i)) (fun j => (wl (r + i)).getD j 0) (fun _ => 0)) := by
  intro l
  induction l with
  | nil => intro r _ i hi; simp at hi
  | cons o l ih =>
    intro r h i hi
    have h : (nw_cko (fk_kd (fk_K (N + r))) (N + r) (wl r) o && nw_ckl N wl (r + 1) l) = true := h
    rw [Bool.and_eq_true] at h
    cases i with
    | zero =>
      rw [List.map_cons, List.getElem?_cons_zero, nw_cko_ok h.1]
      rfl
    | succ i =>
      rw [List.map_cons, List.getElem?_cons_succ, ih (r + 1) h.2 i (by simpa using hi)]
      have : r + 1 + i = r + (i + 1) := by omega
      rw [this]
/-- the words of a fresh state; of all, at the start -/
def at_W0 (r i : Nat) : Int32 := (at_w0l.getD r []).getD i 0
def at_i0 (p : Nat) : List Int32 := if p = 0 then [] else if p < 271 then at_w0l.getD ((p - 1) % 90) [] else at_i0l.getD (p - 271) []
def nw_obj0 : nw_O := .inr (.inr (.inr ((pw_new (pw_own 24) 9).getD (0, []))))
def nw_ckst (N : Nat) (r : Option (Option Value × nw_H)) : Bool := match r with
  | some (none, H) => Nat.beq H.1.length 90 && (Nat.beq H.2 1564 && nw_ckl N (fun r => at_w0l.getD r []) 0 H.1)
  | _ => false
/-- the law up to the reference; its making; its constructor up to the copy -/
def nw_r1 : Option (am_L × List Value × nw_H) := nw_to 0 0 8 5000 0 (lv_args 0 [.retAddr 0]) [] ([], 0)
def nw_r2 : Option (am_L × List Value × nw_H) := nw_to 277 0 12 5000 8 [(1, .ref 0), (0, .retAddr 0)] [] ([], 0)
def nw_obj1 : nw_O := .inr (.inr (.inr ((pw_new (pw_own 0) 10).getD (0, []))))
def nw_r3 : Option (am_L × List Value × nw_H) := nw_to 277 183 765 5000 0 (lv_args 0 [.ref 277]) [] ([nw_obj1], 10)
def nw_ckr (N : Nat) (wl : Nat → List Int32) (lv : am_L) (st : List Value) (n s : Nat) (r : Option (am_L × List Value × nw_H)) : Bool := match r with
  | some (lv', st', H) => decide (lv' = lv) && (decide (st' = st) && (Nat.beq H.1.length n && (Nat.beq H.2 s && nw_ckl N wl 0 H.1)))
  | none => false
set_option maxRecDepth 1000000 in
theorem nw_r1_ck : nw_ckr 0 at_i0 [(1, .ref 0), (0, .retAddr 0)] [] 277 5395 nw_r1 = true := by decide +kernel
theorem nw_r2_ck : nw_r2 = some ([(1, .ref 0), (0, .retAddr 0)], [.ref 277, .ref 277], ([nw_obj1], 10)) := rfl
set_option maxRecDepth 1000000 in
theorem nw_r3_ck : (match nw_r3 with
  | some (_, st', H) => decide (st' = [.ref 281, .ref 280]) && (Nat.beq H.1.length 8 && (Nat.beq H.2 77355 && nw_ckl 277 (fun r => at_i0 (277 + r)) 0 H.1))
  | none => false) = true := by decide +kernel
def nw_one (h : Nat) : Bool := nw_ckst (285 + 90 * h) (nw_ev (285 + 90 * h) 2000 32 0 [(0, .ref (285 + 90 * h))] [] ([nw_obj0], 17))
