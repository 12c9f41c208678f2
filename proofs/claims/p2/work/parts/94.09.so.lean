/-! ===== the first of some numbers; the reference's faults, its book ===== -/
def t2_sf (p : Nat → Bool) (n : Nat) (v : Int32) : Prop := (v = (-1 : Int32) ∧ ∀ i : Nat, i < n → p i = false) ∨ ∃ j : Nat, j < n ∧ v = Int32.ofNat j ∧ p j = true ∧ ∀ i : Nat, i < j → p i = false
theorem t2_sf_u {p : Nat → Bool} {n : Nat} {v w : Int32} (hv : t2_sf p n v) (hw : t2_sf p n w) : v = w := by
  rcases hv with ⟨rfl, h1⟩ | ⟨j, h1, rfl, h2, h3⟩
  · rcases hw with ⟨rfl, -⟩ | ⟨k, k1, -, k2, -⟩
    · rfl
    · rw [h1 k k1] at k2
      cases k2
  · rcases hw with ⟨-, k1⟩ | ⟨k, k1, rfl, k2, k3⟩
    · rw [k1 j h1] at h2
      cases h2
    · have : j = k := by
        apply Classical.byContradiction
        intro hne
        by_cases l : j < k
        · rw [k3 j l] at h2
          cases h2
        · rw [h3 k (by omega)] at k2
          cases k2
      rw [this]
theorem t2_dsc {p : Nat → Bool} {n : Nat} {g : Nat → Int32} (g0 : g 0 = (-1 : Int32)) (gs : ∀ k : Nat, k < n → g (k + 1) = if p (n - 1 - k) = true then Int32.ofNat (n - 1 - k) else g k) : t2_sf p n (g n) := by
  have key : ∀ k : Nat, k ≤ n → (g k = (-1 : Int32) ∧ ∀ i : Nat, n - k ≤ i → i < n → p i = false) ∨ ∃ j : Nat, n - k ≤ j ∧ j < n ∧ g k = Int32.ofNat j ∧ p j = true ∧ ∀ i : Nat, n - k ≤ i → i < j → p i = false := by
    intro k
    induction k with
    | zero => intro _; exact Or.inl ⟨g0, fun i h1 h2 => absurd h1 (by omega)⟩
    | succ k ih =>
      intro hk
      rw [gs k (by omega)]
      by_cases hp : p (n - 1 - k) = true
      · rw [if_pos hp]
        exact Or.inr ⟨n - 1 - k, by omega, by omega, rfl, hp, fun i h1 h2 => absurd h1 (by omega)⟩
      · rw [if_neg hp]
        have hf : p (n - 1 - k) = false := by
          cases e : p (n - 1 - k) with
          | true => exact absurd e hp
          | false => rfl
        rcases ih (by omega) with ⟨h1, h2⟩ | ⟨j, h1, h2, h3, h4, h5⟩
        · refine Or.inl ⟨h1, fun i i1 i2 => ?_⟩
          by_cases e : i = n - 1 - k
          · rw [e]; exact hf
          · exact h2 i (by omega) i2
        · refine Or.inr ⟨j, by omega, h2, h3, h4, fun i i1 i2 => ?_⟩
          by_cases e : i = n - 1 - k
          · rw [e]; exact hf
          · exact h5 i (by omega) i2
  rcases key n (Nat.le_refl n) with ⟨h1, h2⟩ | ⟨j, h1, h2, h3, h4, h5⟩
  · exact Or.inl ⟨h1, fun i hi => h2 i (by omega) hi⟩
  · exact Or.inr ⟨j, h2, h3, h4, fun i hi => h5 i (by omega) hi⟩
/-- a cell by which one of the first four faults is so -/
noncomputable def r_sp (f : t2_F) (x i : Nat) : Bool := if x = 0 then decide ((f 280 34).toInt < (r_voltsOf_v f (Int32.ofNat i) i).toInt) else if x = 1 then decide ((r_voltsOf_v f (Int32.ofNat i) i).toInt < (f 280 35).toInt) else if x = 2 then decide ((f 280 36).toInt < (f 280 (444 + 61 * i + 3)).toInt) else decide (0 < (f 280 5).toInt) && decide ((f 280 (444 + 61 * i + 3)).toInt < (f 280 37).toInt)
theorem r_sp0 {f : t2_F} {i : Nat} : r_sp f 0 i = decide ((f 280 34).toInt < (r_voltsOf_v f (Int32.ofNat i) i).toInt) := rfl
theorem r_sp1 {f : t2_F} {i : Nat} : r_sp f 1 i = decide ((r_voltsOf_v f (Int32.ofNat i) i).toInt < (f 280 35).toInt) := rfl
theorem r_sp2 {f : t2_F} {i : Nat} : r_sp f 2 i = decide ((f 280 36).toInt < (f 280 (444 + 61 * i + 3)).toInt) := rfl
theorem r_sp3 {f : t2_F} {i : Nat} : r_sp f 3 i = (decide (0 < (f 280 5).toInt) && decide ((f 280 (444 + 61 * i + 3)).toInt < (f 280 37).toInt)) := rfl
theorem r_so_step {f : t2_F} {x k : Nat} (hx : x < 4) : r_soBy_e2 f (Int32.ofNat x) (k + 1) = match r_soBy_e2 f (Int32.ofNat x) k with
    | some r => some r
    | none => if r_sp f x k = true then some (Int32.ofNat k) else none := by
  have c1 : (1 : Int32).toInt = 1 := by decide +kernel
  have c2 : (2 : Int32).toInt = 2 := by decide +kernel
  have c0 : (0 : Int32).toInt = 0 := rfl
  have ex : (Int32.ofNat x).toInt = x := at_ofN (by omega)
  have key : ∀ (P : Prop) [Decidable P] (a : Option Int32), (if (if P then (1 : Int32) else (0 : Int32)).toInt = 0 then none else a) = if decide P = true then a else none := by
    intro P _ a
    by_cases h : P
    · rw [if_pos h, if_neg (by omega), decide_eq_true h, if_pos rfl]
    · rw [if_neg h, if_pos c0, decide_eq_false h, if_neg Bool.false_ne_true]
  have key2 : ∀ (P R : Prop) [Decidable P] [Decidable R] (a : Option Int32), (if (if P then (if R then (1 : Int32) else (0 : Int32)) else (0 : Int32)).toInt = 0 then none else a) = if (decide P && decide R) = true then a else none := by
    intro P R _ _ a
    by_cases h : P
    · rw [if_pos h, decide_eq_true h, Bool.true_and, key R a]
    · rw [if_neg h, if_pos c0, decide_eq_false h, Bool.false_and, if_neg Bool.false_ne_true]
  conv => lhs; unfold r_soBy_e2
  cases r_soBy_e2 f (Int32.ofNat x) k with
  | some r => rfl
  | none =>
    show (if _ then _ else _) = (if _ then _ else _)
    rcases (show x = 0 ∨ x = 1 ∨ x = 2 ∨ x = 3 by omega) with h | h | h | h <;> subst h
    · rw [if_pos (show (Int32.ofNat 0).toInt = 0 from rfl), r_sp0]
      exact key _ _
    · rw [if_neg (show ¬ (Int32.ofNat 1).toInt = 0 by omega), if_pos (show (Int32.ofNat 1).toInt = (1 : Int32).toInt by omega), r_sp1]
      exact key _ _
    · rw [if_neg (show ¬ (Int32.ofNat 2).toInt = 0 by omega), if_neg (show ¬ (Int32.ofNat 2).toInt = (1 : Int32).toInt by omega), if_pos (show (Int32.ofNat 2).toInt = (2 : Int32).toInt by omega), r_sp2]
      exact key _ _
    · rw [if_neg (show ¬ (Int32.ofNat 3).toInt = 0 by omega), if_neg (show ¬ (Int32.ofNat 3).toInt = (1 : Int32).toInt by omega), if_neg (show ¬ (Int32.ofNat 3).toInt = (2 : Int32).toInt by omega), r_sp3]
      exact key2 _ _ _
theorem r_so_sf {f : t2_F} {x n : Nat} (hx : x < 4) (hn : (f 280 2).toInt.toNat = n) : t2_sf (r_sp f x) n (r_soBy_v f (Int32.ofNat x)) := by
  have key : ∀ k : Nat, (r_soBy_e2 f (Int32.ofNat x) k = none ∧ ∀ i : Nat, i < k → r_sp f x i = false) ∨ ∃ j : Nat, j < k ∧ r_soBy_e2 f (Int32.ofNat x) k = some (Int32.ofNat j) ∧ r_sp f x j = true ∧ ∀ i : Nat, i < j → r_sp f x i = false := by
    intro k
    induction k with
    | zero => exact Or.inl ⟨rfl, fun i h => absurd h (Nat.not_lt_zero i)⟩
    | succ k ih =>
      rw [r_so_step hx]
      rcases ih with ⟨h1, h2⟩ | ⟨j, h1, h2, h3, h4⟩
      · rw [h1]
        by_cases hp : r_sp f x k = true
        · exact Or.inr ⟨k, Nat.lt_succ_self k, if_pos hp, hp, h2⟩
        · have hf : r_sp f x k = false := by
            cases e : r_sp f x k with
            | true => exact absurd e hp
            | false => rfl
          refine Or.inl ⟨if_neg hp, fun i hi => ?_⟩
          by_cases e : i = k
          · rw [e]; exact hf
          · exact h2 i (by omega)
      · rw [h2]
        exact Or.inr ⟨j, by omega, rfl, h3, h4⟩
  unfold r_soBy_v
  rw [hn]
  rcases key n with ⟨h1, h2⟩ | ⟨j, h1, h2, h3, h4⟩
  · rw [h1]
    exact Or.inl ⟨rfl, h2⟩
  · rw [h2]
    exact Or.inr ⟨j, h1, rfl, h3, h4⟩
/-! the book of the reference -/
theorem r_wd_f16 {f : t2_F} {x : Int32} : ∀ k : Nat, k ≤ 46 → ∀ j : Nat, j < 48 → r_writeDown_f16 f x k 280 (167 + j) = if j < k then f 280 (167 + (j + 2)) else f 280 (167 + j) := by
  intro k
  induction k with
  | zero => intro _ j _; rfl
  | succ k ih =>
    intro hk j hj
    show r_writeDown_b16_m (r_writeDown_f16 f x k) x k 280 (167 + j) = _
    unfold r_writeDown_b16_m
    by_cases e : j = k
    · subst e
      rw [fl_row_self, upd_self, if_pos (by omega), show 167 + j + 2 = 167 + (j + 2) by omega, ih (by omega) (j + 2) (by omega), if_neg (by omega)]
    · rw [fl_row_self, upd_ne (by omega), ih (by omega) j hj]
      by_cases l : j < k
      · rw [if_pos l, if_pos (by omega)]
      · rw [if_neg l, if_neg (by omega)]
theorem r_wd_lt {f : t2_F} {x : Int32} {n : Nat} (hn : (f 280 20).toInt = (n : Int)) (hl : n < 24) : (r_writeDown_m f x 280 20).toInt = (n : Int) + 1 ∧ r_writeDown_m f x 280 (167 + 2 * n) = f 280 7 ∧ r_writeDown_m f x 280 (167 + 2 * n + 1) = x ∧ ∀ j : Nat, j < 2 * n → r_writeDown_m f x 280 (167 + j) = f 280 (167 + j) := by
  have c24 : (24 : Int32).toInt = 24 := by decide +kernel
  have c1 : (1 : Int32).toInt = 1 := by decide +kernel
  unfold r_writeDown_m
  rw [if_neg (by omega), hn, Int.toNat_natCast]
  refine ⟨?_, ?_, ?_, fun j hj => ?_⟩
  · rw [fl_row_self, upd_self, at_add32] <;> omega
  · rw [fl_row_self, upd_ne (by omega), upd_ne (by omega), upd_self]
  · rw [fl_row_self, upd_ne (by omega), upd_self]
  · rw [fl_row_self, upd_ne (by omega), upd_ne (by omega), upd_ne (by omega)]
theorem r_wd_24 {f : t2_F} {x : Int32} (hn : (f 280 20).toInt = 24) : (r_writeDown_m f x 280 20).toInt = 24 ∧ r_writeDown_m f x 280 (167 + 2 * 23) = f 280 7 ∧ r_writeDown_m f x 280 (167 + 2 * 23 + 1) = x ∧ ∀ j : Nat, j < 46 → r_writeDown_m f x 280 (167 + j) = f 280 (167 + (j + 2)) := by
  have c24 : (24 : Int32).toInt = 24 := by decide +kernel
  have c1 : (1 : Int32).toInt = 1 := by decide +kernel
  have e : 2 * ((24 : Int).toNat - 1) = 2 * 23 := by decide
  unfold r_writeDown_m
  rw [if_pos (by omega), hn, e]
  refine ⟨?_, ?_, ?_, fun j hj => ?_⟩
  · rw [fl_row_self, upd_self, at_add32] <;> rw [at_sub32] <;> omega
  · rw [fl_row_self, upd_ne (by omega), upd_ne (by omega), upd_self]
  · rw [fl_row_self, upd_ne (by omega), upd_self]
  · rw [fl_row_self, upd_ne (by omega), upd_ne (by omega), upd_ne (by omega), upd_ne (by omega), r_wd_f16 46 (Nat.le_refl 46) j (by omega), if_pos hj]
