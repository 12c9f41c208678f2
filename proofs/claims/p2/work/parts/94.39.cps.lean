/-! ===== what State.become leaves ===== -/
section T2CPS
variable {f : t2_F} {p q r w n j : Nat}
theorem bc_watch_fr (h : r < p ∨ p + 5 ≤ r) : bc_watch_m f p q r = f r := by
  unfold bc_watch_m
  rw [fl_row_ne (by omega), bc_book_fr (by omega), fl_row_ne (by omega), fl_row_ne (by omega)]
theorem bc_watch_w (hpq : p + 5 ≤ q ∨ q + 5 ≤ p) : (bc_watch_m f p q p 3 = f q 3 ∧ bc_watch_m f p q p 4 = f q 4 ∧ bc_watch_m f p q p 5 = f q 5 ∧ bc_watch_m f p q p 6 = f q 6) ∧ (∀ w : Nat, w < 11 → bc_watch_m f p q (p + 1) w = f (q + 1) w) ∧ (∀ w : Nat, w < 4 → bc_watch_m f p q (p + 2) w = f (q + 2) w) ∧ (bc_watch_m f p q (p + 3) 0 = f (p + 3) 0 ∧ bc_watch_m f p q (p + 3) 2 = f (q + 3) 2 ∧ bc_watch_m f p q (p + 3) 3 = f (q + 3) 3) ∧ ∀ w : Nat, w < 72 → bc_watch_m f p q (p + 4) w = f (q + 4) w := by
  unfold bc_watch_m
  generalize hF : fl_row (fl_row f (p + 1) (va_cpy (f (q + 1)) (f (p + 1)) 0 0 11)) (p + 2) (va_cpy (f (q + 2)) (f (p + 2)) 0 0 4) = F
  have o : ∀ r : Nat, r ≠ p + 1 → r ≠ p + 2 → F r = f r := fun r h1 h2 => by rw [← hF, fl_row_ne h2, fl_row_ne h1]
  obtain ⟨⟨b0, b2, b3⟩, b4⟩ := bc_book_w (f := F) (p := p + 3) (q := q + 3) (by omega)
  have bq : bc_book_m F (p + 3) (q + 3) q = f q := by rw [bc_book_fr (by omega), o _ (by omega) (by omega)]
  rw [bq]
  refine ⟨⟨?_, ?_, ?_, ?_⟩, fun w hw => ?_, fun w hw => ?_, ⟨?_, ?_, ?_⟩, fun w hw => ?_⟩
  · simp (disch := omega) only [fl_row_self, upd_self, upd_ne]
  · simp (disch := omega) only [fl_row_self, upd_self, upd_ne]
  · simp (disch := omega) only [fl_row_self, upd_self, upd_ne]
  · simp (disch := omega) only [fl_row_self, upd_self, upd_ne]
  · rw [fl_row_ne (by omega), bc_book_fr (by omega), ← hF, fl_row_ne (by omega), fl_row_self, t2_cpy0 hw]
  · rw [fl_row_ne (by omega), bc_book_fr (by omega), ← hF, fl_row_self, t2_cpy0 hw]
  · rw [fl_row_ne (by omega), b0, o _ (by omega) (by omega)]
  · rw [fl_row_ne (by omega), b2, o _ (by omega) (by omega)]
  · rw [fl_row_ne (by omega), b3, o _ (by omega) (by omega)]
  · rw [fl_row_ne (by omega), show p + 4 = p + 3 + 1 by omega, b4 w hw, o _ (by omega) (by omega)]
theorem bc_watch_z_e (hpq : p + 5 ≤ q ∨ q + 5 ≤ p) : bc_watch_z f p q = f q 6 := by
  unfold bc_watch_z
  rw [bc_book_fr (by omega), fl_row_ne (by omega), fl_row_ne (by omega)]
/-- the whole -/
noncomputable def bs_cells (f : t2_F) (p q : Nat) : Nat → t2_F
  | 0 => f
  | j + 1 => bc_cell_m (bs_cells f p q j) (p + 17 + 4 * j) (q + 17 + 4 * j)
noncomputable def bs_marks (f : t2_F) (p q : Nat) : Nat → t2_F
  | 0 => f
  | j + 1 => bc_mark_m (bs_marks f p q j) (p + 81 + 3 * j) (q + 81 + 3 * j)
noncomputable def bs_told (f : t2_F) (p q : Nat) : t2_F := bc_trace_m (bc_watch_m (bc_told_m f (p + 2) (q + 2)) (p + 9) (q + 9)) (p + 15) (q + 15)
noncomputable def bs_end (f : t2_F) (p q : Nat) : t2_F := fl_row f p (upd (upd (upd (upd (upd (upd (upd (upd (upd (upd (upd (upd (f p) 5 (f q 5)) 6 (f q 6)) 7 (f q 7)) 8 (f q 8)) 9 (f q 9)) 10 (f q 10)) 11 (f q 11)) 12 (f q 12)) 13 (f q 13)) 14 (f q 14)) 15 (f q 15)) 16 (f q 16))
noncomputable def bs_m (f : t2_F) (p q : Nat) : t2_F := bs_end (bs_told (bs_marks (bs_cells f p q (f q 5).toInt.toNat) p q 3) p q) p q
theorem bs_cells_fr : ∀ {n : Nat}, (r < p + 17 ∨ p + 17 + 4 * n ≤ r) → bs_cells f p q n r = f r := by
  intro n
  induction n with
  | zero => intro _; rfl
  | succ n ih =>
    intro h
    show bc_cell_m _ _ _ r = _
    rw [bc_cell_fr (by omega), ih (by omega)]
theorem bs_marks_fr : ∀ {n : Nat}, (r < p + 81 ∨ p + 81 + 3 * n ≤ r) → bs_marks f p q n r = f r := by
  intro n
  induction n with
  | zero => intro _; rfl
  | succ n ih =>
    intro h
    show bc_mark_m _ _ _ r = _
    rw [bc_mark_fr (by omega), ih (by omega)]
theorem bs_cells_w (hpq : p + 90 ≤ q ∨ q + 90 ≤ p) : ∀ {n : Nat}, n ≤ 16 → j < n → (∀ w : Nat, w < 19 → bs_cells f p q n (p + 17 + 4 * j) w = f (q + 17 + 4 * j) w) ∧ bs_cells f p q n (p + 17 + 4 * j + 1) 2 = f (q + 17 + 4 * j + 1) 2 ∧ (∀ w : Nat, w < 32 → bs_cells f p q n (p + 17 + 4 * j + 2) w = f (q + 17 + 4 * j + 2) w) ∧ ∀ w : Nat, w < 11 → bs_cells f p q n (p + 17 + 4 * j + 3) w = f (q + 17 + 4 * j + 3) w := by
  intro n
  induction n with
  | zero => intro _ h; exact absurd h (Nat.not_lt_zero _)
  | succ n ih =>
    intro h16 hj
    have S : ∀ r : Nat, q ≤ r → r < q + 90 → bs_cells f p q n r = f r := fun r h1 h2 => bs_cells_fr (by omega)
    obtain ⟨c1, c2, c3, c4⟩ := bc_cell_w (f := bs_cells f p q n) (p := p + 17 + 4 * n) (q := q + 17 + 4 * n) (by omega)
    by_cases e : j = n
    · subst e
      refine ⟨fun w hw => ?_, ?_, fun w hw => ?_, fun w hw => ?_⟩
      · show bc_cell_m _ _ _ _ w = _
        rw [c1 w hw, S _ (by omega) (by omega)]
      · show bc_cell_m _ _ _ _ 2 = _
        rw [c2, S _ (by omega) (by omega)]
      · show bc_cell_m _ _ _ _ w = _
        rw [c3 w hw, S _ (by omega) (by omega)]
      · show bc_cell_m _ _ _ _ w = _
        rw [c4 w hw, S _ (by omega) (by omega)]
    · obtain ⟨d1, d2, d3, d4⟩ := ih (by omega) (by omega)
      refine ⟨fun w hw => ?_, ?_, fun w hw => ?_, fun w hw => ?_⟩
      · show bc_cell_m _ _ _ _ w = _
        rw [bc_cell_fr (by omega), d1 w hw]
      · show bc_cell_m _ _ _ _ 2 = _
        rw [bc_cell_fr (by omega), d2]
      · show bc_cell_m _ _ _ _ w = _
        rw [bc_cell_fr (by omega), d3 w hw]
      · show bc_cell_m _ _ _ _ w = _
        rw [bc_cell_fr (by omega), d4 w hw]
theorem bs_marks_w (hpq : p + 90 ≤ q ∨ q + 90 ≤ p) : ∀ {n : Nat}, n ≤ 3 → j < n → (bs_marks f p q n (p + 81 + 3 * j) 2 = f (q + 81 + 3 * j) 2 ∧ bs_marks f p q n (p + 81 + 3 * j) 3 = f (q + 81 + 3 * j) 3) ∧ (∀ w : Nat, w < 16 → bs_marks f p q n (p + 81 + 3 * j + 1) w = f (q + 81 + 3 * j + 1) w) ∧ ∀ w : Nat, w < 16 → bs_marks f p q n (p + 81 + 3 * j + 2) w = f (q + 81 + 3 * j + 2) w := by
  intro n
  induction n with
  | zero => intro _ h; exact absurd h (Nat.not_lt_zero _)
  | succ n ih =>
    intro h16 hj
    have S : ∀ r : Nat, q ≤ r → r < q + 90 → bs_marks f p q n r = f r := fun r h1 h2 => bs_marks_fr (by omega)
    obtain ⟨⟨c1, c2⟩, c3, c4⟩ := bc_mark_w (f := bs_marks f p q n) (p := p + 81 + 3 * n) (q := q + 81 + 3 * n) (by omega)
    by_cases e : j = n
    · subst e
      refine ⟨⟨?_, ?_⟩, fun w hw => ?_, fun w hw => ?_⟩
      · show bc_mark_m _ _ _ _ 2 = _
        rw [c1, S _ (by omega) (by omega)]
      · show bc_mark_m _ _ _ _ 3 = _
        rw [c2, S _ (by omega) (by omega)]
      · show bc_mark_m _ _ _ _ w = _
        rw [c3 w hw, S _ (by omega) (by omega)]
      · show bc_mark_m _ _ _ _ w = _
        rw [c4 w hw, S _ (by omega) (by omega)]
    · obtain ⟨⟨d1, d2⟩, d3, d4⟩ := ih (by omega) (by omega)
      refine ⟨⟨?_, ?_⟩, fun w hw => ?_, fun w hw => ?_⟩
      · show bc_mark_m _ _ _ _ 2 = _
        rw [bc_mark_fr (by omega), d1]
      · show bc_mark_m _ _ _ _ 3 = _
        rw [bc_mark_fr (by omega), d2]
      · show bc_mark_m _ _ _ _ w = _
        rw [bc_mark_fr (by omega), d3 w hw]
      · show bc_mark_m _ _ _ _ w = _
        rw [bc_mark_fr (by omega), d4 w hw]
theorem bs_told_fr (h : r < p + 2 ∨ (p + 14 ≤ r ∧ r < p + 15) ∨ p + 17 ≤ r) : bs_told f p q r = f r := by
  unfold bs_told
  rw [bc_trace_fr (by omega), bc_watch_fr (by omega), bc_told_fr (by omega)]
theorem bs_fr (hn : 0 ≤ (f q 5).toInt ∧ (f q 5).toInt ≤ 16) (h : r < p ∨ p + 90 ≤ r) : bs_m f p q r = f r := by
  unfold bs_m bs_end
  rw [fl_row_ne (by omega), bs_told_fr (by omega), bs_marks_fr (by omega), bs_cells_fr (by omega)]
end T2CPS
