/-! ===== what a become leaves: the source's words, nothing else ===== -/
section T2CPY
variable {f : t2_F} {p q r w n : Nat} {g h : Nat → Int32}
theorem t2_cpy0 (hw : w < n) : va_cpy g h 0 0 n w = g w := by
  unfold va_cpy
  rw [if_pos (by omega)]
  congr 1
  omega
theorem bc_turns_fr (h : r < p ∨ p + 3 ≤ r) : bc_turns_m f p q r = f r := by
  unfold bc_turns_m
  rw [fl_row_ne (by omega), fl_row_ne (by omega), fl_row_ne (by omega)]
theorem bc_turns_w (hpq : p + 3 ≤ q ∨ q + 3 ≤ p) : bc_turns_m f p q p 2 = f q 2 ∧ (∀ w : Nat, w < 32 → bc_turns_m f p q (p + 1) w = f (q + 1) w) ∧ ∀ w : Nat, w < 11 → bc_turns_m f p q (p + 2) w = f (q + 2) w := by
  unfold bc_turns_m
  refine ⟨?_, fun w hw => ?_, fun w hw => ?_⟩
  · rw [fl_row_self, upd_self]
  · rw [fl_row_ne (by omega), fl_row_ne (by omega), fl_row_self, t2_cpy0 hw]
  · rw [fl_row_ne (by omega), fl_row_self, t2_cpy0 hw]
theorem bc_mark_fr (h : r < p ∨ p + 3 ≤ r) : bc_mark_m f p q r = f r := by
  unfold bc_mark_m
  rw [fl_row_ne (by omega), fl_row_ne (by omega), fl_row_ne (by omega)]
theorem bc_mark_w (hpq : p + 3 ≤ q ∨ q + 3 ≤ p) : (bc_mark_m f p q p 2 = f q 2 ∧ bc_mark_m f p q p 3 = f q 3) ∧ (∀ w : Nat, w < 16 → bc_mark_m f p q (p + 1) w = f (q + 1) w) ∧ ∀ w : Nat, w < 16 → bc_mark_m f p q (p + 2) w = f (q + 2) w := by
  unfold bc_mark_m
  refine ⟨⟨?_, ?_⟩, fun w hw => ?_, fun w hw => ?_⟩
  · rw [fl_row_self, upd_ne (by decide), upd_self]
  · rw [fl_row_self, upd_self]
  · rw [fl_row_ne (by omega), fl_row_ne (by omega), fl_row_self, t2_cpy0 hw]
  · rw [fl_row_ne (by omega), fl_row_self, t2_cpy0 hw]
theorem bc_book_fr (h : r < p ∨ p + 2 ≤ r) : bc_book_m f p q r = f r := by
  unfold bc_book_m
  rw [fl_row_ne (by omega), fl_row_ne (by omega)]
theorem bc_book_w (hpq : p + 2 ≤ q ∨ q + 2 ≤ p) : (bc_book_m f p q p 0 = f p 0 ∧ bc_book_m f p q p 2 = f q 2 ∧ bc_book_m f p q p 3 = f q 3) ∧ ∀ w : Nat, w < 72 → bc_book_m f p q (p + 1) w = f (q + 1) w := by
  unfold bc_book_m
  refine ⟨⟨?_, ?_, ?_⟩, fun w hw => ?_⟩
  · rw [fl_row_self, upd_ne (by decide), upd_ne (by decide)]
  · rw [fl_row_self, upd_ne (by decide), upd_self]
  · rw [fl_row_self, upd_self]
  · rw [fl_row_ne (by omega), fl_row_self, t2_cpy0 hw]
theorem bc_trace_fr (h : r < p ∨ p + 2 ≤ r) : bc_trace_m f p q r = f r := by
  unfold bc_trace_m
  rw [fl_row_ne (by omega), fl_row_ne (by omega)]
theorem bc_trace_w (hpq : p + 2 ≤ q ∨ q + 2 ≤ p) : (bc_trace_m f p q p 0 = f p 0 ∧ bc_trace_m f p q p 2 = f q 2 ∧ bc_trace_m f p q p 3 = f q 3) ∧ ∀ w : Nat, w < 96 → bc_trace_m f p q (p + 1) w = f (q + 1) w := by
  unfold bc_trace_m
  refine ⟨⟨?_, ?_, ?_⟩, fun w hw => ?_⟩
  · rw [fl_row_self, upd_ne (by decide), upd_ne (by decide)]
  · rw [fl_row_self, upd_ne (by decide), upd_self]
  · rw [fl_row_self, upd_self]
  · rw [fl_row_ne (by omega), fl_row_self, t2_cpy0 hw]
theorem bc_told_fr (h : r < p ∨ p + 7 ≤ r) : bc_told_m f p q r = f r := by
  unfold bc_told_m
  simp (disch := omega) only [fl_row_ne]
theorem bc_told_w (hpq : p + 7 ≤ q ∨ q + 7 ≤ p) : (bc_told_m f p q p 6 = f q 6 ∧ bc_told_m f p q p 7 = f q 7 ∧ bc_told_m f p q p 8 = f q 8) ∧ (∀ w : Nat, w < 30 → bc_told_m f p q (p + 1) w = f (q + 1) w) ∧ (∀ w : Nat, w < 3 → bc_told_m f p q (p + 2) w = f (q + 2) w) ∧ (∀ w : Nat, w < 24 → bc_told_m f p q (p + 3) w = f (q + 3) w) ∧ (∀ w : Nat, w < 12 → bc_told_m f p q (p + 4) w = f (q + 4) w) ∧ (∀ w : Nat, w < 48 → bc_told_m f p q (p + 5) w = f (q + 5) w) ∧ ∀ w : Nat, w < 40 → bc_told_m f p q (p + 6) w = f (q + 6) w := by
  unfold bc_told_m
  refine ⟨⟨?_, ?_, ?_⟩, fun w hw => ?_, fun w hw => ?_, fun w hw => ?_, fun w hw => ?_, fun w hw => ?_, fun w hw => ?_⟩
  · simp (disch := omega) only [fl_row_self, upd_self, upd_ne]
  · simp (disch := omega) only [fl_row_self, upd_self, upd_ne]
  · simp (disch := omega) only [fl_row_self, upd_self, upd_ne]
  all_goals simp (disch := omega) only [fl_row_self, fl_row_ne, t2_cpy0]
theorem bc_cell_fr (h : r < p ∨ p + 4 ≤ r) : bc_cell_m f p q r = f r := by
  unfold bc_cell_m
  rw [bc_turns_fr (by omega), fl_row_ne (by omega)]
theorem bc_cell_w (hpq : p + 4 ≤ q ∨ q + 4 ≤ p) : (∀ w : Nat, w < 19 → bc_cell_m f p q p w = f q w) ∧ bc_cell_m f p q (p + 1) 2 = f (q + 1) 2 ∧ (∀ w : Nat, w < 32 → bc_cell_m f p q (p + 2) w = f (q + 2) w) ∧ ∀ w : Nat, w < 11 → bc_cell_m f p q (p + 3) w = f (q + 3) w := by
  unfold bc_cell_m
  generalize hR : (upd (upd (upd (upd (upd (upd (upd (upd (upd (upd (upd (upd (upd (upd (upd (upd (upd (upd (upd (f p) 0 (f q 0)) 1 (f q 1)) 2 (f q 2)) 3 (f q 3)) 4 (f q 4)) 5 (f q 5)) 6 (f q 6)) 7 (f q 7)) 8 (f q 8)) 9 (f q 9)) 10 (f q 10)) 11 (f q 11)) 12 (f q 12)) 13 (f q 13)) 14 (f q 14)) 15 (f q 15)) 16 (f q 16)) 17 (f q 17)) 18 (f q 18)) = R
  have tw := bc_turns_w (f := fl_row f p R) (p := p + 1) (q := q + 1) (by omega)
  have e : ∀ w : Nat, w < 19 → R w = f q w := fun w hw => by
    rw [← hR]
    have : w = 0 ∨ w = 1 ∨ w = 2 ∨ w = 3 ∨ w = 4 ∨ w = 5 ∨ w = 6 ∨ w = 7 ∨ w = 8 ∨ w = 9 ∨ w = 10 ∨ w = 11 ∨ w = 12 ∨ w = 13 ∨ w = 14 ∨ w = 15 ∨ w = 16 ∨ w = 17 ∨ w = 18 := by omega
    rcases this with e | e | e | e | e | e | e | e | e | e | e | e | e | e | e | e | e | e | e <;> subst e <;> simp (disch := omega) only [upd_self, upd_ne]
  refine ⟨fun w hw => ?_, ?_, fun w hw => ?_, fun w hw => ?_⟩
  · rw [bc_turns_fr (by omega), fl_row_self, e w hw]
  · rw [tw.1, fl_row_ne (by omega)]
  · rw [show p + 2 = p + 1 + 1 by omega, tw.2.1 w hw, fl_row_ne (by omega)]
  · rw [show p + 3 = p + 1 + 2 by omega, tw.2.2 w hw, fl_row_ne (by omega)]
end T2CPY
