/-! ===== the reference: hold, shuttle by words ===== -/
section RSHUT
variable {f : t2_F} {C : Nat} {c : Int32}
theorem r_hld_1 : r_hold_m f c C 280 (444 + 61 * C + 1) = r_held_v (f 280 (444 + 61 * C + 1)) (0 : Int32) ((3600 : Int32) * f 280 (444 + 61 * C + 0)) := by
  unfold r_hold_m r_full_v
  rw [fl_row_self, upd_ne (by omega), upd_self]
theorem r_hld_4 : r_hold_m f c C 280 (444 + 61 * C + 4) = r_held_v (f 280 (444 + 61 * C + 4)) (0 : Int32) ((3600 : Int32) * f 280 (444 + 61 * C + 0)) := by
  unfold r_hold_m r_full_v
  rw [fl_row_self, upd_self, fl_row_self, upd_ne (by omega)]
theorem r_hld_o {w : Nat} (h1 : w ≠ 444 + 61 * C + 1) (h4 : w ≠ 444 + 61 * C + 4) : r_hold_m f c C 280 w = f 280 w := by
  unfold r_hold_m
  rw [fl_row_self, upd_ne h4, upd_ne h1]
theorem r_hld_p {p : Nat} (h : p ≠ 280) : r_hold_m f c C p = f p := by
  unfold r_hold_m
  rw [fl_row_ne h]
noncomputable def r_sh (f : t2_F) (cA cB : Int32) (A B : Nat) : t2_F := fl_row (r_hold_m (r_hold_m (fl_row f 280 (upd (upd (upd (upd (f 280) (444 + 61 * A + 1) ((f 280 (444 + 61 * A + 1)) - (r_lesser_v (f 280 49) (f 280 (444 + 61 * A + 1))))) (444 + 61 * B + 1) ((f 280 (444 + 61 * B + 1)) + (r_lesser_v (((r_lesser_v (f 280 49) (f 280 (444 + 61 * A + 1))) * (f 280 50)) / (100 : Int32)) (((3600 : Int32) * (f 280 (444 + 61 * B + 0))) - (f 280 (444 + 61 * B + 1)))))) (444 + 61 * A + 4) ((f 280 (444 + 61 * A + 4)) - (r_lesser_v (f 280 49) (f 280 (444 + 61 * A + 1))))) (444 + 61 * B + 4) ((f 280 (444 + 61 * B + 4)) + (r_lesser_v (((r_lesser_v (f 280 49) (f 280 (444 + 61 * A + 1))) * (f 280 50)) / (100 : Int32)) (((3600 : Int32) * (f 280 (444 + 61 * B + 0))) - (f 280 (444 + 61 * B + 1))))))) cA A) cB B) 280 (upd (upd ((r_hold_m (r_hold_m (fl_row f 280 (upd (upd (upd (upd (f 280) (444 + 61 * A + 1) ((f 280 (444 + 61 * A + 1)) - (r_lesser_v (f 280 49) (f 280 (444 + 61 * A + 1))))) (444 + 61 * B + 1) ((f 280 (444 + 61 * B + 1)) + (r_lesser_v (((r_lesser_v (f 280 49) (f 280 (444 + 61 * A + 1))) * (f 280 50)) / (100 : Int32)) (((3600 : Int32) * (f 280 (444 + 61 * B + 0))) - (f 280 (444 + 61 * B + 1)))))) (444 + 61 * A + 4) ((f 280 (444 + 61 * A + 4)) - (r_lesser_v (f 280 49) (f 280 (444 + 61 * A + 1))))) (444 + 61 * B + 4) ((f 280 (444 + 61 * B + 4)) + (r_lesser_v (((r_lesser_v (f 280 49) (f 280 (444 + 61 * A + 1))) * (f 280 50)) / (100 : Int32)) (((3600 : Int32) * (f 280 (444 + 61 * B + 0))) - (f 280 (444 + 61 * B + 1))))))) cA A) cB B) 280) 11 ((f 280 11) + (r_lesser_v (f 280 49) (f 280 (444 + 61 * A + 1))))) 12 ((f 280 12) + ((r_lesser_v (f 280 49) (f 280 (444 + 61 * A + 1))) - (r_lesser_v (((r_lesser_v (f 280 49) (f 280 (444 + 61 * A + 1))) * (f 280 50)) / (100 : Int32)) (((3600 : Int32) * (f 280 (444 + 61 * B + 0))) - (f 280 (444 + 61 * B + 1)))))))
theorem r_shuttle_sh : r_shuttle_m f c C 280 = if (f 280 48).toInt < (r_size_v ((r_partOf_v f c C) - (r_partOf_v f (c + (1 : Int32)) (C + 1)))).toInt then (if 0 < ((r_partOf_v f c C) - (r_partOf_v f (c + (1 : Int32)) (C + 1))).toInt then r_sh f c (c + (1 : Int32)) C (C + 1) 280 else r_sh f (c + (1 : Int32)) c (C + 1) C 280) else f 280 := by
  unfold r_shuttle_m r_sh
  by_cases h1 : (f 280 48).toInt < (r_size_v ((r_partOf_v f c C) - (r_partOf_v f (c + (1 : Int32)) (C + 1)))).toInt
  · rw [if_pos h1, if_pos h1]
    by_cases h2 : 0 < ((r_partOf_v f c C) - (r_partOf_v f (c + (1 : Int32)) (C + 1))).toInt
    · rw [if_pos h2, if_pos h2]
      split
      · split
        · rw [fl_row_ne (by decide : (280 : Nat) ≠ 277)]
        · rw [fl_row_ne (by decide : (280 : Nat) ≠ 277)]
      · rw [fl_row_ne (by decide : (280 : Nat) ≠ 277)]
    · rw [if_neg h2, if_neg h2]
      split
      · split
        · rw [fl_row_ne (by decide : (280 : Nat) ≠ 277)]
        · rw [fl_row_ne (by decide : (280 : Nat) ≠ 277)]
      · rw [fl_row_ne (by decide : (280 : Nat) ≠ 277)]
  · rw [if_neg h1, if_neg h1]
theorem r_sh_w {cA cB : Int32} {A B : Nat} (hAB : A ≠ B) {out inn : Int32} (ho : r_lesser_v (f 280 49) (f 280 (444 + 61 * A + 1)) = out) (hi : r_lesser_v (out * (f 280 50) / (100 : Int32)) (((3600 : Int32) * (f 280 (444 + 61 * B + 0))) - (f 280 (444 + 61 * B + 1))) = inn) :
    (r_sh f cA cB A B 280 (444 + 61 * A + 1) = r_held_v (f 280 (444 + 61 * A + 1) - out) (0 : Int32) ((3600 : Int32) * f 280 (444 + 61 * A + 0)) ∧ r_sh f cA cB A B 280 (444 + 61 * A + 4) = r_held_v (f 280 (444 + 61 * A + 4) - out) (0 : Int32) ((3600 : Int32) * f 280 (444 + 61 * A + 0))) ∧
    (r_sh f cA cB A B 280 (444 + 61 * B + 1) = r_held_v (f 280 (444 + 61 * B + 1) + inn) (0 : Int32) ((3600 : Int32) * f 280 (444 + 61 * B + 0)) ∧ r_sh f cA cB A B 280 (444 + 61 * B + 4) = r_held_v (f 280 (444 + 61 * B + 4) + inn) (0 : Int32) ((3600 : Int32) * f 280 (444 + 61 * B + 0))) ∧
    (∀ w : Nat, w ≠ 11 → w ≠ 12 → w ≠ 444 + 61 * A + 1 → w ≠ 444 + 61 * A + 4 → w ≠ 444 + 61 * B + 1 → w ≠ 444 + 61 * B + 4 → r_sh f cA cB A B 280 w = f 280 w) ∧
    r_sh f cA cB A B 280 11 = f 280 11 + out ∧ r_sh f cA cB A B 280 12 = f 280 12 + (out - inn) := by
  unfold r_sh
  simp only [ho, hi]
  refine ⟨⟨?_, ?_⟩, ⟨?_, ?_⟩, fun w h11 h12 ha1 ha4 hb1 hb4 => ?_, ?_, ?_⟩
  · rw [fl_row_self, upd_ne (by omega), upd_ne (by omega), r_hld_o (by omega) (by omega), r_hld_1]
    simp (disch := omega) only [fl_row_self, upd_self, upd_ne]
  · rw [fl_row_self, upd_ne (by omega), upd_ne (by omega), r_hld_o (by omega) (by omega), r_hld_4]
    simp (disch := omega) only [fl_row_self, upd_self, upd_ne]
  · rw [fl_row_self, upd_ne (by omega), upd_ne (by omega), r_hld_1, r_hld_o (by omega) (by omega), r_hld_o (by omega) (by omega)]
    simp (disch := omega) only [fl_row_self, upd_self, upd_ne]
  · rw [fl_row_self, upd_ne (by omega), upd_ne (by omega), r_hld_4, r_hld_o (by omega) (by omega), r_hld_o (by omega) (by omega)]
    simp (disch := omega) only [fl_row_self, upd_self, upd_ne]
  · rw [fl_row_self, upd_ne h12, upd_ne h11, r_hld_o hb1 hb4, r_hld_o ha1 ha4, fl_row_self, upd_ne hb4, upd_ne ha4, upd_ne hb1, upd_ne ha1]
  · rw [fl_row_self, upd_ne (by decide), upd_self]
  · rw [fl_row_self, upd_self]
end RSHUT
