/-! ===== turns: going on, turning back ===== -/
section RALT
variable {f f' : t2_F} {C n : Nat} {x : Int32}
theorem r_alt_on (h : r_alt f C) (hn : (f 280 (444 + 61 * C + 10)).toInt = (n : Int)) (h2 : 2 ≤ n) (h10 : f' 280 (444 + 61 * C + 10) = f 280 (444 + 61 * C + 10)) (ht : ∀ j : Nat, j < n → f' 280 (444 + 61 * C + (17 + j)) = if j = n - 1 then x else f 280 (444 + 61 * C + (17 + j))) (hv : r_tv f' C) (hx : x.toInt ≠ r_tI f C (n - 1)) (hd : r_tI f C (n - 2) < r_tI f C (n - 1) ↔ r_tI f C (n - 1) < x.toInt) : r_alt f' C := by
  obtain ⟨h1, h3, h4, h5⟩ := h
  have et : ∀ j : Nat, j < n - 1 → r_tI f' C j = r_tI f C j := fun j hj => by unfold r_tI; rw [ht j (by omega), if_neg (by omega)]
  have el : r_tI f' C (n - 1) = x.toInt := by unfold r_tI; rw [ht (n - 1) (by omega), if_pos rfl]
  have n1 := h4 (n - 2) (by omega)
  rw [show n - 2 + 1 = n - 1 by omega] at n1
  unfold r_alt
  rw [h10]
  refine ⟨h1, hv, fun i hi => ?_, fun i hi => ?_⟩
  · by_cases e : i + 1 = n - 1
    · rw [e, el, et i (by omega), show i = n - 2 by omega]
      omega
    · rw [et i (by omega), et (i + 1) (by omega)]
      exact h4 i hi
  · by_cases e : i + 2 = n - 1
    · rw [e, el, et i (by omega), et (i + 1) (by omega), show i + 1 = n - 2 by omega]
      have := h5 i hi
      rw [show i + 1 = n - 2 by omega, show i + 2 = n - 1 by omega] at this
      rw [this]
      constructor <;> intro q r <;> apply q <;> omega
    · rw [et i (by omega), et (i + 1) (by omega), et (i + 2) (by omega)]
      exact h5 i hi
theorem r_alt_add (h : r_alt f C) (hn : (f 280 (444 + 61 * C + 10)).toInt = (n : Int)) (h10 : (f' 280 (444 + 61 * C + 10)).toInt = (n : Int) + 1) (h32 : n < 32) (ht : ∀ j : Nat, j < n + 1 → f' 280 (444 + 61 * C + (17 + j)) = if j = n then x else f 280 (444 + 61 * C + (17 + j))) (hv : r_tv f' C) (hx : x.toInt ≠ r_tI f C (n - 1)) (hd : 2 ≤ n → ¬ (r_tI f C (n - 2) < r_tI f C (n - 1) ↔ r_tI f C (n - 1) < x.toInt)) : r_alt f' C := by
  obtain ⟨h1, h3, h4, h5⟩ := h
  have et : ∀ j : Nat, j < n → r_tI f' C j = r_tI f C j := fun j hj => by unfold r_tI; rw [ht j (by omega), if_neg (by omega)]
  have el : r_tI f' C n = x.toInt := by unfold r_tI; rw [ht n (by omega), if_pos rfl]
  refine ⟨by omega, hv, fun i hi => ?_, fun i hi => ?_⟩
  · by_cases e : i + 1 = n
    · rw [e, el, et i (by omega), show i = n - 1 by omega]
      exact fun q => hx q.symm
    · rw [et i (by omega), et (i + 1) (by omega)]
      exact h4 i (by omega)
  · by_cases e : i + 2 = n
    · rw [e, el, et i (by omega), et (i + 1) (by omega)]
      have := hd (by omega)
      rw [show n - 2 = i by omega, show n - 1 = i + 1 by omega] at this
      constructor
      · intro q r
        exact this ⟨fun _ => r, fun _ => q⟩
      · intro q
        apply Classical.byContradiction
        intro r
        exact this ⟨fun z => absurd z r, fun z => absurd z q⟩
    · rw [et i (by omega), et (i + 1) (by omega), et (i + 2) (by omega)]
      exact h5 i (by omega)
theorem r_alt_drop (h : r_alt f C) (hn : (f 280 (444 + 61 * C + 10)).toInt = 32) (h10 : (f' 280 (444 + 61 * C + 10)).toInt = 32) (ht : ∀ j : Nat, j < 32 → f' 280 (444 + 61 * C + (17 + j)) = if j = 31 then x else f 280 (444 + 61 * C + (17 + (j + 1)))) (hv : r_tv f' C) (hx : x.toInt ≠ r_tI f C 31) (hd : ¬ (r_tI f C 30 < r_tI f C 31 ↔ r_tI f C 31 < x.toInt)) : r_alt f' C := by
  obtain ⟨h1, h3, h4, h5⟩ := h
  have et : ∀ j : Nat, j < 31 → r_tI f' C j = r_tI f C (j + 1) := fun j hj => by unfold r_tI; rw [ht j (by omega), if_neg (by omega)]
  have el : r_tI f' C 31 = x.toInt := by unfold r_tI; rw [ht 31 (by omega), if_pos rfl]
  refine ⟨by omega, hv, fun i hi => ?_, fun i hi => ?_⟩
  · by_cases e : i = 30
    · subst e
      rw [el, et 30 (by omega)]
      exact fun q => hx q.symm
    · rw [et i (by omega), et (i + 1) (by omega)]
      exact h4 (i + 1) (by omega)
  · by_cases e : i = 29
    · subst e
      rw [el, et 29 (by omega), et 30 (by omega)]
      constructor
      · intro q r
        exact hd ⟨fun _ => r, fun _ => q⟩
      · intro q
        apply Classical.byContradiction
        intro r
        exact hd ⟨fun z => absurd z r, fun z => absurd z q⟩
    · rw [et i (by omega), et (i + 1) (by omega), et (i + 2) (by omega)]
      exact h5 (i + 1) (by omega)
/-! the trace of the reference -/
theorem r_kp_f16 : ∀ k : Nat, k ≤ 93 → ∀ j : Nat, j < 96 → r_goKept_f16 f k 280 (215 + j) = if j < k then f 280 (215 + (j + 3)) else f 280 (215 + j) := by
  intro k
  induction k with
  | zero => intro _ j _; rfl
  | succ k ih =>
    intro hk j hj
    show r_goKept_b16_m (r_goKept_f16 f k) k 280 (215 + j) = _
    unfold r_goKept_b16_m
    by_cases e : j = k
    · subst e
      rw [fl_row_self, upd_self, if_pos (by omega), show 215 + j + 3 = 215 + (j + 3) by omega, ih (by omega) (j + 3) (by omega), if_neg (by omega)]
    · rw [fl_row_self, upd_ne (by omega), ih (by omega) j hj]
      by_cases l : j < k
      · rw [if_pos l, if_pos (by omega)]
      · rw [if_neg l, if_neg (by omega)]
theorem r_kp_pack (h : 0 ≤ (f 280 21).toInt ∧ (f 280 21).toInt ≤ 32) : r_pack_v (fl_row (r_goKept_m9 f) 280 (upd ((r_goKept_m9 f) 280) (215 + (3 * (((r_goKept_m9 f) 280 21).toInt.toNat))) (f 280 5))) = r_pack_v f := by
  have b := r_goKept_m9_t h
  have w : ∀ q : Nat, (q < 21 ∨ 444 ≤ q) → (fl_row (r_goKept_m9 f) 280 (upd ((r_goKept_m9 f) 280) (215 + (3 * (((r_goKept_m9 f) 280 21).toInt.toNat))) (f 280 5))) 280 q = f 280 q := fun q hq => by
    rw [fl_row_self, upd_ne (by omega), r_goKept_m9_w (by omega)]
  unfold r_pack_v
  rw [w 2 (by omega), r_pack_c (w 5 (by omega)) (fun C hC q hq => w _ (by omega))]
theorem r_kp_lt (h : (f 280 21).toInt = (n : Int)) (hl : n < 32) : (r_goKept_f117 f 0 280 21).toInt = (n : Int) + 1 ∧ r_goKept_f117 f 0 280 (215 + 3 * n) = f 280 5 ∧ r_goKept_f117 f 0 280 (215 + 3 * n + 1) = r_pack_v f ∧ ∀ j : Nat, j < 3 * n → r_goKept_f117 f 0 280 (215 + j) = f 280 (215 + j) := by
  have c32 : (32 : Int32).toInt = 32 := by decide +kernel
  have c1 : (1 : Int32).toInt = 1 := by decide +kernel
  have pk := r_kp_pack (f := f) (by omega)
  have e : r_goKept_m9 f = f := by
    unfold r_goKept_m9
    rw [if_neg (by omega)]
  unfold r_goKept_f117
  rw [pk, e, h, Int.toNat_natCast]
  refine ⟨?_, ?_, ?_, fun j hj => ?_⟩
  · rw [fl_row_self, upd_self, at_add32] <;> omega
  · rw [fl_row_self, upd_ne (by omega), upd_ne (by omega), upd_ne (by omega), upd_self]
  · rw [fl_row_self, upd_ne (by omega), upd_ne (by omega), upd_self]
  · rw [fl_row_self, upd_ne (by omega), upd_ne (by omega), upd_ne (by omega), upd_ne (by omega)]
theorem r_kp_32 (h : (f 280 21).toInt = 32) : (r_goKept_f117 f 0 280 21).toInt = 32 ∧ r_goKept_f117 f 0 280 (215 + 3 * 31) = f 280 5 ∧ r_goKept_f117 f 0 280 (215 + 3 * 31 + 1) = r_pack_v f ∧ ∀ j : Nat, j < 93 → r_goKept_f117 f 0 280 (215 + j) = f 280 (215 + (j + 3)) := by
  have c32 : (32 : Int32).toInt = 32 := by decide +kernel
  have c1 : (1 : Int32).toInt = 1 := by decide +kernel
  have pk := r_kp_pack (f := f) (by omega)
  have e : r_goKept_m9 f = fl_row (r_goKept_f16 f 93) 280 (upd ((r_goKept_f16 f 93) 280) 21 ((f 280 21) - (1 : Int32))) := by
    unfold r_goKept_m9
    rw [if_pos (by omega)]
  have e21 : r_goKept_m9 f 280 21 = f 280 21 - (1 : Int32) := by rw [e, fl_row_self, upd_self]
  have i21 : (r_goKept_m9 f 280 21).toInt = 31 := by rw [e21, at_sub32] <;> omega
  have es : ∀ j : Nat, j < 93 → r_goKept_m9 f 280 (215 + j) = f 280 (215 + (j + 3)) := fun j hj => by
    rw [e, fl_row_self, upd_ne (by omega), r_kp_f16 93 (Nat.le_refl 93) j (by omega), if_pos hj]
  unfold r_goKept_f117
  rw [pk, i21]
  show (fl_row (r_goKept_m9 f) 280 (upd (upd (upd (upd ((r_goKept_m9 f) 280) (215 + 3 * 31) (f 280 5)) (215 + 3 * 31 + 1) (r_pack_v f)) (215 + 3 * 31 + 2) _) 21 ((r_goKept_m9 f) 280 21 + (1 : Int32))) 280 21).toInt = 32 ∧ fl_row (r_goKept_m9 f) 280 (upd (upd (upd (upd ((r_goKept_m9 f) 280) (215 + 3 * 31) (f 280 5)) (215 + 3 * 31 + 1) (r_pack_v f)) (215 + 3 * 31 + 2) _) 21 ((r_goKept_m9 f) 280 21 + (1 : Int32))) 280 (215 + 3 * 31) = f 280 5 ∧ fl_row (r_goKept_m9 f) 280 (upd (upd (upd (upd ((r_goKept_m9 f) 280) (215 + 3 * 31) (f 280 5)) (215 + 3 * 31 + 1) (r_pack_v f)) (215 + 3 * 31 + 2) _) 21 ((r_goKept_m9 f) 280 21 + (1 : Int32))) 280 (215 + 3 * 31 + 1) = r_pack_v f ∧ ∀ j : Nat, j < 93 → fl_row (r_goKept_m9 f) 280 (upd (upd (upd (upd ((r_goKept_m9 f) 280) (215 + 3 * 31) (f 280 5)) (215 + 3 * 31 + 1) (r_pack_v f)) (215 + 3 * 31 + 2) _) 21 ((r_goKept_m9 f) 280 21 + (1 : Int32))) 280 (215 + j) = f 280 (215 + (j + 3))
  refine ⟨?_, ?_, ?_, fun j hj => ?_⟩
  · rw [fl_row_self, upd_self, at_add32] <;> omega
  · rw [fl_row_self, upd_ne (by omega), upd_ne (by omega), upd_ne (by omega), upd_self]
  · rw [fl_row_self, upd_ne (by omega), upd_ne (by omega), upd_self]
  · rw [fl_row_self, upd_ne (by omega), upd_ne (by omega), upd_ne (by omega), upd_ne (by omega), es j hj]
end RALT
