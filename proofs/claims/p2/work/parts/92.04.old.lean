/-! ===== the reference's aging, round by round, at once ===== -/
section ROLD
variable {f g : t2_F} {c : Int32} {C : Nat} {b : Int32}
theorem r_hold_1 : r_hold_m g c C 280 (444 + 61 * C + 1) = r_held_v (g 280 (444 + 61 * C + 1)) (0 : Int32) ((3600 : Int32) * (g 280 (444 + 61 * C + 0))) := by
  unfold r_hold_m r_full_v
  rw [fl_row_self, upd_ne (by omega), upd_self]
theorem r_hold_4 : r_hold_m g c C 280 (444 + 61 * C + 4) = r_held_v (g 280 (444 + 61 * C + 4)) (0 : Int32) ((3600 : Int32) * (g 280 (444 + 61 * C + 0))) := by
  unfold r_hold_m r_full_v
  rw [fl_row_self, upd_self, fl_row_self, upd_ne (by omega)]
theorem r_hold_0 : r_hold_m g c C 280 (444 + 61 * C + 0) = g 280 (444 + 61 * C + 0) := r_hold_w (by omega) (by omega)
theorem r_held_i {x y : Int32} (hx : 0 ≤ x.toInt) (hy : 0 ≤ y.toInt) : (r_held_v x (0 : Int32) y).toInt = min x.toInt y.toInt := by
  have e : (0 : Int32).toInt = 0 := rfl
  unfold r_held_v
  rw [if_neg (by omega)]
  split <;> omega
theorem r_held_r {x y : Int32} (hy : 0 ≤ y.toInt) : (r_held_v x (0 : Int32) y).toInt = max 0 (min x.toInt y.toInt) := by
  have e : (0 : Int32).toInt = 0 := rfl
  unfold r_held_v
  split
  · omega
  · split <;> omega
theorem t2_divb {T b q r : Int} (hb : 0 < b) (hq : (T - b) / b = q) (hr : (T - b) % b = r) : T / b = q + 1 ∧ T % b = r := by
  have h := (Int.ediv_emod_unique (a := T - b) (r := r) (q := q) hb).mp ⟨hq, hr⟩
  refine (Int.ediv_emod_unique hb).mpr ⟨?_, h.2⟩
  have e : b * (q + 1) = b * q + b := by rw [Int.mul_add, Int.mul_one]
  omega
theorem r_old_wf (hb : 0 < b.toInt) : ∀ (n : Nat) (f : t2_F), (f 280 (444 + 61 * C + 5)).toInt.toNat ≤ n → 0 ≤ (f 280 (444 + 61 * C + 5)).toInt → t2_cap (f 280 (444 + 61 * C + 0)) → (0 ≤ (f 280 (444 + 61 * C + 1)).toInt ∧ (f 280 (444 + 61 * C + 1)).toInt ≤ 3600 * (f 280 (444 + 61 * C + 0)).toInt) → (0 ≤ (f 280 (444 + 61 * C + 4)).toInt ∧ (f 280 (444 + 61 * C + 4)).toInt ≤ 3600 * (f 280 (444 + 61 * C + 0)).toInt) →
    (t2_wf (fun f => r_goOld_g76 f c C b) n f 280 (444 + 61 * C + 5)).toInt = (f 280 (444 + 61 * C + 5)).toInt % b.toInt ∧
    (t2_wf (fun f => r_goOld_g76 f c C b) n f 280 (444 + 61 * C + 0)).toInt = max 100 ((f 280 (444 + 61 * C + 0)).toInt - (f 280 (444 + 61 * C + 5)).toInt / b.toInt) ∧
    (t2_wf (fun f => r_goOld_g76 f c C b) n f 280 (444 + 61 * C + 1)).toInt = min (f 280 (444 + 61 * C + 1)).toInt (3600 * (t2_wf (fun f => r_goOld_g76 f c C b) n f 280 (444 + 61 * C + 0)).toInt) ∧
    (t2_wf (fun f => r_goOld_g76 f c C b) n f 280 (444 + 61 * C + 4)).toInt = min (f 280 (444 + 61 * C + 4)).toInt (3600 * (t2_wf (fun f => r_goOld_g76 f c C b) n f 280 (444 + 61 * C + 0)).toInt) := by
  intro n
  induction n with
  | zero =>
    intro f hn h0 hc h1 h4
    have e : (f 280 (444 + 61 * C + 5)).toInt = 0 := by omega
    have hc' := hc.1
    show (f 280 _).toInt = _ ∧ (f 280 _).toInt = _ ∧ (f 280 _).toInt = min _ (3600 * (f 280 _).toInt) ∧ (f 280 _).toInt = min _ (3600 * (f 280 _).toInt)
    rw [e, Int.zero_emod, Int.zero_ediv]
    omega
  | succ n ih =>
    intro f hn h0 hc h1 h4
    obtain ⟨hc1, hc2⟩ := hc
    by_cases hT : (f 280 (444 + 61 * C + 5)).toInt < b.toInt
    · have e : r_goOld_g76 f c C b = none := by
        unfold r_goOld_g76
        rw [if_neg (by omega), if_pos hT]
      have ew : t2_wf (fun f => r_goOld_g76 f c C b) (n + 1) f = f := by
        unfold t2_wf
        rw [e]
      rw [ew, Int.emod_eq_of_lt h0 hT, Int.ediv_eq_zero_of_lt h0 hT]
      omega
    · have e100 : (100 : Int32).toInt = 100 := by decide +kernel
      have e1 : (1 : Int32).toInt = 1 := by decide +kernel
      have hx := at_i32 (f 280 (444 + 61 * C + 5))
      generalize hg : fl_row f 280 (upd (upd (f 280) (444 + 61 * C + 5) ((f 280 (444 + 61 * C + 5)) - b)) (444 + 61 * C + 0) (r_goOld_g76_j112_0 f c C b)) = g
      have e : r_goOld_g76 f c C b = some (r_hold_m g c C) := by
        unfold r_goOld_g76
        rw [if_neg (by omega), if_neg hT, hg]
      have g0 : g 280 (444 + 61 * C + 0) = r_goOld_g76_j112_0 f c C b := by rw [← hg, fl_row_self, upd_self]
      have g5 : g 280 (444 + 61 * C + 5) = f 280 (444 + 61 * C + 5) - b := by rw [← hg, fl_row_self, upd_ne (by omega), upd_self]
      have g1 : g 280 (444 + 61 * C + 1) = f 280 (444 + 61 * C + 1) := by rw [← hg, fl_row_self, upd_ne (by omega), upd_ne (by omega)]
      have g4 : g 280 (444 + 61 * C + 4) = f 280 (444 + 61 * C + 4) := by rw [← hg, fl_row_self, upd_ne (by omega), upd_ne (by omega)]
      have j0 : (r_goOld_g76_j112_0 f c C b).toInt = max 100 ((f 280 (444 + 61 * C + 0)).toInt - 1) := by
        unfold r_goOld_g76_j112_0
        split
        · rw [at_sub32] <;> rw [e1] <;> omega
        · omega
      have i0 : (g 280 (444 + 61 * C + 0)).toInt = max 100 ((f 280 (444 + 61 * C + 0)).toInt - 1) := by rw [g0, j0]
      have i5 : (g 280 (444 + 61 * C + 5)).toInt = (f 280 (444 + 61 * C + 5)).toInt - b.toInt := by rw [g5, at_sub32] <;> omega
      have capg : t2_cap (g 280 (444 + 61 * C + 0)) := by
        unfold t2_cap
        omega
      have ff : ((3600 : Int32) * (g 280 (444 + 61 * C + 0))).toInt = 3600 * (g 280 (444 + 61 * C + 0)).toInt := t2_full_r capg
      have k0 := r_hold_0 (g := g) (c := c) (C := C)
      have k1 : (r_hold_m g c C 280 (444 + 61 * C + 1)).toInt = min (f 280 (444 + 61 * C + 1)).toInt (3600 * (g 280 (444 + 61 * C + 0)).toInt) := by
        rw [r_hold_1, r_held_i (by rw [g1]; omega) (by rw [ff]; omega), g1, ff]
      have k4 : (r_hold_m g c C 280 (444 + 61 * C + 4)).toInt = min (f 280 (444 + 61 * C + 4)).toInt (3600 * (g 280 (444 + 61 * C + 0)).toInt) := by
        rw [r_hold_4, r_held_i (by rw [g4]; omega) (by rw [ff]; omega), g4, ff]
      have k5 : r_hold_m g c C 280 (444 + 61 * C + 5) = g 280 (444 + 61 * C + 5) := r_hold_w (by omega) (by omega)
      have ew : t2_wf (fun f => r_goOld_g76 f c C b) (n + 1) f = t2_wf (fun f => r_goOld_g76 f c C b) n (r_hold_m g c C) := by
        conv => lhs; unfold t2_wf
        rw [e]
      have := ih (r_hold_m g c C) (by rw [k5, i5]; omega) (by rw [k5, i5]; omega) (by rw [k0]; exact capg) (by rw [k1, k0]; omega) (by rw [k4, k0]; omega)
      rw [k5, k0, i5] at this
      rw [ew]
      obtain ⟨d1, d2⟩ := t2_divb (T := (f 280 (444 + 61 * C + 5)).toInt) hb rfl rfl
      have q0 : 0 ≤ ((f 280 (444 + 61 * C + 5)).toInt - b.toInt) / b.toInt := Int.ediv_nonneg (by omega) (by omega)
      obtain ⟨t1, t2, t3, t4⟩ := this
      rw [d1, d2]
      generalize ((f 280 (444 + 61 * C + 5)).toInt - b.toInt) / b.toInt = q at t2 q0
      refine ⟨t1, ?_, ?_, ?_⟩
      · rw [t2, i0]
        omega
      · rw [t3, k1]
        omega
      · rw [t4, k4]
        omega
end ROLD
