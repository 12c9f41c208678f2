/-! 94.07.meas.lean.txt -/
section
/-! ===== block 0: (6) of a second ===== -/
section C0MEAS
variable {fc fr f F G : t2_F} {C n k : Nat} {c x y z : Int32}
theorem c0_meas_w : c0_measure_m f C x y (18 + 4 * C) 14 = c0_measure_j15_0 f C x y ∧ c0_measure_m f C x y (18 + 4 * C) 11 = c0_voltsAt_v f C x ∧ c0_measure_m f C x y (18 + 4 * C) 16 = f (18 + 4 * C) 16 + x ∧ ∀ j : Nat, j ≠ 11 → j ≠ 14 → j ≠ 16 → c0_measure_m f C x y (18 + 4 * C) j = f (18 + 4 * C) j := by
  unfold c0_measure_m
  refine ⟨?_, ?_, ?_, fun j h1 h2 h3 => ?_⟩ <;> simp (disch := omega) only [fl_row_self, upd_self, upd_ne]
theorem c0_rest_w {P : Int32} (hP : t2_pb (c0_voltsAt_v f C (0 : Int32)) = P) : c0_reckonAtRest_m f C (18 + 4 * C) 8 = t2_heldTo_v (t2_chargeBy_v P (f (18 + 4 * C) 0)) (0 : Int32) (f (18 + 4 * C) 0 * (3600 : Int32)) ∧
    c0_reckonAtRest_m f C (18 + 4 * C) 15 = (if (f (18 + 4 * C) 17).toInt = (-1 : Int32).toInt then f (18 + 4 * C) 15 else (if (t2_abs_v (P - f (18 + 4 * C) 17)).toInt < (100 : Int32).toInt then f (18 + 4 * C) 15 else ((((t2_abs_v (f (18 + 4 * C) 16)).toInt64) * (1000 : Int64)) / (((t2_abs_v (P - f (18 + 4 * C) 17)).toInt64) * (3600 : Int64))).toInt32)) ∧
    c0_reckonAtRest_m f C (18 + 4 * C) 17 = P ∧ c0_reckonAtRest_m f C (18 + 4 * C) 16 = 0 ∧ ∀ j : Nat, j ≠ 8 → j ≠ 15 → j ≠ 16 → j ≠ 17 → c0_reckonAtRest_m f C (18 + 4 * C) j = f (18 + 4 * C) j := by
  unfold c0_reckonAtRest_m c0_reckonAtRest_j36_0 c0_putReckoned_m
  simp only [hP]
  refine ⟨?_, ?_, ?_, ?_, fun j h1 h2 h3 h4 => ?_⟩ <;> simp (disch := omega) only [fl_row_self, upd_self, upd_ne]
theorem c0_f46_at : ∀ {k : Nat}, C < k → c0_sMeasure_f46 f k (18 + 4 * C) = c0_sMeasure_b46_m (c0_sMeasure_f46 f C) (c0_sMeasure_j35_0 f) C (18 + 4 * C) := by
  intro k
  induction k with
  | zero => intro h; exact absurd h (Nat.not_lt_zero _)
  | succ k ih =>
    intro h
    by_cases e : C = k
    · subst e
      rfl
    · exact (c0_sMeasure_b46_fr (f := c0_sMeasure_f46 f k) (z := c0_sMeasure_j35_0 f) (k := k) (p := 18 + 4 * C) (by omega)).trans (ih (by omega))
theorem c0_f46_me : c0_sMeasure_f46 f C (18 + 4 * C) = f (18 + 4 * C) := by
  rw [c0_sMeasure_f46_fr (k := C) (fun j hj => by omega), fl_row_ne (by omega)]
theorem c0_f46_p {p : Nat} (h1 : p ≠ 1) (h18 : p < 18) : c0_sMeasure_f46 f k p = f p := by
  rw [c0_sMeasure_f46_fr (k := k) (fun j hj => by omega), fl_row_ne h1]
theorem c0_f46_1 : c0_sMeasure_f46 f k 1 = upd (f 1) 12 (c0_sMeasure_j5_0 f) := by
  rw [c0_sMeasure_f46_fr (k := k) (fun j hj => by omega), fl_row_self]
theorem c0_volts_row {f f' : t2_F} (e : f' (18 + 4 * C) = f (18 + 4 * C)) : c0_voltsAt_v f' C x = c0_voltsAt_v f C x := by
  unfold c0_voltsAt_v
  rw [e]
theorem c0_f46_w0 (hC : C < k) (hz : (c0_sMeasure_j35_0 f).toInt = 0) : c0_sMeasure_f46 f k (18 + 4 * C) 14 = c0_measure_j15_0 f C (f 1 9) (f 1 10) ∧ c0_sMeasure_f46 f k (18 + 4 * C) 11 = c0_voltsAt_v f C (f 1 9) ∧ c0_sMeasure_f46 f k (18 + 4 * C) 16 = f (18 + 4 * C) 16 + f 1 9 ∧ ∀ j : Nat, j ≠ 11 → j ≠ 14 → j ≠ 16 → c0_sMeasure_f46 f k (18 + 4 * C) j = f (18 + 4 * C) j := by
  have e9 : c0_sMeasure_f46 f C 1 9 = f 1 9 := by rw [c0_f46_1, upd_ne (by decide)]
  have e10 : c0_sMeasure_f46 f C 1 10 = f 1 10 := by rw [c0_f46_1, upd_ne (by decide)]
  obtain ⟨h1, h2, h3, h4⟩ := c0_meas_w (f := c0_sMeasure_f46 f C) (C := C) (x := f 1 9) (y := f 1 10)
  rw [c0_f46_at hC]
  unfold c0_sMeasure_b46_m
  rw [if_pos hz, e9, e10]
  refine ⟨?_, ?_, ?_, fun j a b d => ?_⟩
  · rw [h1]
    unfold c0_measure_j15_0
    rw [c0_volts_row c0_f46_me, c0_f46_me]
  · rw [h2, c0_volts_row c0_f46_me]
  · rw [h3, c0_f46_me]
  · rw [h4 j a b d, c0_f46_me]
theorem c0_f46_w1 {P : Int32} (hC : C < k) (hz : ¬ (c0_sMeasure_j35_0 f).toInt = 0) (hP : t2_pb (c0_voltsAt_v f C (0 : Int32)) = P) : c0_sMeasure_f46 f k (18 + 4 * C) 14 = c0_measure_j15_0 f C (f 1 9) (f 1 10) ∧ c0_sMeasure_f46 f k (18 + 4 * C) 11 = c0_voltsAt_v f C (f 1 9) ∧ c0_sMeasure_f46 f k (18 + 4 * C) 16 = 0 ∧ c0_sMeasure_f46 f k (18 + 4 * C) 17 = P ∧
    c0_sMeasure_f46 f k (18 + 4 * C) 8 = t2_heldTo_v (t2_chargeBy_v P (f (18 + 4 * C) 0)) (0 : Int32) (f (18 + 4 * C) 0 * (3600 : Int32)) ∧
    c0_sMeasure_f46 f k (18 + 4 * C) 15 = (if (f (18 + 4 * C) 17).toInt = (-1 : Int32).toInt then f (18 + 4 * C) 15 else (if (t2_abs_v (P - f (18 + 4 * C) 17)).toInt < (100 : Int32).toInt then f (18 + 4 * C) 15 else ((((t2_abs_v (f (18 + 4 * C) 16 + f 1 9)).toInt64) * (1000 : Int64)) / (((t2_abs_v (P - f (18 + 4 * C) 17)).toInt64) * (3600 : Int64))).toInt32)) ∧
    ∀ j : Nat, j ≠ 8 → j ≠ 11 → j ≠ 14 → j ≠ 15 → j ≠ 16 → j ≠ 17 → c0_sMeasure_f46 f k (18 + 4 * C) j = f (18 + 4 * C) j := by
  have e9 : c0_sMeasure_f46 f C 1 9 = f 1 9 := by rw [c0_f46_1, upd_ne (by decide)]
  have e10 : c0_sMeasure_f46 f C 1 10 = f 1 10 := by rw [c0_f46_1, upd_ne (by decide)]
  obtain ⟨h1, h2, h3, h4⟩ := c0_meas_w (f := c0_sMeasure_f46 f C) (C := C) (x := f 1 9) (y := f 1 10)
  have ev : c0_voltsAt_v (c0_measure_m (c0_sMeasure_f46 f C) C (f 1 9) (f 1 10)) C (0 : Int32) = c0_voltsAt_v f C (0 : Int32) := by
    unfold c0_voltsAt_v
    rw [h4 4 (by decide) (by decide) (by decide), h4 7 (by decide) (by decide) (by decide), h4 5 (by decide) (by decide) (by decide), c0_f46_me]
  obtain ⟨r1, r2, r3, r4, r5⟩ := c0_rest_w (f := c0_measure_m (c0_sMeasure_f46 f C) C (f 1 9) (f 1 10)) (C := C) (P := P) (by rw [ev, hP])
  rw [c0_f46_at hC]
  unfold c0_sMeasure_b46_m
  rw [if_neg hz, e9, e10]
  refine ⟨?_, ?_, r4, r3, ?_, ?_, fun j a8 a11 a14 a15 a16 a17 => ?_⟩
  · rw [r5 14 (by decide) (by decide) (by decide) (by decide), h1]
    unfold c0_measure_j15_0
    rw [c0_volts_row c0_f46_me, c0_f46_me]
  · rw [r5 11 (by decide) (by decide) (by decide) (by decide), h2, c0_volts_row c0_f46_me]
  · rw [r1, h4 0 (by decide) (by decide) (by decide), c0_f46_me]
  · rw [r2, h4 17 (by decide) (by decide) (by decide), h4 15 (by decide) (by decide) (by decide), h3, c0_f46_me]
  · rw [r5 j a8 a15 a16 a17, h4 j a11 a14 a16, c0_f46_me]
def c0_Rm (fc fr : t2_F) (C : Nat) : Prop := fc (18 + 4 * C) 14 = fr 280 (444 + 61 * C + 11) ∧ fc (18 + 4 * C) 15 = fr 280 (444 + 61 * C + 12) ∧ fc (18 + 4 * C) 16 = fr 280 (444 + 61 * C + 13) ∧ fc (18 + 4 * C) 17 = fr 280 (444 + 61 * C + 16)
/-- what (6) goes from, of a cell -/
def c0_R6 (fc fr : t2_F) (C : Nat) : Prop := c0_Rc fc fr C ∧ t2_cap (fc (18 + 4 * C) 0) ∧ t2_far (fr 280 5) (fr 280 (444 + 61 * C + 2)) ∧ c0_Rm fc fr C ∧ fc (18 + 4 * C) 10 = fr 280 (444 + 61 * C + 15) ∧ (fr 280 (444 + 61 * C + 15) = 0 ∨ fr 280 (444 + 61 * C + 15) = 1) ∧ (fr 280 (444 + 61 * C + 15) = 1 → fc (18 + 4 * C) 11 = fr 280 (444 + 61 * C + 14)) ∧ -1 ≤ (fr 280 (444 + 61 * C + 16)).toInt ∧ (fr 280 (444 + 61 * C + 16)).toInt ≤ 1000
theorem c0_meas_j15 (h : c0_R6 fc fr C) (hx : fc 1 9 = fr 280 5) (hy : fc 1 10 = fr 280 14) : c0_measure_j15_0 fc C (fc 1 9) (fc 1 10) = r_goMeasure_b17_j41_0 fr ((fr 280 5) - (fr 280 14)) C := by
  obtain ⟨hc, -, hf, hm, h10, h01, h11, -⟩ := h
  have ev := c0_volts_eq (c := Int32.ofNat C) hc hf
  have c1 : (1 : Int32).toInt = 1 := by decide +kernel
  have c0 : (0 : Int32).toInt = 0 := rfl
  unfold c0_measure_j15_0 r_goMeasure_b17_j41_0
  rw [hx, hy, h10, hm.1, ev]
  rcases h01 with e | e
  · rw [e, if_pos c0, if_neg (by omega)]
  · rw [if_neg (show ¬ (fr 280 (444 + 61 * C + 15)).toInt = 0 by rw [e]; omega), if_pos (show (fr 280 (444 + 61 * C + 15)).toInt = (1 : Int32).toInt by rw [e]), h11 e]
    rfl
/-- behind both loops -/
noncomputable def r_mid (f : t2_F) : t2_F := if (r_goMeasure_j144_0 f).toInt = (f 280 53).toInt then r_goMeasure_f163 f ((f 280 2).toInt.toNat) else fl_row (r_goMeasure_f17 f ((f 280 2).toInt.toNat)) 280 (upd (upd ((r_goMeasure_f17 f ((f 280 2).toInt.toNat)) 280) 14 (f 280 5)) 9 (r_goMeasure_j144_0 f))
theorem r_mid_lo {w : Nat} (hw : w < 444) (h9 : w ≠ 9) (h14 : w ≠ 14) : r_mid fr 280 w = fr 280 w := by
  unfold r_mid
  split
  · exact r_f163_lo hw h9 h14
  · rw [fl_row_self, upd_ne h9, upd_ne h14, r_f17_lo hw]
theorem r_mid_9 : r_mid fr 280 9 = r_goMeasure_j144_0 fr ∧ r_mid fr 280 14 = fr 280 5 := by
  unfold r_mid
  split
  · rw [r_goMeasure_f163_w (fun j hj => by omega) (fun j hj => by omega) (fun j hj => by omega) (fun j hj => by omega), r_goMeasure_f163_w (fun j hj => by omega) (fun j hj => by omega) (fun j hj => by omega) (fun j hj => by omega), fl_row_self, upd_self, upd_ne (by decide), upd_self]
    exact ⟨rfl, rfl⟩
  · rw [fl_row_self, upd_self, upd_ne (by decide), upd_self]
    exact ⟨rfl, rfl⟩
theorem r_mid_s {w : Nat} (hw : w = 0 ∨ w = 1 ∨ w = 2 ∨ w = 3 ∨ w = 5 ∨ w = 6 ∨ w = 9 ∨ w = 60) : r_mid fr 280 (444 + 61 * C + w) = fr 280 (444 + 61 * C + w) := by
  unfold r_mid
  split
  · rw [r_f163_o (by omega) (by omega) (by omega) (by omega) (by omega), r_f17_o (by omega) (by omega) (by omega) (by omega) (by omega)]
  · rw [fl_row_self, upd_ne (by omega), upd_ne (by omega), r_f17_o (by omega) (by omega) (by omega) (by omega) (by omega)]
theorem r_goMeasure_mid : r_goMeasure_m fr = fl_row (r_mid fr) 280 (upd (r_mid fr 280) 4 (if (r_isLive_v (r_mid fr)).toInt = 0 then r_mid fr 280 4 else r_pack_v (r_mid fr))) := by
  unfold r_goMeasure_m r_mid r_goMeasure_j204_0 r_goMeasure_j204_1
  by_cases h : (r_goMeasure_j144_0 fr).toInt = (fr 280 53).toInt
  · simp only [if_pos h]
  · simp only [if_neg h]
    funext q j
    by_cases hq : q = 280
    · subst hq
      simp only [fl_row_self, upd_ne (by decide : (4 : Nat) ≠ 9), upd_ne (by decide : (4 : Nat) ≠ 14)]
    · rw [fl_row_ne hq, fl_row_ne hq, fl_row_ne hq]
theorem r_live_c {f f' : t2_F} (h3 : f' 280 3 = f 280 3) (hk : ∀ k : Nat, k < 3 → f' 280 (64 + k) = f 280 (64 + k)) : r_actual_v f' = r_actual_v f ∧ r_isLive_v f' = r_isLive_v f ∧ r_ordered_v f' = r_ordered_v f := by
  have e : r_ordered_v f' = r_ordered_v f := by
    unfold r_ordered_v r_ordered_j6_0
    rw [h3]
  have a : r_actual_v f' = r_actual_v f := by
    unfold r_actual_v
    simp only [r_actual_a4, hk 0 (by omega), hk 1 (by omega), hk 2 (by omega), e]
  refine ⟨a, ?_, e⟩
  unfold r_isLive_v
  rw [a]
theorem c0_live_c {f f' : t2_F} (h7 : f' 1 7 = f 1 7) (h5 : f' 5 = f 5) : c0_actualBits_v f' = c0_actualBits_v f ∧ (∀ x : Int32, c0_areActual_v f' x = c0_areActual_v f x) ∧ c0_orderedBits_v f' = c0_orderedBits_v f := by
  have e : c0_orderedBits_v f' = c0_orderedBits_v f := by
    unfold c0_orderedBits_v c0_orderedBits_j14_0
    rw [h7]
  have a : c0_actualBits_v f' = c0_actualBits_v f := by
    unfold c0_actualBits_v
    simp only [c0_actualBits_a7, h5, e]
  refine ⟨a, fun x => ?_, e⟩
  unfold c0_areActual_v
  rw [a]
theorem c0_pack_c {f f' : t2_F} {n : Nat} (h : ∀ C : Nat, C < n → ∀ j : Nat, (j = 4 ∨ j = 5 ∨ j = 7) → f' (18 + 4 * C) j = f (18 + 4 * C) j) : c0_packAt_a4 f' x n = c0_packAt_a4 f x n := by
  induction n with
  | zero => rfl
  | succ n ih =>
    show c0_packAt_a4 f' x n + c0_voltsAt_v f' n x = c0_packAt_a4 f x n + c0_voltsAt_v f n x
    rw [ih (fun C hC => h C (by omega))]
    unfold c0_voltsAt_v
    rw [h n (by omega) 4 (by omega), h n (by omega) 5 (by omega), h n (by omega) 7 (by omega)]
/-- (6), a cell behind the loops -/
theorem c0_cell6 (hn : (fr 280 2).toInt.toNat = n) (hC : C < n) (h : c0_R6 fc fr C) (ck : t2_ck fr C) (hx : fc 1 9 = fr 280 5) (hy : fc 1 10 = fr 280 14) (hrst : fc 1 12 = fr 280 9) (hs : c0_Rs fc fr) (hr : 1 ≤ (fr 280 53).toInt) :
    c0_Rc (c0_sMeasure_f46 fc n) (r_mid fr) C ∧ t2_cap (c0_sMeasure_f46 fc n (18 + 4 * C) 0) ∧ c0_Rm (c0_sMeasure_f46 fc n) (r_mid fr) C ∧ c0_sMeasure_f46 fc n (18 + 4 * C) 11 = r_mid fr 280 (444 + 61 * C + 14) ∧ r_mid fr 280 (444 + 61 * C + 15) = 1 ∧ c0_sMeasure_f46 fc n (18 + 4 * C) 10 = fr 280 (444 + 61 * C + 15) ∧ (∀ j : Nat, (j = 4 ∨ j = 5 ∨ j = 7) → c0_sMeasure_f46 fc n (18 + 4 * C) j = fc (18 + 4 * C) j) ∧ t2_ck (r_mid fr) C := by
  have hj := c0_meas_j15 h hx hy
  obtain ⟨hc, hcap, hf, ⟨m14, m15, m16, m17⟩, h10, h01, h11, hb1, hb2⟩ := h
  obtain ⟨⟨a0, a1, a2⟩, ⟨a3, a4⟩, ⟨a5, a6, a7⟩, a8, a9, a18⟩ := id hc
  have ev := c0_volts_eq (c := Int32.ofNat C) hc hf
  have s19 : fc 4 19 = fr 280 53 := hs 19 (by omega)
  have ej : c0_sMeasure_j5_0 fc = r_goMeasure_j144_0 fr := by
    unfold c0_sMeasure_j5_0 r_goMeasure_j144_0
    rw [hx, hrst]
  have P3 : r_partOf_v (r_mid fr) 0 C = r_partOf_v fr 0 C := by
    unfold r_partOf_v
    rw [r_mid_s (by omega), r_mid_s (by omega)]
  obtain ⟨g11, g14, g15, g13⟩ := r_f17_w (f := fr) (C := C) (k := n) hC
  have c1 : (1 : Int32).toInt = 1 := by decide +kernel
  have c0 : (0 : Int32).toInt = 0 := rfl
  have ckm : t2_ck (r_mid fr) C := c0_ck_congr ck (r_mid_s (by omega)) (r_mid_s (by omega))
  by_cases hR : (r_goMeasure_j144_0 fr).toInt = (fr 280 53).toInt
  · -- resting
    have hcur : (fr 280 5).toInt = 0 := by
      apply Classical.byContradiction
      intro q
      unfold r_goMeasure_j144_0 at hR
      rw [if_neg q] at hR
      omega
    have hcur0 : fr 280 5 = 0 := Int32.toInt.inj hcur
    have hz : ¬ (c0_sMeasure_j35_0 fc).toInt = 0 := by
      unfold c0_sMeasure_j35_0
      rw [ej, s19, if_pos hR]
      omega
    have eM : r_mid fr = r_goMeasure_f163 fr n := by
      unfold r_mid
      rw [if_pos hR, hn]
    have evM : ∀ f' : t2_F, (∀ w : Nat, (w = 0 ∨ w = 1 ∨ w = 2 ∨ w = 9) → f' 280 (444 + 61 * C + w) = fr 280 (444 + 61 * C + w)) → f' 280 5 = fr 280 5 → r_voltsOf_v f' (Int32.ofNat C) C = r_voltsOf_v fr (Int32.ofNat C) C := fun f' q q5 => r_volts_c q5 (q 0 (by omega)) (q 1 (by omega)) (q 2 (by omega)) (q 9 (by omega))
    have q163 : ∀ w : Nat, (w = 0 ∨ w = 1 ∨ w = 2 ∨ w = 9) → r_goMeasure_f163 fr C 280 (444 + 61 * C + w) = fr 280 (444 + 61 * C + w) := fun w hw => by
      rw [r_f163_me (by omega), hn, r_f17_o (by omega) (by omega) (by omega) (by omega) (by omega)]
    have eV := evM (r_goMeasure_f163 fr C) q163 (r_f163_lo (by decide) (by decide) (by decide))
    generalize hP : t2_pb (r_voltsOf_v fr (Int32.ofNat C) C) = P
    have hPb : 0 ≤ P.toInt ∧ P.toInt ≤ 1000 := by rw [← hP]; exact t2_pb_b _
    have ev0 : c0_voltsAt_v fc C (0 : Int32) = r_voltsOf_v fr (Int32.ofNat C) C := by rw [← ev, hcur0]
    obtain ⟨w14, w11, w16, w17, w8, w15, wo⟩ := c0_f46_w1 (f := fc) (C := C) (k := n) (P := P) hC hz (by rw [ev0, hP])
    obtain ⟨r4, r12, r16, r13⟩ := r_rest_w (g := r_goMeasure_f163 fr C) (c := Int32.ofNat C) (C := C)
    rw [eV, hP] at r4 r16
    obtain ⟨n1, n2, n3, n4⟩ := t2_chg (P := P) hPb hcap
    have in_ : ∀ w : Nat, w < 61 → r_mid fr 280 (444 + 61 * C + w) = r_restNow_m (r_goMeasure_f163 fr C) (Int32.ofNat C) C 280 (444 + 61 * C + w) := fun w hw => by
      rw [eM, r_f163_in hw hC]
    have cf : (fc (18 + 4 * C) 0 * (3600 : Int32)).toInt = (fc (18 + 4 * C) 0).toInt * 3600 := t2_full_i hcap
    have p8 : c0_sMeasure_f46 fc n (18 + 4 * C) 8 = r_mid fr 280 (444 + 61 * C + 4) := by
      rw [w8, t2_held_id n2 (by omega), in_ 4 (by decide), r4]
      unfold r_chargeAt_v
      rw [q163 0 (by omega), ← a0, n4]
    have p15 : c0_sMeasure_f46 fc n (18 + 4 * C) 15 = r_mid fr 280 (444 + 61 * C + 12) := by
      rw [w15, in_ 12 (by decide), r12]
      unfold r_restNow_j32_0
      rw [eV, hP, r_f163_me (by decide), r_f163_me (by decide), r_f163_me (by decide), hn, r_f17_o (by decide) (by decide) (by decide) (by decide) (by decide), r_f17_o (by decide) (by decide) (by decide) (by decide) (by decide), g13, m17, m15, m16, hx]
      have hw := t2_abs_d (p := P) (q := fr 280 (444 + 61 * C + 16)) hPb ⟨hb1, hb2⟩
      have hg : ((1000 : Int64) * (r_size_v (fr 280 (444 + 61 * C + 13) + fr 280 5)).toInt64) / ((3600 : Int32) * (r_size_v (P - fr 280 (444 + 61 * C + 16)))).toInt64 = (((t2_abs_v (fr 280 (444 + 61 * C + 13) + fr 280 5)).toInt64) * (1000 : Int64)) / (((t2_abs_v (P - fr 280 (444 + 61 * C + 16))).toInt64) * (3600 : Int64)) := t2_gue hw
      rw [hg]
      rfl
    refine ⟨⟨⟨?_, ?_, ?_⟩, ⟨?_, ?_⟩, ⟨?_, ?_, ?_⟩, p8, ?_, ?_⟩, ?_, ⟨?_, p15, ?_, ?_⟩, ?_, ?_, ?_, fun j hj => wo j (by omega) (by omega) (by omega) (by omega) (by omega) (by omega), ckm⟩
    · rw [wo 0 (by decide) (by decide) (by decide) (by decide) (by decide) (by decide), r_mid_s (by omega), a0]
    · rw [wo 1 (by decide) (by decide) (by decide) (by decide) (by decide) (by decide), r_mid_s (by omega), a1]
    · rw [wo 2 (by decide) (by decide) (by decide) (by decide) (by decide) (by decide), r_mid_s (by omega), a2]
    · rw [wo 3 (by decide) (by decide) (by decide) (by decide) (by decide) (by decide), P3, a3]
    · rw [wo 4 (by decide) (by decide) (by decide) (by decide) (by decide) (by decide), P3, a4]
    · rw [wo 5 (by decide) (by decide) (by decide) (by decide) (by decide) (by decide), r_mid_s (by omega), a5]
    · rw [wo 6 (by decide) (by decide) (by decide) (by decide) (by decide) (by decide), r_mid_s (by omega), a6]
    · rw [wo 7 (by decide) (by decide) (by decide) (by decide) (by decide) (by decide), r_mid_s (by omega), a7]
    · rw [wo 9 (by decide) (by decide) (by decide) (by decide) (by decide) (by decide), r_mid_s (by omega), a9]
    · rw [wo 18 (by decide) (by decide) (by decide) (by decide) (by decide) (by decide), r_mid_s (by omega), a18]
    · rw [wo 0 (by decide) (by decide) (by decide) (by decide) (by decide) (by decide)]
      exact hcap
    · rw [w14, hj, eM, r_f163_o (by decide) (by decide) (by decide) (by decide) (by decide), hn, g11]
    · rw [w16, in_ 13 (by decide), r13]
    · rw [w17, in_ 16 (by decide), r16]
    · rw [w11, hx, ev, eM, r_f163_o (by decide) (by decide) (by decide) (by decide) (by decide), hn, g14]
    · rw [eM, r_f163_o (by decide) (by decide) (by decide) (by decide) (by decide), hn, g15]
    · rw [wo 10 (by decide) (by decide) (by decide) (by decide) (by decide) (by decide), h10]
  · have hz : (c0_sMeasure_j35_0 fc).toInt = 0 := by
      unfold c0_sMeasure_j35_0
      rw [ej, s19, if_neg hR]
      exact c0
    have in_ : ∀ w : Nat, w < 61 → r_mid fr 280 (444 + 61 * C + w) = r_goMeasure_f17 fr n 280 (444 + 61 * C + w) := fun w hw => by
      unfold r_mid
      rw [if_neg hR, fl_row_self, upd_ne (by omega), upd_ne (by omega), hn]
    have ino : ∀ w : Nat, w < 61 → w ≠ 11 → w ≠ 14 → w ≠ 15 → w ≠ 13 → r_mid fr 280 (444 + 61 * C + w) = fr 280 (444 + 61 * C + w) := fun w hw x1 x2 x3 x4 => by
      rw [in_ w hw, r_f17_o hw x1 x2 x3 x4]
    obtain ⟨w14, w11, w16, wo⟩ := c0_f46_w0 (f := fc) (C := C) (k := n) hC hz
    refine ⟨⟨⟨?_, ?_, ?_⟩, ⟨?_, ?_⟩, ⟨?_, ?_, ?_⟩, ?_, ?_, ?_⟩, ?_, ⟨?_, ?_, ?_, ?_⟩, ?_, ?_, ?_, fun j hj => wo j (by omega) (by omega) (by omega), ckm⟩
    · rw [wo 0 (by decide) (by decide) (by decide), r_mid_s (by omega), a0]
    · rw [wo 1 (by decide) (by decide) (by decide), r_mid_s (by omega), a1]
    · rw [wo 2 (by decide) (by decide) (by decide), r_mid_s (by omega), a2]
    · rw [wo 3 (by decide) (by decide) (by decide), P3, a3]
    · rw [wo 4 (by decide) (by decide) (by decide), P3, a4]
    · rw [wo 5 (by decide) (by decide) (by decide), r_mid_s (by omega), a5]
    · rw [wo 6 (by decide) (by decide) (by decide), r_mid_s (by omega), a6]
    · rw [wo 7 (by decide) (by decide) (by decide), r_mid_s (by omega), a7]
    · rw [wo 8 (by decide) (by decide) (by decide), ino 4 (by decide) (by decide) (by decide) (by decide) (by decide), a8]
    · rw [wo 9 (by decide) (by decide) (by decide), r_mid_s (by omega), a9]
    · rw [wo 18 (by decide) (by decide) (by decide), r_mid_s (by omega), a18]
    · rw [wo 0 (by decide) (by decide) (by decide)]
      exact hcap
    · rw [w14, hj, in_ 11 (by decide), g11]
    · rw [wo 15 (by decide) (by decide) (by decide), ino 12 (by decide) (by decide) (by decide) (by decide) (by decide), m15]
    · rw [w16, in_ 13 (by decide), g13, m16, hx]
    · rw [wo 17 (by decide) (by decide) (by decide), ino 16 (by decide) (by decide) (by decide) (by decide) (by decide), m17]
    · rw [w11, hx, ev, in_ 14 (by decide), g14]
    · rw [in_ 15 (by decide), g15]
    · rw [wo 10 (by decide) (by decide) (by decide), h10]
end C0MEAS

/-! ===== block 2: (6) of a second ===== -/
section C2MEAS
variable {fc fr f F G : t2_F} {C n k : Nat} {c x y z : Int32}
theorem c2_meas_w : c2_measure_m f C x y (198 + 4 * C) 14 = c2_measure_j15_0 f C x y ∧ c2_measure_m f C x y (198 + 4 * C) 11 = c2_voltsAt_v f C x ∧ c2_measure_m f C x y (198 + 4 * C) 16 = f (198 + 4 * C) 16 + x ∧ ∀ j : Nat, j ≠ 11 → j ≠ 14 → j ≠ 16 → c2_measure_m f C x y (198 + 4 * C) j = f (198 + 4 * C) j := by
  unfold c2_measure_m
  refine ⟨?_, ?_, ?_, fun j h1 h2 h3 => ?_⟩ <;> simp (disch := omega) only [fl_row_self, upd_self, upd_ne]
theorem c2_rest_w {P : Int32} (hP : t2_pb (c2_voltsAt_v f C (0 : Int32)) = P) : c2_reckonAtRest_m f C (198 + 4 * C) 8 = t2_heldTo_v (t2_chargeBy_v P (f (198 + 4 * C) 0)) (0 : Int32) (f (198 + 4 * C) 0 * (3600 : Int32)) ∧
    c2_reckonAtRest_m f C (198 + 4 * C) 15 = (if (f (198 + 4 * C) 17).toInt = (-1 : Int32).toInt then f (198 + 4 * C) 15 else (if (t2_abs_v (P - f (198 + 4 * C) 17)).toInt < (100 : Int32).toInt then f (198 + 4 * C) 15 else ((((t2_abs_v (f (198 + 4 * C) 16)).toInt64) * (1000 : Int64)) / (((t2_abs_v (P - f (198 + 4 * C) 17)).toInt64) * (3600 : Int64))).toInt32)) ∧
    c2_reckonAtRest_m f C (198 + 4 * C) 17 = P ∧ c2_reckonAtRest_m f C (198 + 4 * C) 16 = 0 ∧ ∀ j : Nat, j ≠ 8 → j ≠ 15 → j ≠ 16 → j ≠ 17 → c2_reckonAtRest_m f C (198 + 4 * C) j = f (198 + 4 * C) j := by
  unfold c2_reckonAtRest_m c2_reckonAtRest_j36_0 c2_putReckoned_m
  simp only [hP]
  refine ⟨?_, ?_, ?_, ?_, fun j h1 h2 h3 h4 => ?_⟩ <;> simp (disch := omega) only [fl_row_self, upd_self, upd_ne]
theorem c2_f46_at : ∀ {k : Nat}, C < k → c2_sMeasure_f46 f k (198 + 4 * C) = c2_sMeasure_b46_m (c2_sMeasure_f46 f C) (c2_sMeasure_j35_0 f) C (198 + 4 * C) := by
  intro k
  induction k with
  | zero => intro h; exact absurd h (Nat.not_lt_zero _)
  | succ k ih =>
    intro h
    by_cases e : C = k
    · subst e
      rfl
    · exact (c2_sMeasure_b46_fr (f := c2_sMeasure_f46 f k) (z := c2_sMeasure_j35_0 f) (k := k) (p := 198 + 4 * C) (by omega)).trans (ih (by omega))
theorem c2_f46_me : c2_sMeasure_f46 f C (198 + 4 * C) = f (198 + 4 * C) := by
  rw [c2_sMeasure_f46_fr (k := C) (fun j hj => by omega), fl_row_ne (by omega)]
theorem c2_f46_p {p : Nat} (h1 : p ≠ 181) (h18 : p < 198) : c2_sMeasure_f46 f k p = f p := by
  rw [c2_sMeasure_f46_fr (k := k) (fun j hj => by omega), fl_row_ne h1]
theorem c2_f46_1 : c2_sMeasure_f46 f k 181 = upd (f 181) 12 (c2_sMeasure_j5_0 f) := by
  rw [c2_sMeasure_f46_fr (k := k) (fun j hj => by omega), fl_row_self]
theorem c2_volts_row {f f' : t2_F} (e : f' (198 + 4 * C) = f (198 + 4 * C)) : c2_voltsAt_v f' C x = c2_voltsAt_v f C x := by
  unfold c2_voltsAt_v
  rw [e]
theorem c2_f46_w0 (hC : C < k) (hz : (c2_sMeasure_j35_0 f).toInt = 0) : c2_sMeasure_f46 f k (198 + 4 * C) 14 = c2_measure_j15_0 f C (f 181 9) (f 181 10) ∧ c2_sMeasure_f46 f k (198 + 4 * C) 11 = c2_voltsAt_v f C (f 181 9) ∧ c2_sMeasure_f46 f k (198 + 4 * C) 16 = f (198 + 4 * C) 16 + f 181 9 ∧ ∀ j : Nat, j ≠ 11 → j ≠ 14 → j ≠ 16 → c2_sMeasure_f46 f k (198 + 4 * C) j = f (198 + 4 * C) j := by
  have e9 : c2_sMeasure_f46 f C 181 9 = f 181 9 := by rw [c2_f46_1, upd_ne (by decide)]
  have e10 : c2_sMeasure_f46 f C 181 10 = f 181 10 := by rw [c2_f46_1, upd_ne (by decide)]
  obtain ⟨h1, h2, h3, h4⟩ := c2_meas_w (f := c2_sMeasure_f46 f C) (C := C) (x := f 181 9) (y := f 181 10)
  rw [c2_f46_at hC]
  unfold c2_sMeasure_b46_m
  rw [if_pos hz, e9, e10]
  refine ⟨?_, ?_, ?_, fun j a b d => ?_⟩
  · rw [h1]
    unfold c2_measure_j15_0
    rw [c2_volts_row c2_f46_me, c2_f46_me]
  · rw [h2, c2_volts_row c2_f46_me]
  · rw [h3, c2_f46_me]
  · rw [h4 j a b d, c2_f46_me]
theorem c2_f46_w1 {P : Int32} (hC : C < k) (hz : ¬ (c2_sMeasure_j35_0 f).toInt = 0) (hP : t2_pb (c2_voltsAt_v f C (0 : Int32)) = P) : c2_sMeasure_f46 f k (198 + 4 * C) 14 = c2_measure_j15_0 f C (f 181 9) (f 181 10) ∧ c2_sMeasure_f46 f k (198 + 4 * C) 11 = c2_voltsAt_v f C (f 181 9) ∧ c2_sMeasure_f46 f k (198 + 4 * C) 16 = 0 ∧ c2_sMeasure_f46 f k (198 + 4 * C) 17 = P ∧
    c2_sMeasure_f46 f k (198 + 4 * C) 8 = t2_heldTo_v (t2_chargeBy_v P (f (198 + 4 * C) 0)) (0 : Int32) (f (198 + 4 * C) 0 * (3600 : Int32)) ∧
    c2_sMeasure_f46 f k (198 + 4 * C) 15 = (if (f (198 + 4 * C) 17).toInt = (-1 : Int32).toInt then f (198 + 4 * C) 15 else (if (t2_abs_v (P - f (198 + 4 * C) 17)).toInt < (100 : Int32).toInt then f (198 + 4 * C) 15 else ((((t2_abs_v (f (198 + 4 * C) 16 + f 181 9)).toInt64) * (1000 : Int64)) / (((t2_abs_v (P - f (198 + 4 * C) 17)).toInt64) * (3600 : Int64))).toInt32)) ∧
    ∀ j : Nat, j ≠ 8 → j ≠ 11 → j ≠ 14 → j ≠ 15 → j ≠ 16 → j ≠ 17 → c2_sMeasure_f46 f k (198 + 4 * C) j = f (198 + 4 * C) j := by
  have e9 : c2_sMeasure_f46 f C 181 9 = f 181 9 := by rw [c2_f46_1, upd_ne (by decide)]
  have e10 : c2_sMeasure_f46 f C 181 10 = f 181 10 := by rw [c2_f46_1, upd_ne (by decide)]
  obtain ⟨h1, h2, h3, h4⟩ := c2_meas_w (f := c2_sMeasure_f46 f C) (C := C) (x := f 181 9) (y := f 181 10)
  have ev : c2_voltsAt_v (c2_measure_m (c2_sMeasure_f46 f C) C (f 181 9) (f 181 10)) C (0 : Int32) = c2_voltsAt_v f C (0 : Int32) := by
    unfold c2_voltsAt_v
    rw [h4 4 (by decide) (by decide) (by decide), h4 7 (by decide) (by decide) (by decide), h4 5 (by decide) (by decide) (by decide), c2_f46_me]
  obtain ⟨r1, r2, r3, r4, r5⟩ := c2_rest_w (f := c2_measure_m (c2_sMeasure_f46 f C) C (f 181 9) (f 181 10)) (C := C) (P := P) (by rw [ev, hP])
  rw [c2_f46_at hC]
  unfold c2_sMeasure_b46_m
  rw [if_neg hz, e9, e10]
  refine ⟨?_, ?_, r4, r3, ?_, ?_, fun j a8 a11 a14 a15 a16 a17 => ?_⟩
  · rw [r5 14 (by decide) (by decide) (by decide) (by decide), h1]
    unfold c2_measure_j15_0
    rw [c2_volts_row c2_f46_me, c2_f46_me]
  · rw [r5 11 (by decide) (by decide) (by decide) (by decide), h2, c2_volts_row c2_f46_me]
  · rw [r1, h4 0 (by decide) (by decide) (by decide), c2_f46_me]
  · rw [r2, h4 17 (by decide) (by decide) (by decide), h4 15 (by decide) (by decide) (by decide), h3, c2_f46_me]
  · rw [r5 j a8 a15 a16 a17, h4 j a11 a14 a16, c2_f46_me]
def c2_Rm (fc fr : t2_F) (C : Nat) : Prop := fc (198 + 4 * C) 14 = fr 280 (444 + 61 * C + 11) ∧ fc (198 + 4 * C) 15 = fr 280 (444 + 61 * C + 12) ∧ fc (198 + 4 * C) 16 = fr 280 (444 + 61 * C + 13) ∧ fc (198 + 4 * C) 17 = fr 280 (444 + 61 * C + 16)
def c2_R6 (fc fr : t2_F) (C : Nat) : Prop := c2_Rc fc fr C ∧ t2_cap (fc (198 + 4 * C) 0) ∧ t2_far (fr 280 5) (fr 280 (444 + 61 * C + 2)) ∧ c2_Rm fc fr C ∧ fc (198 + 4 * C) 10 = fr 280 (444 + 61 * C + 15) ∧ (fr 280 (444 + 61 * C + 15) = 0 ∨ fr 280 (444 + 61 * C + 15) = 1) ∧ (fr 280 (444 + 61 * C + 15) = 1 → fc (198 + 4 * C) 11 = fr 280 (444 + 61 * C + 14)) ∧ -1 ≤ (fr 280 (444 + 61 * C + 16)).toInt ∧ (fr 280 (444 + 61 * C + 16)).toInt ≤ 1000
theorem c2_meas_j15 (h : c2_R6 fc fr C) (hx : fc 181 9 = fr 280 5) (hy : fc 181 10 = fr 280 14) : c2_measure_j15_0 fc C (fc 181 9) (fc 181 10) = r_goMeasure_b17_j41_0 fr ((fr 280 5) - (fr 280 14)) C := by
  obtain ⟨hc, -, hf, hm, h10, h01, h11, -⟩ := h
  have ev := c2_volts_eq (c := Int32.ofNat C) hc hf
  have c1 : (1 : Int32).toInt = 1 := by decide +kernel
  have c0 : (0 : Int32).toInt = 0 := rfl
  unfold c2_measure_j15_0 r_goMeasure_b17_j41_0
  rw [hx, hy, h10, hm.1, ev]
  rcases h01 with e | e
  · rw [e, if_pos c0, if_neg (by omega)]
  · rw [if_neg (show ¬ (fr 280 (444 + 61 * C + 15)).toInt = 0 by rw [e]; omega), if_pos (show (fr 280 (444 + 61 * C + 15)).toInt = (1 : Int32).toInt by rw [e]), h11 e]
    rfl
theorem c2_live_c {f f' : t2_F} (h7 : f' 181 7 = f 181 7) (h5 : f' 185 = f 185) : c2_actualBits_v f' = c2_actualBits_v f ∧ (∀ x : Int32, c2_areActual_v f' x = c2_areActual_v f x) ∧ c2_orderedBits_v f' = c2_orderedBits_v f := by
  have e : c2_orderedBits_v f' = c2_orderedBits_v f := by
    unfold c2_orderedBits_v c2_orderedBits_j14_0
    rw [h7]
  have a : c2_actualBits_v f' = c2_actualBits_v f := by
    unfold c2_actualBits_v
    simp only [c2_actualBits_a7, h5, e]
  refine ⟨a, fun x => ?_, e⟩
  unfold c2_areActual_v
  rw [a]
theorem c2_pack_c {f f' : t2_F} {n : Nat} (h : ∀ C : Nat, C < n → ∀ j : Nat, (j = 4 ∨ j = 5 ∨ j = 7) → f' (198 + 4 * C) j = f (198 + 4 * C) j) : c2_packAt_a4 f' x n = c2_packAt_a4 f x n := by
  induction n with
  | zero => rfl
  | succ n ih =>
    show c2_packAt_a4 f' x n + c2_voltsAt_v f' n x = c2_packAt_a4 f x n + c2_voltsAt_v f n x
    rw [ih (fun C hC => h C (by omega))]
    unfold c2_voltsAt_v
    rw [h n (by omega) 4 (by omega), h n (by omega) 5 (by omega), h n (by omega) 7 (by omega)]
theorem c2_cell6 (hn : (fr 280 2).toInt.toNat = n) (hC : C < n) (h : c2_R6 fc fr C) (ck : t2_ck fr C) (hx : fc 181 9 = fr 280 5) (hy : fc 181 10 = fr 280 14) (hrst : fc 181 12 = fr 280 9) (hs : c2_Rs fc fr) (hr : 1 ≤ (fr 280 53).toInt) :
    c2_Rc (c2_sMeasure_f46 fc n) (r_mid fr) C ∧ t2_cap (c2_sMeasure_f46 fc n (198 + 4 * C) 0) ∧ c2_Rm (c2_sMeasure_f46 fc n) (r_mid fr) C ∧ c2_sMeasure_f46 fc n (198 + 4 * C) 11 = r_mid fr 280 (444 + 61 * C + 14) ∧ r_mid fr 280 (444 + 61 * C + 15) = 1 ∧ c2_sMeasure_f46 fc n (198 + 4 * C) 10 = fr 280 (444 + 61 * C + 15) ∧ (∀ j : Nat, (j = 4 ∨ j = 5 ∨ j = 7) → c2_sMeasure_f46 fc n (198 + 4 * C) j = fc (198 + 4 * C) j) ∧ t2_ck (r_mid fr) C := by
  have hj := c2_meas_j15 h hx hy
  obtain ⟨hc, hcap, hf, ⟨m14, m15, m16, m17⟩, h10, h01, h11, hb1, hb2⟩ := h
  obtain ⟨⟨a0, a1, a2⟩, ⟨a3, a4⟩, ⟨a5, a6, a7⟩, a8, a9, a18⟩ := id hc
  have ev := c2_volts_eq (c := Int32.ofNat C) hc hf
  have s19 : fc 184 19 = fr 280 53 := hs 19 (by omega)
  have ej : c2_sMeasure_j5_0 fc = r_goMeasure_j144_0 fr := by
    unfold c2_sMeasure_j5_0 r_goMeasure_j144_0
    rw [hx, hrst]
  have P3 : r_partOf_v (r_mid fr) 0 C = r_partOf_v fr 0 C := by
    unfold r_partOf_v
    rw [r_mid_s (by omega), r_mid_s (by omega)]
  obtain ⟨g11, g14, g15, g13⟩ := r_f17_w (f := fr) (C := C) (k := n) hC
  have c1 : (1 : Int32).toInt = 1 := by decide +kernel
  have c0 : (0 : Int32).toInt = 0 := rfl
  have ckm : t2_ck (r_mid fr) C := c2_ck_congr ck (r_mid_s (by omega)) (r_mid_s (by omega))
  by_cases hR : (r_goMeasure_j144_0 fr).toInt = (fr 280 53).toInt
  · -- resting
    have hcur : (fr 280 5).toInt = 0 := by
      apply Classical.byContradiction
      intro q
      unfold r_goMeasure_j144_0 at hR
      rw [if_neg q] at hR
      omega
    have hcur0 : fr 280 5 = 0 := Int32.toInt.inj hcur
    have hz : ¬ (c2_sMeasure_j35_0 fc).toInt = 0 := by
      unfold c2_sMeasure_j35_0
      rw [ej, s19, if_pos hR]
      omega
    have eM : r_mid fr = r_goMeasure_f163 fr n := by
      unfold r_mid
      rw [if_pos hR, hn]
    have evM : ∀ f' : t2_F, (∀ w : Nat, (w = 0 ∨ w = 1 ∨ w = 2 ∨ w = 9) → f' 280 (444 + 61 * C + w) = fr 280 (444 + 61 * C + w)) → f' 280 5 = fr 280 5 → r_voltsOf_v f' (Int32.ofNat C) C = r_voltsOf_v fr (Int32.ofNat C) C := fun f' q q5 => r_volts_c q5 (q 0 (by omega)) (q 1 (by omega)) (q 2 (by omega)) (q 9 (by omega))
    have q163 : ∀ w : Nat, (w = 0 ∨ w = 1 ∨ w = 2 ∨ w = 9) → r_goMeasure_f163 fr C 280 (444 + 61 * C + w) = fr 280 (444 + 61 * C + w) := fun w hw => by
      rw [r_f163_me (by omega), hn, r_f17_o (by omega) (by omega) (by omega) (by omega) (by omega)]
    have eV := evM (r_goMeasure_f163 fr C) q163 (r_f163_lo (by decide) (by decide) (by decide))
    generalize hP : t2_pb (r_voltsOf_v fr (Int32.ofNat C) C) = P
    have hPb : 0 ≤ P.toInt ∧ P.toInt ≤ 1000 := by rw [← hP]; exact t2_pb_b _
    have ev0 : c2_voltsAt_v fc C (0 : Int32) = r_voltsOf_v fr (Int32.ofNat C) C := by rw [← ev, hcur0]
    obtain ⟨w14, w11, w16, w17, w8, w15, wo⟩ := c2_f46_w1 (f := fc) (C := C) (k := n) (P := P) hC hz (by rw [ev0, hP])
    obtain ⟨r4, r12, r16, r13⟩ := r_rest_w (g := r_goMeasure_f163 fr C) (c := Int32.ofNat C) (C := C)
    rw [eV, hP] at r4 r16
    obtain ⟨n1, n2, n3, n4⟩ := t2_chg (P := P) hPb hcap
    have in_ : ∀ w : Nat, w < 61 → r_mid fr 280 (444 + 61 * C + w) = r_restNow_m (r_goMeasure_f163 fr C) (Int32.ofNat C) C 280 (444 + 61 * C + w) := fun w hw => by
      rw [eM, r_f163_in hw hC]
    have cf : (fc (198 + 4 * C) 0 * (3600 : Int32)).toInt = (fc (198 + 4 * C) 0).toInt * 3600 := t2_full_i hcap
    have p8 : c2_sMeasure_f46 fc n (198 + 4 * C) 8 = r_mid fr 280 (444 + 61 * C + 4) := by
      rw [w8, t2_held_id n2 (by omega), in_ 4 (by decide), r4]
      unfold r_chargeAt_v
      rw [q163 0 (by omega), ← a0, n4]
    have p15 : c2_sMeasure_f46 fc n (198 + 4 * C) 15 = r_mid fr 280 (444 + 61 * C + 12) := by
      rw [w15, in_ 12 (by decide), r12]
      unfold r_restNow_j32_0
      rw [eV, hP, r_f163_me (by decide), r_f163_me (by decide), r_f163_me (by decide), hn, r_f17_o (by decide) (by decide) (by decide) (by decide) (by decide), r_f17_o (by decide) (by decide) (by decide) (by decide) (by decide), g13, m17, m15, m16, hx]
      have hw := t2_abs_d (p := P) (q := fr 280 (444 + 61 * C + 16)) hPb ⟨hb1, hb2⟩
      have hg : ((1000 : Int64) * (r_size_v (fr 280 (444 + 61 * C + 13) + fr 280 5)).toInt64) / ((3600 : Int32) * (r_size_v (P - fr 280 (444 + 61 * C + 16)))).toInt64 = (((t2_abs_v (fr 280 (444 + 61 * C + 13) + fr 280 5)).toInt64) * (1000 : Int64)) / (((t2_abs_v (P - fr 280 (444 + 61 * C + 16))).toInt64) * (3600 : Int64)) := t2_gue hw
      rw [hg]
      rfl
    refine ⟨⟨⟨?_, ?_, ?_⟩, ⟨?_, ?_⟩, ⟨?_, ?_, ?_⟩, p8, ?_, ?_⟩, ?_, ⟨?_, p15, ?_, ?_⟩, ?_, ?_, ?_, fun j hj => wo j (by omega) (by omega) (by omega) (by omega) (by omega) (by omega), ckm⟩
    · rw [wo 0 (by decide) (by decide) (by decide) (by decide) (by decide) (by decide), r_mid_s (by omega), a0]
    · rw [wo 1 (by decide) (by decide) (by decide) (by decide) (by decide) (by decide), r_mid_s (by omega), a1]
    · rw [wo 2 (by decide) (by decide) (by decide) (by decide) (by decide) (by decide), r_mid_s (by omega), a2]
    · rw [wo 3 (by decide) (by decide) (by decide) (by decide) (by decide) (by decide), P3, a3]
    · rw [wo 4 (by decide) (by decide) (by decide) (by decide) (by decide) (by decide), P3, a4]
    · rw [wo 5 (by decide) (by decide) (by decide) (by decide) (by decide) (by decide), r_mid_s (by omega), a5]
    · rw [wo 6 (by decide) (by decide) (by decide) (by decide) (by decide) (by decide), r_mid_s (by omega), a6]
    · rw [wo 7 (by decide) (by decide) (by decide) (by decide) (by decide) (by decide), r_mid_s (by omega), a7]
    · rw [wo 9 (by decide) (by decide) (by decide) (by decide) (by decide) (by decide), r_mid_s (by omega), a9]
    · rw [wo 18 (by decide) (by decide) (by decide) (by decide) (by decide) (by decide), r_mid_s (by omega), a18]
    · rw [wo 0 (by decide) (by decide) (by decide) (by decide) (by decide) (by decide)]
      exact hcap
    · rw [w14, hj, eM, r_f163_o (by decide) (by decide) (by decide) (by decide) (by decide), hn, g11]
    · rw [w16, in_ 13 (by decide), r13]
    · rw [w17, in_ 16 (by decide), r16]
    · rw [w11, hx, ev, eM, r_f163_o (by decide) (by decide) (by decide) (by decide) (by decide), hn, g14]
    · rw [eM, r_f163_o (by decide) (by decide) (by decide) (by decide) (by decide), hn, g15]
    · rw [wo 10 (by decide) (by decide) (by decide) (by decide) (by decide) (by decide), h10]
  · have hz : (c2_sMeasure_j35_0 fc).toInt = 0 := by
      unfold c2_sMeasure_j35_0
      rw [ej, s19, if_neg hR]
      exact c0
    have in_ : ∀ w : Nat, w < 61 → r_mid fr 280 (444 + 61 * C + w) = r_goMeasure_f17 fr n 280 (444 + 61 * C + w) := fun w hw => by
      unfold r_mid
      rw [if_neg hR, fl_row_self, upd_ne (by omega), upd_ne (by omega), hn]
    have ino : ∀ w : Nat, w < 61 → w ≠ 11 → w ≠ 14 → w ≠ 15 → w ≠ 13 → r_mid fr 280 (444 + 61 * C + w) = fr 280 (444 + 61 * C + w) := fun w hw x1 x2 x3 x4 => by
      rw [in_ w hw, r_f17_o hw x1 x2 x3 x4]
    obtain ⟨w14, w11, w16, wo⟩ := c2_f46_w0 (f := fc) (C := C) (k := n) hC hz
    refine ⟨⟨⟨?_, ?_, ?_⟩, ⟨?_, ?_⟩, ⟨?_, ?_, ?_⟩, ?_, ?_, ?_⟩, ?_, ⟨?_, ?_, ?_, ?_⟩, ?_, ?_, ?_, fun j hj => wo j (by omega) (by omega) (by omega), ckm⟩
    · rw [wo 0 (by decide) (by decide) (by decide), r_mid_s (by omega), a0]
    · rw [wo 1 (by decide) (by decide) (by decide), r_mid_s (by omega), a1]
    · rw [wo 2 (by decide) (by decide) (by decide), r_mid_s (by omega), a2]
    · rw [wo 3 (by decide) (by decide) (by decide), P3, a3]
    · rw [wo 4 (by decide) (by decide) (by decide), P3, a4]
    · rw [wo 5 (by decide) (by decide) (by decide), r_mid_s (by omega), a5]
    · rw [wo 6 (by decide) (by decide) (by decide), r_mid_s (by omega), a6]
    · rw [wo 7 (by decide) (by decide) (by decide), r_mid_s (by omega), a7]
    · rw [wo 8 (by decide) (by decide) (by decide), ino 4 (by decide) (by decide) (by decide) (by decide) (by decide), a8]
    · rw [wo 9 (by decide) (by decide) (by decide), r_mid_s (by omega), a9]
    · rw [wo 18 (by decide) (by decide) (by decide), r_mid_s (by omega), a18]
    · rw [wo 0 (by decide) (by decide) (by decide)]
      exact hcap
    · rw [w14, hj, in_ 11 (by decide), g11]
    · rw [wo 15 (by decide) (by decide) (by decide), ino 12 (by decide) (by decide) (by decide) (by decide) (by decide), m15]
    · rw [w16, in_ 13 (by decide), g13, m16, hx]
    · rw [wo 17 (by decide) (by decide) (by decide), ino 16 (by decide) (by decide) (by decide) (by decide) (by decide), m17]
    · rw [w11, hx, ev, in_ 14 (by decide), g14]
    · rw [in_ 15 (by decide), g15]
    · rw [wo 10 (by decide) (by decide) (by decide), h10]
end C2MEAS

end

/-! 94.08.tap.lean.txt -/
section
/-! ===== block 0: (6) of a second, whole: taper ===== -/
section C0TAP
variable {fc fr f F G : t2_F} {C n k : Nat} {c x y z : Int32}
theorem c0_taper_none : ∀ k : Nat, (∀ C : Nat, C < k → (c0_voltsAt_v f C (f 1 9)).toInt < (f 4 23).toInt) → c0_taper_e33 f k = none := by
  intro k
  induction k with
  | zero => intro _; rfl
  | succ k ih =>
    intro h
    unfold c0_taper_e33
    rw [ih (fun C hC => h C (by omega))]
    show (if _ then _ else _) = _
    rw [if_pos (h k (by omega))]
theorem c0_taper_some : ∀ k : Nat, (∃ C : Nat, C < k ∧ ¬ (c0_voltsAt_v f C (f 1 9)).toInt < (f 4 23).toInt) → c0_taper_e33 f k = some (fl_row f 4 (upd (f 4) 20 (if (((f 4 20) * (9 : Int32)) / (10 : Int32)).toInt < (100 : Int32).toInt then (0 : Int32) else ((f 4 20) * (9 : Int32)) / (10 : Int32)))) := by
  intro k
  induction k with
  | zero => rintro ⟨C, h, -⟩; exact absurd h (Nat.not_lt_zero C)
  | succ k ih =>
    rintro ⟨C, h1, h2⟩
    unfold c0_taper_e33
    by_cases hl : ∃ C : Nat, C < k ∧ ¬ (c0_voltsAt_v f C (f 1 9)).toInt < (f 4 23).toInt
    · rw [ih hl]
    · rw [c0_taper_none k (fun D hD => Classical.byContradiction (fun q => hl ⟨D, hD, q⟩))]
      have e : C = k := by
        apply Classical.byContradiction
        intro q
        exact hl ⟨C, by omega, h2⟩
      subst e
      show (if _ then _ else _) = _
      rw [if_neg h2]
theorem r_taper_a : ∀ k : Nat, ((∃ C : Nat, C < k ∧ ¬ (r_voltsOf_v f (Int32.ofNat C) C).toInt < (f 280 57).toInt) → r_goTaper_a4 f k = 1) ∧ ((∀ C : Nat, C < k → (r_voltsOf_v f (Int32.ofNat C) C).toInt < (f 280 57).toInt) → r_goTaper_a4 f k = 0) := by
  have c1 : (1 : Int32).toInt = 1 := by decide +kernel
  have c0 : (0 : Int32).toInt = 0 := rfl
  intro k
  induction k with
  | zero => exact ⟨fun ⟨C, h, _⟩ => absurd h (Nat.not_lt_zero C), fun _ => rfl⟩
  | succ k ih =>
    refine ⟨fun ⟨C, h1, h2⟩ => ?_, fun h => ?_⟩
    · unfold r_goTaper_a4
      by_cases hl : ∃ C : Nat, C < k ∧ ¬ (r_voltsOf_v f (Int32.ofNat C) C).toInt < (f 280 57).toInt
      · rw [ih.1 hl, if_neg (by omega)]
      · rw [ih.2 (fun D hD => Classical.byContradiction (fun q => hl ⟨D, hD, q⟩)), if_pos c0]
        have e : C = k := by
          apply Classical.byContradiction
          intro q
          exact hl ⟨C, by omega, h2⟩
        subst e
        rw [if_neg h2]
    · unfold r_goTaper_a4
      rw [ih.2 (fun D hD => h D (by omega)), if_pos c0, if_pos (h k (by omega))]
/-- the two tapers, where all that they read is the same -/
theorem c0_taper_eq {g : t2_F} (hn : (f 1 5).toInt.toNat = n) (hg : (g 280 2).toInt.toNat = n) (hs : c0_Rs f g) (hst : f 1 7 = g 280 3) (hv : ∀ C : Nat, C < n → c0_voltsAt_v f C (f 1 9) = r_voltsOf_v g (Int32.ofNat C) C) (ht : 0 ≤ (g 280 57).toInt) :
    c0_Rs (if (f 1 7).toInt = (2 : Int32).toInt then c0_taper_m f else f) (r_goTaper_m g) ∧ (∀ p : Nat, p ≠ 4 → (if (f 1 7).toInt = (2 : Int32).toInt then c0_taper_m f else f) p = f p) ∧ (∀ w : Nat, w ≠ 54 → r_goTaper_m g 280 w = g 280 w) := by
  have c1 : (1 : Int32).toInt = 1 := by decide +kernel
  have c0 : (0 : Int32).toInt = 0 := rfl
  have s20 : f 4 20 = g 280 54 := hs 20 (by omega)
  have s23 : f 4 23 = g 280 57 := hs 23 (by omega)
  refine ⟨?_, fun p hp => ?_, fun w hw => r_goTaper_w hw⟩
  · unfold c0_taper_m r_goTaper_m
    rw [hst, hn, hg, s23, s20]
    by_cases hex : ∃ C : Nat, C < n ∧ ¬ (r_voltsOf_v g (Int32.ofNat C) C).toInt < (g 280 57).toInt
    · have hex2 : ∃ C : Nat, C < n ∧ ¬ (c0_voltsAt_v f C (f 1 9)).toInt < (f 4 23).toInt := by
        obtain ⟨C, a, b⟩ := hex
        exact ⟨C, a, by rw [hv C a, s23]; exact b⟩
      rw [(r_taper_a n).1 hex, c0_taper_some n hex2, if_neg (show ¬ (1 : Int32).toInt = 0 by omega)]
      by_cases h2 : (g 280 3).toInt = (2 : Int32).toInt
      · rw [if_pos h2, if_pos h2]
        by_cases h0 : (g 280 57).toInt = 0
        · rw [if_neg (by omega), if_pos h0]
          exact hs
        · rw [if_pos (by omega), if_neg h0]
          by_cases hr : 0 < (g 280 54).toInt
          · rw [if_pos hr, if_pos hr]
            intro k hk
            show fl_row f 4 _ 4 k = _
            rw [fl_row_self, fl_row_self, s20]
            unfold r_goTaper_j99_0
            by_cases e : k = 20
            · subst e
              rw [upd_self, upd_self]
            · rw [upd_ne e, upd_ne (by omega)]
              exact hs k hk
          · rw [if_neg hr, if_neg hr]
            exact hs
      · rw [if_neg h2, if_neg h2]
        exact hs
    · have hal : ∀ C : Nat, C < n → (r_voltsOf_v g (Int32.ofNat C) C).toInt < (g 280 57).toInt := fun C hC => Classical.byContradiction (fun q => hex ⟨C, hC, q⟩)
      rw [(r_taper_a n).2 hal, c0_taper_none n (fun C hC => by rw [hv C hC, s23]; exact hal C hC), if_pos c0]
      have e : (if (g 280 3).toInt = (2 : Int32).toInt then (if 0 < (g 280 57).toInt then (if 0 < (g 280 54).toInt then (match (none : Option t2_F) with | some r => r | none => f) else f) else f) else f) = f := by
        repeat' split
        all_goals first | rfl | simp_all
      rw [e]
      exact hs
  · split
    · exact c0_taper_fx hp
    · rfl
/-- (6) -/
theorem c0_measure_eq (hn1 : (fc 1 5).toInt = n) (hn2 : (fr 280 2).toInt = n) (hx : fc 1 9 = fr 280 5) (hy : fc 1 10 = fr 280 14) (hrst : fc 1 12 = fr 280 9) (hbus : fc 1 8 = fr 280 4) (hst : fc 1 7 = fr 280 3) (hs : c0_Rs fc fr) (hk : c0_Rk fc fr) (hw : ∀ k : Nat, k < 3 → t2_how (fr 280 (64 + k))) (h : ∀ C : Nat, C < n → c0_R6 fc fr C ∧ t2_ck fr C) (hr : 1 ≤ (fr 280 53).toInt) (ht : 0 ≤ (fr 280 57).toInt) :
    (c0_sMeasure_m fc 1 8 = r_goTaper_m (r_goMeasure_m fr) 280 4 ∧ c0_sMeasure_m fc 1 12 = r_goTaper_m (r_goMeasure_m fr) 280 9 ∧ r_goTaper_m (r_goMeasure_m fr) 280 14 = fr 280 5 ∧ c0_Rs (c0_sMeasure_m fc) (r_goTaper_m (r_goMeasure_m fr))) ∧
    ∀ C : Nat, C < n → c0_Rc (c0_sMeasure_m fc) (r_goTaper_m (r_goMeasure_m fr)) C ∧ t2_cap (c0_sMeasure_m fc (18 + 4 * C) 0) ∧ c0_Rm (c0_sMeasure_m fc) (r_goTaper_m (r_goMeasure_m fr)) C ∧ c0_sMeasure_m fc (18 + 4 * C) 11 = r_goTaper_m (r_goMeasure_m fr) 280 (444 + 61 * C + 14) ∧ r_goTaper_m (r_goMeasure_m fr) 280 (444 + 61 * C + 15) = 1 ∧ c0_sMeasure_m fc (18 + 4 * C) 10 = fr 280 (444 + 61 * C + 15) ∧ t2_ck (r_goTaper_m (r_goMeasure_m fr)) C := by
  have hnn : (fc 1 5).toInt.toNat = n := by omega
  have hgn : (fr 280 2).toInt.toNat = n := by omega
  have cells := fun (C : Nat) (hC : C < n) => c0_cell6 hgn hC (h C hC).1 (h C hC).2 hx hy hrst hs hr
  have bus : c0_sMeasure_j95_0 fc = if (r_isLive_v (r_mid fr)).toInt = 0 then r_mid fr 280 4 else r_pack_v (r_mid fr) := by
    unfold c0_sMeasure_j95_0
    rw [hnn, (c0_live_c (f := fc) (by rw [c0_f46_1, upd_ne (by decide)]) (c0_f46_p (by decide) (by decide))).2.1, c0_live_eq hst hk hw, (r_live_c (f := fr) (r_mid_lo (by decide) (by decide) (by decide)) (fun k hk => r_mid_lo (by omega) (by omega) (by omega))).2.1, c0_f46_1, upd_ne (by decide), r_mid_lo (by decide) (by decide) (by decide), hbus]
    have e : c0_packAt_v (c0_sMeasure_f46 fc n) (fc 1 9) = r_pack_v (r_mid fr) := by
      unfold c0_packAt_v r_pack_v
      rw [c0_f46_1, upd_ne (by decide), hnn, r_mid_lo (by decide) (by decide) (by decide), hgn, c0_pack_c (f := fc) (fun C hC j hj => (cells C hC).2.2.2.2.2.2.1 j hj), r_pack_c (f := fr) (r_mid_lo (by decide) (by decide) (by decide)) (fun C hC w hw => r_mid_s (by omega)), hx]
      exact c0_pack_eq (fun C hC => ⟨(h C hC).1.1, (h C hC).1.2.2.1⟩)
    rw [e]
  generalize hB : (if (r_isLive_v (r_mid fr)).toInt = 0 then r_mid fr 280 4 else r_pack_v (r_mid fr)) = B at bus
  have eG : r_goMeasure_m fr = fl_row (r_mid fr) 280 (upd (r_mid fr 280) 4 B) := by rw [r_goMeasure_mid, hB]
  have gw : ∀ w : Nat, w ≠ 4 → r_goMeasure_m fr 280 w = r_mid fr 280 w := fun w hw => by rw [eG, fl_row_self, upd_ne hw]
  have g4 : r_goMeasure_m fr 280 4 = B := by rw [eG, fl_row_self, upd_self]
  let F0 : t2_F := fl_row (c0_sMeasure_f46 fc n) 1 (upd (c0_sMeasure_f46 fc n 1) 8 B)
  have eF : c0_sMeasure_m fc = if (F0 1 7).toInt = (2 : Int32).toInt then c0_taper_m F0 else F0 := by
    have e7 : F0 1 7 = fc 1 7 := by
      show fl_row _ _ _ 1 7 = _
      rw [fl_row_self, upd_ne (by decide), c0_f46_1, upd_ne (by decide)]
    rw [e7]
    unfold c0_sMeasure_m
    rw [hnn, bus]
  have f1 : ∀ j : Nat, j ≠ 8 → j ≠ 12 → F0 1 j = fc 1 j := fun j h8 h12 => by
    show fl_row _ _ _ 1 j = _
    rw [fl_row_self, upd_ne h8, c0_f46_1, upd_ne h12]
  have fp : ∀ p : Nat, p ≠ 1 → F0 p = c0_sMeasure_f46 fc n p := fun p hp => fl_row_ne hp
  have hs0 : c0_Rs F0 (r_goMeasure_m fr) := fun k hk => by
    rw [fp 4 (by decide), c0_f46_p (by decide) (by decide), gw _ (by omega), r_mid_lo (by omega) (by omega) (by omega)]
    exact hs k hk
  have tap := c0_taper_eq (f := F0) (g := r_goMeasure_m fr) (n := n) (by rw [f1 5 (by decide) (by decide)]; exact hnn) (by rw [gw 2 (by decide), r_mid_lo (by decide) (by decide) (by decide)]; exact hgn) hs0 (by rw [f1 7 (by decide) (by decide), gw 3 (by decide), r_mid_lo (by decide) (by decide) (by decide)]; exact hst)
    (fun C hC => by
      have e1 : c0_voltsAt_v F0 C (F0 1 9) = c0_voltsAt_v fc C (fr 280 5) := by
        rw [f1 9 (by decide) (by decide), hx]
        unfold c0_voltsAt_v
        rw [fp _ (by omega), (cells C hC).2.2.2.2.2.2.1 4 (by omega), (cells C hC).2.2.2.2.2.2.1 5 (by omega), (cells C hC).2.2.2.2.2.2.1 7 (by omega)]
      rw [e1, c0_volts_eq (c := Int32.ofNat C) (h C hC).1.1 (h C hC).1.2.2.1]
      have m : ∀ w : Nat, (w = 0 ∨ w = 1 ∨ w = 2 ∨ w = 9) → r_goMeasure_m fr 280 (444 + 61 * C + w) = fr 280 (444 + 61 * C + w) := fun w hw => by rw [gw _ (by omega), r_mid_s (by omega)]
      exact (r_volts_c (by rw [gw 5 (by decide), r_mid_lo (by decide) (by decide) (by decide)]) (m 0 (by omega)) (m 1 (by omega)) (m 2 (by omega)) (m 9 (by omega))).symm)
    (by rw [gw 57 (by decide), r_mid_lo (by decide) (by decide) (by decide)]; exact ht)
  rw [← eF] at tap
  obtain ⟨t1, t2, t3⟩ := tap
  have G : ∀ w : Nat, w ≠ 4 → w ≠ 54 → r_goTaper_m (r_goMeasure_m fr) 280 w = r_mid fr 280 w := fun w h4 h54 => by rw [t3 w h54, gw w h4]
  have Fc : ∀ C : Nat, C < n → c0_sMeasure_m fc (18 + 4 * C) = c0_sMeasure_f46 fc n (18 + 4 * C) := fun C hC => by rw [t2 _ (by omega), fp _ (by omega)]
  refine ⟨⟨?_, ?_, ?_, t1⟩, fun C hC => ?_⟩
  · rw [t2 1 (by decide), t3 4 (by decide), g4]
    show fl_row _ _ _ 1 8 = _
    rw [fl_row_self, upd_self]
  · rw [t2 1 (by decide), G 9 (by decide) (by decide), r_mid_9.1]
    show fl_row _ _ _ 1 12 = _
    rw [fl_row_self, upd_ne (by decide), c0_f46_1, upd_self]
    unfold c0_sMeasure_j5_0 r_goMeasure_j144_0
    rw [hx, hrst]
  · rw [G 14 (by decide) (by decide), r_mid_9.2]
  · obtain ⟨k1, k2, k3, k4, k5, k6, k7, k8⟩ := cells C hC
    have ge : ∀ w : Nat, w < 61 → r_goTaper_m (r_goMeasure_m fr) 280 (444 + 61 * C + w) = r_mid fr 280 (444 + 61 * C + w) := fun w hw => G _ (by omega) (by omega)
    refine ⟨k1.congr (Fc C hC) ge, by rw [Fc C hC]; exact k2, ?_, ?_, ?_, ?_, c0_ck_congr k8 (ge 0 (by decide)) (ge 1 (by decide))⟩
    · unfold c0_Rm
      rw [Fc C hC, ge 11 (by decide), ge 12 (by decide), ge 13 (by decide), ge 16 (by decide)]
      exact k3
    · rw [Fc C hC, ge 14 (by decide), k4]
    · rw [ge 15 (by decide), k5]
    · rw [Fc C hC, k6]
end C0TAP

/-! ===== block 2: (6) of a second, whole: taper ===== -/
section C2TAP
variable {fc fr f F G : t2_F} {C n k : Nat} {c x y z : Int32}
theorem c2_taper_none : ∀ k : Nat, (∀ C : Nat, C < k → (c2_voltsAt_v f C (f 181 9)).toInt < (f 184 23).toInt) → c2_taper_e33 f k = none := by
  intro k
  induction k with
  | zero => intro _; rfl
  | succ k ih =>
    intro h
    unfold c2_taper_e33
    rw [ih (fun C hC => h C (by omega))]
    show (if _ then _ else _) = _
    rw [if_pos (h k (by omega))]
theorem c2_taper_some : ∀ k : Nat, (∃ C : Nat, C < k ∧ ¬ (c2_voltsAt_v f C (f 181 9)).toInt < (f 184 23).toInt) → c2_taper_e33 f k = some (fl_row f 184 (upd (f 184) 20 (if (((f 184 20) * (9 : Int32)) / (10 : Int32)).toInt < (100 : Int32).toInt then (0 : Int32) else ((f 184 20) * (9 : Int32)) / (10 : Int32)))) := by
  intro k
  induction k with
  | zero => rintro ⟨C, h, -⟩; exact absurd h (Nat.not_lt_zero C)
  | succ k ih =>
    rintro ⟨C, h1, h2⟩
    unfold c2_taper_e33
    by_cases hl : ∃ C : Nat, C < k ∧ ¬ (c2_voltsAt_v f C (f 181 9)).toInt < (f 184 23).toInt
    · rw [ih hl]
    · rw [c2_taper_none k (fun D hD => Classical.byContradiction (fun q => hl ⟨D, hD, q⟩))]
      have e : C = k := by
        apply Classical.byContradiction
        intro q
        exact hl ⟨C, by omega, h2⟩
      subst e
      show (if _ then _ else _) = _
      rw [if_neg h2]
theorem c2_taper_eq {g : t2_F} (hn : (f 181 5).toInt.toNat = n) (hg : (g 280 2).toInt.toNat = n) (hs : c2_Rs f g) (hst : f 181 7 = g 280 3) (hv : ∀ C : Nat, C < n → c2_voltsAt_v f C (f 181 9) = r_voltsOf_v g (Int32.ofNat C) C) (ht : 0 ≤ (g 280 57).toInt) :
    c2_Rs (if (f 181 7).toInt = (2 : Int32).toInt then c2_taper_m f else f) (r_goTaper_m g) ∧ (∀ p : Nat, p ≠ 184 → (if (f 181 7).toInt = (2 : Int32).toInt then c2_taper_m f else f) p = f p) ∧ (∀ w : Nat, w ≠ 54 → r_goTaper_m g 280 w = g 280 w) := by
  have c1 : (1 : Int32).toInt = 1 := by decide +kernel
  have c0 : (0 : Int32).toInt = 0 := rfl
  have s20 : f 184 20 = g 280 54 := hs 20 (by omega)
  have s23 : f 184 23 = g 280 57 := hs 23 (by omega)
  refine ⟨?_, fun p hp => ?_, fun w hw => r_goTaper_w hw⟩
  · unfold c2_taper_m r_goTaper_m
    rw [hst, hn, hg, s23, s20]
    by_cases hex : ∃ C : Nat, C < n ∧ ¬ (r_voltsOf_v g (Int32.ofNat C) C).toInt < (g 280 57).toInt
    · have hex2 : ∃ C : Nat, C < n ∧ ¬ (c2_voltsAt_v f C (f 181 9)).toInt < (f 184 23).toInt := by
        obtain ⟨C, a, b⟩ := hex
        exact ⟨C, a, by rw [hv C a, s23]; exact b⟩
      rw [(r_taper_a n).1 hex, c2_taper_some n hex2, if_neg (show ¬ (1 : Int32).toInt = 0 by omega)]
      by_cases h2 : (g 280 3).toInt = (2 : Int32).toInt
      · rw [if_pos h2, if_pos h2]
        by_cases h0 : (g 280 57).toInt = 0
        · rw [if_neg (by omega), if_pos h0]
          exact hs
        · rw [if_pos (by omega), if_neg h0]
          by_cases hr : 0 < (g 280 54).toInt
          · rw [if_pos hr, if_pos hr]
            intro k hk
            show fl_row f 184 _ 184 k = _
            rw [fl_row_self, fl_row_self, s20]
            unfold r_goTaper_j99_0
            by_cases e : k = 20
            · subst e
              rw [upd_self, upd_self]
            · rw [upd_ne e, upd_ne (by omega)]
              exact hs k hk
          · rw [if_neg hr, if_neg hr]
            exact hs
      · rw [if_neg h2, if_neg h2]
        exact hs
    · have hal : ∀ C : Nat, C < n → (r_voltsOf_v g (Int32.ofNat C) C).toInt < (g 280 57).toInt := fun C hC => Classical.byContradiction (fun q => hex ⟨C, hC, q⟩)
      rw [(r_taper_a n).2 hal, c2_taper_none n (fun C hC => by rw [hv C hC, s23]; exact hal C hC), if_pos c0]
      have e : (if (g 280 3).toInt = (2 : Int32).toInt then (if 0 < (g 280 57).toInt then (if 0 < (g 280 54).toInt then (match (none : Option t2_F) with | some r => r | none => f) else f) else f) else f) = f := by
        repeat' split
        all_goals first | rfl | simp_all
      rw [e]
      exact hs
  · split
    · exact c2_taper_fx hp
    · rfl
theorem c2_measure_eq (hn1 : (fc 181 5).toInt = n) (hn2 : (fr 280 2).toInt = n) (hx : fc 181 9 = fr 280 5) (hy : fc 181 10 = fr 280 14) (hrst : fc 181 12 = fr 280 9) (hbus : fc 181 8 = fr 280 4) (hst : fc 181 7 = fr 280 3) (hs : c2_Rs fc fr) (hk : c2_Rk fc fr) (hw : ∀ k : Nat, k < 3 → t2_how (fr 280 (64 + k))) (h : ∀ C : Nat, C < n → c2_R6 fc fr C ∧ t2_ck fr C) (hr : 1 ≤ (fr 280 53).toInt) (ht : 0 ≤ (fr 280 57).toInt) :
    (c2_sMeasure_m fc 181 8 = r_goTaper_m (r_goMeasure_m fr) 280 4 ∧ c2_sMeasure_m fc 181 12 = r_goTaper_m (r_goMeasure_m fr) 280 9 ∧ r_goTaper_m (r_goMeasure_m fr) 280 14 = fr 280 5 ∧ c2_Rs (c2_sMeasure_m fc) (r_goTaper_m (r_goMeasure_m fr))) ∧
    ∀ C : Nat, C < n → c2_Rc (c2_sMeasure_m fc) (r_goTaper_m (r_goMeasure_m fr)) C ∧ t2_cap (c2_sMeasure_m fc (198 + 4 * C) 0) ∧ c2_Rm (c2_sMeasure_m fc) (r_goTaper_m (r_goMeasure_m fr)) C ∧ c2_sMeasure_m fc (198 + 4 * C) 11 = r_goTaper_m (r_goMeasure_m fr) 280 (444 + 61 * C + 14) ∧ r_goTaper_m (r_goMeasure_m fr) 280 (444 + 61 * C + 15) = 1 ∧ c2_sMeasure_m fc (198 + 4 * C) 10 = fr 280 (444 + 61 * C + 15) ∧ t2_ck (r_goTaper_m (r_goMeasure_m fr)) C := by
  have hnn : (fc 181 5).toInt.toNat = n := by omega
  have hgn : (fr 280 2).toInt.toNat = n := by omega
  have cells := fun (C : Nat) (hC : C < n) => c2_cell6 hgn hC (h C hC).1 (h C hC).2 hx hy hrst hs hr
  have bus : c2_sMeasure_j95_0 fc = if (r_isLive_v (r_mid fr)).toInt = 0 then r_mid fr 280 4 else r_pack_v (r_mid fr) := by
    unfold c2_sMeasure_j95_0
    rw [hnn, (c2_live_c (f := fc) (by rw [c2_f46_1, upd_ne (by decide)]) (c2_f46_p (by decide) (by decide))).2.1, c2_live_eq hst hk hw, (r_live_c (f := fr) (r_mid_lo (by decide) (by decide) (by decide)) (fun k hk => r_mid_lo (by omega) (by omega) (by omega))).2.1, c2_f46_1, upd_ne (by decide), r_mid_lo (by decide) (by decide) (by decide), hbus]
    have e : c2_packAt_v (c2_sMeasure_f46 fc n) (fc 181 9) = r_pack_v (r_mid fr) := by
      unfold c2_packAt_v r_pack_v
      rw [c2_f46_1, upd_ne (by decide), hnn, r_mid_lo (by decide) (by decide) (by decide), hgn, c2_pack_c (f := fc) (fun C hC j hj => (cells C hC).2.2.2.2.2.2.1 j hj), r_pack_c (f := fr) (r_mid_lo (by decide) (by decide) (by decide)) (fun C hC w hw => r_mid_s (by omega)), hx]
      exact c2_pack_eq (fun C hC => ⟨(h C hC).1.1, (h C hC).1.2.2.1⟩)
    rw [e]
  generalize hB : (if (r_isLive_v (r_mid fr)).toInt = 0 then r_mid fr 280 4 else r_pack_v (r_mid fr)) = B at bus
  have eG : r_goMeasure_m fr = fl_row (r_mid fr) 280 (upd (r_mid fr 280) 4 B) := by rw [r_goMeasure_mid, hB]
  have gw : ∀ w : Nat, w ≠ 4 → r_goMeasure_m fr 280 w = r_mid fr 280 w := fun w hw => by rw [eG, fl_row_self, upd_ne hw]
  have g4 : r_goMeasure_m fr 280 4 = B := by rw [eG, fl_row_self, upd_self]
  let F0 : t2_F := fl_row (c2_sMeasure_f46 fc n) 181 (upd (c2_sMeasure_f46 fc n 181) 8 B)
  have eF : c2_sMeasure_m fc = if (F0 181 7).toInt = (2 : Int32).toInt then c2_taper_m F0 else F0 := by
    have e7 : F0 181 7 = fc 181 7 := by
      show fl_row _ _ _ 181 7 = _
      rw [fl_row_self, upd_ne (by decide), c2_f46_1, upd_ne (by decide)]
    rw [e7]
    unfold c2_sMeasure_m
    rw [hnn, bus]
  have f1 : ∀ j : Nat, j ≠ 8 → j ≠ 12 → F0 181 j = fc 181 j := fun j h8 h12 => by
    show fl_row _ _ _ 181 j = _
    rw [fl_row_self, upd_ne h8, c2_f46_1, upd_ne h12]
  have fp : ∀ p : Nat, p ≠ 181 → F0 p = c2_sMeasure_f46 fc n p := fun p hp => fl_row_ne hp
  have hs0 : c2_Rs F0 (r_goMeasure_m fr) := fun k hk => by
    rw [fp 184 (by decide), c2_f46_p (by decide) (by decide), gw _ (by omega), r_mid_lo (by omega) (by omega) (by omega)]
    exact hs k hk
  have tap := c2_taper_eq (f := F0) (g := r_goMeasure_m fr) (n := n) (by rw [f1 5 (by decide) (by decide)]; exact hnn) (by rw [gw 2 (by decide), r_mid_lo (by decide) (by decide) (by decide)]; exact hgn) hs0 (by rw [f1 7 (by decide) (by decide), gw 3 (by decide), r_mid_lo (by decide) (by decide) (by decide)]; exact hst)
    (fun C hC => by
      have e1 : c2_voltsAt_v F0 C (F0 181 9) = c2_voltsAt_v fc C (fr 280 5) := by
        rw [f1 9 (by decide) (by decide), hx]
        unfold c2_voltsAt_v
        rw [fp _ (by omega), (cells C hC).2.2.2.2.2.2.1 4 (by omega), (cells C hC).2.2.2.2.2.2.1 5 (by omega), (cells C hC).2.2.2.2.2.2.1 7 (by omega)]
      rw [e1, c2_volts_eq (c := Int32.ofNat C) (h C hC).1.1 (h C hC).1.2.2.1]
      have m : ∀ w : Nat, (w = 0 ∨ w = 1 ∨ w = 2 ∨ w = 9) → r_goMeasure_m fr 280 (444 + 61 * C + w) = fr 280 (444 + 61 * C + w) := fun w hw => by rw [gw _ (by omega), r_mid_s (by omega)]
      exact (r_volts_c (by rw [gw 5 (by decide), r_mid_lo (by decide) (by decide) (by decide)]) (m 0 (by omega)) (m 1 (by omega)) (m 2 (by omega)) (m 9 (by omega))).symm)
    (by rw [gw 57 (by decide), r_mid_lo (by decide) (by decide) (by decide)]; exact ht)
  rw [← eF] at tap
  obtain ⟨t1, t2, t3⟩ := tap
  have G : ∀ w : Nat, w ≠ 4 → w ≠ 54 → r_goTaper_m (r_goMeasure_m fr) 280 w = r_mid fr 280 w := fun w h4 h54 => by rw [t3 w h54, gw w h4]
  have Fc : ∀ C : Nat, C < n → c2_sMeasure_m fc (198 + 4 * C) = c2_sMeasure_f46 fc n (198 + 4 * C) := fun C hC => by rw [t2 _ (by omega), fp _ (by omega)]
  refine ⟨⟨?_, ?_, ?_, t1⟩, fun C hC => ?_⟩
  · rw [t2 181 (by decide), t3 4 (by decide), g4]
    show fl_row _ _ _ 181 8 = _
    rw [fl_row_self, upd_self]
  · rw [t2 181 (by decide), G 9 (by decide) (by decide), r_mid_9.1]
    show fl_row _ _ _ 181 12 = _
    rw [fl_row_self, upd_ne (by decide), c2_f46_1, upd_self]
    unfold c2_sMeasure_j5_0 r_goMeasure_j144_0
    rw [hx, hrst]
  · rw [G 14 (by decide) (by decide), r_mid_9.2]
  · obtain ⟨k1, k2, k3, k4, k5, k6, k7, k8⟩ := cells C hC
    have ge : ∀ w : Nat, w < 61 → r_goTaper_m (r_goMeasure_m fr) 280 (444 + 61 * C + w) = r_mid fr 280 (444 + 61 * C + w) := fun w hw => G _ (by omega) (by omega)
    refine ⟨k1.congr (Fc C hC) ge, by rw [Fc C hC]; exact k2, ?_, ?_, ?_, ?_, c2_ck_congr k8 (ge 0 (by decide)) (ge 1 (by decide))⟩
    · unfold c2_Rm
      rw [Fc C hC, ge 11 (by decide), ge 12 (by decide), ge 13 (by decide), ge 16 (by decide)]
      exact k3
    · rw [Fc C hC, ge 14 (by decide), k4]
    · rw [ge 15 (by decide), k5]
    · rw [Fc C hC, k6]
end C2TAP

end

/-! 94.09.so.lean.txt -/
section
/-! ===== the first of some numbers; the reference's faults, its book ===== -/
def t2_sf (p : Nat → Bool) (n : Nat) (v : Int32) : Prop := (v = (-1 : Int32) ∧ ∀ i : Nat, i < n → p i = false) ∨ ∃ j : Nat, j < n ∧ v = Int32.ofNat j ∧ p j = true ∧ ∀ i : Nat, i < j → p i = false
theorem t2_sf_u {p : Nat → Bool} {n : Nat} {v w : Int32} (hv : t2_sf p n v) (hw : t2_sf p n w) : v = w := by
  rcases hv with ⟨rfl, h1⟩ | ⟨j, h1, rfl, h2, h3⟩
  · rcases hw with ⟨rfl, -⟩ | ⟨k, k1, -, k2, -⟩
    · rfl
    · rw [h1 k k1] at k2
      cases k2
  · rcases hw with ⟨-, k1⟩ | ⟨k, k1, rfl, k2, k3⟩
    · rw [k1 j h1] at h2
      cases h2
    · have : j = k := by
        apply Classical.byContradiction
        intro hne
        by_cases l : j < k
        · rw [k3 j l] at h2
          cases h2
        · rw [h3 k (by omega)] at k2
          cases k2
      rw [this]
theorem t2_dsc {p : Nat → Bool} {n : Nat} {g : Nat → Int32} (g0 : g 0 = (-1 : Int32)) (gs : ∀ k : Nat, k < n → g (k + 1) = if p (n - 1 - k) = true then Int32.ofNat (n - 1 - k) else g k) : t2_sf p n (g n) := by
  have key : ∀ k : Nat, k ≤ n → (g k = (-1 : Int32) ∧ ∀ i : Nat, n - k ≤ i → i < n → p i = false) ∨ ∃ j : Nat, n - k ≤ j ∧ j < n ∧ g k = Int32.ofNat j ∧ p j = true ∧ ∀ i : Nat, n - k ≤ i → i < j → p i = false := by
    intro k
    induction k with
    | zero => intro _; exact Or.inl ⟨g0, fun i h1 h2 => absurd h1 (by omega)⟩
    | succ k ih =>
      intro hk
      rw [gs k (by omega)]
      by_cases hp : p (n - 1 - k) = true
      · rw [if_pos hp]
        exact Or.inr ⟨n - 1 - k, by omega, by omega, rfl, hp, fun i h1 h2 => absurd h1 (by omega)⟩
      · rw [if_neg hp]
        have hf : p (n - 1 - k) = false := by
          cases e : p (n - 1 - k) with
          | true => exact absurd e hp
          | false => rfl
        rcases ih (by omega) with ⟨h1, h2⟩ | ⟨j, h1, h2, h3, h4, h5⟩
        · refine Or.inl ⟨h1, fun i i1 i2 => ?_⟩
          by_cases e : i = n - 1 - k
          · rw [e]; exact hf
          · exact h2 i (by omega) i2
        · refine Or.inr ⟨j, by omega, h2, h3, h4, fun i i1 i2 => ?_⟩
          by_cases e : i = n - 1 - k
          · rw [e]; exact hf
          · exact h5 i (by omega) i2
  rcases key n (Nat.le_refl n) with ⟨h1, h2⟩ | ⟨j, h1, h2, h3, h4, h5⟩
  · exact Or.inl ⟨h1, fun i hi => h2 i (by omega) hi⟩
  · exact Or.inr ⟨j, h2, h3, h4, fun i hi => h5 i (by omega) hi⟩
/-- a cell by which one of the first four faults is so -/
noncomputable def r_sp (f : t2_F) (x i : Nat) : Bool := if x = 0 then decide ((f 280 34).toInt < (r_voltsOf_v f (Int32.ofNat i) i).toInt) else if x = 1 then decide ((r_voltsOf_v f (Int32.ofNat i) i).toInt < (f 280 35).toInt) else if x = 2 then decide ((f 280 36).toInt < (f 280 (444 + 61 * i + 3)).toInt) else decide (0 < (f 280 5).toInt) && decide ((f 280 (444 + 61 * i + 3)).toInt < (f 280 37).toInt)
theorem r_sp0 {f : t2_F} {i : Nat} : r_sp f 0 i = decide ((f 280 34).toInt < (r_voltsOf_v f (Int32.ofNat i) i).toInt) := rfl
theorem r_sp1 {f : t2_F} {i : Nat} : r_sp f 1 i = decide ((r_voltsOf_v f (Int32.ofNat i) i).toInt < (f 280 35).toInt) := rfl
theorem r_sp2 {f : t2_F} {i : Nat} : r_sp f 2 i = decide ((f 280 36).toInt < (f 280 (444 + 61 * i + 3)).toInt) := rfl
theorem r_sp3 {f : t2_F} {i : Nat} : r_sp f 3 i = (decide (0 < (f 280 5).toInt) && decide ((f 280 (444 + 61 * i + 3)).toInt < (f 280 37).toInt)) := rfl
theorem r_so_step {f : t2_F} {x k : Nat} (hx : x < 4) : r_soBy_e2 f (Int32.ofNat x) (k + 1) = match r_soBy_e2 f (Int32.ofNat x) k with
    | some r => some r
    | none => if r_sp f x k = true then some (Int32.ofNat k) else none := by
  have c1 : (1 : Int32).toInt = 1 := by decide +kernel
  have c2 : (2 : Int32).toInt = 2 := by decide +kernel
  have c0 : (0 : Int32).toInt = 0 := rfl
  have ex : (Int32.ofNat x).toInt = x := at_ofN (by omega)
  have key : ∀ (P : Prop) [Decidable P] (a : Option Int32), (if (if P then (1 : Int32) else (0 : Int32)).toInt = 0 then none else a) = if decide P = true then a else none := by
    intro P _ a
    by_cases h : P
    · rw [if_pos h, if_neg (by omega), decide_eq_true h, if_pos rfl]
    · rw [if_neg h, if_pos c0, decide_eq_false h, if_neg Bool.false_ne_true]
  have key2 : ∀ (P R : Prop) [Decidable P] [Decidable R] (a : Option Int32), (if (if P then (if R then (1 : Int32) else (0 : Int32)) else (0 : Int32)).toInt = 0 then none else a) = if (decide P && decide R) = true then a else none := by
    intro P R _ _ a
    by_cases h : P
    · rw [if_pos h, decide_eq_true h, Bool.true_and, key R a]
    · rw [if_neg h, if_pos c0, decide_eq_false h, Bool.false_and, if_neg Bool.false_ne_true]
  conv => lhs; unfold r_soBy_e2
  cases r_soBy_e2 f (Int32.ofNat x) k with
  | some r => rfl
  | none =>
    show (if _ then _ else _) = (if _ then _ else _)
    rcases (show x = 0 ∨ x = 1 ∨ x = 2 ∨ x = 3 by omega) with h | h | h | h <;> subst h
    · rw [if_pos (show (Int32.ofNat 0).toInt = 0 from rfl), r_sp0]
      exact key _ _
    · rw [if_neg (show ¬ (Int32.ofNat 1).toInt = 0 by omega), if_pos (show (Int32.ofNat 1).toInt = (1 : Int32).toInt by omega), r_sp1]
      exact key _ _
    · rw [if_neg (show ¬ (Int32.ofNat 2).toInt = 0 by omega), if_neg (show ¬ (Int32.ofNat 2).toInt = (1 : Int32).toInt by omega), if_pos (show (Int32.ofNat 2).toInt = (2 : Int32).toInt by omega), r_sp2]
      exact key _ _
    · rw [if_neg (show ¬ (Int32.ofNat 3).toInt = 0 by omega), if_neg (show ¬ (Int32.ofNat 3).toInt = (1 : Int32).toInt by omega), if_neg (show ¬ (Int32.ofNat 3).toInt = (2 : Int32).toInt by omega), r_sp3]
      exact key2 _ _ _
theorem r_so_sf {f : t2_F} {x n : Nat} (hx : x < 4) (hn : (f 280 2).toInt.toNat = n) : t2_sf (r_sp f x) n (r_soBy_v f (Int32.ofNat x)) := by
  have key : ∀ k : Nat, (r_soBy_e2 f (Int32.ofNat x) k = none ∧ ∀ i : Nat, i < k → r_sp f x i = false) ∨ ∃ j : Nat, j < k ∧ r_soBy_e2 f (Int32.ofNat x) k = some (Int32.ofNat j) ∧ r_sp f x j = true ∧ ∀ i : Nat, i < j → r_sp f x i = false := by
    intro k
    induction k with
    | zero => exact Or.inl ⟨rfl, fun i h => absurd h (Nat.not_lt_zero i)⟩
    | succ k ih =>
      rw [r_so_step hx]
      rcases ih with ⟨h1, h2⟩ | ⟨j, h1, h2, h3, h4⟩
      · rw [h1]
        by_cases hp : r_sp f x k = true
        · exact Or.inr ⟨k, Nat.lt_succ_self k, if_pos hp, hp, h2⟩
        · have hf : r_sp f x k = false := by
            cases e : r_sp f x k with
            | true => exact absurd e hp
            | false => rfl
          refine Or.inl ⟨if_neg hp, fun i hi => ?_⟩
          by_cases e : i = k
          · rw [e]; exact hf
          · exact h2 i (by omega)
      · rw [h2]
        exact Or.inr ⟨j, by omega, rfl, h3, h4⟩
  unfold r_soBy_v
  rw [hn]
  rcases key n with ⟨h1, h2⟩ | ⟨j, h1, h2, h3, h4⟩
  · rw [h1]
    exact Or.inl ⟨rfl, h2⟩
  · rw [h2]
    exact Or.inr ⟨j, h1, rfl, h3, h4⟩
/-! the book of the reference -/
theorem r_wd_f16 {f : t2_F} {x : Int32} : ∀ k : Nat, k ≤ 46 → ∀ j : Nat, j < 48 → r_writeDown_f16 f x k 280 (167 + j) = if j < k then f 280 (167 + (j + 2)) else f 280 (167 + j) := by
  intro k
  induction k with
  | zero => intro _ j _; rfl
  | succ k ih =>
    intro hk j hj
    show r_writeDown_b16_m (r_writeDown_f16 f x k) x k 280 (167 + j) = _
    unfold r_writeDown_b16_m
    by_cases e : j = k
    · subst e
      rw [fl_row_self, upd_self, if_pos (by omega), show 167 + j + 2 = 167 + (j + 2) by omega, ih (by omega) (j + 2) (by omega), if_neg (by omega)]
    · rw [fl_row_self, upd_ne (by omega), ih (by omega) j hj]
      by_cases l : j < k
      · rw [if_pos l, if_pos (by omega)]
      · rw [if_neg l, if_neg (by omega)]
theorem r_wd_lt {f : t2_F} {x : Int32} {n : Nat} (hn : (f 280 20).toInt = (n : Int)) (hl : n < 24) : (r_writeDown_m f x 280 20).toInt = (n : Int) + 1 ∧ r_writeDown_m f x 280 (167 + 2 * n) = f 280 7 ∧ r_writeDown_m f x 280 (167 + 2 * n + 1) = x ∧ ∀ j : Nat, j < 2 * n → r_writeDown_m f x 280 (167 + j) = f 280 (167 + j) := by
  have c24 : (24 : Int32).toInt = 24 := by decide +kernel
  have c1 : (1 : Int32).toInt = 1 := by decide +kernel
  unfold r_writeDown_m
  rw [if_neg (by omega), hn, Int.toNat_natCast]
  refine ⟨?_, ?_, ?_, fun j hj => ?_⟩
  · rw [fl_row_self, upd_self, at_add32] <;> omega
  · rw [fl_row_self, upd_ne (by omega), upd_ne (by omega), upd_self]
  · rw [fl_row_self, upd_ne (by omega), upd_self]
  · rw [fl_row_self, upd_ne (by omega), upd_ne (by omega), upd_ne (by omega)]
theorem r_wd_24 {f : t2_F} {x : Int32} (hn : (f 280 20).toInt = 24) : (r_writeDown_m f x 280 20).toInt = 24 ∧ r_writeDown_m f x 280 (167 + 2 * 23) = f 280 7 ∧ r_writeDown_m f x 280 (167 + 2 * 23 + 1) = x ∧ ∀ j : Nat, j < 46 → r_writeDown_m f x 280 (167 + j) = f 280 (167 + (j + 2)) := by
  have c24 : (24 : Int32).toInt = 24 := by decide +kernel
  have c1 : (1 : Int32).toInt = 1 := by decide +kernel
  have e : 2 * ((24 : Int).toNat - 1) = 2 * 23 := by decide
  unfold r_writeDown_m
  rw [if_pos (by omega), hn, e]
  refine ⟨?_, ?_, ?_, fun j hj => ?_⟩
  · rw [fl_row_self, upd_self, at_add32] <;> rw [at_sub32] <;> omega
  · rw [fl_row_self, upd_ne (by omega), upd_ne (by omega), upd_self]
  · rw [fl_row_self, upd_ne (by omega), upd_self]
  · rw [fl_row_self, upd_ne (by omega), upd_ne (by omega), upd_ne (by omega), upd_ne (by omega), r_wd_f16 46 (Nat.le_refl 46) j (by omega), if_pos hj]

end

/-! 94.10.flt.lean.txt -/
section
/-! ===== block 0: (7) of a second: which faults are so ===== -/
section C0FLT
variable {fc fr f g F G : t2_F} {C n k : Nat} {c x y z : Int32}
theorem t2_bt_or {j : Nat} : t2_bt (x ||| y) j = (t2_bt x j || t2_bt y j) := BitVec.getLsbD_or
theorem t2_bt_if {P : Prop} [Decidable P] {i : Nat} (hc : ∀ k : Fin 11, t2_bt c k.val = decide (k.val = i)) (hk : k < 11) : t2_bt (if P then c else (0 : Int32)) k = (decide P && decide (k = i)) := by
  by_cases h : P
  · rw [if_pos h, decide_eq_true h, Bool.true_and]
    exact hc ⟨k, hk⟩
  · rw [if_neg h, decide_eq_false h, Bool.false_and]
    exact t2_bt0
/-- the cells by which the first four are so: the class's are the reference's -/
theorem c0_four (hn : (fc 1 5).toInt = n) (hg : (fr 280 2).toInt = n) (hn16 : n ≤ 16) (hv : ∀ C : Nat, C < n → c0_voltsAt_v fc C (fc 1 9) = r_voltsOf_v fr (Int32.ofNat C) C) (hw : ∀ C : Nat, C < n → fc (18 + 4 * C) 6 = fr 280 (444 + 61 * C + 3)) (hx : fc 1 9 = fr 280 5) (hs : c0_Rs fc fr) :
    (c0_faultsOfCells_a26 fc n).1 = r_soBy_v fr (0 : Int32) ∧ (c0_faultsOfCells_a26 fc n).2.1 = r_soBy_v fr (1 : Int32) ∧ (c0_faultsOfCells_a26 fc n).2.2.1 = r_soBy_v fr (2 : Int32) ∧ (c0_faultsOfCells_a26 fc n).2.2.2 = r_soBy_v fr (3 : Int32) := by
  have s0 : fc 4 0 = fr 280 34 := hs 0 (by omega)
  have s1 : fc 4 1 = fr 280 35 := hs 1 (by omega)
  have s2 : fc 4 2 = fr 280 36 := hs 2 (by omega)
  have s3 : fc 4 3 = fr 280 37 := hs 3 (by omega)
  have hnn : (fc 1 5).toInt.toNat = n := by omega
  have hgn : (fr 280 2).toInt.toNat = n := by omega
  have ix : ∀ k : Nat, k < n → ((fc 1 5) - (1 : Int32)) - (Int32.ofNat k) = Int32.ofNat (n - 1 - k) := fun k hk => Int32.toInt.inj (by rw [t2_di hn hk, at_ofN (by omega)])
  have dec : ∀ (P : Prop) [Decidable P] (a b : Int32), (if P then a else b) = if decide P = true then a else b := by
    intro P _ a b
    by_cases h : P
    · rw [if_pos h, if_pos (decide_eq_true h)]
    · rw [if_neg h, if_neg (by rw [decide_eq_false h]; exact Bool.false_ne_true)]
  refine ⟨t2_sf_u (t2_dsc (g := fun k => (c0_faultsOfCells_a26 fc k).1) rfl (fun k hk => ?_)) (r_so_sf (x := 0) (by omega) hgn), t2_sf_u (t2_dsc (g := fun k => (c0_faultsOfCells_a26 fc k).2.1) rfl (fun k hk => ?_)) (r_so_sf (x := 1) (by omega) hgn), t2_sf_u (t2_dsc (g := fun k => (c0_faultsOfCells_a26 fc k).2.2.1) rfl (fun k hk => ?_)) (r_so_sf (x := 2) (by omega) hgn), t2_sf_u (t2_dsc (g := fun k => (c0_faultsOfCells_a26 fc k).2.2.2) rfl (fun k hk => ?_)) (r_so_sf (x := 3) (by omega) hgn)⟩
  · rw [r_sp0]
    show (if _ then _ else (c0_faultsOfCells_a26 fc k).1) = if _ then _ else (c0_faultsOfCells_a26 fc k).1
    rw [hnn, ix k hk, hv _ (by omega), s0]
    exact dec _ _ _
  · rw [r_sp1]
    show (if _ then _ else (c0_faultsOfCells_a26 fc k).2.1) = if _ then _ else (c0_faultsOfCells_a26 fc k).2.1
    rw [hnn, ix k hk, hv _ (by omega), s1]
    exact dec _ _ _
  · rw [r_sp2]
    show (if _ then _ else (c0_faultsOfCells_a26 fc k).2.2.1) = if _ then _ else (c0_faultsOfCells_a26 fc k).2.2.1
    rw [hnn, ix k hk, hw _ (by omega), s2]
    exact dec _ _ _
  · rw [r_sp3]
    show (if _ then (if _ then _ else (c0_faultsOfCells_a26 fc k).2.2.2) else (c0_faultsOfCells_a26 fc k).2.2.2) = if _ then _ else (c0_faultsOfCells_a26 fc k).2.2.2
    rw [hnn, ix k hk, hw _ (by omega), s3, hx]
    by_cases h : 0 < (fr 280 5).toInt
    · rw [if_pos h, decide_eq_true h, Bool.true_and]
      exact dec _ _ _
    · rw [if_neg h, decide_eq_false h, Bool.false_and, if_neg Bool.false_ne_true]
def t2_cb (a b c d : Bool) (k : Nat) : Bool := if k = 0 then a else if k = 1 then b else if k = 2 then c else if k = 3 then d else false
theorem c0_fcv {H Lo T K : Int32} (hn : (fc 1 5).toInt.toNat = n) (eH : (c0_faultsOfCells_a26 fc n).1 = H) (eL : (c0_faultsOfCells_a26 fc n).2.1 = Lo) (eT : (c0_faultsOfCells_a26 fc n).2.2.1 = T) (eK : (c0_faultsOfCells_a26 fc n).2.2.2 = K) (k : Fin 11) :
    t2_bt (c0_faultsOfCells_v fc) k.val = t2_cb (decide (¬ H.toInt = (-1 : Int32).toInt)) (decide (¬ Lo.toInt = (-1 : Int32).toInt)) (decide (¬ T.toInt = (-1 : Int32).toInt) || decide ((fc 4 2).toInt < (fc 1 11).toInt)) (decide (¬ K.toInt = (-1 : Int32).toInt)) k.val := by
  unfold c0_faultsOfCells_v
  rw [hn, eH, eL, eT, eK]
  generalize (-1 : Int32).toInt = m1
  by_cases hH : H.toInt = m1 <;> by_cases hL : Lo.toInt = m1 <;> by_cases hT : T.toInt = m1 <;> by_cases hB : (fc 4 2).toInt < (fc 1 11).toInt <;> by_cases hK : K.toInt = m1 <;>
    simp only [hH, hL, hT, hB, hK, if_true, if_false, c0_blame_v, not_true, not_false_eq_true, decide_true, decide_false, Bool.or_true, Bool.or_false, Bool.true_or, Bool.false_or] <;> revert k <;> decide +kernel
theorem c0_fcm {H Lo T K : Int32} (hn : (fc 1 5).toInt.toNat = n) (eH : (c0_faultsOfCells_a26 fc n).1 = H) (eL : (c0_faultsOfCells_a26 fc n).2.1 = Lo) (eT : (c0_faultsOfCells_a26 fc n).2.2.1 = T) (eK : (c0_faultsOfCells_a26 fc n).2.2.2 = K) :
    c0_faultsOfCells_m fc 12 0 = (if H.toInt = (-1 : Int32).toInt then fc 12 0 else H) ∧ c0_faultsOfCells_m fc 12 1 = (if Lo.toInt = (-1 : Int32).toInt then fc 12 1 else Lo) ∧ c0_faultsOfCells_m fc 12 2 = (if T.toInt = (-1 : Int32).toInt then (if (fc 4 2).toInt < (fc 1 11).toInt then T else fc 12 2) else T) ∧ c0_faultsOfCells_m fc 12 3 = (if K.toInt = (-1 : Int32).toInt then fc 12 3 else K) := by
  have t0 : (0 : Int32).toInt.toNat = 0 := rfl
  have t1 : (1 : Int32).toInt.toNat = 1 := rfl
  have t2 : (2 : Int32).toInt.toNat = 2 := rfl
  have t3 : (3 : Int32).toInt.toNat = 3 := rfl
  unfold c0_faultsOfCells_m
  rw [hn, eH, eL, eT, eK]
  generalize (-1 : Int32).toInt = m1
  by_cases hH : H.toInt = m1 <;> by_cases hL : Lo.toInt = m1 <;> by_cases hT : T.toInt = m1 <;> by_cases hB : (fc 4 2).toInt < (fc 1 11).toInt <;> by_cases hK : K.toInt = m1 <;>
    simp (disch := decide) only [hH, hL, hT, hB, hK, if_true, if_false, c0_blame_m, t0, t1, t2, t3, fl_row_self, upd_self, upd_ne, and_self]
end C0FLT

/-! ===== block 2: (7) of a second: which faults are so ===== -/
section C2FLT
variable {fc fr f g F G : t2_F} {C n k : Nat} {c x y z : Int32}
theorem c2_four (hn : (fc 181 5).toInt = n) (hg : (fr 280 2).toInt = n) (hn16 : n ≤ 16) (hv : ∀ C : Nat, C < n → c2_voltsAt_v fc C (fc 181 9) = r_voltsOf_v fr (Int32.ofNat C) C) (hw : ∀ C : Nat, C < n → fc (198 + 4 * C) 6 = fr 280 (444 + 61 * C + 3)) (hx : fc 181 9 = fr 280 5) (hs : c2_Rs fc fr) :
    (c2_faultsOfCells_a26 fc n).1 = r_soBy_v fr (0 : Int32) ∧ (c2_faultsOfCells_a26 fc n).2.1 = r_soBy_v fr (1 : Int32) ∧ (c2_faultsOfCells_a26 fc n).2.2.1 = r_soBy_v fr (2 : Int32) ∧ (c2_faultsOfCells_a26 fc n).2.2.2 = r_soBy_v fr (3 : Int32) := by
  have s0 : fc 184 0 = fr 280 34 := hs 0 (by omega)
  have s1 : fc 184 1 = fr 280 35 := hs 1 (by omega)
  have s2 : fc 184 2 = fr 280 36 := hs 2 (by omega)
  have s3 : fc 184 3 = fr 280 37 := hs 3 (by omega)
  have hnn : (fc 181 5).toInt.toNat = n := by omega
  have hgn : (fr 280 2).toInt.toNat = n := by omega
  have ix : ∀ k : Nat, k < n → ((fc 181 5) - (1 : Int32)) - (Int32.ofNat k) = Int32.ofNat (n - 1 - k) := fun k hk => Int32.toInt.inj (by rw [t2_di hn hk, at_ofN (by omega)])
  have dec : ∀ (P : Prop) [Decidable P] (a b : Int32), (if P then a else b) = if decide P = true then a else b := by
    intro P _ a b
    by_cases h : P
    · rw [if_pos h, if_pos (decide_eq_true h)]
    · rw [if_neg h, if_neg (by rw [decide_eq_false h]; exact Bool.false_ne_true)]
  refine ⟨t2_sf_u (t2_dsc (g := fun k => (c2_faultsOfCells_a26 fc k).1) rfl (fun k hk => ?_)) (r_so_sf (x := 0) (by omega) hgn), t2_sf_u (t2_dsc (g := fun k => (c2_faultsOfCells_a26 fc k).2.1) rfl (fun k hk => ?_)) (r_so_sf (x := 1) (by omega) hgn), t2_sf_u (t2_dsc (g := fun k => (c2_faultsOfCells_a26 fc k).2.2.1) rfl (fun k hk => ?_)) (r_so_sf (x := 2) (by omega) hgn), t2_sf_u (t2_dsc (g := fun k => (c2_faultsOfCells_a26 fc k).2.2.2) rfl (fun k hk => ?_)) (r_so_sf (x := 3) (by omega) hgn)⟩
  · rw [r_sp0]
    show (if _ then _ else (c2_faultsOfCells_a26 fc k).1) = if _ then _ else (c2_faultsOfCells_a26 fc k).1
    rw [hnn, ix k hk, hv _ (by omega), s0]
    exact dec _ _ _
  · rw [r_sp1]
    show (if _ then _ else (c2_faultsOfCells_a26 fc k).2.1) = if _ then _ else (c2_faultsOfCells_a26 fc k).2.1
    rw [hnn, ix k hk, hv _ (by omega), s1]
    exact dec _ _ _
  · rw [r_sp2]
    show (if _ then _ else (c2_faultsOfCells_a26 fc k).2.2.1) = if _ then _ else (c2_faultsOfCells_a26 fc k).2.2.1
    rw [hnn, ix k hk, hw _ (by omega), s2]
    exact dec _ _ _
  · rw [r_sp3]
    show (if _ then (if _ then _ else (c2_faultsOfCells_a26 fc k).2.2.2) else (c2_faultsOfCells_a26 fc k).2.2.2) = if _ then _ else (c2_faultsOfCells_a26 fc k).2.2.2
    rw [hnn, ix k hk, hw _ (by omega), s3, hx]
    by_cases h : 0 < (fr 280 5).toInt
    · rw [if_pos h, decide_eq_true h, Bool.true_and]
      exact dec _ _ _
    · rw [if_neg h, decide_eq_false h, Bool.false_and, if_neg Bool.false_ne_true]
theorem c2_fcv {H Lo T K : Int32} (hn : (fc 181 5).toInt.toNat = n) (eH : (c2_faultsOfCells_a26 fc n).1 = H) (eL : (c2_faultsOfCells_a26 fc n).2.1 = Lo) (eT : (c2_faultsOfCells_a26 fc n).2.2.1 = T) (eK : (c2_faultsOfCells_a26 fc n).2.2.2 = K) (k : Fin 11) :
    t2_bt (c2_faultsOfCells_v fc) k.val = t2_cb (decide (¬ H.toInt = (-1 : Int32).toInt)) (decide (¬ Lo.toInt = (-1 : Int32).toInt)) (decide (¬ T.toInt = (-1 : Int32).toInt) || decide ((fc 184 2).toInt < (fc 181 11).toInt)) (decide (¬ K.toInt = (-1 : Int32).toInt)) k.val := by
  unfold c2_faultsOfCells_v
  rw [hn, eH, eL, eT, eK]
  generalize (-1 : Int32).toInt = m1
  by_cases hH : H.toInt = m1 <;> by_cases hL : Lo.toInt = m1 <;> by_cases hT : T.toInt = m1 <;> by_cases hB : (fc 184 2).toInt < (fc 181 11).toInt <;> by_cases hK : K.toInt = m1 <;>
    simp only [hH, hL, hT, hB, hK, if_true, if_false, c2_blame_v, not_true, not_false_eq_true, decide_true, decide_false, Bool.or_true, Bool.or_false, Bool.true_or, Bool.false_or] <;> revert k <;> decide +kernel
theorem c2_fcm {H Lo T K : Int32} (hn : (fc 181 5).toInt.toNat = n) (eH : (c2_faultsOfCells_a26 fc n).1 = H) (eL : (c2_faultsOfCells_a26 fc n).2.1 = Lo) (eT : (c2_faultsOfCells_a26 fc n).2.2.1 = T) (eK : (c2_faultsOfCells_a26 fc n).2.2.2 = K) :
    c2_faultsOfCells_m fc 192 0 = (if H.toInt = (-1 : Int32).toInt then fc 192 0 else H) ∧ c2_faultsOfCells_m fc 192 1 = (if Lo.toInt = (-1 : Int32).toInt then fc 192 1 else Lo) ∧ c2_faultsOfCells_m fc 192 2 = (if T.toInt = (-1 : Int32).toInt then (if (fc 184 2).toInt < (fc 181 11).toInt then T else fc 192 2) else T) ∧ c2_faultsOfCells_m fc 192 3 = (if K.toInt = (-1 : Int32).toInt then fc 192 3 else K) := by
  have t0 : (0 : Int32).toInt.toNat = 0 := rfl
  have t1 : (1 : Int32).toInt.toNat = 1 := rfl
  have t2 : (2 : Int32).toInt.toNat = 2 := rfl
  have t3 : (3 : Int32).toInt.toNat = 3 := rfl
  unfold c2_faultsOfCells_m
  rw [hn, eH, eL, eT, eK]
  generalize (-1 : Int32).toInt = m1
  by_cases hH : H.toInt = m1 <;> by_cases hL : Lo.toInt = m1 <;> by_cases hT : T.toInt = m1 <;> by_cases hB : (fc 184 2).toInt < (fc 181 11).toInt <;> by_cases hK : K.toInt = m1 <;>
    simp (disch := decide) only [hH, hL, hT, hB, hK, if_true, if_false, c2_blame_m, t0, t1, t2, t3, fl_row_self, upd_self, upd_ne, and_self]
end C2FLT

end

/-! 94.11.ring.lean.txt -/
section
/-! ===== places of a ring ===== -/
def t2_pl (m F i : Nat) : Nat := if F + i < m then F + i else F + i - m
theorem t2_pl_lt {m F i : Nat} (hF : F < m) (hi : i ≤ m) : t2_pl m F i < m := by unfold t2_pl; split <;> omega
theorem t2_pl_ne {m F i j : Nat} (hF : F < m) (hi : i < m) (hj : j < m) (h : i ≠ j) : t2_pl m F i ≠ t2_pl m F j := by unfold t2_pl; split <;> split <;> omega
theorem t2_pl_m {m F : Nat} (hF : F < m) : t2_pl m F m = F := by unfold t2_pl; rw [if_neg (by omega)]; omega
theorem t2_pl_0 {m F : Nat} (hF : F < m) : t2_pl m F 0 = F := by unfold t2_pl; rw [if_pos (by omega)]; omega
theorem t2_pl_s {m F i : Nat} (hF : F < m) (hi : i + 1 < m) : t2_pl m (t2_pl m F 1) i = t2_pl m F (i + 1) := by unfold t2_pl; split <;> split <;> (try split) <;> omega
theorem t2_pl_e {m F : Nat} (hF : F < m) (hm : 2 ≤ m) : t2_pl m (t2_pl m F 1) (m - 1) = F := by unfold t2_pl; split <;> split <;> omega
theorem t2_pl_n0 {m F i : Nat} (hF : F < m) (hi : i + 1 < m) : t2_pl m F (i + 1) ≠ F := by unfold t2_pl; split <;> omega
theorem t2_if2 {P R : Prop} [Decidable P] [Decidable R] {c : Int32} : (if P then (0 : Int32) else (if R then c else (0 : Int32))) = if (¬ P ∧ R) then c else (0 : Int32) := by
  by_cases p : P
  · rw [if_pos p, if_neg (fun h => h.1 p)]
  · by_cases r : R
    · rw [if_neg p, if_pos r, if_pos ⟨p, r⟩]
    · rw [if_neg p, if_neg r, if_neg (fun h => r h.2)]
theorem t2_if3 {P R : Prop} [Decidable P] [Decidable R] {c : Int32} : (if (if P then (if R then (1 : Int32) else (0 : Int32)) else (0 : Int32)).toInt = 0 then (0 : Int32) else c) = if (P ∧ R) then c else (0 : Int32) := by
  have c1 : (1 : Int32).toInt = 1 := by decide +kernel
  have c0 : (0 : Int32).toInt = 0 := rfl
  by_cases p : P
  · by_cases r : R
    · rw [if_pos p, if_pos r, if_neg (by omega), if_pos ⟨p, r⟩]
    · rw [if_pos p, if_neg r, if_pos c0, if_neg (fun h => r h.2)]
  · rw [if_neg p, if_pos c0, if_neg (fun h => p h.1)]
theorem t2_if4 {P : Prop} [Decidable P] {c : Int32} : (if (if P then (0 : Int32) else (1 : Int32)).toInt = 0 then (0 : Int32) else c) = if (¬ P) then c else (0 : Int32) := by
  have c1 : (1 : Int32).toInt = 1 := by decide +kernel
  have c0 : (0 : Int32).toInt = 0 := rfl
  by_cases p : P
  · rw [if_pos p, if_pos c0, if_neg (fun h => h p)]
  · rw [if_neg p, if_neg (by omega), if_pos p]
def t2_pk (b4 b6 b7 b8 b9 b10 : Bool) (k : Nat) : Bool := if k = 4 then b4 else if k = 6 then b6 else if k = 7 then b7 else if k = 8 then b8 else if k = 9 then b9 else if k = 10 then b10 else false
theorem t2_pk_or {b4 b6 b7 b8 b9 b10 : Bool} {k : Nat} (hk : k < 11) : ((((((b4 && decide (k = 4)) || (b6 && decide (k = 6))) || (b7 && decide (k = 7))) || (b8 && decide (k = 8))) || (b9 && decide (k = 9))) || (b10 && decide (k = 10))) = t2_pk b4 b6 b7 b8 b9 b10 k := by
  unfold t2_pk
  rcases (show k = 0 ∨ k = 1 ∨ k = 2 ∨ k = 3 ∨ k = 4 ∨ k = 5 ∨ k = 6 ∨ k = 7 ∨ k = 8 ∨ k = 9 ∨ k = 10 by omega) with h | h | h | h | h | h | h | h | h | h | h <;> subst h <;> simp

end

/-! 94.12.pack.lean.txt -/
section
/-! ===== block 0: (7) of a second: the pack's faults, the book ===== -/
section C0FPK
variable {fc fr f g F G : t2_F} {C n k : Nat} {c x y z : Int32}
theorem c0_spread_c {f f' : t2_F} (h1 : f' 1 = f 1) (h : ∀ C : Nat, f' (18 + 4 * C) = f (18 + 4 * C)) : c0_partSpread_v f' = c0_partSpread_v f := by
  have e : ∀ (y : Int32) (k : Nat), c0_spreadOf_a10 f' y k = c0_spreadOf_a10 f y k := by
    intro y k
    induction k with
    | zero => rfl
    | succ k ih =>
      unfold c0_spreadOf_a10
      rw [ih, h]
  unfold c0_partSpread_v c0_partSpread_j4_0 c0_spreadOf_v
  rw [h1, e]
theorem c0_fp_bits (hk : k < 11) : t2_bt (c0_faultsOfPack_v f) k = t2_pk (decide ((f 1 7).toInt = (2 : Int32).toInt ∧ (f 4 4).toInt < (t2_abs_v (f 4 20)).toInt)) (decide ((c0_leakBit_j2_0 f (c0_faultsOfPack_j59_0 f)).toInt = (3 : Int32).toInt)) (decide ((f 4 17).toInt < (c0_partSpread_v f).toInt)) (decide (¬ (c0_actualBits_v f).toInt = (c0_orderedBits_v f).toInt) && decide (¬ (f 10 6).toInt = 0)) (decide (¬ (f 4 28).toInt = 0 ∧ (f 4 28).toInt < (f 10 4 + (1 : Int32)).toInt)) (decide ((f 4 29).toInt = 0)) k := by
  have lk := c0_live_c (f := f) (f' := c0_leakBit_m f (c0_faultsOfPack_j59_0 f)) (by rw [c0_leakBit_fr (by decide)]) (by rw [c0_leakBit_fr (by decide)])
  have sp := c0_spread_c (f := f) (f' := c0_leakBit_m f (c0_faultsOfPack_j59_0 f)) (by rw [c0_leakBit_fr (by decide)]) (fun C => by rw [c0_leakBit_fr (by omega)])
  have r6 : c0_leakBit_m f (c0_faultsOfPack_j59_0 f) 10 6 = f 10 6 := by
    unfold c0_leakBit_m
    rw [fl_row_self, upd_ne (by decide)]
  have r4 : c0_leakBit_m f (c0_faultsOfPack_j59_0 f) 10 4 = f 10 4 := by
    unfold c0_leakBit_m
    rw [fl_row_self, upd_ne (by decide)]
  have r40 : c0_weldBit0_m (c0_leakBit_m f (c0_faultsOfPack_j59_0 f)) 10 4 = f 10 4 := by
    unfold c0_weldBit0_m
    rw [fl_row_self, upd_ne (by decide), r4]
  have r41 : c0_weldBit1_m (c0_leakBit_m f (c0_faultsOfPack_j59_0 f)) 10 4 = f 10 4 := by
    unfold c0_weldBit1_m
    rw [fl_row_self, upd_ne (by decide), r4]
  have b4 : t2_bt (c0_faultsOfPack_j36_0 f) k = (decide ((f 1 7).toInt = (2 : Int32).toInt ∧ (f 4 4).toInt < (t2_abs_v (f 4 20)).toInt) && decide (k = 4)) := by
    unfold c0_faultsOfPack_j36_0 c0_faultsOfPack_j13_0
    rw [t2_if3]
    exact t2_bt_if (by decide +kernel) hk
  have b6 : t2_bt (c0_leakBit_v f (c0_faultsOfPack_j59_0 f)) k = (decide ((c0_leakBit_j2_0 f (c0_faultsOfPack_j59_0 f)).toInt = (3 : Int32).toInt) && decide (k = 6)) := by
    unfold c0_leakBit_v c0_leakBit_j27_0
    exact t2_bt_if (by decide +kernel) hk
  have b7 : t2_bt (c0_faultsOfPack_j81_0 f) k = (decide ((f 4 17).toInt < (c0_partSpread_v f).toInt) && decide (k = 7)) := by
    unfold c0_faultsOfPack_j81_0
    rw [sp]
    exact t2_bt_if (by decide +kernel) hk
  have b8 : t2_bt (c0_weldBit1_v (c0_leakBit_m f (c0_faultsOfPack_j59_0 f))) k = (decide (¬ (f 10 6).toInt = 0) && decide (k = 8)) := by
    unfold c0_weldBit1_v c0_weldBit1_j23_0 c0_weldBit1_j8_0
    rw [r6, t2_if4]
    exact t2_bt_if (by decide +kernel) hk
  have b9 : ∀ M : t2_F, M 10 4 = f 10 4 → t2_bt (c0_silentBit_v M (f 4 28)) k = (decide (¬ (f 4 28).toInt = 0 ∧ (f 4 28).toInt < (f 10 4 + (1 : Int32)).toInt) && decide (k = 9)) := fun M hM => by
    unfold c0_silentBit_v c0_silentBit_j11_0
    rw [hM, t2_if2]
    exact t2_bt_if (by decide +kernel) hk
  have b10 : t2_bt (c0_faultsOfPack_j138_0 f) k = (decide ((f 4 29).toInt = 0) && decide (k = 10)) := by
    unfold c0_faultsOfPack_j138_0
    exact t2_bt_if (by decide +kernel) hk
  have b10' : t2_bt (c0_faultsOfPack_j138_1 f) k = (decide ((f 4 29).toInt = 0) && decide (k = 10)) := by
    unfold c0_faultsOfPack_j138_1
    exact t2_bt_if (by decide +kernel) hk
  rw [← t2_pk_or hk]
  unfold c0_faultsOfPack_v
  rw [lk.1, lk.2.2]
  by_cases hd : (c0_actualBits_v f).toInt = (c0_orderedBits_v f).toInt
  · have hf : decide (¬ (c0_actualBits_v f).toInt = (c0_orderedBits_v f).toInt) = false := decide_eq_false (fun h => h hd)
    rw [if_pos hd, t2_bt_or, t2_bt_or, t2_bt_or, t2_bt_or, t2_bt_or, b4, b6, b7, b9 _ r40, b10, hf, Bool.false_and, Bool.false_and]
    unfold c0_weldBit0_v
    rw [t2_bt0]
  · rw [if_neg hd, t2_bt_or, t2_bt_or, t2_bt_or, t2_bt_or, t2_bt_or, b4, b6, b7, b8, b9 _ r41, b10', decide_eq_true hd, Bool.true_and]
theorem c0_fp_m : c0_faultsOfPack_m f 10 4 = f 10 4 + (1 : Int32) ∧ c0_faultsOfPack_m f 10 5 = c0_leakBit_j2_0 f (c0_faultsOfPack_j59_0 f) ∧ c0_faultsOfPack_m f 10 6 = (if (c0_actualBits_v f).toInt = (c0_orderedBits_v f).toInt then (0 : Int32) else (1 : Int32)) ∧ ∀ j : Nat, j ≠ 4 → j ≠ 5 → j ≠ 6 → c0_faultsOfPack_m f 10 j = f 10 j := by
  have lk := c0_live_c (f := f) (f' := c0_leakBit_m f (c0_faultsOfPack_j59_0 f)) (by rw [c0_leakBit_fr (by decide)]) (by rw [c0_leakBit_fr (by decide)])
  unfold c0_faultsOfPack_m
  rw [lk.1, lk.2.2]
  by_cases hd : (c0_actualBits_v f).toInt = (c0_orderedBits_v f).toInt
  · rw [if_pos hd, if_pos hd]
    unfold c0_silentBit_m c0_weldBit0_m c0_leakBit_m
    refine ⟨?_, ?_, ?_, fun j h1 h2 h3 => ?_⟩ <;> simp (disch := omega) only [fl_row_self, upd_self, upd_ne]
  · rw [if_neg hd, if_neg hd]
    unfold c0_silentBit_m c0_weldBit1_m c0_leakBit_m
    refine ⟨?_, ?_, ?_, fun j h1 h2 h3 => ?_⟩ <;> simp (disch := omega) only [fl_row_self, upd_self, upd_ne]
/-- the book: a ring, a list -/
def c0_Bk (fc fr : t2_F) : Prop := fc 13 0 = (24 : Int32) ∧ (0 ≤ (fc 13 2).toInt ∧ (fc 13 2).toInt ≤ 23) ∧ fc 13 3 = fr 280 20 ∧ (0 ≤ (fr 280 20).toInt ∧ (fr 280 20).toInt ≤ 24) ∧ ∀ i : Nat, (i : Int) < (fr 280 20).toInt → fc 14 (t2_pl 24 (fc 13 2).toInt.toNat i * 3) = fr 280 (167 + 2 * i) ∧ fc 14 (t2_pl 24 (fc 13 2).toInt.toNat i * 3 + 1) = fr 280 (167 + 2 * i + 1)
theorem c0_bplace {n : Nat} {x : Int32} (h0 : f 13 0 = (24 : Int32)) (hF : 0 ≤ (f 13 2).toInt ∧ (f 13 2).toInt ≤ 23) (hx : x.toInt = n) (hn : n ≤ 24) : (c0_bplace_v f x).toInt = (t2_pl 24 (f 13 2).toInt.toNat n : Nat) := by
  have c24 : (24 : Int32).toInt = 24 := by decide +kernel
  have e : (f 13 2 + x).toInt = (f 13 2).toInt + n := by rw [at_add32] <;> omega
  unfold c0_bplace_v c0_bplace_j12_0 t2_pl
  rw [h0]
  by_cases h : (f 13 2 + x).toInt < (24 : Int32).toInt
  · rw [if_pos h, if_pos (by omega)]
    omega
  · rw [if_neg h, if_neg (by omega), at_sub32] <;> omega
theorem c0_bk_add {t : Int32} (h : c0_Bk fc fr) (ht : fr 280 7 = t) : c0_Bk (c0_badd_m fc t x z) (r_writeDown_m fr x) := by
  obtain ⟨h0, hF, h3, hn, hr⟩ := h
  have c24 : (24 : Int32).toInt = 24 := by decide +kernel
  have c1 : (1 : Int32).toInt = 1 := by decide +kernel
  generalize hnn : (fr 280 20).toInt.toNat = n at *
  have en : (fr 280 20).toInt = (n : Int) := by omega
  generalize hFF : (fc 13 2).toInt.toNat = Fi at *
  have eF : (fc 13 2).toInt = (Fi : Int) := by omega
  have pn := c0_bplace (f := fc) (x := fc 13 3) (n := n) h0 hF (by rw [h3]; exact en) (by omega)
  rw [hFF] at pn
  have pnn : (c0_bplace_v fc (fc 13 3)).toInt.toNat = t2_pl 24 Fi n := by omega
  have lF : Fi < 24 := by omega
  by_cases hl : n < 24
  · obtain ⟨w20, wa, wb, wo⟩ := r_wd_lt (f := fr) (x := x) en hl
    have hlt : (fc 13 3).toInt < (fc 13 0).toInt := by rw [h3, h0]; omega
    have k0 : c0_badd_m fc t x z 13 0 = fc 13 0 := by
      unfold c0_badd_m
      rw [fl_row_self, upd_ne (by decide), upd_ne (by decide)]
    have k2 : c0_badd_m fc t x z 13 2 = fc 13 2 := by
      unfold c0_badd_m c0_badd_j48_1
      rw [fl_row_self, upd_self, if_pos hlt]
    have k3 : c0_badd_m fc t x z 13 3 = fc 13 3 + (1 : Int32) := by
      unfold c0_badd_m c0_badd_j48_0
      rw [fl_row_self, upd_ne (by decide), upd_self, if_pos hlt]
    have kr : c0_badd_m fc t x z 14 = upd (upd (upd (fc 14) (t2_pl 24 Fi n * 3) t) (t2_pl 24 Fi n * 3 + 1) x) (t2_pl 24 Fi n * 3 + 2) z := by
      unfold c0_badd_m
      rw [fl_row_ne (by decide), fl_row_self, pnn]
    refine ⟨by rw [k0, h0], by rw [k2]; exact hF, ?_, by omega, fun i hi => ?_⟩
    · rw [k3, h3]
      apply Int32.toInt.inj
      rw [w20, at_add32] <;> omega
    · rw [k2, hFF, kr]
      by_cases e : i = n
      · subst e
        rw [wa, wb, ht, upd_ne (by omega), upd_ne (by omega), upd_self, upd_ne (by omega), upd_self]
        exact ⟨rfl, rfl⟩
      · have hne := t2_pl_ne (m := 24) (F := Fi) (i := i) (j := n) lF (by omega) hl e
        obtain ⟨r1, r2⟩ := hr i (by omega)
        have w1 := wo (2 * i) (by omega)
        have w2 := wo (2 * i + 1) (by omega)
        rw [w1, show 167 + 2 * i + 1 = 167 + (2 * i + 1) by omega, w2, upd_ne (by omega), upd_ne (by omega), upd_ne (by omega), upd_ne (by omega), upd_ne (by omega), upd_ne (by omega)]
        exact ⟨r1, r2⟩
  · have e24 : n = 24 := by omega
    subst e24
    obtain ⟨w20, wa, wb, wo⟩ := r_wd_24 (f := fr) (x := x) en
    rw [t2_pl_m lF] at pnn
    have hlt : ¬ (fc 13 3).toInt < (fc 13 0).toInt := by rw [h3, h0]; omega
    have k0 : c0_badd_m fc t x z 13 0 = fc 13 0 := by
      unfold c0_badd_m
      rw [fl_row_self, upd_ne (by decide), upd_ne (by decide)]
    have kr : c0_badd_m fc t x z 14 = upd (upd (upd (fc 14) (Fi * 3) t) (Fi * 3 + 1) x) (Fi * 3 + 2) z := by
      unfold c0_badd_m
      rw [fl_row_ne (by decide), fl_row_self, pnn]
    have k3 : c0_badd_m fc t x z 13 3 = fc 13 3 := by
      unfold c0_badd_m c0_badd_j48_0
      rw [fl_row_self, upd_ne (by decide), upd_self, if_neg hlt]
    have p1 := c0_bplace (f := fl_row fc 14 (upd (upd (upd (fc 14) (Fi * 3) t) (Fi * 3 + 1) x) (Fi * 3 + 2) z)) (x := (1 : Int32)) (n := 1) (by rw [fl_row_ne (by decide)]; exact h0) (by rw [fl_row_ne (by decide)]; exact hF) c1 (by decide)
    rw [fl_row_ne (by decide), hFF] at p1
    have k2 : (c0_badd_m fc t x z 13 2).toInt = (t2_pl 24 Fi 1 : Nat) := by
      unfold c0_badd_m c0_badd_j48_1
      rw [fl_row_self, upd_self, if_neg hlt, pnn, p1]
    have l1 := t2_pl_lt (m := 24) (F := Fi) (i := 1) lF (by decide)
    refine ⟨by rw [k0, h0], by omega, ?_, by omega, fun i hi => ?_⟩
    · rw [k3, h3]
      apply Int32.toInt.inj
      rw [w20, en]
      rfl
    · rw [k2, Int.toNat_natCast, kr]
      by_cases e : i = 23
      · subst e
        have e23 := t2_pl_e (m := 24) (F := Fi) lF (by decide)
        rw [show 24 - 1 = 23 from rfl] at e23
        rw [e23, wa, wb, ht, upd_ne (by omega), upd_ne (by omega), upd_self, upd_ne (by omega), upd_self]
        exact ⟨rfl, rfl⟩
      · rw [t2_pl_s lF (by omega)]
        have hne := t2_pl_n0 (m := 24) (F := Fi) (i := i) lF (by omega)
        obtain ⟨r1, r2⟩ := hr (i + 1) (by omega)
        have w1 := wo (2 * i) (by omega)
        have w2 := wo (2 * i + 1) (by omega)
        rw [w1, show 167 + 2 * i + 1 = 167 + (2 * i + 1) by omega, w2, upd_ne (by omega), upd_ne (by omega), upd_ne (by omega), upd_ne (by omega), upd_ne (by omega), upd_ne (by omega)]
        exact ⟨r1, r2⟩
theorem c0_Bk.congr {fc' fr' : t2_F} (h : c0_Bk fc fr) (e1 : fc' 13 = fc 13) (e2 : fc' 14 = fc 14) (e3 : ∀ w : Nat, (w = 20 ∨ (167 ≤ w ∧ w < 215)) → fr' 280 w = fr 280 w) : c0_Bk fc' fr' := by
  obtain ⟨h0, hF, h3, hn, hr⟩ := h
  unfold c0_Bk
  rw [e1, e2, e3 20 (Or.inl rfl)]
  exact ⟨h0, hF, h3, hn, fun i hi => by rw [e3 _ (by omega), e3 _ (by omega)]; exact hr i hi⟩
end C0FPK

/-! ===== block 2: (7) of a second: the pack's faults, the book ===== -/
section C2FPK
variable {fc fr f g F G : t2_F} {C n k : Nat} {c x y z : Int32}
theorem c2_spread_c {f f' : t2_F} (h1 : f' 181 = f 181) (h : ∀ C : Nat, f' (198 + 4 * C) = f (198 + 4 * C)) : c2_partSpread_v f' = c2_partSpread_v f := by
  have e : ∀ (y : Int32) (k : Nat), c2_spreadOf_a10 f' y k = c2_spreadOf_a10 f y k := by
    intro y k
    induction k with
    | zero => rfl
    | succ k ih =>
      unfold c2_spreadOf_a10
      rw [ih, h]
  unfold c2_partSpread_v c2_partSpread_j4_0 c2_spreadOf_v
  rw [h1, e]
theorem c2_fp_bits (hk : k < 11) : t2_bt (c2_faultsOfPack_v f) k = t2_pk (decide ((f 181 7).toInt = (2 : Int32).toInt ∧ (f 184 4).toInt < (t2_abs_v (f 184 20)).toInt)) (decide ((c2_leakBit_j2_0 f (c2_faultsOfPack_j59_0 f)).toInt = (3 : Int32).toInt)) (decide ((f 184 17).toInt < (c2_partSpread_v f).toInt)) (decide (¬ (c2_actualBits_v f).toInt = (c2_orderedBits_v f).toInt) && decide (¬ (f 190 6).toInt = 0)) (decide (¬ (f 184 28).toInt = 0 ∧ (f 184 28).toInt < (f 190 4 + (1 : Int32)).toInt)) (decide ((f 184 29).toInt = 0)) k := by
  have lk := c2_live_c (f := f) (f' := c2_leakBit_m f (c2_faultsOfPack_j59_0 f)) (by rw [c2_leakBit_fr (by decide)]) (by rw [c2_leakBit_fr (by decide)])
  have sp := c2_spread_c (f := f) (f' := c2_leakBit_m f (c2_faultsOfPack_j59_0 f)) (by rw [c2_leakBit_fr (by decide)]) (fun C => by rw [c2_leakBit_fr (by omega)])
  have r6 : c2_leakBit_m f (c2_faultsOfPack_j59_0 f) 190 6 = f 190 6 := by
    unfold c2_leakBit_m
    rw [fl_row_self, upd_ne (by decide)]
  have r4 : c2_leakBit_m f (c2_faultsOfPack_j59_0 f) 190 4 = f 190 4 := by
    unfold c2_leakBit_m
    rw [fl_row_self, upd_ne (by decide)]
  have r40 : c2_weldBit0_m (c2_leakBit_m f (c2_faultsOfPack_j59_0 f)) 190 4 = f 190 4 := by
    unfold c2_weldBit0_m
    rw [fl_row_self, upd_ne (by decide), r4]
  have r41 : c2_weldBit1_m (c2_leakBit_m f (c2_faultsOfPack_j59_0 f)) 190 4 = f 190 4 := by
    unfold c2_weldBit1_m
    rw [fl_row_self, upd_ne (by decide), r4]
  have b4 : t2_bt (c2_faultsOfPack_j36_0 f) k = (decide ((f 181 7).toInt = (2 : Int32).toInt ∧ (f 184 4).toInt < (t2_abs_v (f 184 20)).toInt) && decide (k = 4)) := by
    unfold c2_faultsOfPack_j36_0 c2_faultsOfPack_j13_0
    rw [t2_if3]
    exact t2_bt_if (by decide +kernel) hk
  have b6 : t2_bt (c2_leakBit_v f (c2_faultsOfPack_j59_0 f)) k = (decide ((c2_leakBit_j2_0 f (c2_faultsOfPack_j59_0 f)).toInt = (3 : Int32).toInt) && decide (k = 6)) := by
    unfold c2_leakBit_v c2_leakBit_j27_0
    exact t2_bt_if (by decide +kernel) hk
  have b7 : t2_bt (c2_faultsOfPack_j81_0 f) k = (decide ((f 184 17).toInt < (c2_partSpread_v f).toInt) && decide (k = 7)) := by
    unfold c2_faultsOfPack_j81_0
    rw [sp]
    exact t2_bt_if (by decide +kernel) hk
  have b8 : t2_bt (c2_weldBit1_v (c2_leakBit_m f (c2_faultsOfPack_j59_0 f))) k = (decide (¬ (f 190 6).toInt = 0) && decide (k = 8)) := by
    unfold c2_weldBit1_v c2_weldBit1_j23_0 c2_weldBit1_j8_0
    rw [r6, t2_if4]
    exact t2_bt_if (by decide +kernel) hk
  have b9 : ∀ M : t2_F, M 190 4 = f 190 4 → t2_bt (c2_silentBit_v M (f 184 28)) k = (decide (¬ (f 184 28).toInt = 0 ∧ (f 184 28).toInt < (f 190 4 + (1 : Int32)).toInt) && decide (k = 9)) := fun M hM => by
    unfold c2_silentBit_v c2_silentBit_j11_0
    rw [hM, t2_if2]
    exact t2_bt_if (by decide +kernel) hk
  have b10 : t2_bt (c2_faultsOfPack_j138_0 f) k = (decide ((f 184 29).toInt = 0) && decide (k = 10)) := by
    unfold c2_faultsOfPack_j138_0
    exact t2_bt_if (by decide +kernel) hk
  have b10' : t2_bt (c2_faultsOfPack_j138_1 f) k = (decide ((f 184 29).toInt = 0) && decide (k = 10)) := by
    unfold c2_faultsOfPack_j138_1
    exact t2_bt_if (by decide +kernel) hk
  rw [← t2_pk_or hk]
  unfold c2_faultsOfPack_v
  rw [lk.1, lk.2.2]
  by_cases hd : (c2_actualBits_v f).toInt = (c2_orderedBits_v f).toInt
  · have hf : decide (¬ (c2_actualBits_v f).toInt = (c2_orderedBits_v f).toInt) = false := decide_eq_false (fun h => h hd)
    rw [if_pos hd, t2_bt_or, t2_bt_or, t2_bt_or, t2_bt_or, t2_bt_or, b4, b6, b7, b9 _ r40, b10, hf, Bool.false_and, Bool.false_and]
    unfold c2_weldBit0_v
    rw [t2_bt0]
  · rw [if_neg hd, t2_bt_or, t2_bt_or, t2_bt_or, t2_bt_or, t2_bt_or, b4, b6, b7, b8, b9 _ r41, b10', decide_eq_true hd, Bool.true_and]
theorem c2_fp_m : c2_faultsOfPack_m f 190 4 = f 190 4 + (1 : Int32) ∧ c2_faultsOfPack_m f 190 5 = c2_leakBit_j2_0 f (c2_faultsOfPack_j59_0 f) ∧ c2_faultsOfPack_m f 190 6 = (if (c2_actualBits_v f).toInt = (c2_orderedBits_v f).toInt then (0 : Int32) else (1 : Int32)) ∧ ∀ j : Nat, j ≠ 4 → j ≠ 5 → j ≠ 6 → c2_faultsOfPack_m f 190 j = f 190 j := by
  have lk := c2_live_c (f := f) (f' := c2_leakBit_m f (c2_faultsOfPack_j59_0 f)) (by rw [c2_leakBit_fr (by decide)]) (by rw [c2_leakBit_fr (by decide)])
  unfold c2_faultsOfPack_m
  rw [lk.1, lk.2.2]
  by_cases hd : (c2_actualBits_v f).toInt = (c2_orderedBits_v f).toInt
  · rw [if_pos hd, if_pos hd]
    unfold c2_silentBit_m c2_weldBit0_m c2_leakBit_m
    refine ⟨?_, ?_, ?_, fun j h1 h2 h3 => ?_⟩ <;> simp (disch := omega) only [fl_row_self, upd_self, upd_ne]
  · rw [if_neg hd, if_neg hd]
    unfold c2_silentBit_m c2_weldBit1_m c2_leakBit_m
    refine ⟨?_, ?_, ?_, fun j h1 h2 h3 => ?_⟩ <;> simp (disch := omega) only [fl_row_self, upd_self, upd_ne]
def c2_Bk (fc fr : t2_F) : Prop := fc 193 0 = (24 : Int32) ∧ (0 ≤ (fc 193 2).toInt ∧ (fc 193 2).toInt ≤ 23) ∧ fc 193 3 = fr 280 20 ∧ (0 ≤ (fr 280 20).toInt ∧ (fr 280 20).toInt ≤ 24) ∧ ∀ i : Nat, (i : Int) < (fr 280 20).toInt → fc 194 (t2_pl 24 (fc 193 2).toInt.toNat i * 3) = fr 280 (167 + 2 * i) ∧ fc 194 (t2_pl 24 (fc 193 2).toInt.toNat i * 3 + 1) = fr 280 (167 + 2 * i + 1)
theorem c2_bplace {n : Nat} {x : Int32} (h0 : f 193 0 = (24 : Int32)) (hF : 0 ≤ (f 193 2).toInt ∧ (f 193 2).toInt ≤ 23) (hx : x.toInt = n) (hn : n ≤ 24) : (c2_bplace_v f x).toInt = (t2_pl 24 (f 193 2).toInt.toNat n : Nat) := by
  have c24 : (24 : Int32).toInt = 24 := by decide +kernel
  have e : (f 193 2 + x).toInt = (f 193 2).toInt + n := by rw [at_add32] <;> omega
  unfold c2_bplace_v c2_bplace_j12_0 t2_pl
  rw [h0]
  by_cases h : (f 193 2 + x).toInt < (24 : Int32).toInt
  · rw [if_pos h, if_pos (by omega)]
    omega
  · rw [if_neg h, if_neg (by omega), at_sub32] <;> omega
theorem c2_bk_add {t : Int32} (h : c2_Bk fc fr) (ht : fr 280 7 = t) : c2_Bk (c2_badd_m fc t x z) (r_writeDown_m fr x) := by
  obtain ⟨h0, hF, h3, hn, hr⟩ := h
  have c24 : (24 : Int32).toInt = 24 := by decide +kernel
  have c1 : (1 : Int32).toInt = 1 := by decide +kernel
  generalize hnn : (fr 280 20).toInt.toNat = n at *
  have en : (fr 280 20).toInt = (n : Int) := by omega
  generalize hFF : (fc 193 2).toInt.toNat = Fi at *
  have eF : (fc 193 2).toInt = (Fi : Int) := by omega
  have pn := c2_bplace (f := fc) (x := fc 193 3) (n := n) h0 hF (by rw [h3]; exact en) (by omega)
  rw [hFF] at pn
  have pnn : (c2_bplace_v fc (fc 193 3)).toInt.toNat = t2_pl 24 Fi n := by omega
  have lF : Fi < 24 := by omega
  by_cases hl : n < 24
  · obtain ⟨w20, wa, wb, wo⟩ := r_wd_lt (f := fr) (x := x) en hl
    have hlt : (fc 193 3).toInt < (fc 193 0).toInt := by rw [h3, h0]; omega
    have k0 : c2_badd_m fc t x z 193 0 = fc 193 0 := by
      unfold c2_badd_m
      rw [fl_row_self, upd_ne (by decide), upd_ne (by decide)]
    have k2 : c2_badd_m fc t x z 193 2 = fc 193 2 := by
      unfold c2_badd_m c2_badd_j48_1
      rw [fl_row_self, upd_self, if_pos hlt]
    have k3 : c2_badd_m fc t x z 193 3 = fc 193 3 + (1 : Int32) := by
      unfold c2_badd_m c2_badd_j48_0
      rw [fl_row_self, upd_ne (by decide), upd_self, if_pos hlt]
    have kr : c2_badd_m fc t x z 194 = upd (upd (upd (fc 194) (t2_pl 24 Fi n * 3) t) (t2_pl 24 Fi n * 3 + 1) x) (t2_pl 24 Fi n * 3 + 2) z := by
      unfold c2_badd_m
      rw [fl_row_ne (by decide), fl_row_self, pnn]
    refine ⟨by rw [k0, h0], by rw [k2]; exact hF, ?_, by omega, fun i hi => ?_⟩
    · rw [k3, h3]
      apply Int32.toInt.inj
      rw [w20, at_add32] <;> omega
    · rw [k2, hFF, kr]
      by_cases e : i = n
      · subst e
        rw [wa, wb, ht, upd_ne (by omega), upd_ne (by omega), upd_self, upd_ne (by omega), upd_self]
        exact ⟨rfl, rfl⟩
      · have hne := t2_pl_ne (m := 24) (F := Fi) (i := i) (j := n) lF (by omega) hl e
        obtain ⟨r1, r2⟩ := hr i (by omega)
        have w1 := wo (2 * i) (by omega)
        have w2 := wo (2 * i + 1) (by omega)
        rw [w1, show 167 + 2 * i + 1 = 167 + (2 * i + 1) by omega, w2, upd_ne (by omega), upd_ne (by omega), upd_ne (by omega), upd_ne (by omega), upd_ne (by omega), upd_ne (by omega)]
        exact ⟨r1, r2⟩
  · have e24 : n = 24 := by omega
    subst e24
    obtain ⟨w20, wa, wb, wo⟩ := r_wd_24 (f := fr) (x := x) en
    rw [t2_pl_m lF] at pnn
    have hlt : ¬ (fc 193 3).toInt < (fc 193 0).toInt := by rw [h3, h0]; omega
    have k0 : c2_badd_m fc t x z 193 0 = fc 193 0 := by
      unfold c2_badd_m
      rw [fl_row_self, upd_ne (by decide), upd_ne (by decide)]
    have kr : c2_badd_m fc t x z 194 = upd (upd (upd (fc 194) (Fi * 3) t) (Fi * 3 + 1) x) (Fi * 3 + 2) z := by
      unfold c2_badd_m
      rw [fl_row_ne (by decide), fl_row_self, pnn]
    have k3 : c2_badd_m fc t x z 193 3 = fc 193 3 := by
      unfold c2_badd_m c2_badd_j48_0
      rw [fl_row_self, upd_ne (by decide), upd_self, if_neg hlt]
    have p1 := c2_bplace (f := fl_row fc 194 (upd (upd (upd (fc 194) (Fi * 3) t) (Fi * 3 + 1) x) (Fi * 3 + 2) z)) (x := (1 : Int32)) (n := 1) (by rw [fl_row_ne (by decide)]; exact h0) (by rw [fl_row_ne (by decide)]; exact hF) c1 (by decide)
    rw [fl_row_ne (by decide), hFF] at p1
    have k2 : (c2_badd_m fc t x z 193 2).toInt = (t2_pl 24 Fi 1 : Nat) := by
      unfold c2_badd_m c2_badd_j48_1
      rw [fl_row_self, upd_self, if_neg hlt, pnn, p1]
    have l1 := t2_pl_lt (m := 24) (F := Fi) (i := 1) lF (by decide)
    refine ⟨by rw [k0, h0], by omega, ?_, by omega, fun i hi => ?_⟩
    · rw [k3, h3]
      apply Int32.toInt.inj
      rw [w20, en]
      rfl
    · rw [k2, Int.toNat_natCast, kr]
      by_cases e : i = 23
      · subst e
        have e23 := t2_pl_e (m := 24) (F := Fi) lF (by decide)
        rw [show 24 - 1 = 23 from rfl] at e23
        rw [e23, wa, wb, ht, upd_ne (by omega), upd_ne (by omega), upd_self, upd_ne (by omega), upd_self]
        exact ⟨rfl, rfl⟩
      · rw [t2_pl_s lF (by omega)]
        have hne := t2_pl_n0 (m := 24) (F := Fi) (i := i) lF (by omega)
        obtain ⟨r1, r2⟩ := hr (i + 1) (by omega)
        have w1 := wo (2 * i) (by omega)
        have w2 := wo (2 * i + 1) (by omega)
        rw [w1, show 167 + 2 * i + 1 = 167 + (2 * i + 1) by omega, w2, upd_ne (by omega), upd_ne (by omega), upd_ne (by omega), upd_ne (by omega), upd_ne (by omega), upd_ne (by omega)]
        exact ⟨r1, r2⟩
theorem c2_Bk.congr {fc' fr' : t2_F} (h : c2_Bk fc fr) (e1 : fc' 193 = fc 193) (e2 : fc' 194 = fc 194) (e3 : ∀ w : Nat, (w = 20 ∨ (167 ≤ w ∧ w < 215)) → fr' 280 w = fr 280 w) : c2_Bk fc' fr' := by
  obtain ⟨h0, hF, h3, hn, hr⟩ := h
  unfold c2_Bk
  rw [e1, e2, e3 20 (Or.inl rfl)]
  exact ⟨h0, hF, h3, hn, fun i hi => by rw [e3 _ (by omega), e3 _ (by omega)]; exact hr i hi⟩
end C2FPK

end

/-! 94.13.fts.lean.txt -/
section
/-! ===== block 0: (7) of a second, whole ===== -/
section C0FTS
variable {fc fr f g F G : t2_F} {C n k : Nat} {c x y z : Int32}
/-- the reference's words when it asks which faults are so -/
noncomputable def r_gp (f : t2_F) : t2_F := fl_row f 280 (upd (upd (upd (f 280) 15 (r_goFaults_j18_0 f)) 16 (r_goFaults_j53_0 f)) 22 ((f 280 22) + (1 : Int32)))
theorem r_gp_w {w : Nat} (h1 : w ≠ 15) (h2 : w ≠ 16) (h3 : w ≠ 22) : r_gp fr 280 w = fr 280 w := by
  unfold r_gp
  rw [fl_row_self, upd_ne h3, upd_ne h2, upd_ne h1]
theorem r_a91_bt : ∀ n : Nat, n ≤ 11 → ∀ k : Nat, k < 11 → t2_bt (r_goFaults_a91 fr n) k = (decide (k < n) && decide (¬ (r_isSo_v (r_gp fr) (Int32.ofNat k)).toInt = 0)) := by
  intro n
  induction n with
  | zero => intro _ k _; rw [decide_eq_false (Nat.not_lt_zero k), Bool.false_and]; exact t2_bt0
  | succ n ih =>
    intro hn k hk
    show t2_bt ((r_goFaults_a91 fr n) ||| (if (r_isSo_v (r_gp fr) (Int32.ofNat n)).toInt = 0 then (0 : Int32) else (1 : Int32) <<< ((Int32.ofNat n) &&& 31))) k = _
    rw [t2_bt_or, ih (by omega) k hk]
    have hb : t2_bt ((1 : Int32) <<< ((Int32.ofNat n) &&& 31)) k = decide (k = n) := by
      unfold t2_bt
      rw [t2_one ⟨n, by omega⟩]
      exact t2_bs (by omega)
    by_cases e : k = n
    · subst e
      rw [decide_eq_false (Nat.lt_irrefl k), Bool.false_and, Bool.false_or, decide_eq_true (show k < k + 1 by omega), Bool.true_and]
      by_cases h : (r_isSo_v (r_gp fr) (Int32.ofNat k)).toInt = 0
      · rw [if_pos h, t2_bt0]
        exact (decide_eq_false (fun q => q h)).symm
      · rw [if_neg h, hb, decide_eq_true rfl]
        exact (decide_eq_true h).symm
    · have h0 : t2_bt (if (r_isSo_v (r_gp fr) (Int32.ofNat n)).toInt = 0 then (0 : Int32) else (1 : Int32) <<< ((Int32.ofNat n) &&& 31)) k = false := by
        by_cases h : (r_isSo_v (r_gp fr) (Int32.ofNat n)).toInt = 0
        · rw [if_pos h, t2_bt0]
        · rw [if_neg h, hb, decide_eq_false e]
      rw [h0, Bool.or_false]
      by_cases l : k < n
      · rw [decide_eq_true l, decide_eq_true (show k < n + 1 by omega)]
      · rw [decide_eq_false l, decide_eq_false (show ¬ k < n + 1 by omega)]
/-- which faults are so, by number: the reference -/
theorem r_isSo_b {slow : Bool} (hs : g 277 4 = if slow = true then 1 else 0) : ∀ k : Nat, k < 11 → decide (¬ (r_isSo_v g (Int32.ofNat k)).toInt = 0) = ((slow && decide (k = 5)) || t2_cb (decide (¬ (r_soBy_v g (0 : Int32)).toInt = (-1 : Int32).toInt)) (decide (¬ (r_soBy_v g (1 : Int32)).toInt = (-1 : Int32).toInt)) (decide (¬ (r_soBy_v g (2 : Int32)).toInt = (-1 : Int32).toInt) || decide ((g 280 36).toInt < (g 280 8).toInt)) (decide (¬ (r_soBy_v g (3 : Int32)).toInt = (-1 : Int32).toInt)) k || t2_pk (decide ((g 280 3).toInt = (2 : Int32).toInt ∧ (g 280 38).toInt < (r_size_v (g 280 54)).toInt)) (decide (¬ (g 280 15).toInt < (3 : Int32).toInt)) (decide ((g 280 51).toInt < (r_spreadOf_v g).toInt)) (decide (¬ (g 280 16).toInt < (2 : Int32).toInt)) (decide (¬ (g 280 62).toInt = 0 ∧ (g 280 62).toInt < (g 280 22).toInt)) (decide ((g 280 63).toInt = 0)) k) := by
  have c1 : (1 : Int32).toInt = 1 := by decide +kernel
  have c0 : (0 : Int32).toInt = 0 := rfl
  have d10 : ∀ (P : Prop) [Decidable P], decide (¬ (if P then (1 : Int32) else (0 : Int32)).toInt = 0) = decide P := by
    intro P _
    by_cases h : P
    · rw [if_pos h, decide_eq_true h]; exact decide_eq_true (by omega)
    · rw [if_neg h, decide_eq_false h]; exact decide_eq_false (fun q => q c0)
  have d01 : ∀ (P : Prop) [Decidable P], decide (¬ (if P then (0 : Int32) else (1 : Int32)).toInt = 0) = decide (¬ P) := by
    intro P _
    by_cases h : P
    · rw [if_pos h, decide_eq_false (fun q => q c0), decide_eq_false (fun q => q h)]
    · rw [if_neg h, decide_eq_true (show ¬ (1 : Int32).toInt = 0 by omega), decide_eq_true h]
  have d2 : ∀ (P R : Prop) [Decidable P] [Decidable R], decide (¬ (if P then (if R then (1 : Int32) else (0 : Int32)) else (0 : Int32)).toInt = 0) = decide (P ∧ R) := by
    intro P R _ _
    by_cases h : P
    · rw [if_pos h, d10 R]
      by_cases r : R
      · rw [decide_eq_true r, decide_eq_true ⟨h, r⟩]
      · rw [decide_eq_false r, decide_eq_false (fun q => r q.2)]
    · rw [if_neg h, decide_eq_false (fun q => q c0), decide_eq_false (fun q => h q.1)]
  have d3 : ∀ (P R : Prop) [Decidable P] [Decidable R], decide (¬ (if P then (if R then (1 : Int32) else (0 : Int32)) else (1 : Int32)).toInt = 0) = (decide (¬ P) || decide R) := by
    intro P R _ _
    by_cases h : P
    · have hf : decide (¬ P) = false := decide_eq_false (fun q => q h)
      rw [if_pos h, d10 R, hf, Bool.false_or]
    · rw [if_neg h, decide_eq_true (show ¬ (1 : Int32).toInt = 0 by omega), decide_eq_true h, Bool.true_or]
  have d4 : ∀ (P R : Prop) [Decidable P] [Decidable R], decide (¬ (if P then (0 : Int32) else (if R then (1 : Int32) else (0 : Int32))).toInt = 0) = decide (¬ P ∧ R) := by
    intro P R _ _
    by_cases h : P
    · rw [if_pos h, decide_eq_false (fun q => q c0), decide_eq_false (fun q => q.1 h)]
    · rw [if_neg h, d10 R]
      by_cases r : R
      · rw [decide_eq_true r, decide_eq_true ⟨h, r⟩]
      · rw [decide_eq_false r, decide_eq_false (fun q => r q.2)]
  intro k hk
  unfold r_isSo_v
  have n2 : (2 : Int32).toInt = 2 := by decide +kernel
  have n4 : (4 : Int32).toInt = 4 := by decide +kernel
  have n3 : (3 : Int32).toInt = 3 := by decide +kernel
  have n5 : (5 : Int32).toInt = 5 := by decide +kernel
  have n6 : (6 : Int32).toInt = 6 := by decide +kernel
  have n7 : (7 : Int32).toInt = 7 := by decide +kernel
  have n8 : (8 : Int32).toInt = 8 := by decide +kernel
  have n9 : (9 : Int32).toInt = 9 := by decide +kernel
  rcases (show k = 0 ∨ k = 1 ∨ k = 2 ∨ k = 3 ∨ k = 4 ∨ k = 5 ∨ k = 6 ∨ k = 7 ∨ k = 8 ∨ k = 9 ∨ k = 10 by omega) with h | h | h | h | h | h | h | h | h | h | h <;> subst h
  · have ex : (Int32.ofNat 0).toInt = 0 := at_ofN (by omega)
    rw [if_pos (show (Int32.ofNat 0).toInt < (4 : Int32).toInt by omega), if_neg (show ¬ (Int32.ofNat 0).toInt = (2 : Int32).toInt by omega), d01]
    have eo : Int32.ofNat 0 = (0 : Int32) := rfl
    rw [eo]
    simp [t2_cb, t2_pk]
  · have ex : (Int32.ofNat 1).toInt = 1 := at_ofN (by omega)
    rw [if_pos (show (Int32.ofNat 1).toInt < (4 : Int32).toInt by omega), if_neg (show ¬ (Int32.ofNat 1).toInt = (2 : Int32).toInt by omega), d01]
    have eo : Int32.ofNat 1 = (1 : Int32) := rfl
    rw [eo]
    simp [t2_cb, t2_pk]
  · have ex : (Int32.ofNat 2).toInt = 2 := at_ofN (by omega)
    rw [if_pos (show (Int32.ofNat 2).toInt < (4 : Int32).toInt by omega), if_pos (show (Int32.ofNat 2).toInt = (2 : Int32).toInt by omega), d3]
    have eo : Int32.ofNat 2 = (2 : Int32) := rfl
    rw [eo]
    simp [t2_cb, t2_pk]
  · have ex : (Int32.ofNat 3).toInt = 3 := at_ofN (by omega)
    rw [if_pos (show (Int32.ofNat 3).toInt < (4 : Int32).toInt by omega), if_neg (show ¬ (Int32.ofNat 3).toInt = (2 : Int32).toInt by omega), d01]
    have eo : Int32.ofNat 3 = (3 : Int32) := rfl
    rw [eo]
    simp [t2_cb, t2_pk]
  · have ex : (Int32.ofNat 4).toInt = 4 := at_ofN (by omega)
    rw [if_neg (show ¬ (Int32.ofNat 4).toInt < (4 : Int32).toInt by omega), if_pos (show (Int32.ofNat 4).toInt = (4 : Int32).toInt by omega), d2]
    simp [t2_cb, t2_pk]
  · have ex : (Int32.ofNat 5).toInt = 5 := at_ofN (by omega)
    rw [if_neg (show ¬ (Int32.ofNat 5).toInt < (4 : Int32).toInt by omega), if_neg (show ¬ (Int32.ofNat 5).toInt = (4 : Int32).toInt by omega), if_pos (show (Int32.ofNat 5).toInt = (5 : Int32).toInt by omega), hs]
    cases slow
    · simp [t2_cb, t2_pk]
    · simp [t2_cb, t2_pk]
  · have ex : (Int32.ofNat 6).toInt = 6 := at_ofN (by omega)
    rw [if_neg (show ¬ (Int32.ofNat 6).toInt < (4 : Int32).toInt by omega), if_neg (show ¬ (Int32.ofNat 6).toInt = (4 : Int32).toInt by omega), if_neg (show ¬ (Int32.ofNat 6).toInt = (5 : Int32).toInt by omega), if_pos (show (Int32.ofNat 6).toInt = (6 : Int32).toInt by omega), d01]
    simp [t2_cb, t2_pk]
  · have ex : (Int32.ofNat 7).toInt = 7 := at_ofN (by omega)
    rw [if_neg (show ¬ (Int32.ofNat 7).toInt < (4 : Int32).toInt by omega), if_neg (show ¬ (Int32.ofNat 7).toInt = (4 : Int32).toInt by omega), if_neg (show ¬ (Int32.ofNat 7).toInt = (5 : Int32).toInt by omega), if_neg (show ¬ (Int32.ofNat 7).toInt = (6 : Int32).toInt by omega), if_pos (show (Int32.ofNat 7).toInt = (7 : Int32).toInt by omega), d10]
    simp [t2_cb, t2_pk]
  · have ex : (Int32.ofNat 8).toInt = 8 := at_ofN (by omega)
    rw [if_neg (show ¬ (Int32.ofNat 8).toInt < (4 : Int32).toInt by omega), if_neg (show ¬ (Int32.ofNat 8).toInt = (4 : Int32).toInt by omega), if_neg (show ¬ (Int32.ofNat 8).toInt = (5 : Int32).toInt by omega), if_neg (show ¬ (Int32.ofNat 8).toInt = (6 : Int32).toInt by omega), if_neg (show ¬ (Int32.ofNat 8).toInt = (7 : Int32).toInt by omega), if_pos (show (Int32.ofNat 8).toInt = (8 : Int32).toInt by omega), d01]
    simp [t2_cb, t2_pk]
  · have ex : (Int32.ofNat 9).toInt = 9 := at_ofN (by omega)
    rw [if_neg (show ¬ (Int32.ofNat 9).toInt < (4 : Int32).toInt by omega), if_neg (show ¬ (Int32.ofNat 9).toInt = (4 : Int32).toInt by omega), if_neg (show ¬ (Int32.ofNat 9).toInt = (5 : Int32).toInt by omega), if_neg (show ¬ (Int32.ofNat 9).toInt = (6 : Int32).toInt by omega), if_neg (show ¬ (Int32.ofNat 9).toInt = (7 : Int32).toInt by omega), if_neg (show ¬ (Int32.ofNat 9).toInt = (8 : Int32).toInt by omega), if_pos (show (Int32.ofNat 9).toInt = (9 : Int32).toInt by omega), d4]
    simp [t2_cb, t2_pk]
  · have ex : (Int32.ofNat 10).toInt = 10 := at_ofN (by omega)
    rw [if_neg (show ¬ (Int32.ofNat 10).toInt < (4 : Int32).toInt by omega), if_neg (show ¬ (Int32.ofNat 10).toInt = (4 : Int32).toInt by omega), if_neg (show ¬ (Int32.ofNat 10).toInt = (5 : Int32).toInt by omega), if_neg (show ¬ (Int32.ofNat 10).toInt = (6 : Int32).toInt by omega), if_neg (show ¬ (Int32.ofNat 10).toInt = (7 : Int32).toInt by omega), if_neg (show ¬ (Int32.ofNat 10).toInt = (8 : Int32).toInt by omega), if_neg (show ¬ (Int32.ofNat 10).toInt = (9 : Int32).toInt by omega), d10]
    simp [t2_cb, t2_pk]
end C0FTS

/-! ===== block 2: (7) of a second, whole ===== -/
section C2FTS
variable {fc fr f g F G : t2_F} {C n k : Nat} {c x y z : Int32}
end C2FTS

end

/-! 94.14.flo.lean.txt -/
section
/-! ===== block 0: (7) of a second: latched ===== -/
section C0FLO
variable {fc fr f g F G : t2_F} {C n k : Nat} {c x y z : Int32}
theorem r_soBy_c {f f' : t2_F} (h : ∀ w : Nat, (w = 2 ∨ w = 5 ∨ (34 ≤ w ∧ w < 64) ∨ 444 ≤ w) → f' 280 w = f 280 w) : r_soBy_v f' x = r_soBy_v f x := by
  have e : ∀ k : Nat, r_soBy_e2 f' x k = r_soBy_e2 f x k := by
    intro k
    induction k with
    | zero => rfl
    | succ k ih =>
      unfold r_soBy_e2
      rw [ih, r_volts_c (h 5 (by omega)) (h _ (by omega)) (h _ (by omega)) (h _ (by omega)) (h _ (by omega)), h 34 (by omega), h 35 (by omega), h 36 (by omega), h 37 (by omega), h 5 (by omega), h (444 + 61 * k + 3) (by omega)]
  unfold r_soBy_v
  rw [e, h 2 (by omega)]
theorem c0_spread_a (h : ∀ C : Nat, C < n → fc (18 + 4 * C) 3 = r_partOf_v fr (Int32.ofNat C) C) : ∀ k : Nat, k ≤ n → c0_spreadOf_a10 fc y k = (r_leastPart_a6 fr k, r_spreadOf_a4 fr k) := by
  intro k
  induction k with
  | zero => intro _; rfl
  | succ k ih =>
    intro hk
    unfold c0_spreadOf_a10 r_leastPart_a6 r_spreadOf_a4
    rw [ih (by omega), h k (by omega), t2_les]
    rfl
theorem c0_spread_eq (hn1 : (fc 1 5).toInt = n) (hn2 : (fr 280 2).toInt = n) (h : ∀ C : Nat, C < n → fc (18 + 4 * C) 3 = r_partOf_v fr (Int32.ofNat C) C) : c0_partSpread_v fc = if n = 0 then (-1 : Int32) else r_spreadOf_v fr := by
  have hnn : (fc 1 5).toInt.toNat = n := by omega
  have hgn : (fr 280 2).toInt.toNat = n := by omega
  unfold c0_partSpread_v c0_partSpread_j4_0 r_spreadOf_v r_spreadOf_j45_0 c0_spreadOf_v r_leastPart_v
  by_cases e : n = 0
  · rw [if_pos e, if_pos (by omega)]
  · rw [if_neg e, if_neg (by omega), if_neg (by omega), hnn, hgn, c0_spread_a h n (Nat.le_refl n)]
def c0_R7 (fc fr : t2_F) (n : Nat) : Prop := ((fc 1 5).toInt = n ∧ (fr 280 2).toInt = n ∧ n ≤ 16) ∧ (fc 1 6 = fr 280 7 ∧ fc 1 7 = fr 280 3 ∧ fc 1 9 = fr 280 5 ∧ fc 1 11 = fr 280 8) ∧ c0_Rs fc fr ∧ (c0_Rk fc fr ∧ ∀ k : Nat, k < 3 → t2_how (fr 280 (64 + k))) ∧
  (∀ C : Nat, C < n → c0_voltsAt_v fc C (fc 1 9) = r_voltsOf_v fr (Int32.ofNat C) C ∧ fc (18 + 4 * C) 6 = fr 280 (444 + 61 * C + 3) ∧ fc (18 + 4 * C) 3 = r_partOf_v fr (Int32.ofNat C) C) ∧
  (fc 10 3 = fr 280 6 ∧ fc 10 4 = fr 280 22 ∧ fc 10 5 = fr 280 15 ∧ ((fc 10 6).toInt = min (fr 280 16).toInt 1 ∧ 0 ≤ (fr 280 16).toInt ∧ (fr 280 16).toInt ≤ 2)) ∧ (∀ j : Nat, j < 11 → fc 11 j = fr 280 (23 + j)) ∧ (∀ j : Nat, j < 4 → fc 12 j = fr 280 (311 + j)) ∧ c0_Bk fc fr ∧ 1 ≤ (fr 280 51).toInt
/-- the class's bits and the reference's -/
theorem c0_bits {so : Int32} {slow : Bool} (h : c0_R7 fc fr n) (hso : so = if slow = true then (32 : Int32) else (0 : Int32)) (hsl : fr 277 4 = if slow = true then 1 else 0) : ∀ k : Nat, k < 11 → t2_bt ((so ||| c0_faultsOfCells_v fc) ||| c0_faultsOfPack_v (c0_faultsOfCells_m fc)) k = t2_bt (r_goFaults_a91 fr 11) k := by
  obtain ⟨⟨hn1, hn2, hn16⟩, ⟨e6, e7, e9, e11⟩, hs, ⟨hk, hw⟩, hc, ⟨l3, l4, l5, ⟨l6, l61, l62⟩⟩, hwh, hcu, hbk, hsp⟩ := h
  have c1 : (1 : Int32).toInt = 1 := by decide +kernel
  have c2 : (2 : Int32).toInt = 2 := by decide +kernel
  have c3 : (3 : Int32).toInt = 3 := by decide +kernel
  have c0 : (0 : Int32).toInt = 0 := rfl
  have s2 : fc 4 2 = fr 280 36 := hs 2 (by omega)
  have s4 : fc 4 4 = fr 280 38 := hs 4 (by omega)
  have s9 : fc 4 9 = fr 280 43 := hs 9 (by omega)
  have s10 : fc 4 10 = fr 280 44 := hs 10 (by omega)
  have s17 : fc 4 17 = fr 280 51 := hs 17 (by omega)
  have s20 : fc 4 20 = fr 280 54 := hs 20 (by omega)
  have s28 : fc 4 28 = fr 280 62 := hs 28 (by omega)
  have s29 : fc 4 29 = fr 280 63 := hs 29 (by omega)
  have gw : ∀ w : Nat, w ≠ 15 → w ≠ 16 → w ≠ 22 → r_gp fr 280 w = fr 280 w := fun w a b d => r_gp_w a b d
  have gv : ∀ C : Nat, r_voltsOf_v (r_gp fr) (Int32.ofNat C) C = r_voltsOf_v fr (Int32.ofNat C) C := fun C => r_volts_c (gw _ (by decide) (by decide) (by decide)) (gw _ (by omega) (by omega) (by omega)) (gw _ (by omega) (by omega) (by omega)) (gw _ (by omega) (by omega) (by omega)) (gw _ (by omega) (by omega) (by omega))
  have gp : ∀ C : Nat, r_partOf_v (r_gp fr) (Int32.ofNat C) C = r_partOf_v fr (Int32.ofNat C) C := fun C => by
    unfold r_partOf_v
    rw [gw _ (by omega) (by omega) (by omega), gw _ (by omega) (by omega) (by omega)]
  have g2 : (r_gp fr 280 2).toInt = n := by rw [gw 2 (by decide) (by decide) (by decide)]; exact hn2
  obtain ⟨q0, q1, q2, q3⟩ := c0_four (fc := fc) (fr := r_gp fr) hn1 g2 hn16 (fun C hC => by rw [gv]; exact (hc C hC).1) (fun C hC => by rw [gw _ (by omega) (by omega) (by omega)]; exact (hc C hC).2.1) (by rw [gw 5 (by decide) (by decide) (by decide)]; exact e9) (fun k hk => by rw [gw _ (by omega) (by omega) (by omega)]; exact hs k hk)
  have f1 : ∀ p : Nat, p ≠ 12 → c0_faultsOfCells_m fc p = fc p := fun p hp => c0_faultsOfCells_fr hp
  have lv := c0_live_c (f := fc) (f' := c0_faultsOfCells_m fc) (by rw [f1 _ (by decide)]) (f1 _ (by decide))
  have spc : c0_partSpread_v (c0_faultsOfCells_m fc) = c0_partSpread_v fc := c0_spread_c (f1 _ (by decide)) (fun C => f1 _ (by omega))
  have ac := c0_actual_eq e7 hk hw
  have od := c0_ordered_eq (fc := fc) (fr := fr) e7
  have hj2 : c0_leakBit_j2_0 (c0_faultsOfCells_m fc) (c0_faultsOfPack_j59_0 (c0_faultsOfCells_m fc)) = r_goFaults_j18_0 fr := by
    unfold c0_leakBit_j2_0 c0_faultsOfPack_j59_0 r_goFaults_j18_0
    rw [f1 4 (by decide), f1 10 (by decide), s9, s10, l5, t2_les]
    by_cases q : (fr 280 43).toInt < (fr 280 44).toInt
    · rw [if_pos q, if_neg (by omega), if_pos q]
    · rw [if_neg q, if_pos c0, if_neg q]
  have g15 : r_gp fr 280 15 = r_goFaults_j18_0 fr := by
    unfold r_gp
    rw [fl_row_self, upd_ne (by decide), upd_ne (by decide), upd_self]
  have g16 : r_gp fr 280 16 = r_goFaults_j53_0 fr := by
    unfold r_gp
    rw [fl_row_self, upd_ne (by decide), upd_self]
  have g22 : r_gp fr 280 22 = fr 280 22 + (1 : Int32) := by
    unfold r_gp
    rw [fl_row_self, upd_self]
  have le3 : (r_goFaults_j18_0 fr).toInt ≤ 3 := by
    unfold r_goFaults_j18_0
    rw [t2_les]
    split
    · rw [t2_min_i]; omega
    · omega
  have p6 : decide ((r_goFaults_j18_0 fr).toInt = (3 : Int32).toInt) = decide (¬ (r_gp fr 280 15).toInt < (3 : Int32).toInt) := by
    rw [g15]
    exact decide_eq_decide.mpr ⟨fun q => by omega, fun q => by omega⟩
  have p7 : decide ((fr 280 51).toInt < (c0_partSpread_v fc).toInt) = decide ((r_gp fr 280 51).toInt < (r_spreadOf_v (r_gp fr)).toInt) := by
    have m1 : (-1 : Int32).toInt = -1 := by decide +kernel
    rw [gw 51 (by decide) (by decide) (by decide), c0_spread_eq (fr := r_gp fr) hn1 g2 (fun C hC => by rw [gp]; exact (hc C hC).2.2)]
    by_cases e : n = 0
    · have z : r_spreadOf_v (r_gp fr) = 0 := by
        unfold r_spreadOf_v r_spreadOf_j45_0
        rw [if_pos (by omega)]
      rw [if_pos e, z]
      exact decide_eq_decide.mpr ⟨fun q => by omega, fun q => by omega⟩
    · rw [if_neg e]
  have ordg : r_ordered_v (fl_row fr 280 (upd (fr 280) 15 (r_goFaults_j18_0 fr))) = r_ordered_v fr ∧ r_actual_v (fl_row fr 280 (upd (fr 280) 15 (r_goFaults_j18_0 fr))) = r_actual_v fr := by
    have l := r_live_c (f := fr) (f' := fl_row fr 280 (upd (fr 280) 15 (r_goFaults_j18_0 fr))) (by rw [fl_row_self, upd_ne (by decide)]) (fun k hk => by rw [fl_row_self, upd_ne (by omega)])
    exact ⟨l.2.2, l.1⟩
  have p8 : (decide (¬ (r_actual_v fr).toInt = (r_ordered_v fr).toInt) && decide (¬ (fc 10 6).toInt = 0)) = decide (¬ (r_gp fr 280 16).toInt < (2 : Int32).toInt) := by
    rw [g16]
    unfold r_goFaults_j53_0
    rw [ordg.1, ordg.2]
    by_cases d : (r_actual_v fr).toInt = (r_ordered_v fr).toInt
    · rw [if_pos d]
      have df : decide (¬ (r_actual_v fr).toInt = (r_ordered_v fr).toInt) = false := decide_eq_false (fun q => q d)
      rw [df, Bool.false_and]
      exact (decide_eq_false (fun q => q (by omega))).symm
    · rw [if_neg d, decide_eq_true d, Bool.true_and, t2_les]
      have a : (fr 280 16 + (1 : Int32)).toInt = (fr 280 16).toInt + 1 := by rw [at_add32] <;> omega
      refine decide_eq_decide.mpr ?_
      rw [t2_min_i]
      omega
  intro k hk11
  have bso : t2_bt so k = (slow && decide (k = 5)) := by
    rw [hso]
    have := t2_bt_if (P := slow = true) (c := (32 : Int32)) (i := 5) (by decide +kernel) hk11
    rw [this]
    cases slow <;> rfl
  have fin := c0_fcv (fc := fc) (n := n) (by omega) q0 q1 q2 q3 ⟨k, hk11⟩
  rw [t2_bt_or, t2_bt_or, bso, fin, c0_fp_bits hk11, r_a91_bt 11 (Nat.le_refl 11) k hk11, decide_eq_true hk11, Bool.true_and, r_isSo_b (slow := slow) (by unfold r_gp; rw [fl_row_ne (by decide)]; exact hsl) k hk11]
  rw [lv.1, lv.2.2, spc, hj2, f1 1 (by decide), f1 4 (by decide), f1 10 (by decide), ac, od, p8, s17, p7, p6, s2, s4, s20, s28, s29, e7, e11, l4, gw 36 (by decide) (by decide) (by decide), gw 8 (by decide) (by decide) (by decide), gw 3 (by decide) (by decide) (by decide), gw 38 (by decide) (by decide) (by decide), gw 54 (by decide) (by decide) (by decide), gw 62 (by decide) (by decide) (by decide), gw 63 (by decide) (by decide) (by decide), g22]
  rfl
end C0FLO

/-! ===== block 2: (7) of a second: latched ===== -/
section C2FLO
variable {fc fr f g F G : t2_F} {C n k : Nat} {c x y z : Int32}
theorem c2_spread_a (h : ∀ C : Nat, C < n → fc (198 + 4 * C) 3 = r_partOf_v fr (Int32.ofNat C) C) : ∀ k : Nat, k ≤ n → c2_spreadOf_a10 fc y k = (r_leastPart_a6 fr k, r_spreadOf_a4 fr k) := by
  intro k
  induction k with
  | zero => intro _; rfl
  | succ k ih =>
    intro hk
    unfold c2_spreadOf_a10 r_leastPart_a6 r_spreadOf_a4
    rw [ih (by omega), h k (by omega), t2_les]
    rfl
theorem c2_spread_eq (hn1 : (fc 181 5).toInt = n) (hn2 : (fr 280 2).toInt = n) (h : ∀ C : Nat, C < n → fc (198 + 4 * C) 3 = r_partOf_v fr (Int32.ofNat C) C) : c2_partSpread_v fc = if n = 0 then (-1 : Int32) else r_spreadOf_v fr := by
  have hnn : (fc 181 5).toInt.toNat = n := by omega
  have hgn : (fr 280 2).toInt.toNat = n := by omega
  unfold c2_partSpread_v c2_partSpread_j4_0 r_spreadOf_v r_spreadOf_j45_0 c2_spreadOf_v r_leastPart_v
  by_cases e : n = 0
  · rw [if_pos e, if_pos (by omega)]
  · rw [if_neg e, if_neg (by omega), if_neg (by omega), hnn, hgn, c2_spread_a h n (Nat.le_refl n)]
def c2_R7 (fc fr : t2_F) (n : Nat) : Prop := ((fc 181 5).toInt = n ∧ (fr 280 2).toInt = n ∧ n ≤ 16) ∧ (fc 181 6 = fr 280 7 ∧ fc 181 7 = fr 280 3 ∧ fc 181 9 = fr 280 5 ∧ fc 181 11 = fr 280 8) ∧ c2_Rs fc fr ∧ (c2_Rk fc fr ∧ ∀ k : Nat, k < 3 → t2_how (fr 280 (64 + k))) ∧
  (∀ C : Nat, C < n → c2_voltsAt_v fc C (fc 181 9) = r_voltsOf_v fr (Int32.ofNat C) C ∧ fc (198 + 4 * C) 6 = fr 280 (444 + 61 * C + 3) ∧ fc (198 + 4 * C) 3 = r_partOf_v fr (Int32.ofNat C) C) ∧
  (fc 190 3 = fr 280 6 ∧ fc 190 4 = fr 280 22 ∧ fc 190 5 = fr 280 15 ∧ ((fc 190 6).toInt = min (fr 280 16).toInt 1 ∧ 0 ≤ (fr 280 16).toInt ∧ (fr 280 16).toInt ≤ 2)) ∧ (∀ j : Nat, j < 11 → fc 191 j = fr 280 (23 + j)) ∧ (∀ j : Nat, j < 4 → fc 192 j = fr 280 (311 + j)) ∧ c2_Bk fc fr ∧ 1 ≤ (fr 280 51).toInt
theorem c2_bits {so : Int32} {slow : Bool} (h : c2_R7 fc fr n) (hso : so = if slow = true then (32 : Int32) else (0 : Int32)) (hsl : fr 277 4 = if slow = true then 1 else 0) : ∀ k : Nat, k < 11 → t2_bt ((so ||| c2_faultsOfCells_v fc) ||| c2_faultsOfPack_v (c2_faultsOfCells_m fc)) k = t2_bt (r_goFaults_a91 fr 11) k := by
  obtain ⟨⟨hn1, hn2, hn16⟩, ⟨e6, e7, e9, e11⟩, hs, ⟨hk, hw⟩, hc, ⟨l3, l4, l5, ⟨l6, l61, l62⟩⟩, hwh, hcu, hbk, hsp⟩ := h
  have c1 : (1 : Int32).toInt = 1 := by decide +kernel
  have c2 : (2 : Int32).toInt = 2 := by decide +kernel
  have c3 : (3 : Int32).toInt = 3 := by decide +kernel
  have c0 : (0 : Int32).toInt = 0 := rfl
  have s2 : fc 184 2 = fr 280 36 := hs 2 (by omega)
  have s4 : fc 184 4 = fr 280 38 := hs 4 (by omega)
  have s9 : fc 184 9 = fr 280 43 := hs 9 (by omega)
  have s10 : fc 184 10 = fr 280 44 := hs 10 (by omega)
  have s17 : fc 184 17 = fr 280 51 := hs 17 (by omega)
  have s20 : fc 184 20 = fr 280 54 := hs 20 (by omega)
  have s28 : fc 184 28 = fr 280 62 := hs 28 (by omega)
  have s29 : fc 184 29 = fr 280 63 := hs 29 (by omega)
  have gw : ∀ w : Nat, w ≠ 15 → w ≠ 16 → w ≠ 22 → r_gp fr 280 w = fr 280 w := fun w a b d => r_gp_w a b d
  have gv : ∀ C : Nat, r_voltsOf_v (r_gp fr) (Int32.ofNat C) C = r_voltsOf_v fr (Int32.ofNat C) C := fun C => r_volts_c (gw _ (by decide) (by decide) (by decide)) (gw _ (by omega) (by omega) (by omega)) (gw _ (by omega) (by omega) (by omega)) (gw _ (by omega) (by omega) (by omega)) (gw _ (by omega) (by omega) (by omega))
  have gp : ∀ C : Nat, r_partOf_v (r_gp fr) (Int32.ofNat C) C = r_partOf_v fr (Int32.ofNat C) C := fun C => by
    unfold r_partOf_v
    rw [gw _ (by omega) (by omega) (by omega), gw _ (by omega) (by omega) (by omega)]
  have g2 : (r_gp fr 280 2).toInt = n := by rw [gw 2 (by decide) (by decide) (by decide)]; exact hn2
  obtain ⟨q0, q1, q2, q3⟩ := c2_four (fc := fc) (fr := r_gp fr) hn1 g2 hn16 (fun C hC => by rw [gv]; exact (hc C hC).1) (fun C hC => by rw [gw _ (by omega) (by omega) (by omega)]; exact (hc C hC).2.1) (by rw [gw 5 (by decide) (by decide) (by decide)]; exact e9) (fun k hk => by rw [gw _ (by omega) (by omega) (by omega)]; exact hs k hk)
  have f1 : ∀ p : Nat, p ≠ 192 → c2_faultsOfCells_m fc p = fc p := fun p hp => c2_faultsOfCells_fr hp
  have lv := c2_live_c (f := fc) (f' := c2_faultsOfCells_m fc) (by rw [f1 _ (by decide)]) (f1 _ (by decide))
  have spc : c2_partSpread_v (c2_faultsOfCells_m fc) = c2_partSpread_v fc := c2_spread_c (f1 _ (by decide)) (fun C => f1 _ (by omega))
  have ac := c2_actual_eq e7 hk hw
  have od := c2_ordered_eq (fc := fc) (fr := fr) e7
  have hj2 : c2_leakBit_j2_0 (c2_faultsOfCells_m fc) (c2_faultsOfPack_j59_0 (c2_faultsOfCells_m fc)) = r_goFaults_j18_0 fr := by
    unfold c2_leakBit_j2_0 c2_faultsOfPack_j59_0 r_goFaults_j18_0
    rw [f1 184 (by decide), f1 190 (by decide), s9, s10, l5, t2_les]
    by_cases q : (fr 280 43).toInt < (fr 280 44).toInt
    · rw [if_pos q, if_neg (by omega), if_pos q]
    · rw [if_neg q, if_pos c0, if_neg q]
  have g15 : r_gp fr 280 15 = r_goFaults_j18_0 fr := by
    unfold r_gp
    rw [fl_row_self, upd_ne (by decide), upd_ne (by decide), upd_self]
  have g16 : r_gp fr 280 16 = r_goFaults_j53_0 fr := by
    unfold r_gp
    rw [fl_row_self, upd_ne (by decide), upd_self]
  have g22 : r_gp fr 280 22 = fr 280 22 + (1 : Int32) := by
    unfold r_gp
    rw [fl_row_self, upd_self]
  have le3 : (r_goFaults_j18_0 fr).toInt ≤ 3 := by
    unfold r_goFaults_j18_0
    rw [t2_les]
    split
    · rw [t2_min_i]; omega
    · omega
  have p6 : decide ((r_goFaults_j18_0 fr).toInt = (3 : Int32).toInt) = decide (¬ (r_gp fr 280 15).toInt < (3 : Int32).toInt) := by
    rw [g15]
    exact decide_eq_decide.mpr ⟨fun q => by omega, fun q => by omega⟩
  have p7 : decide ((fr 280 51).toInt < (c2_partSpread_v fc).toInt) = decide ((r_gp fr 280 51).toInt < (r_spreadOf_v (r_gp fr)).toInt) := by
    have m1 : (-1 : Int32).toInt = -1 := by decide +kernel
    rw [gw 51 (by decide) (by decide) (by decide), c2_spread_eq (fr := r_gp fr) hn1 g2 (fun C hC => by rw [gp]; exact (hc C hC).2.2)]
    by_cases e : n = 0
    · have z : r_spreadOf_v (r_gp fr) = 0 := by
        unfold r_spreadOf_v r_spreadOf_j45_0
        rw [if_pos (by omega)]
      rw [if_pos e, z]
      exact decide_eq_decide.mpr ⟨fun q => by omega, fun q => by omega⟩
    · rw [if_neg e]
  have ordg : r_ordered_v (fl_row fr 280 (upd (fr 280) 15 (r_goFaults_j18_0 fr))) = r_ordered_v fr ∧ r_actual_v (fl_row fr 280 (upd (fr 280) 15 (r_goFaults_j18_0 fr))) = r_actual_v fr := by
    have l := r_live_c (f := fr) (f' := fl_row fr 280 (upd (fr 280) 15 (r_goFaults_j18_0 fr))) (by rw [fl_row_self, upd_ne (by decide)]) (fun k hk => by rw [fl_row_self, upd_ne (by omega)])
    exact ⟨l.2.2, l.1⟩
  have p8 : (decide (¬ (r_actual_v fr).toInt = (r_ordered_v fr).toInt) && decide (¬ (fc 190 6).toInt = 0)) = decide (¬ (r_gp fr 280 16).toInt < (2 : Int32).toInt) := by
    rw [g16]
    unfold r_goFaults_j53_0
    rw [ordg.1, ordg.2]
    by_cases d : (r_actual_v fr).toInt = (r_ordered_v fr).toInt
    · rw [if_pos d]
      have df : decide (¬ (r_actual_v fr).toInt = (r_ordered_v fr).toInt) = false := decide_eq_false (fun q => q d)
      rw [df, Bool.false_and]
      exact (decide_eq_false (fun q => q (by omega))).symm
    · rw [if_neg d, decide_eq_true d, Bool.true_and, t2_les]
      have a : (fr 280 16 + (1 : Int32)).toInt = (fr 280 16).toInt + 1 := by rw [at_add32] <;> omega
      refine decide_eq_decide.mpr ?_
      rw [t2_min_i]
      omega
  intro k hk11
  have bso : t2_bt so k = (slow && decide (k = 5)) := by
    rw [hso]
    have := t2_bt_if (P := slow = true) (c := (32 : Int32)) (i := 5) (by decide +kernel) hk11
    rw [this]
    cases slow <;> rfl
  have fin := c2_fcv (fc := fc) (n := n) (by omega) q0 q1 q2 q3 ⟨k, hk11⟩
  rw [t2_bt_or, t2_bt_or, bso, fin, c2_fp_bits hk11, r_a91_bt 11 (Nat.le_refl 11) k hk11, decide_eq_true hk11, Bool.true_and, r_isSo_b (slow := slow) (by unfold r_gp; rw [fl_row_ne (by decide)]; exact hsl) k hk11]
  rw [lv.1, lv.2.2, spc, hj2, f1 181 (by decide), f1 184 (by decide), f1 190 (by decide), ac, od, p8, s17, p7, p6, s2, s4, s20, s28, s29, e7, e11, l4, gw 36 (by decide) (by decide) (by decide), gw 8 (by decide) (by decide) (by decide), gw 3 (by decide) (by decide) (by decide), gw 38 (by decide) (by decide) (by decide), gw 54 (by decide) (by decide) (by decide), gw 62 (by decide) (by decide) (by decide), gw 63 (by decide) (by decide) (by decide), g22]
  rfl
end C2FLO

end

/-! 94.15.lat.lean.txt -/
section
/-! ===== block 0: (7) of a second: the loop ===== -/
section C0LAT
variable {fc fr f g F G A B : t2_F} {C n k : Nat} {c x y z : Int32}
theorem c0_badd_13 {t : Int32} {p : Nat} (h14 : p ≠ 14) (h13 : p ≠ 13) : c0_badd_m A t x z p = A p := c0_badd_fr h14 h13
/-- class and reference behind k numbers -/
def c0_LK (g : t2_F) (A B : t2_F) (a b : Int32) (y : Int32) (Z : Int32) (k : Nat) : Prop := A 10 3 = B 280 6 ∧ (∀ j : Nat, j < 11 → A 11 j = B 280 (23 + j)) ∧ c0_Bk A B ∧ a = b ∧ B 280 7 = y ∧ (∀ j : Nat, j < 4 → B 280 (311 + j) = if j < k ∧ t2_bt Z j = true then r_soBy_v g (Int32.ofNat j) else g 280 (311 + j))
theorem c0_LK_step {X Z a b : Int32} (hk : k < 11) (hX : t2_bt X k = t2_bt Z k) (h : c0_LK g A B a b y Z k) (hs : r_soBy_v B (Int32.ofNat k) = r_soBy_v g (Int32.ofNat k)) : c0_LK g (c0_latch_b5_m A X y a k) (r_goFaults_b123_m B Z b k) (c0_latch_b5_v A X y a k) (r_goFaults_b123_v B Z b k) y Z (k + 1) := by
  obtain ⟨h6, h11, hb, hab, hy, hc⟩ := h
  have ek : (Int32.ofNat k).toInt = k := at_ofN (by omega)
  have c4 : (4 : Int32).toInt = 4 := by decide +kernel
  have hb20 : 0 ≤ (B 280 20).toInt ∧ (B 280 20).toInt ≤ 24 := hb.2.2.2.1
  unfold c0_latch_b5_v c0_latch_b5_j22_0 c0_latch_b5_m r_goFaults_b123_v r_goFaults_b123_j134_0 r_goFaults_b123_m
  by_cases hz : t2_bt Z k = false
  · have x0 : (X &&& ((1 : Int32) <<< ((Int32.ofNat k) &&& 31))).toInt = 0 := (t2_anb (by omega)).mpr (hX.trans hz)
    have z0 : (r_has_v Z (Int32.ofNat k)).toInt = 0 := (t2_has0 (by omega)).mpr hz
    simp only [if_pos x0, if_pos z0]
    refine ⟨h6, h11, hb, hab, hy, fun j hj => ?_⟩
    rw [hc j hj]
    by_cases e : j = k
    · subst e
      rw [if_neg (fun q => Nat.lt_irrefl j q.1), if_neg (fun q => by rw [hz] at q; exact Bool.false_ne_true q.2)]
    · by_cases q : j < k ∧ t2_bt Z j = true
      · rw [if_pos q, if_pos ⟨by omega, q.2⟩]
      · rw [if_neg q, if_neg (fun r => q ⟨by omega, r.2⟩)]
  · have hz1 : t2_bt Z k = true := by
      cases e : t2_bt Z k with
      | true => rfl
      | false => exact absurd e hz
    have x0 : ¬ (X &&& ((1 : Int32) <<< ((Int32.ofNat k) &&& 31))).toInt = 0 := fun q => hz (hX.symm.trans ((t2_anb (by omega)).mp q))
    have z0 : ¬ (r_has_v Z (Int32.ofNat k)).toInt = 0 := fun q => hz ((t2_has0 (by omega)).mp q)
    simp only [if_neg x0, if_neg z0, h6, hs]
    have culp : ∀ (W : Nat → Int32), (∀ j : Nat, j < 4 → W (311 + j) = if j = k then r_soBy_v g (Int32.ofNat j) else B 280 (311 + j)) → ∀ j : Nat, j < 4 → W (311 + j) = if j < k + 1 ∧ t2_bt Z j = true then r_soBy_v g (Int32.ofNat j) else g 280 (311 + j) := by
      intro W hW j hj
      rw [hW j hj]
      by_cases e : j = k
      · subst e
        rw [if_pos rfl, if_pos ⟨Nat.lt_succ_self j, hz1⟩]
      · rw [if_neg e, hc j hj]
        by_cases q : j < k ∧ t2_bt Z j = true
        · rw [if_pos q, if_pos ⟨by omega, q.2⟩]
        · rw [if_neg q, if_neg (fun r => q ⟨by omega, r.2⟩)]
    by_cases hl : t2_bt (B 280 6) k = false
    · -- latched now
      have l0 : (B 280 6 &&& ((1 : Int32) <<< ((Int32.ofNat k) &&& 31))).toInt = 0 := (t2_anb (by omega)).mpr hl
      have l1 : (r_has_v (B 280 6) (Int32.ofNat k)).toInt = 0 := (t2_has0 (by omega)).mpr hl
      simp only [if_pos l0, if_pos l1]
      have fin : ∀ M : t2_F, (∀ w : Nat, w ≠ 6 → w ≠ 23 + k → (w < 311 ∨ 315 ≤ w) → M 280 w = B 280 w) → M 280 6 = B 280 6 ||| ((1 : Int32) <<< ((Int32.ofNat k) &&& 31)) → M 280 (23 + k) = B 280 7 → (∀ j : Nat, j < 4 → M 280 (311 + j) = if j = k then r_soBy_v g (Int32.ofNat j) else B 280 (311 + j)) →
          c0_LK g (c0_badd_m (fl_row (fl_row A 11 (upd (A 11) k y)) 10 (upd (A 10) 3 (B 280 6 ||| ((1 : Int32) <<< ((Int32.ofNat k) &&& 31))))) y (Int32.ofNat k) (0 : Int32)) (r_writeDown_m M (Int32.ofNat k)) (a + (1 : Int32)) (b + (1 : Int32)) y Z (k + 1) := by
        intro M m1 m2 m3 m4
        have mb : 0 ≤ (M 280 20).toInt ∧ (M 280 20).toInt ≤ 24 := by rw [m1 20 (by decide) (by omega) (by decide)]; exact hb20
        have wd : ∀ w : Nat, w ≠ 20 → (w < 167 ∨ 217 ≤ w) → r_writeDown_m M (Int32.ofNat k) 280 w = M 280 w := fun w a1 a2 => r_writeDown_w mb ⟨a1, a2⟩
        have m7 : M 280 7 = y := by rw [m1 7 (by decide) (by omega) (by decide)]; exact hy
        refine ⟨?_, fun j hj => ?_, ?_, by rw [hab], ?_, ?_⟩
        · rw [c0_badd_13 (by decide) (by decide), fl_row_self, upd_self, wd 6 (by decide) (by decide), m2]
        · rw [c0_badd_13 (by decide) (by decide), fl_row_ne (by decide), fl_row_self, wd (23 + j) (by omega) (by omega)]
          by_cases e : j = k
          · subst e
            rw [upd_self, m3, hy]
          · rw [upd_ne e, m1 (23 + j) (by omega) (by omega) (by omega)]
            exact h11 j hj
        · refine c0_bk_add (hb.congr ?_ ?_ (fun w hw => m1 w (by omega) (by omega) (by omega))) m7
          · rw [fl_row_ne (by decide), fl_row_ne (by decide)]
          · rw [fl_row_ne (by decide), fl_row_ne (by decide)]
        · rw [wd 7 (by decide) (by decide), m7]
        · exact culp (fun w => r_writeDown_m M (Int32.ofNat k) 280 w) (fun j hj => by
            show r_writeDown_m M (Int32.ofNat k) 280 (311 + j) = _
            rw [wd (311 + j) (by omega) (by omega), m4 j hj])
      by_cases h4 : (Int32.ofNat k).toInt < (4 : Int32).toInt
      · simp only [if_pos h4]
        refine fin _ (fun w a1 a2 a3 => ?_) ?_ ?_ (fun j hj => ?_)
        · rw [fl_row_self, upd_ne a1, upd_ne a2, upd_ne (by omega)]
        · rw [fl_row_self, upd_self]
        · rw [fl_row_self, upd_ne (by omega), upd_self]
        · rw [fl_row_self, upd_ne (by omega), upd_ne (by omega)]
          by_cases e : j = k
          · subst e
            rw [upd_self, if_pos rfl]
          · rw [upd_ne (by omega), if_neg e]
      · simp only [if_neg h4]
        refine fin _ (fun w a1 a2 a3 => ?_) ?_ ?_ (fun j hj => ?_)
        · rw [fl_row_self, upd_ne a1, upd_ne a2]
        · rw [fl_row_self, upd_self]
        · rw [fl_row_self, upd_ne (by omega), upd_self]
        · rw [fl_row_self, upd_ne (by omega), upd_ne (by omega), if_neg (by omega)]
    · have l0 : ¬ (B 280 6 &&& ((1 : Int32) <<< ((Int32.ofNat k) &&& 31))).toInt = 0 := fun q => hl ((t2_anb (by omega)).mp q)
      have l1 : ¬ (r_has_v (B 280 6) (Int32.ofNat k)).toInt = 0 := fun q => hl ((t2_has0 (by omega)).mp q)
      simp only [if_neg l0, if_neg l1]
      have fin : ∀ M : t2_F, (∀ w : Nat, w ≠ 23 + k → (w < 311 ∨ 315 ≤ w) → M 280 w = B 280 w) → M 280 (23 + k) = B 280 7 → (∀ j : Nat, j < 4 → M 280 (311 + j) = if j = k then r_soBy_v g (Int32.ofNat j) else B 280 (311 + j)) →
          c0_LK g (fl_row A 11 (upd (A 11) k y)) M a b y Z (k + 1) := by
        intro M m1 m3 m4
        refine ⟨?_, fun j hj => ?_, ?_, hab, ?_, ?_⟩
        · rw [fl_row_ne (by decide), m1 6 (by omega) (by decide)]
          exact h6
        · rw [fl_row_self]
          by_cases e : j = k
          · subst e
            rw [upd_self, m3, hy]
          · rw [upd_ne e, m1 (23 + j) (by omega) (by omega)]
            exact h11 j hj
        · exact hb.congr (fl_row_ne (by decide)) (fl_row_ne (by decide)) (fun w hw => m1 w (by omega) (by omega))
        · rw [m1 7 (by omega) (by decide)]
          exact hy
        · exact culp (fun w => M 280 w) m4
      by_cases h4 : (Int32.ofNat k).toInt < (4 : Int32).toInt
      · simp only [if_pos h4, ite_self]
        refine fin _ (fun w a2 a3 => ?_) ?_ (fun j hj => ?_)
        · rw [fl_row_self, upd_ne a2, upd_ne (by omega)]
        · rw [fl_row_self, upd_self]
        · rw [fl_row_self, upd_ne (by omega)]
          by_cases e : j = k
          · subst e
            rw [upd_self, if_pos rfl]
          · rw [upd_ne (by omega), if_neg e]
      · simp only [if_neg h4, ite_self]
        refine fin _ (fun w a2 a3 => ?_) ?_ (fun j hj => ?_)
        · rw [fl_row_self, upd_ne a2]
        · rw [fl_row_self, upd_self]
        · rw [fl_row_self, upd_ne (by omega), if_neg (by omega)]
/-- (7) -/
theorem c0_faults_eq {so : Int32} {slow : Bool} (h : c0_R7 fc fr n) (hso : so = if slow = true then (32 : Int32) else (0 : Int32)) (hsl : fr 277 4 = if slow = true then 1 else 0) :
    (c0_latch_v (c0_faultsOfPack_m (c0_faultsOfCells_m fc)) ((so ||| c0_faultsOfCells_v fc) ||| c0_faultsOfPack_v (c0_faultsOfCells_m fc)) (fc 1 6) = r_goFaults_v fr) ∧
    ∀ F : t2_F, F = c0_latch_m (c0_faultsOfPack_m (c0_faultsOfCells_m fc)) ((so ||| c0_faultsOfCells_v fc) ||| c0_faultsOfPack_v (c0_faultsOfCells_m fc)) (fc 1 6) →
      (F 10 3 = r_goFaults_m fr 280 6 ∧ F 10 4 = r_goFaults_m fr 280 22 ∧ F 10 5 = r_goFaults_m fr 280 15 ∧ ((F 10 6).toInt = min (r_goFaults_m fr 280 16).toInt 1 ∧ 0 ≤ (r_goFaults_m fr 280 16).toInt ∧ (r_goFaults_m fr 280 16).toInt ≤ 2)) ∧ (∀ j : Nat, j < 11 → F 11 j = r_goFaults_m fr 280 (23 + j)) ∧ (∀ j : Nat, j < 4 → F 12 j = r_goFaults_m fr 280 (311 + j)) ∧ c0_Bk F (r_goFaults_m fr) ∧ r_goFaults_m fr 280 3 = (if (F 10 3).toInt = 0 then fc 1 7 else (0 : Int32)) := by
  have bits := c0_bits h hso hsl
  obtain ⟨⟨hn1, hn2, hn16⟩, ⟨e6, e7, e9, e11⟩, hs, ⟨hk, hw⟩, hc, ⟨l3, l4, l5, ⟨l6, l61, l62⟩⟩, hwh, hcu, hbk, hsp⟩ := h
  have c1 : (1 : Int32).toInt = 1 := by decide +kernel
  have c2 : (2 : Int32).toInt = 2 := by decide +kernel
  have c0 : (0 : Int32).toInt = 0 := rfl
  have hb20 : 0 ≤ (fr 280 20).toInt ∧ (fr 280 20).toInt ≤ 24 := hbk.2.2.2.1
  have f1 : ∀ p : Nat, p ≠ 12 → c0_faultsOfCells_m fc p = fc p := fun p hp => c0_faultsOfCells_fr hp
  have f2 : ∀ p : Nat, p ≠ 10 → c0_faultsOfPack_m (c0_faultsOfCells_m fc) p = c0_faultsOfCells_m fc p := fun p hp => c0_faultsOfPack_fr hp
  obtain ⟨m4, m5, m6, mo⟩ := c0_fp_m (f := c0_faultsOfCells_m fc)
  have gw : ∀ w : Nat, w ≠ 15 → w ≠ 16 → w ≠ 22 → r_gp fr 280 w = fr 280 w := fun w a b d => r_gp_w a b d
  have gB : ∀ k : Nat, k ≤ 11 → ∀ w : Nat, w ≠ 6 → w ≠ 20 → (w < 23 ∨ 34 ≤ w) → (w < 167 ∨ 217 ≤ w) → (w < 311 ∨ 315 ≤ w) → w ≠ 15 → w ≠ 16 → w ≠ 22 → r_goFaults_f123 fr k 280 w = fr 280 w := fun k hk w a1 a2 a3 a4 a5 a6 a7 a8 => r_goFaults_f123_w hb20 hk ⟨a1, a2, a3, a4, a5, a6, a7, a8⟩
  have B0 : r_goFaults_f123 fr 0 = r_gp fr := rfl
  generalize hX : (so ||| c0_faultsOfCells_v fc) ||| c0_faultsOfPack_v (c0_faultsOfCells_m fc) = X at bits
  generalize hf2 : c0_faultsOfPack_m (c0_faultsOfCells_m fc) = f2m at f2 m4 m5 m6 mo
  have loop : ∀ k : Nat, k ≤ 11 → c0_LK (r_gp fr) (c0_latch_f5 f2m X (fc 1 6) k) (r_goFaults_f123 fr k) (c0_latch_a5_0 f2m X (fc 1 6) k) (r_goFaults_a123_0 fr k) (fc 1 6) (r_goFaults_a91 fr 11) k := by
    intro k
    induction k with
    | zero =>
      intro _
      show c0_LK (r_gp fr) f2m (r_gp fr) (0 : Int32) (0 : Int32) (fc 1 6) (r_goFaults_a91 fr 11) 0
      refine ⟨?_, fun j hj => ?_, ?_, rfl, ?_, fun j hj => ?_⟩
      · rw [mo 3 (by decide) (by decide) (by decide), f1 10 (by decide), gw 6 (by decide) (by decide) (by decide)]
        exact l3
      · rw [f2 11 (by decide), f1 11 (by decide), gw (23 + j) (by omega) (by omega) (by omega)]
        exact hwh j hj
      · exact hbk.congr (by rw [f2 13 (by decide), f1 13 (by decide)]) (by rw [f2 14 (by decide), f1 14 (by decide)]) (fun w hw => gw w (by omega) (by omega) (by omega))
      · rw [gw 7 (by decide) (by decide) (by decide), e6]
      · rw [if_neg (fun q => Nat.not_lt_zero j q.1)]
    | succ k ih =>
      intro hk11
      have hs' : r_soBy_v (r_goFaults_f123 fr k) (Int32.ofNat k) = r_soBy_v (r_gp fr) (Int32.ofNat k) := r_soBy_c (fun w hw => by
        rw [gB k (by omega) w (by omega) (by omega) (by omega) (by omega) (by omega) (by omega) (by omega) (by omega), gw w (by omega) (by omega) (by omega)])
      exact c0_LK_step (by omega) (bits k (by omega)) (ih (by omega)) hs'
  obtain ⟨q6, q11, qb, qab, qy, qc⟩ := loop 11 (Nat.le_refl 11)
  refine ⟨qab, fun F hF => ?_⟩
  have hF2 : F = c0_latch_f5 f2m X (fc 1 6) 11 := hF
  have Gw : ∀ w : Nat, w ≠ 3 → r_goFaults_m fr 280 w = r_goFaults_f123 fr 11 280 w := fun w hw => by
    unfold r_goFaults_m
    rw [fl_row_self, upd_ne hw]
  have G3 : r_goFaults_m fr 280 3 = r_goFaults_j227_0 fr := by
    unfold r_goFaults_m
    rw [fl_row_self, upd_self]
  have g15 : r_goFaults_f123 fr 11 280 15 = r_goFaults_j18_0 fr ∧ r_goFaults_f123 fr 11 280 16 = r_goFaults_j53_0 fr ∧ r_goFaults_f123 fr 11 280 22 = fr 280 22 + (1 : Int32) := by
    have st : ∀ w : Nat, (w = 15 ∨ w = 16 ∨ w = 22) → ∀ k : Nat, k ≤ 11 → r_goFaults_f123 fr k 280 w = r_gp fr 280 w := by
      intro w hw k
      induction k with
      | zero => intro _; rfl
      | succ k ih =>
        intro hk
        exact (r_goFaults_b123_w (a0 := (r_goFaults_l123 fr k).2) (by omega) (r_goFaults_ib hb20 k) (by omega)).trans (ih (by omega))
    refine ⟨?_, ?_, ?_⟩
    · rw [st 15 (by omega) 11 (Nat.le_refl 11)]
      unfold r_gp
      rw [fl_row_self, upd_ne (by decide), upd_ne (by decide), upd_self]
    · rw [st 16 (by omega) 11 (Nat.le_refl 11)]
      unfold r_gp
      rw [fl_row_self, upd_ne (by decide), upd_self]
    · rw [st 22 (by omega) 11 (Nat.le_refl 11)]
      unfold r_gp
      rw [fl_row_self, upd_self]
  -- the words of the watch that the loop leaves
  have A10 : ∀ k : Nat, ∀ j : Nat, j ≠ 3 → c0_latch_f5 f2m X (fc 1 6) k 10 j = f2m 10 j := by
    intro k
    induction k with
    | zero => intro j _; rfl
    | succ k ih =>
      intro j hj
      show c0_latch_b5_m (c0_latch_f5 f2m X (fc 1 6) k) X (fc 1 6) (c0_latch_a5_0 f2m X (fc 1 6) k) k 10 j = _
      unfold c0_latch_b5_m
      split
      · exact ih j hj
      · split
        · rw [c0_badd_13 (by decide) (by decide), fl_row_self, upd_ne hj]
          exact ih j hj
        · rw [fl_row_ne (by decide)]
          exact ih j hj
  have A12 : c0_latch_f5 f2m X (fc 1 6) 11 12 = c0_faultsOfCells_m fc 12 := by
    rw [c0_latch_f5_fr (fun j hj => by decide) (fun j hj => by decide) (fun j hj => by decide) (fun j hj => by decide), f2 12 (by decide)]
  subst hF2
  have s9 : fc 4 9 = fr 280 43 := hs 9 (by omega)
  have s10 : fc 4 10 = fr 280 44 := hs 10 (by omega)
  have ac := c0_actual_eq e7 hk hw
  have od := c0_ordered_eq (fc := fc) (fr := fr) e7
  have lv := c0_live_c (f := fc) (f' := c0_faultsOfCells_m fc) (by rw [f1 _ (by decide)]) (f1 _ (by decide))
  have ordg := r_live_c (f := fr) (f' := fl_row fr 280 (upd (fr 280) 15 (r_goFaults_j18_0 fr))) (by rw [fl_row_self, upd_ne (by decide)]) (fun k hk => by rw [fl_row_self, upd_ne (by omega)])
  refine ⟨⟨?_, ?_, ?_, ?_⟩, fun j hj => ?_, fun j hj => ?_, ?_, ?_⟩
  · rw [Gw 6 (by decide)]; exact q6
  · rw [A10 11 4 (by decide), m4, f1 10 (by decide), l4, Gw 22 (by decide), g15.2.2]
  · rw [A10 11 5 (by decide), m5, Gw 15 (by decide), g15.1]
    unfold c0_leakBit_j2_0 c0_faultsOfPack_j59_0 r_goFaults_j18_0
    rw [f1 4 (by decide), f1 10 (by decide), s9, s10, l5, t2_les]
    by_cases q : (fr 280 43).toInt < (fr 280 44).toInt
    · rw [if_pos q, if_neg (by omega), if_pos q]
    · rw [if_neg q, if_pos c0, if_neg q]
  · rw [A10 11 6 (by decide), m6, Gw 16 (by decide), g15.2.1]
    unfold r_goFaults_j53_0
    rw [lv.1, lv.2.2, ac, od, ordg.1, ordg.2.2]
    by_cases d : (r_actual_v fr).toInt = (r_ordered_v fr).toInt
    · rw [if_pos d, if_pos d]
      omega
    · have a : (fr 280 16 + (1 : Int32)).toInt = (fr 280 16).toInt + 1 := by rw [at_add32] <;> omega
      rw [if_neg d, if_neg d, t2_les, t2_min_i]
      omega
  · rw [Gw (23 + j) (by omega)]
    exact q11 j hj
  · rw [Gw (311 + j) (by omega), A12, qc j hj]
    have gv : ∀ C : Nat, r_voltsOf_v (r_gp fr) (Int32.ofNat C) C = r_voltsOf_v fr (Int32.ofNat C) C := fun C => r_volts_c (gw _ (by decide) (by decide) (by decide)) (gw _ (by omega) (by omega) (by omega)) (gw _ (by omega) (by omega) (by omega)) (gw _ (by omega) (by omega) (by omega)) (gw _ (by omega) (by omega) (by omega))
    have g2 : (r_gp fr 280 2).toInt = n := by rw [gw 2 (by decide) (by decide) (by decide)]; exact hn2
    obtain ⟨z0, z1, z2, z3⟩ := c0_four (fc := fc) (fr := r_gp fr) hn1 g2 hn16 (fun C hC => by rw [gv]; exact (hc C hC).1) (fun C hC => by rw [gw _ (by omega) (by omega) (by omega)]; exact (hc C hC).2.1) (by rw [gw 5 (by decide) (by decide) (by decide)]; exact e9) (fun k hk => by rw [gw _ (by omega) (by omega) (by omega)]; exact hs k hk)
    obtain ⟨u0, u1, u2, u3⟩ := c0_fcm (fc := fc) (n := n) (by omega) z0 z1 z2 z3
    have bt := r_a91_bt (fr := fr) 11 (Nat.le_refl 11) j (by omega)
    rw [decide_eq_true (show j < 11 by omega), Bool.true_and, r_isSo_b (slow := slow) (by unfold r_gp; rw [fl_row_ne (by decide)]; exact hsl) j (by omega)] at bt
    rw [bt, gw (311 + j) (by omega) (by omega) (by omega)]
    have s2 : fc 4 2 = fr 280 36 := hs 2 (by omega)
    have m1 : (-1 : Int32).toInt = -1 := by decide +kernel
    rcases (show j = 0 ∨ j = 1 ∨ j = 2 ∨ j = 3 by omega) with h | h | h | h <;> subst h
    · rw [u0, hcu 0 (by decide)]
      show _ = if 0 < 11 ∧ _ then r_soBy_v (r_gp fr) (0 : Int32) else _
      by_cases q : (r_soBy_v (r_gp fr) (0 : Int32)).toInt = (-1 : Int32).toInt
      · rw [if_pos q]; simp [q, t2_cb, t2_pk]
      · rw [if_neg q]
        rw [m1] at q
        simp [q, t2_cb, t2_pk]
    · rw [u1, hcu 1 (by decide)]
      show _ = if 1 < 11 ∧ _ then r_soBy_v (r_gp fr) (1 : Int32) else _
      by_cases q : (r_soBy_v (r_gp fr) (1 : Int32)).toInt = (-1 : Int32).toInt
      · rw [if_pos q]; simp [q, t2_cb, t2_pk]
      · rw [if_neg q]
        rw [m1] at q
        simp [q, t2_cb, t2_pk]
    · rw [u2, hcu 2 (by decide), s2, e11, ← gw 36 (by decide) (by decide) (by decide), ← gw 8 (by decide) (by decide) (by decide)]
      show _ = if 2 < 11 ∧ _ then r_soBy_v (r_gp fr) (2 : Int32) else _
      by_cases q : (r_soBy_v (r_gp fr) (2 : Int32)).toInt = (-1 : Int32).toInt
      · rw [if_pos q]; simp [q, t2_cb, t2_pk]
      · rw [if_neg q]
        rw [m1] at q
        simp [q, t2_cb, t2_pk]
    · rw [u3, hcu 3 (by decide)]
      show _ = if 3 < 11 ∧ _ then r_soBy_v (r_gp fr) (3 : Int32) else _
      by_cases q : (r_soBy_v (r_gp fr) (3 : Int32)).toInt = (-1 : Int32).toInt
      · rw [if_pos q]; simp [q, t2_cb, t2_pk]
      · rw [if_neg q]
        rw [m1] at q
        simp [q, t2_cb, t2_pk]
  · exact qb.congr rfl rfl (fun w hw => Gw w (by omega))
  · rw [G3]
    unfold r_goFaults_j227_0
    rw [q6]
    by_cases q : (r_goFaults_f123 fr 11 280 6).toInt = 0
    · rw [if_pos q, if_pos q, gB 11 (Nat.le_refl 11) 3 (by decide) (by decide) (by decide) (by decide) (by decide) (by decide) (by decide) (by decide), e7]
    · rw [if_neg q, if_neg q]
end C0LAT

/-! ===== block 2: (7) of a second: the loop ===== -/
section C2LAT
variable {fc fr f g F G A B : t2_F} {C n k : Nat} {c x y z : Int32}
theorem c2_badd_13 {t : Int32} {p : Nat} (h14 : p ≠ 194) (h13 : p ≠ 193) : c2_badd_m A t x z p = A p := c2_badd_fr h14 h13
def c2_LK (g : t2_F) (A B : t2_F) (a b : Int32) (y : Int32) (Z : Int32) (k : Nat) : Prop := A 190 3 = B 280 6 ∧ (∀ j : Nat, j < 11 → A 191 j = B 280 (23 + j)) ∧ c2_Bk A B ∧ a = b ∧ B 280 7 = y ∧ (∀ j : Nat, j < 4 → B 280 (311 + j) = if j < k ∧ t2_bt Z j = true then r_soBy_v g (Int32.ofNat j) else g 280 (311 + j))
theorem c2_LK_step {X Z a b : Int32} (hk : k < 11) (hX : t2_bt X k = t2_bt Z k) (h : c2_LK g A B a b y Z k) (hs : r_soBy_v B (Int32.ofNat k) = r_soBy_v g (Int32.ofNat k)) : c2_LK g (c2_latch_b5_m A X y a k) (r_goFaults_b123_m B Z b k) (c2_latch_b5_v A X y a k) (r_goFaults_b123_v B Z b k) y Z (k + 1) := by
  obtain ⟨h6, h11, hb, hab, hy, hc⟩ := h
  have ek : (Int32.ofNat k).toInt = k := at_ofN (by omega)
  have c4 : (4 : Int32).toInt = 4 := by decide +kernel
  have hb20 : 0 ≤ (B 280 20).toInt ∧ (B 280 20).toInt ≤ 24 := hb.2.2.2.1
  unfold c2_latch_b5_v c2_latch_b5_j22_0 c2_latch_b5_m r_goFaults_b123_v r_goFaults_b123_j134_0 r_goFaults_b123_m
  by_cases hz : t2_bt Z k = false
  · have x0 : (X &&& ((1 : Int32) <<< ((Int32.ofNat k) &&& 31))).toInt = 0 := (t2_anb (by omega)).mpr (hX.trans hz)
    have z0 : (r_has_v Z (Int32.ofNat k)).toInt = 0 := (t2_has0 (by omega)).mpr hz
    simp only [if_pos x0, if_pos z0]
    refine ⟨h6, h11, hb, hab, hy, fun j hj => ?_⟩
    rw [hc j hj]
    by_cases e : j = k
    · subst e
      rw [if_neg (fun q => Nat.lt_irrefl j q.1), if_neg (fun q => by rw [hz] at q; exact Bool.false_ne_true q.2)]
    · by_cases q : j < k ∧ t2_bt Z j = true
      · rw [if_pos q, if_pos ⟨by omega, q.2⟩]
      · rw [if_neg q, if_neg (fun r => q ⟨by omega, r.2⟩)]
  · have hz1 : t2_bt Z k = true := by
      cases e : t2_bt Z k with
      | true => rfl
      | false => exact absurd e hz
    have x0 : ¬ (X &&& ((1 : Int32) <<< ((Int32.ofNat k) &&& 31))).toInt = 0 := fun q => hz (hX.symm.trans ((t2_anb (by omega)).mp q))
    have z0 : ¬ (r_has_v Z (Int32.ofNat k)).toInt = 0 := fun q => hz ((t2_has0 (by omega)).mp q)
    simp only [if_neg x0, if_neg z0, h6, hs]
    have culp : ∀ (W : Nat → Int32), (∀ j : Nat, j < 4 → W (311 + j) = if j = k then r_soBy_v g (Int32.ofNat j) else B 280 (311 + j)) → ∀ j : Nat, j < 4 → W (311 + j) = if j < k + 1 ∧ t2_bt Z j = true then r_soBy_v g (Int32.ofNat j) else g 280 (311 + j) := by
      intro W hW j hj
      rw [hW j hj]
      by_cases e : j = k
      · subst e
        rw [if_pos rfl, if_pos ⟨Nat.lt_succ_self j, hz1⟩]
      · rw [if_neg e, hc j hj]
        by_cases q : j < k ∧ t2_bt Z j = true
        · rw [if_pos q, if_pos ⟨by omega, q.2⟩]
        · rw [if_neg q, if_neg (fun r => q ⟨by omega, r.2⟩)]
    by_cases hl : t2_bt (B 280 6) k = false
    · -- latched now
      have l0 : (B 280 6 &&& ((1 : Int32) <<< ((Int32.ofNat k) &&& 31))).toInt = 0 := (t2_anb (by omega)).mpr hl
      have l1 : (r_has_v (B 280 6) (Int32.ofNat k)).toInt = 0 := (t2_has0 (by omega)).mpr hl
      simp only [if_pos l0, if_pos l1]
      have fin : ∀ M : t2_F, (∀ w : Nat, w ≠ 6 → w ≠ 23 + k → (w < 311 ∨ 315 ≤ w) → M 280 w = B 280 w) → M 280 6 = B 280 6 ||| ((1 : Int32) <<< ((Int32.ofNat k) &&& 31)) → M 280 (23 + k) = B 280 7 → (∀ j : Nat, j < 4 → M 280 (311 + j) = if j = k then r_soBy_v g (Int32.ofNat j) else B 280 (311 + j)) →
          c2_LK g (c2_badd_m (fl_row (fl_row A 191 (upd (A 191) k y)) 190 (upd (A 190) 3 (B 280 6 ||| ((1 : Int32) <<< ((Int32.ofNat k) &&& 31))))) y (Int32.ofNat k) (0 : Int32)) (r_writeDown_m M (Int32.ofNat k)) (a + (1 : Int32)) (b + (1 : Int32)) y Z (k + 1) := by
        intro M m1 m2 m3 m4
        have mb : 0 ≤ (M 280 20).toInt ∧ (M 280 20).toInt ≤ 24 := by rw [m1 20 (by decide) (by omega) (by decide)]; exact hb20
        have wd : ∀ w : Nat, w ≠ 20 → (w < 167 ∨ 217 ≤ w) → r_writeDown_m M (Int32.ofNat k) 280 w = M 280 w := fun w a1 a2 => r_writeDown_w mb ⟨a1, a2⟩
        have m7 : M 280 7 = y := by rw [m1 7 (by decide) (by omega) (by decide)]; exact hy
        refine ⟨?_, fun j hj => ?_, ?_, by rw [hab], ?_, ?_⟩
        · rw [c2_badd_13 (by decide) (by decide), fl_row_self, upd_self, wd 6 (by decide) (by decide), m2]
        · rw [c2_badd_13 (by decide) (by decide), fl_row_ne (by decide), fl_row_self, wd (23 + j) (by omega) (by omega)]
          by_cases e : j = k
          · subst e
            rw [upd_self, m3, hy]
          · rw [upd_ne e, m1 (23 + j) (by omega) (by omega) (by omega)]
            exact h11 j hj
        · refine c2_bk_add (hb.congr ?_ ?_ (fun w hw => m1 w (by omega) (by omega) (by omega))) m7
          · rw [fl_row_ne (by decide), fl_row_ne (by decide)]
          · rw [fl_row_ne (by decide), fl_row_ne (by decide)]
        · rw [wd 7 (by decide) (by decide), m7]
        · exact culp (fun w => r_writeDown_m M (Int32.ofNat k) 280 w) (fun j hj => by
            show r_writeDown_m M (Int32.ofNat k) 280 (311 + j) = _
            rw [wd (311 + j) (by omega) (by omega), m4 j hj])
      by_cases h4 : (Int32.ofNat k).toInt < (4 : Int32).toInt
      · simp only [if_pos h4]
        refine fin _ (fun w a1 a2 a3 => ?_) ?_ ?_ (fun j hj => ?_)
        · rw [fl_row_self, upd_ne a1, upd_ne a2, upd_ne (by omega)]
        · rw [fl_row_self, upd_self]
        · rw [fl_row_self, upd_ne (by omega), upd_self]
        · rw [fl_row_self, upd_ne (by omega), upd_ne (by omega)]
          by_cases e : j = k
          · subst e
            rw [upd_self, if_pos rfl]
          · rw [upd_ne (by omega), if_neg e]
      · simp only [if_neg h4]
        refine fin _ (fun w a1 a2 a3 => ?_) ?_ ?_ (fun j hj => ?_)
        · rw [fl_row_self, upd_ne a1, upd_ne a2]
        · rw [fl_row_self, upd_self]
        · rw [fl_row_self, upd_ne (by omega), upd_self]
        · rw [fl_row_self, upd_ne (by omega), upd_ne (by omega), if_neg (by omega)]
    · have l0 : ¬ (B 280 6 &&& ((1 : Int32) <<< ((Int32.ofNat k) &&& 31))).toInt = 0 := fun q => hl ((t2_anb (by omega)).mp q)
      have l1 : ¬ (r_has_v (B 280 6) (Int32.ofNat k)).toInt = 0 := fun q => hl ((t2_has0 (by omega)).mp q)
      simp only [if_neg l0, if_neg l1]
      have fin : ∀ M : t2_F, (∀ w : Nat, w ≠ 23 + k → (w < 311 ∨ 315 ≤ w) → M 280 w = B 280 w) → M 280 (23 + k) = B 280 7 → (∀ j : Nat, j < 4 → M 280 (311 + j) = if j = k then r_soBy_v g (Int32.ofNat j) else B 280 (311 + j)) →
          c2_LK g (fl_row A 191 (upd (A 191) k y)) M a b y Z (k + 1) := by
        intro M m1 m3 m4
        refine ⟨?_, fun j hj => ?_, ?_, hab, ?_, ?_⟩
        · rw [fl_row_ne (by decide), m1 6 (by omega) (by decide)]
          exact h6
        · rw [fl_row_self]
          by_cases e : j = k
          · subst e
            rw [upd_self, m3, hy]
          · rw [upd_ne e, m1 (23 + j) (by omega) (by omega)]
            exact h11 j hj
        · exact hb.congr (fl_row_ne (by decide)) (fl_row_ne (by decide)) (fun w hw => m1 w (by omega) (by omega))
        · rw [m1 7 (by omega) (by decide)]
          exact hy
        · exact culp (fun w => M 280 w) m4
      by_cases h4 : (Int32.ofNat k).toInt < (4 : Int32).toInt
      · simp only [if_pos h4, ite_self]
        refine fin _ (fun w a2 a3 => ?_) ?_ (fun j hj => ?_)
        · rw [fl_row_self, upd_ne a2, upd_ne (by omega)]
        · rw [fl_row_self, upd_self]
        · rw [fl_row_self, upd_ne (by omega)]
          by_cases e : j = k
          · subst e
            rw [upd_self, if_pos rfl]
          · rw [upd_ne (by omega), if_neg e]
      · simp only [if_neg h4, ite_self]
        refine fin _ (fun w a2 a3 => ?_) ?_ (fun j hj => ?_)
        · rw [fl_row_self, upd_ne a2]
        · rw [fl_row_self, upd_self]
        · rw [fl_row_self, upd_ne (by omega), if_neg (by omega)]
theorem c2_faults_eq {so : Int32} {slow : Bool} (h : c2_R7 fc fr n) (hso : so = if slow = true then (32 : Int32) else (0 : Int32)) (hsl : fr 277 4 = if slow = true then 1 else 0) :
    (c2_latch_v (c2_faultsOfPack_m (c2_faultsOfCells_m fc)) ((so ||| c2_faultsOfCells_v fc) ||| c2_faultsOfPack_v (c2_faultsOfCells_m fc)) (fc 181 6) = r_goFaults_v fr) ∧
    ∀ F : t2_F, F = c2_latch_m (c2_faultsOfPack_m (c2_faultsOfCells_m fc)) ((so ||| c2_faultsOfCells_v fc) ||| c2_faultsOfPack_v (c2_faultsOfCells_m fc)) (fc 181 6) →
      (F 190 3 = r_goFaults_m fr 280 6 ∧ F 190 4 = r_goFaults_m fr 280 22 ∧ F 190 5 = r_goFaults_m fr 280 15 ∧ ((F 190 6).toInt = min (r_goFaults_m fr 280 16).toInt 1 ∧ 0 ≤ (r_goFaults_m fr 280 16).toInt ∧ (r_goFaults_m fr 280 16).toInt ≤ 2)) ∧ (∀ j : Nat, j < 11 → F 191 j = r_goFaults_m fr 280 (23 + j)) ∧ (∀ j : Nat, j < 4 → F 192 j = r_goFaults_m fr 280 (311 + j)) ∧ c2_Bk F (r_goFaults_m fr) ∧ r_goFaults_m fr 280 3 = (if (F 190 3).toInt = 0 then fc 181 7 else (0 : Int32)) := by
  have bits := c2_bits h hso hsl
  obtain ⟨⟨hn1, hn2, hn16⟩, ⟨e6, e7, e9, e11⟩, hs, ⟨hk, hw⟩, hc, ⟨l3, l4, l5, ⟨l6, l61, l62⟩⟩, hwh, hcu, hbk, hsp⟩ := h
  have c1 : (1 : Int32).toInt = 1 := by decide +kernel
  have c2 : (2 : Int32).toInt = 2 := by decide +kernel
  have c0 : (0 : Int32).toInt = 0 := rfl
  have hb20 : 0 ≤ (fr 280 20).toInt ∧ (fr 280 20).toInt ≤ 24 := hbk.2.2.2.1
  have f1 : ∀ p : Nat, p ≠ 192 → c2_faultsOfCells_m fc p = fc p := fun p hp => c2_faultsOfCells_fr hp
  have f2 : ∀ p : Nat, p ≠ 190 → c2_faultsOfPack_m (c2_faultsOfCells_m fc) p = c2_faultsOfCells_m fc p := fun p hp => c2_faultsOfPack_fr hp
  obtain ⟨m4, m5, m6, mo⟩ := c2_fp_m (f := c2_faultsOfCells_m fc)
  have gw : ∀ w : Nat, w ≠ 15 → w ≠ 16 → w ≠ 22 → r_gp fr 280 w = fr 280 w := fun w a b d => r_gp_w a b d
  have gB : ∀ k : Nat, k ≤ 11 → ∀ w : Nat, w ≠ 6 → w ≠ 20 → (w < 23 ∨ 34 ≤ w) → (w < 167 ∨ 217 ≤ w) → (w < 311 ∨ 315 ≤ w) → w ≠ 15 → w ≠ 16 → w ≠ 22 → r_goFaults_f123 fr k 280 w = fr 280 w := fun k hk w a1 a2 a3 a4 a5 a6 a7 a8 => r_goFaults_f123_w hb20 hk ⟨a1, a2, a3, a4, a5, a6, a7, a8⟩
  have B0 : r_goFaults_f123 fr 0 = r_gp fr := rfl
  generalize hX : (so ||| c2_faultsOfCells_v fc) ||| c2_faultsOfPack_v (c2_faultsOfCells_m fc) = X at bits
  generalize hf2 : c2_faultsOfPack_m (c2_faultsOfCells_m fc) = f2m at f2 m4 m5 m6 mo
  have loop : ∀ k : Nat, k ≤ 11 → c2_LK (r_gp fr) (c2_latch_f5 f2m X (fc 181 6) k) (r_goFaults_f123 fr k) (c2_latch_a5_0 f2m X (fc 181 6) k) (r_goFaults_a123_0 fr k) (fc 181 6) (r_goFaults_a91 fr 11) k := by
    intro k
    induction k with
    | zero =>
      intro _
      show c2_LK (r_gp fr) f2m (r_gp fr) (0 : Int32) (0 : Int32) (fc 181 6) (r_goFaults_a91 fr 11) 0
      refine ⟨?_, fun j hj => ?_, ?_, rfl, ?_, fun j hj => ?_⟩
      · rw [mo 3 (by decide) (by decide) (by decide), f1 190 (by decide), gw 6 (by decide) (by decide) (by decide)]
        exact l3
      · rw [f2 191 (by decide), f1 191 (by decide), gw (23 + j) (by omega) (by omega) (by omega)]
        exact hwh j hj
      · exact hbk.congr (by rw [f2 193 (by decide), f1 193 (by decide)]) (by rw [f2 194 (by decide), f1 194 (by decide)]) (fun w hw => gw w (by omega) (by omega) (by omega))
      · rw [gw 7 (by decide) (by decide) (by decide), e6]
      · rw [if_neg (fun q => Nat.not_lt_zero j q.1)]
    | succ k ih =>
      intro hk11
      have hs' : r_soBy_v (r_goFaults_f123 fr k) (Int32.ofNat k) = r_soBy_v (r_gp fr) (Int32.ofNat k) := r_soBy_c (fun w hw => by
        rw [gB k (by omega) w (by omega) (by omega) (by omega) (by omega) (by omega) (by omega) (by omega) (by omega), gw w (by omega) (by omega) (by omega)])
      exact c2_LK_step (by omega) (bits k (by omega)) (ih (by omega)) hs'
  obtain ⟨q6, q11, qb, qab, qy, qc⟩ := loop 11 (Nat.le_refl 11)
  refine ⟨qab, fun F hF => ?_⟩
  have hF2 : F = c2_latch_f5 f2m X (fc 181 6) 11 := hF
  have Gw : ∀ w : Nat, w ≠ 3 → r_goFaults_m fr 280 w = r_goFaults_f123 fr 11 280 w := fun w hw => by
    unfold r_goFaults_m
    rw [fl_row_self, upd_ne hw]
  have G3 : r_goFaults_m fr 280 3 = r_goFaults_j227_0 fr := by
    unfold r_goFaults_m
    rw [fl_row_self, upd_self]
  have g15 : r_goFaults_f123 fr 11 280 15 = r_goFaults_j18_0 fr ∧ r_goFaults_f123 fr 11 280 16 = r_goFaults_j53_0 fr ∧ r_goFaults_f123 fr 11 280 22 = fr 280 22 + (1 : Int32) := by
    have st : ∀ w : Nat, (w = 15 ∨ w = 16 ∨ w = 22) → ∀ k : Nat, k ≤ 11 → r_goFaults_f123 fr k 280 w = r_gp fr 280 w := by
      intro w hw k
      induction k with
      | zero => intro _; rfl
      | succ k ih =>
        intro hk
        exact (r_goFaults_b123_w (a0 := (r_goFaults_l123 fr k).2) (by omega) (r_goFaults_ib hb20 k) (by omega)).trans (ih (by omega))
    refine ⟨?_, ?_, ?_⟩
    · rw [st 15 (by omega) 11 (Nat.le_refl 11)]
      unfold r_gp
      rw [fl_row_self, upd_ne (by decide), upd_ne (by decide), upd_self]
    · rw [st 16 (by omega) 11 (Nat.le_refl 11)]
      unfold r_gp
      rw [fl_row_self, upd_ne (by decide), upd_self]
    · rw [st 22 (by omega) 11 (Nat.le_refl 11)]
      unfold r_gp
      rw [fl_row_self, upd_self]
  -- the words of the watch that the loop leaves
  have A10 : ∀ k : Nat, ∀ j : Nat, j ≠ 3 → c2_latch_f5 f2m X (fc 181 6) k 190 j = f2m 190 j := by
    intro k
    induction k with
    | zero => intro j _; rfl
    | succ k ih =>
      intro j hj
      show c2_latch_b5_m (c2_latch_f5 f2m X (fc 181 6) k) X (fc 181 6) (c2_latch_a5_0 f2m X (fc 181 6) k) k 190 j = _
      unfold c2_latch_b5_m
      split
      · exact ih j hj
      · split
        · rw [c2_badd_13 (by decide) (by decide), fl_row_self, upd_ne hj]
          exact ih j hj
        · rw [fl_row_ne (by decide)]
          exact ih j hj
  have A12 : c2_latch_f5 f2m X (fc 181 6) 11 192 = c2_faultsOfCells_m fc 192 := by
    rw [c2_latch_f5_fr (fun j hj => by decide) (fun j hj => by decide) (fun j hj => by decide) (fun j hj => by decide), f2 192 (by decide)]
  subst hF2
  have s9 : fc 184 9 = fr 280 43 := hs 9 (by omega)
  have s10 : fc 184 10 = fr 280 44 := hs 10 (by omega)
  have ac := c2_actual_eq e7 hk hw
  have od := c2_ordered_eq (fc := fc) (fr := fr) e7
  have lv := c2_live_c (f := fc) (f' := c2_faultsOfCells_m fc) (by rw [f1 _ (by decide)]) (f1 _ (by decide))
  have ordg := r_live_c (f := fr) (f' := fl_row fr 280 (upd (fr 280) 15 (r_goFaults_j18_0 fr))) (by rw [fl_row_self, upd_ne (by decide)]) (fun k hk => by rw [fl_row_self, upd_ne (by omega)])
  refine ⟨⟨?_, ?_, ?_, ?_⟩, fun j hj => ?_, fun j hj => ?_, ?_, ?_⟩
  · rw [Gw 6 (by decide)]; exact q6
  · rw [A10 11 4 (by decide), m4, f1 190 (by decide), l4, Gw 22 (by decide), g15.2.2]
  · rw [A10 11 5 (by decide), m5, Gw 15 (by decide), g15.1]
    unfold c2_leakBit_j2_0 c2_faultsOfPack_j59_0 r_goFaults_j18_0
    rw [f1 184 (by decide), f1 190 (by decide), s9, s10, l5, t2_les]
    by_cases q : (fr 280 43).toInt < (fr 280 44).toInt
    · rw [if_pos q, if_neg (by omega), if_pos q]
    · rw [if_neg q, if_pos c0, if_neg q]
  · rw [A10 11 6 (by decide), m6, Gw 16 (by decide), g15.2.1]
    unfold r_goFaults_j53_0
    rw [lv.1, lv.2.2, ac, od, ordg.1, ordg.2.2]
    by_cases d : (r_actual_v fr).toInt = (r_ordered_v fr).toInt
    · rw [if_pos d, if_pos d]
      omega
    · have a : (fr 280 16 + (1 : Int32)).toInt = (fr 280 16).toInt + 1 := by rw [at_add32] <;> omega
      rw [if_neg d, if_neg d, t2_les, t2_min_i]
      omega
  · rw [Gw (23 + j) (by omega)]
    exact q11 j hj
  · rw [Gw (311 + j) (by omega), A12, qc j hj]
    have gv : ∀ C : Nat, r_voltsOf_v (r_gp fr) (Int32.ofNat C) C = r_voltsOf_v fr (Int32.ofNat C) C := fun C => r_volts_c (gw _ (by decide) (by decide) (by decide)) (gw _ (by omega) (by omega) (by omega)) (gw _ (by omega) (by omega) (by omega)) (gw _ (by omega) (by omega) (by omega)) (gw _ (by omega) (by omega) (by omega))
    have g2 : (r_gp fr 280 2).toInt = n := by rw [gw 2 (by decide) (by decide) (by decide)]; exact hn2
    obtain ⟨z0, z1, z2, z3⟩ := c2_four (fc := fc) (fr := r_gp fr) hn1 g2 hn16 (fun C hC => by rw [gv]; exact (hc C hC).1) (fun C hC => by rw [gw _ (by omega) (by omega) (by omega)]; exact (hc C hC).2.1) (by rw [gw 5 (by decide) (by decide) (by decide)]; exact e9) (fun k hk => by rw [gw _ (by omega) (by omega) (by omega)]; exact hs k hk)
    obtain ⟨u0, u1, u2, u3⟩ := c2_fcm (fc := fc) (n := n) (by omega) z0 z1 z2 z3
    have bt := r_a91_bt (fr := fr) 11 (Nat.le_refl 11) j (by omega)
    rw [decide_eq_true (show j < 11 by omega), Bool.true_and, r_isSo_b (slow := slow) (by unfold r_gp; rw [fl_row_ne (by decide)]; exact hsl) j (by omega)] at bt
    rw [bt, gw (311 + j) (by omega) (by omega) (by omega)]
    have s2 : fc 184 2 = fr 280 36 := hs 2 (by omega)
    have m1 : (-1 : Int32).toInt = -1 := by decide +kernel
    rcases (show j = 0 ∨ j = 1 ∨ j = 2 ∨ j = 3 by omega) with h | h | h | h <;> subst h
    · rw [u0, hcu 0 (by decide)]
      show _ = if 0 < 11 ∧ _ then r_soBy_v (r_gp fr) (0 : Int32) else _
      by_cases q : (r_soBy_v (r_gp fr) (0 : Int32)).toInt = (-1 : Int32).toInt
      · rw [if_pos q]; simp [q, t2_cb, t2_pk]
      · rw [if_neg q]
        rw [m1] at q
        simp [q, t2_cb, t2_pk]
    · rw [u1, hcu 1 (by decide)]
      show _ = if 1 < 11 ∧ _ then r_soBy_v (r_gp fr) (1 : Int32) else _
      by_cases q : (r_soBy_v (r_gp fr) (1 : Int32)).toInt = (-1 : Int32).toInt
      · rw [if_pos q]; simp [q, t2_cb, t2_pk]
      · rw [if_neg q]
        rw [m1] at q
        simp [q, t2_cb, t2_pk]
    · rw [u2, hcu 2 (by decide), s2, e11, ← gw 36 (by decide) (by decide) (by decide), ← gw 8 (by decide) (by decide) (by decide)]
      show _ = if 2 < 11 ∧ _ then r_soBy_v (r_gp fr) (2 : Int32) else _
      by_cases q : (r_soBy_v (r_gp fr) (2 : Int32)).toInt = (-1 : Int32).toInt
      · rw [if_pos q]; simp [q, t2_cb, t2_pk]
      · rw [if_neg q]
        rw [m1] at q
        simp [q, t2_cb, t2_pk]
    · rw [u3, hcu 3 (by decide)]
      show _ = if 3 < 11 ∧ _ then r_soBy_v (r_gp fr) (3 : Int32) else _
      by_cases q : (r_soBy_v (r_gp fr) (3 : Int32)).toInt = (-1 : Int32).toInt
      · rw [if_pos q]; simp [q, t2_cb, t2_pk]
      · rw [if_neg q]
        rw [m1] at q
        simp [q, t2_cb, t2_pk]
  · exact qb.congr rfl rfl (fun w hw => Gw w (by omega))
  · rw [G3]
    unfold r_goFaults_j227_0
    rw [q6]
    by_cases q : (r_goFaults_f123 fr 11 280 6).toInt = 0
    · rw [if_pos q, if_pos q, gB 11 (Nat.le_refl 11) 3 (by decide) (by decide) (by decide) (by decide) (by decide) (by decide) (by decide) (by decide), e7]
    · rw [if_neg q, if_neg q]
end C2LAT

end

/-! 94.16.alt.lean.txt -/
section
/-! ===== turns: the reference's ===== -/
theorem t2_ab {p q : Int32} (hp : 0 ≤ p.toInt ∧ p.toInt ≤ 1000) (hq : 0 ≤ q.toInt ∧ q.toInt ≤ 1000) : (t2_abs_v (p - q)).toInt = (if q.toInt ≤ p.toInt then p.toInt - q.toInt else q.toInt - p.toInt) ∧ r_size_v (q - p) = t2_abs_v (p - q) := by
  have e : (p - q).toInt = p.toInt - q.toInt := at_sub32 (by omega) (by omega)
  have e' : (q - p).toInt = q.toInt - p.toInt := at_sub32 (by omega) (by omega)
  have e2 : (-(p - q)).toInt = -(p.toInt - q.toInt) := by
    rw [Int32.toInt_neg, e]
    exact Int.bmod_eq_of_le (by omega) (by omega)
  have e3 : (-(q - p)).toInt = -(q.toInt - p.toInt) := by
    rw [Int32.toInt_neg, e']
    exact Int.bmod_eq_of_le (by omega) (by omega)
  have a : (t2_abs_v (p - q)).toInt = (if q.toInt ≤ p.toInt then p.toInt - q.toInt else q.toInt - p.toInt) := by
    unfold t2_abs_v
    split <;> split <;> omega
  refine ⟨a, Int32.toInt.inj ?_⟩
  rw [a]
  unfold r_size_v
  split <;> split <;> omega
def r_tI (f : t2_F) (C i : Nat) : Int := (f 280 (444 + 61 * C + (17 + i))).toInt
/-- the turns of a cell go to and fro -/
def r_alt (f : t2_F) (C : Nat) : Prop := (1 ≤ (f 280 (444 + 61 * C + 10)).toInt ∧ (f 280 (444 + 61 * C + 10)).toInt ≤ 32) ∧ r_tv f C ∧ (∀ i : Nat, (i : Int) + 1 < (f 280 (444 + 61 * C + 10)).toInt → r_tI f C i ≠ r_tI f C (i + 1)) ∧ ∀ i : Nat, (i : Int) + 2 < (f 280 (444 + 61 * C + 10)).toInt → (r_tI f C i < r_tI f C (i + 1) ↔ ¬ r_tI f C (i + 1) < r_tI f C (i + 2))
theorem r_alt.congr {f f' : t2_F} {C : Nat} (h : r_alt f C) (e : ∀ w : Nat, (w = 10 ∨ (17 ≤ w ∧ w < 49)) → f' 280 (444 + 61 * C + w) = f 280 (444 + 61 * C + w)) : r_alt f' C := by
  have et : ∀ i : Nat, i < 32 → r_tI f' C i = r_tI f C i := fun i hi => by unfold r_tI; rw [e (17 + i) (by omega)]
  obtain ⟨h1, h2, h3, h4⟩ := h
  unfold r_alt
  rw [e 10 (by omega)]
  refine ⟨h1, fun k hk => by rw [e (17 + k) (by omega)]; exact h2 k hk, fun i hi => ?_, fun i hi => ?_⟩
  · rw [et i (by omega), et (i + 1) (by omega)]
    exact h3 i hi
  · rw [et i (by omega), et (i + 1) (by omega), et (i + 2) (by omega)]
    exact h4 i hi
/-- a round of the reference's count, by words -/
theorem r_round_w {f g f' : t2_F} {c : Int32} {C n q : Nat} {v : Int32} (hn : (f 280 (444 + 61 * C + 10)).toInt = (n : Int)) (h4 : 4 ≤ n) (h32 : n ≤ 32) (hq : q < 12) (hg : g = fl_row f 280 (upd (f 280) (444 + 61 * C + (49 + q)) v)) (hf : f' = r_dropTurnN_m (r_dropTurnN_m g c C (n - 3)) c C (n - 3)) :
    f' 280 (444 + 61 * C + 10) = f 280 (444 + 61 * C + 10) - (1 : Int32) - (1 : Int32) ∧ (∀ j : Nat, j < n - 2 → f' 280 (444 + 61 * C + (17 + j)) = f 280 (444 + 61 * C + (17 + (if j = n - 3 then n - 1 else j)))) ∧ (∀ w : Nat, (w < 444 + 61 * C + 10 ∨ (444 + 61 * C + 10 < w ∧ w < 444 + 61 * C + 17) ∨ 444 + 61 * C + 49 ≤ w) → f' 280 w = g 280 w) := by
  have c1 : (1 : Int32).toInt = 1 := by decide +kernel
  have g10 : g 280 (444 + 61 * C + 10) = f 280 (444 + 61 * C + 10) := by rw [hg, fl_row_self, upd_ne (by omega)]
  have gt : ∀ j : Nat, j < 32 → g 280 (444 + 61 * C + (17 + j)) = f 280 (444 + 61 * C + (17 + j)) := fun j hj => by rw [hg, fl_row_self, upd_ne (by omega)]
  have t1 := r_dropTurnN_t (f := g) (c := c) (C := C) (X := n - 3)
  have i1 : (r_dropTurnN_m g c C (n - 3) 280 (444 + 61 * C + 10)).toInt = ((n - 1 : Nat) : Int) := by rw [t1, g10, at_sub32] <;> omega
  have t2 := r_dropTurnN_t (f := r_dropTurnN_m g c C (n - 3)) (c := c) (C := C) (X := n - 3)
  have a1 := r_dropTurnN_at (f := g) (c := c) (C := C) (X := n - 3) (n := n) (by rw [g10]; exact hn) (by omega) h32 (by omega)
  have a2 := r_dropTurnN_at (f := r_dropTurnN_m g c C (n - 3)) (c := c) (C := C) (X := n - 3) (n := n - 1) i1 (by omega) (by omega) (by omega)
  refine ⟨?_, fun j hj => ?_, fun w hw => ?_⟩
  · rw [hf, t2, t1, g10]
  · rw [hf, a2 j (by omega), if_neg (by omega)]
    by_cases e : j = n - 3
    · rw [if_pos (by omega), a1 (j + 1) (by omega), if_neg (by omega), if_pos (by omega), gt (j + 1 + 1) (by omega), if_pos e, show j + 1 + 1 = n - 1 by omega]
    · rw [if_neg (by omega), a1 j (by omega), if_neg (by omega), if_neg (by omega), gt j (by omega), if_neg e]
  · rw [hf, r_dropTurnN_w (by omega) (by omega) (by omega), r_dropTurnN_w (by rw [g10]; omega) (by omega) (by omega)]
theorem r_round_alt {f f' : t2_F} {C n : Nat} (h : r_alt f C) (hn : (f 280 (444 + 61 * C + 10)).toInt = (n : Int)) (h4 : 4 ≤ n) (h10 : f' 280 (444 + 61 * C + 10) = f 280 (444 + 61 * C + 10) - (1 : Int32) - (1 : Int32)) (ht : ∀ j : Nat, j < n - 2 → f' 280 (444 + 61 * C + (17 + j)) = f 280 (444 + 61 * C + (17 + (if j = n - 3 then n - 1 else j)))) (hv : r_tv f' C)
    (m1 : ¬ (t2_abs_v (f 280 (444 + 61 * C + (17 + (n - 3))) - f 280 (444 + 61 * C + (17 + (n - 4))))).toInt < (t2_abs_v (f 280 (444 + 61 * C + (17 + (n - 2))) - f 280 (444 + 61 * C + (17 + (n - 3))))).toInt) (m2 : ¬ (t2_abs_v (f 280 (444 + 61 * C + (17 + (n - 1))) - f 280 (444 + 61 * C + (17 + (n - 2))))).toInt < (t2_abs_v (f 280 (444 + 61 * C + (17 + (n - 2))) - f 280 (444 + 61 * C + (17 + (n - 3))))).toInt) : r_alt f' C := by
  have c1 : (1 : Int32).toInt = 1 := by decide +kernel
  obtain ⟨h1, h2, h3, h5⟩ := h
  have e10 : (f' 280 (444 + 61 * C + 10)).toInt = (n : Int) - 2 := by
    rw [h10, at_sub32] <;> rw [at_sub32] <;> omega
  have va := h2 (n - 4) (by omega)
  have vb := h2 (n - 3) (by omega)
  have vc := h2 (n - 2) (by omega)
  have vd := h2 (n - 1) (by omega)
  rw [(t2_ab vb va).1, (t2_ab vc vb).1] at m1
  rw [(t2_ab vd vc).1, (t2_ab vc vb).1] at m2
  have n1 := h3 (n - 4) (by omega)
  have n2 := h3 (n - 3) (by omega)
  have n3 := h3 (n - 2) (by omega)
  have o1 := h5 (n - 4) (by omega)
  have o2 := h5 (n - 3) (by omega)
  rw [show n - 4 + 1 = n - 3 by omega] at n1 o1
  rw [show n - 4 + 2 = n - 2 by omega] at o1
  rw [show n - 3 + 1 = n - 2 by omega] at n2 o2
  rw [show n - 3 + 2 = n - 1 by omega] at o2
  rw [show n - 2 + 1 = n - 1 by omega] at n3
  unfold r_tI at n1 n2 n3 o1 o2
  have dir : ((f 280 (444 + 61 * C + (17 + (n - 4)))).toInt < (f 280 (444 + 61 * C + (17 + (n - 1)))).toInt ↔ (f 280 (444 + 61 * C + (17 + (n - 4)))).toInt < (f 280 (444 + 61 * C + (17 + (n - 3)))).toInt) ∧ (f 280 (444 + 61 * C + (17 + (n - 4)))).toInt ≠ (f 280 (444 + 61 * C + (17 + (n - 1)))).toInt := by
    split at m1 <;> split at m1 <;> split at m2 <;> refine ⟨⟨fun q => ?_, fun q => ?_⟩, fun q => ?_⟩ <;> omega
  have et : ∀ j : Nat, j < n - 3 → r_tI f' C j = r_tI f C j := fun j hj => by unfold r_tI; rw [ht j (by omega), if_neg (by omega)]
  have el : r_tI f' C (n - 3) = r_tI f C (n - 1) := by unfold r_tI; rw [ht (n - 3) (by omega), if_pos rfl]
  refine ⟨by omega, hv, fun i hi => ?_, fun i hi => ?_⟩
  · by_cases e : i + 1 = n - 3
    · rw [e, el, et i (by omega), show i = n - 4 by omega]
      exact dir.2
    · rw [et i (by omega), et (i + 1) (by omega)]
      exact h3 i (by omega)
  · by_cases e : i + 2 = n - 3
    · rw [e, el, et i (by omega), et (i + 1) (by omega), show i + 1 = n - 4 by omega]
      have := h5 i (by omega)
      rw [show i + 1 = n - 4 by omega, show i + 2 = n - 3 by omega] at this
      rw [this]
      unfold r_tI
      constructor
      · intro q r
        exact q (dir.1.mp r)
      · intro q r
        exact q (dir.1.mpr r)
    · rw [et i (by omega), et (i + 1) (by omega), et (i + 2) (by omega)]
      exact h5 i (by omega)

end

/-! 94.17.cnt.lean.txt -/
section
/-! ===== block 0: turns: rounds alike ===== -/
section C0CNT
variable {fc fr f g F G : t2_F} {C n k : Nat} {c x y z : Int32}
/-- a cell's turns -/
def c0_TI (fc fr : t2_F) (C : Nat) : Prop := fc (19 + 4 * C) 2 = fr 280 (444 + 61 * C + 10) ∧ (∀ i : Nat, (i : Int) < (fr 280 (444 + 61 * C + 10)).toInt → fc (20 + 4 * C) i = fr 280 (444 + 61 * C + (17 + i))) ∧ (∀ k : Nat, k < 11 → fc (21 + 4 * C) k = fr 280 (444 + 61 * C + (49 + k))) ∧ r_alt fr C
theorem c0_way_e {j : Nat} (hx : x.toInt = (j : Int)) : c0_way_v f C x = t2_abs_v (f (20 + 4 * C) (j + 1) - f (20 + 4 * C) j) := by
  unfold c0_way_v c0_way_j17_0
  rw [hx, Int.toNat_natCast]
  rfl
theorem c0_round (h : c0_TI fc fr C) : (c0_cc_g0 fc C = none ∧ r_count_g2 fr c C = none) ∨ ∃ fc' fr' : t2_F, c0_cc_g0 fc C = some fc' ∧ r_count_g2 fr c C = some fr' ∧ c0_TI fc' fr' C := by
  obtain ⟨e2, et, ec, ha⟩ := h
  obtain ⟨h1, h2, h3, h5⟩ := id ha
  have c4 : (4 : Int32).toInt = 4 := by decide +kernel
  have c3 : (3 : Int32).toInt = 3 := by decide +kernel
  have c2 : (2 : Int32).toInt = 2 := by decide +kernel
  have c1 : (1 : Int32).toInt = 1 := by decide +kernel
  have c10 : (10 : Int32).toInt = 10 := by decide +kernel
  generalize hnn : (fr 280 (444 + 61 * C + 10)).toInt.toNat = n
  have en : (fr 280 (444 + 61 * C + 10)).toInt = (n : Int) := by omega
  unfold c0_cc_g0
  rw [e2, hnn]
  by_cases q4 : (fr 280 (444 + 61 * C + 10)).toInt < (4 : Int32).toInt
  · left
    unfold r_count_g2
    rw [if_pos q4, if_pos q4]
    exact ⟨rfl, rfl⟩
  · have n4 : 4 ≤ n := by omega
    have va := h2 (n - 4) (by omega)
    have vb := h2 (n - 3) (by omega)
    have vc := h2 (n - 2) (by omega)
    have vd := h2 (n - 1) (by omega)
    have w4 : c0_way_v fc C (fr 280 (444 + 61 * C + 10) - (4 : Int32)) = t2_abs_v (fr 280 (444 + 61 * C + (17 + (n - 3))) - fr 280 (444 + 61 * C + (17 + (n - 4)))) := by
      rw [c0_way_e (j := n - 4) (by rw [at_sub32] <;> omega), show n - 4 + 1 = n - 3 by omega, et (n - 3) (by omega), et (n - 4) (by omega)]
    have w3 : c0_way_v fc C (fr 280 (444 + 61 * C + 10) - (3 : Int32)) = t2_abs_v (fr 280 (444 + 61 * C + (17 + (n - 2))) - fr 280 (444 + 61 * C + (17 + (n - 3)))) := by
      rw [c0_way_e (j := n - 3) (by rw [at_sub32] <;> omega), show n - 3 + 1 = n - 2 by omega, et (n - 2) (by omega), et (n - 3) (by omega)]
    have w2 : c0_way_v fc C (fr 280 (444 + 61 * C + 10) - (2 : Int32)) = t2_abs_v (fr 280 (444 + 61 * C + (17 + (n - 1))) - fr 280 (444 + 61 * C + (17 + (n - 2)))) := by
      rw [c0_way_e (j := n - 2) (by rw [at_sub32] <;> omega), show n - 2 + 1 = n - 1 by omega, et (n - 1) (by omega), et (n - 2) (by omega)]
    have r4 := (t2_ab vb va).2
    have r3 := (t2_ab vc vb).2
    have r2 := (t2_ab vd vc).2
    have b3 := (t2_ab vc vb).1
    rw [w4, w3, w2, if_neg q4]
    have hr2 : r_count_g2 fr c C = (if (t2_abs_v (fr 280 (444 + 61 * C + (17 + (n - 3))) - fr 280 (444 + 61 * C + (17 + (n - 4))))).toInt < (t2_abs_v (fr 280 (444 + 61 * C + (17 + (n - 2))) - fr 280 (444 + 61 * C + (17 + (n - 3))))).toInt then none else (if (t2_abs_v (fr 280 (444 + 61 * C + (17 + (n - 1))) - fr 280 (444 + 61 * C + (17 + (n - 2))))).toInt < (t2_abs_v (fr 280 (444 + 61 * C + (17 + (n - 2))) - fr 280 (444 + 61 * C + (17 + (n - 3))))).toInt then none else some (r_dropTurnN_m (r_dropTurnN_m (fl_row fr 280 (upd (fr 280) (444 + 61 * C + (49 + ((t2_abs_v (fr 280 (444 + 61 * C + (17 + (n - 2))) - fr 280 (444 + 61 * C + (17 + (n - 3))))) / (100 : Int32)).toInt.toNat)) ((fr 280 (444 + 61 * C + (49 + ((t2_abs_v (fr 280 (444 + 61 * C + (17 + (n - 2))) - fr 280 (444 + 61 * C + (17 + (n - 3))))) / (100 : Int32)).toInt.toNat))) + (1 : Int32)))) c C (n - 3)) c C (n - 3)))) := by
      unfold r_count_g2
      rw [if_neg q4, hnn, r4, r3, r2]
    rw [hr2]
    generalize hM : t2_abs_v (fr 280 (444 + 61 * C + (17 + (n - 2))) - fr 280 (444 + 61 * C + (17 + (n - 3)))) = M at *
    by_cases m1 : (t2_abs_v (fr 280 (444 + 61 * C + (17 + (n - 3))) - fr 280 (444 + 61 * C + (17 + (n - 4))))).toInt < M.toInt
    · left
      rw [if_pos m1, if_pos m1]
      exact ⟨rfl, rfl⟩
    · by_cases m2 : (t2_abs_v (fr 280 (444 + 61 * C + (17 + (n - 1))) - fr 280 (444 + 61 * C + (17 + (n - 2))))).toInt < M.toInt
      · left
        rw [if_neg m1, if_pos m2, if_neg m1, if_pos m2]
        exact ⟨rfl, rfl⟩
      · right
        rw [if_neg m1, if_neg m2, if_neg m1, if_neg m2]
        refine ⟨_, _, rfl, rfl, ?_⟩
        have hM0 : 0 ≤ M.toInt ∧ M.toInt ≤ 1000 := by
          rw [b3]
          split <;> omega
        have c100 : (100 : Int32).toInt = 100 := by decide +kernel
        have hq : (M / (100 : Int32)).toInt = M.toInt / 100 := by rw [at_div32 hM0.1 (by omega), c100]
        have hmin : (t2_min_v (M / (100 : Int32)) (10 : Int32)) = M / (100 : Int32) := Int32.toInt.inj (by rw [t2_min_i]; omega)
        rw [hmin]
        generalize hQ : (M / (100 : Int32)).toInt.toNat = q
        have q11 : q < 11 := by omega
        obtain ⟨r10, rt, ro⟩ := r_round_w (c := c) (C := C) (n := n) (q := q) (v := fr 280 (444 + 61 * C + (49 + q)) + (1 : Int32)) en n4 (by omega) (by omega) rfl rfl
        have hv : r_tv (r_dropTurnN_m (r_dropTurnN_m (fl_row fr 280 (upd (fr 280) (444 + 61 * C + (49 + q)) (fr 280 (444 + 61 * C + (49 + q)) + (1 : Int32)))) c C (n - 3)) c C (n - 3)) C := by
          have gtv : r_tv (fl_row fr 280 (upd (fr 280) (444 + 61 * C + (49 + q)) (fr 280 (444 + 61 * C + (49 + q)) + (1 : Int32)))) C := fun k hk => by
            rw [fl_row_self, upd_ne (by omega)]
            exact h2 k hk
          have g10 : (fl_row fr 280 (upd (fr 280) (444 + 61 * C + (49 + q)) (fr 280 (444 + 61 * C + (49 + q)) + (1 : Int32)))) 280 (444 + 61 * C + 10) = fr 280 (444 + 61 * C + 10) := by rw [fl_row_self, upd_ne (by omega)]
          have t1 := r_dropTurnN_t (f := fl_row fr 280 (upd (fr 280) (444 + 61 * C + (49 + q)) (fr 280 (444 + 61 * C + (49 + q)) + (1 : Int32)))) (c := c) (C := C) (X := n - 3)
          have i1 : (r_dropTurnN_m (fl_row fr 280 (upd (fr 280) (444 + 61 * C + (49 + q)) (fr 280 (444 + 61 * C + (49 + q)) + (1 : Int32)))) c C (n - 3) 280 (444 + 61 * C + 10)).toInt = (n : Int) - 1 := by rw [t1, g10, at_sub32] <;> omega
          exact r_dropTurnN_tv (by omega) (by omega) (r_dropTurnN_tv (by rw [g10]; exact h1) (by omega) gtv)
        have alt' := r_round_alt ha en n4 r10 rt hv (by rw [hM]; exact m1) (by rw [hM]; exact m2)
        have e10' : ((fr 280 (444 + 61 * C + 10)) - (1 : Int32) - (1 : Int32)).toInt = (n : Int) - 2 := by
          rw [at_sub32] <;> rw [at_sub32] <;> omega
        refine ⟨?_, fun i hi => ?_, fun k hk => ?_, alt'⟩
        · rw [fl_row_self, upd_self, r10]
          apply Int32.toInt.inj
          rw [e10', at_sub32] <;> omega
        · rw [r10, e10'] at hi
          rw [fl_row_ne (by omega), fl_row_self, rt i (by omega)]
          by_cases e : i = n - 3
          · rw [if_pos e, e, upd_self]
            exact et (n - 1) (by omega)
          · rw [if_neg e, upd_ne e]
            exact et i (by omega)
        · rw [fl_row_ne (by omega), fl_row_ne (by omega), fl_row_self, ro _ (by omega), fl_row_self]
          by_cases e : k = q
          · rw [e, upd_self, upd_self, ec q q11]
          · rw [upd_ne e, upd_ne (by omega)]
            exact ec k hk
theorem c0_count_eq : ∀ (m : Nat) (fc fr : t2_F), c0_TI fc fr C → c0_TI (t2_wf (fun f => c0_cc_g0 f C) m fc) (t2_wf (fun f => r_count_g2 f c C) m fr) C := by
  intro m
  induction m with
  | zero => intro fc fr h; exact h
  | succ m ih =>
    intro fc fr h
    unfold t2_wf
    rcases c0_round (c := c) h with ⟨a, b⟩ | ⟨fc', fr', a, b, h'⟩
    · rw [a, b]
      exact h
    · rw [a, b]
      exact ih fc' fr' h'
end C0CNT

/-! ===== block 2: turns: rounds alike ===== -/
section C2CNT
variable {fc fr f g F G : t2_F} {C n k : Nat} {c x y z : Int32}
def c2_TI (fc fr : t2_F) (C : Nat) : Prop := fc (199 + 4 * C) 2 = fr 280 (444 + 61 * C + 10) ∧ (∀ i : Nat, (i : Int) < (fr 280 (444 + 61 * C + 10)).toInt → fc (200 + 4 * C) i = fr 280 (444 + 61 * C + (17 + i))) ∧ (∀ k : Nat, k < 11 → fc (201 + 4 * C) k = fr 280 (444 + 61 * C + (49 + k))) ∧ r_alt fr C
theorem c2_way_e {j : Nat} (hx : x.toInt = (j : Int)) : c2_way_v f C x = t2_abs_v (f (200 + 4 * C) (j + 1) - f (200 + 4 * C) j) := by
  unfold c2_way_v c2_way_j17_0
  rw [hx, Int.toNat_natCast]
  rfl
theorem c2_round (h : c2_TI fc fr C) : (c2_cc_g0 fc C = none ∧ r_count_g2 fr c C = none) ∨ ∃ fc' fr' : t2_F, c2_cc_g0 fc C = some fc' ∧ r_count_g2 fr c C = some fr' ∧ c2_TI fc' fr' C := by
  obtain ⟨e2, et, ec, ha⟩ := h
  obtain ⟨h1, h2, h3, h5⟩ := id ha
  have c4 : (4 : Int32).toInt = 4 := by decide +kernel
  have c3 : (3 : Int32).toInt = 3 := by decide +kernel
  have c2 : (2 : Int32).toInt = 2 := by decide +kernel
  have c1 : (1 : Int32).toInt = 1 := by decide +kernel
  have c10 : (10 : Int32).toInt = 10 := by decide +kernel
  generalize hnn : (fr 280 (444 + 61 * C + 10)).toInt.toNat = n
  have en : (fr 280 (444 + 61 * C + 10)).toInt = (n : Int) := by omega
  unfold c2_cc_g0
  rw [e2, hnn]
  by_cases q4 : (fr 280 (444 + 61 * C + 10)).toInt < (4 : Int32).toInt
  · left
    unfold r_count_g2
    rw [if_pos q4, if_pos q4]
    exact ⟨rfl, rfl⟩
  · have n4 : 4 ≤ n := by omega
    have va := h2 (n - 4) (by omega)
    have vb := h2 (n - 3) (by omega)
    have vc := h2 (n - 2) (by omega)
    have vd := h2 (n - 1) (by omega)
    have w4 : c2_way_v fc C (fr 280 (444 + 61 * C + 10) - (4 : Int32)) = t2_abs_v (fr 280 (444 + 61 * C + (17 + (n - 3))) - fr 280 (444 + 61 * C + (17 + (n - 4)))) := by
      rw [c2_way_e (j := n - 4) (by rw [at_sub32] <;> omega), show n - 4 + 1 = n - 3 by omega, et (n - 3) (by omega), et (n - 4) (by omega)]
    have w3 : c2_way_v fc C (fr 280 (444 + 61 * C + 10) - (3 : Int32)) = t2_abs_v (fr 280 (444 + 61 * C + (17 + (n - 2))) - fr 280 (444 + 61 * C + (17 + (n - 3)))) := by
      rw [c2_way_e (j := n - 3) (by rw [at_sub32] <;> omega), show n - 3 + 1 = n - 2 by omega, et (n - 2) (by omega), et (n - 3) (by omega)]
    have w2 : c2_way_v fc C (fr 280 (444 + 61 * C + 10) - (2 : Int32)) = t2_abs_v (fr 280 (444 + 61 * C + (17 + (n - 1))) - fr 280 (444 + 61 * C + (17 + (n - 2)))) := by
      rw [c2_way_e (j := n - 2) (by rw [at_sub32] <;> omega), show n - 2 + 1 = n - 1 by omega, et (n - 1) (by omega), et (n - 2) (by omega)]
    have r4 := (t2_ab vb va).2
    have r3 := (t2_ab vc vb).2
    have r2 := (t2_ab vd vc).2
    have b3 := (t2_ab vc vb).1
    rw [w4, w3, w2, if_neg q4]
    have hr2 : r_count_g2 fr c C = (if (t2_abs_v (fr 280 (444 + 61 * C + (17 + (n - 3))) - fr 280 (444 + 61 * C + (17 + (n - 4))))).toInt < (t2_abs_v (fr 280 (444 + 61 * C + (17 + (n - 2))) - fr 280 (444 + 61 * C + (17 + (n - 3))))).toInt then none else (if (t2_abs_v (fr 280 (444 + 61 * C + (17 + (n - 1))) - fr 280 (444 + 61 * C + (17 + (n - 2))))).toInt < (t2_abs_v (fr 280 (444 + 61 * C + (17 + (n - 2))) - fr 280 (444 + 61 * C + (17 + (n - 3))))).toInt then none else some (r_dropTurnN_m (r_dropTurnN_m (fl_row fr 280 (upd (fr 280) (444 + 61 * C + (49 + ((t2_abs_v (fr 280 (444 + 61 * C + (17 + (n - 2))) - fr 280 (444 + 61 * C + (17 + (n - 3))))) / (100 : Int32)).toInt.toNat)) ((fr 280 (444 + 61 * C + (49 + ((t2_abs_v (fr 280 (444 + 61 * C + (17 + (n - 2))) - fr 280 (444 + 61 * C + (17 + (n - 3))))) / (100 : Int32)).toInt.toNat))) + (1 : Int32)))) c C (n - 3)) c C (n - 3)))) := by
      unfold r_count_g2
      rw [if_neg q4, hnn, r4, r3, r2]
    rw [hr2]
    generalize hM : t2_abs_v (fr 280 (444 + 61 * C + (17 + (n - 2))) - fr 280 (444 + 61 * C + (17 + (n - 3)))) = M at *
    by_cases m1 : (t2_abs_v (fr 280 (444 + 61 * C + (17 + (n - 3))) - fr 280 (444 + 61 * C + (17 + (n - 4))))).toInt < M.toInt
    · left
      rw [if_pos m1, if_pos m1]
      exact ⟨rfl, rfl⟩
    · by_cases m2 : (t2_abs_v (fr 280 (444 + 61 * C + (17 + (n - 1))) - fr 280 (444 + 61 * C + (17 + (n - 2))))).toInt < M.toInt
      · left
        rw [if_neg m1, if_pos m2, if_neg m1, if_pos m2]
        exact ⟨rfl, rfl⟩
      · right
        rw [if_neg m1, if_neg m2, if_neg m1, if_neg m2]
        refine ⟨_, _, rfl, rfl, ?_⟩
        have hM0 : 0 ≤ M.toInt ∧ M.toInt ≤ 1000 := by
          rw [b3]
          split <;> omega
        have c100 : (100 : Int32).toInt = 100 := by decide +kernel
        have hq : (M / (100 : Int32)).toInt = M.toInt / 100 := by rw [at_div32 hM0.1 (by omega), c100]
        have hmin : (t2_min_v (M / (100 : Int32)) (10 : Int32)) = M / (100 : Int32) := Int32.toInt.inj (by rw [t2_min_i]; omega)
        rw [hmin]
        generalize hQ : (M / (100 : Int32)).toInt.toNat = q
        have q11 : q < 11 := by omega
        obtain ⟨r10, rt, ro⟩ := r_round_w (c := c) (C := C) (n := n) (q := q) (v := fr 280 (444 + 61 * C + (49 + q)) + (1 : Int32)) en n4 (by omega) (by omega) rfl rfl
        have hv : r_tv (r_dropTurnN_m (r_dropTurnN_m (fl_row fr 280 (upd (fr 280) (444 + 61 * C + (49 + q)) (fr 280 (444 + 61 * C + (49 + q)) + (1 : Int32)))) c C (n - 3)) c C (n - 3)) C := by
          have gtv : r_tv (fl_row fr 280 (upd (fr 280) (444 + 61 * C + (49 + q)) (fr 280 (444 + 61 * C + (49 + q)) + (1 : Int32)))) C := fun k hk => by
            rw [fl_row_self, upd_ne (by omega)]
            exact h2 k hk
          have g10 : (fl_row fr 280 (upd (fr 280) (444 + 61 * C + (49 + q)) (fr 280 (444 + 61 * C + (49 + q)) + (1 : Int32)))) 280 (444 + 61 * C + 10) = fr 280 (444 + 61 * C + 10) := by rw [fl_row_self, upd_ne (by omega)]
          have t1 := r_dropTurnN_t (f := fl_row fr 280 (upd (fr 280) (444 + 61 * C + (49 + q)) (fr 280 (444 + 61 * C + (49 + q)) + (1 : Int32)))) (c := c) (C := C) (X := n - 3)
          have i1 : (r_dropTurnN_m (fl_row fr 280 (upd (fr 280) (444 + 61 * C + (49 + q)) (fr 280 (444 + 61 * C + (49 + q)) + (1 : Int32)))) c C (n - 3) 280 (444 + 61 * C + 10)).toInt = (n : Int) - 1 := by rw [t1, g10, at_sub32] <;> omega
          exact r_dropTurnN_tv (by omega) (by omega) (r_dropTurnN_tv (by rw [g10]; exact h1) (by omega) gtv)
        have alt' := r_round_alt ha en n4 r10 rt hv (by rw [hM]; exact m1) (by rw [hM]; exact m2)
        have e10' : ((fr 280 (444 + 61 * C + 10)) - (1 : Int32) - (1 : Int32)).toInt = (n : Int) - 2 := by
          rw [at_sub32] <;> rw [at_sub32] <;> omega
        refine ⟨?_, fun i hi => ?_, fun k hk => ?_, alt'⟩
        · rw [fl_row_self, upd_self, r10]
          apply Int32.toInt.inj
          rw [e10', at_sub32] <;> omega
        · rw [r10, e10'] at hi
          rw [fl_row_ne (by omega), fl_row_self, rt i (by omega)]
          by_cases e : i = n - 3
          · rw [if_pos e, e, upd_self]
            exact et (n - 1) (by omega)
          · rw [if_neg e, upd_ne e]
            exact et i (by omega)
        · rw [fl_row_ne (by omega), fl_row_ne (by omega), fl_row_self, ro _ (by omega), fl_row_self]
          by_cases e : k = q
          · rw [e, upd_self, upd_self, ec q q11]
          · rw [upd_ne e, upd_ne (by omega)]
            exact ec k hk
theorem c2_count_eq : ∀ (m : Nat) (fc fr : t2_F), c2_TI fc fr C → c2_TI (t2_wf (fun f => c2_cc_g0 f C) m fc) (t2_wf (fun f => r_count_g2 f c C) m fr) C := by
  intro m
  induction m with
  | zero => intro fc fr h; exact h
  | succ m ih =>
    intro fc fr h
    unfold t2_wf
    rcases c2_round (c := c) h with ⟨a, b⟩ | ⟨fc', fr', a, b, h'⟩
    · rw [a, b]
      exact h
    · rw [a, b]
      exact ih fc' fr' h'
end C2CNT

end

/-! 94.18.alt2.lean.txt -/
section
/-! ===== turns: going on, turning back ===== -/
section RALT
variable {f f' : t2_F} {C n : Nat} {x : Int32}
theorem r_alt_on (h : r_alt f C) (hn : (f 280 (444 + 61 * C + 10)).toInt = (n : Int)) (h2 : 2 ≤ n) (h10 : f' 280 (444 + 61 * C + 10) = f 280 (444 + 61 * C + 10)) (ht : ∀ j : Nat, j < n → f' 280 (444 + 61 * C + (17 + j)) = if j = n - 1 then x else f 280 (444 + 61 * C + (17 + j))) (hv : r_tv f' C) (hx : x.toInt ≠ r_tI f C (n - 1)) (hd : r_tI f C (n - 2) < r_tI f C (n - 1) ↔ r_tI f C (n - 1) < x.toInt) : r_alt f' C := by
  obtain ⟨h1, h3, h4, h5⟩ := h
  have et : ∀ j : Nat, j < n - 1 → r_tI f' C j = r_tI f C j := fun j hj => by unfold r_tI; rw [ht j (by omega), if_neg (by omega)]
  have el : r_tI f' C (n - 1) = x.toInt := by unfold r_tI; rw [ht (n - 1) (by omega), if_pos rfl]
  have n1 := h4 (n - 2) (by omega)
  rw [show n - 2 + 1 = n - 1 by omega] at n1
  unfold r_alt
  rw [h10]
  refine ⟨h1, hv, fun i hi => ?_, fun i hi => ?_⟩
  · by_cases e : i + 1 = n - 1
    · rw [e, el, et i (by omega), show i = n - 2 by omega]
      omega
    · rw [et i (by omega), et (i + 1) (by omega)]
      exact h4 i hi
  · by_cases e : i + 2 = n - 1
    · rw [e, el, et i (by omega), et (i + 1) (by omega), show i + 1 = n - 2 by omega]
      have := h5 i hi
      rw [show i + 1 = n - 2 by omega, show i + 2 = n - 1 by omega] at this
      rw [this]
      constructor <;> intro q r <;> apply q <;> omega
    · rw [et i (by omega), et (i + 1) (by omega), et (i + 2) (by omega)]
      exact h5 i hi
theorem r_alt_add (h : r_alt f C) (hn : (f 280 (444 + 61 * C + 10)).toInt = (n : Int)) (h10 : (f' 280 (444 + 61 * C + 10)).toInt = (n : Int) + 1) (h32 : n < 32) (ht : ∀ j : Nat, j < n + 1 → f' 280 (444 + 61 * C + (17 + j)) = if j = n then x else f 280 (444 + 61 * C + (17 + j))) (hv : r_tv f' C) (hx : x.toInt ≠ r_tI f C (n - 1)) (hd : 2 ≤ n → ¬ (r_tI f C (n - 2) < r_tI f C (n - 1) ↔ r_tI f C (n - 1) < x.toInt)) : r_alt f' C := by
  obtain ⟨h1, h3, h4, h5⟩ := h
  have et : ∀ j : Nat, j < n → r_tI f' C j = r_tI f C j := fun j hj => by unfold r_tI; rw [ht j (by omega), if_neg (by omega)]
  have el : r_tI f' C n = x.toInt := by unfold r_tI; rw [ht n (by omega), if_pos rfl]
  refine ⟨by omega, hv, fun i hi => ?_, fun i hi => ?_⟩
  · by_cases e : i + 1 = n
    · rw [e, el, et i (by omega), show i = n - 1 by omega]
      exact fun q => hx q.symm
    · rw [et i (by omega), et (i + 1) (by omega)]
      exact h4 i (by omega)
  · by_cases e : i + 2 = n
    · rw [e, el, et i (by omega), et (i + 1) (by omega)]
      have := hd (by omega)
      rw [show n - 2 = i by omega, show n - 1 = i + 1 by omega] at this
      constructor
      · intro q r
        exact this ⟨fun _ => r, fun _ => q⟩
      · intro q
        apply Classical.byContradiction
        intro r
        exact this ⟨fun z => absurd z r, fun z => absurd z q⟩
    · rw [et i (by omega), et (i + 1) (by omega), et (i + 2) (by omega)]
      exact h5 i (by omega)
theorem r_alt_drop (h : r_alt f C) (hn : (f 280 (444 + 61 * C + 10)).toInt = 32) (h10 : (f' 280 (444 + 61 * C + 10)).toInt = 32) (ht : ∀ j : Nat, j < 32 → f' 280 (444 + 61 * C + (17 + j)) = if j = 31 then x else f 280 (444 + 61 * C + (17 + (j + 1)))) (hv : r_tv f' C) (hx : x.toInt ≠ r_tI f C 31) (hd : ¬ (r_tI f C 30 < r_tI f C 31 ↔ r_tI f C 31 < x.toInt)) : r_alt f' C := by
  obtain ⟨h1, h3, h4, h5⟩ := h
  have et : ∀ j : Nat, j < 31 → r_tI f' C j = r_tI f C (j + 1) := fun j hj => by unfold r_tI; rw [ht j (by omega), if_neg (by omega)]
  have el : r_tI f' C 31 = x.toInt := by unfold r_tI; rw [ht 31 (by omega), if_pos rfl]
  refine ⟨by omega, hv, fun i hi => ?_, fun i hi => ?_⟩
  · by_cases e : i = 30
    · subst e
      rw [el, et 30 (by omega)]
      exact fun q => hx q.symm
    · rw [et i (by omega), et (i + 1) (by omega)]
      exact h4 (i + 1) (by omega)
  · by_cases e : i = 29
    · subst e
      rw [el, et 29 (by omega), et 30 (by omega)]
      constructor
      · intro q r
        exact hd ⟨fun _ => r, fun _ => q⟩
      · intro q
        apply Classical.byContradiction
        intro r
        exact hd ⟨fun z => absurd z r, fun z => absurd z q⟩
    · rw [et i (by omega), et (i + 1) (by omega), et (i + 2) (by omega)]
      exact h5 (i + 1) (by omega)
/-! the trace of the reference -/
theorem r_kp_f16 : ∀ k : Nat, k ≤ 93 → ∀ j : Nat, j < 96 → r_goKept_f16 f k 280 (215 + j) = if j < k then f 280 (215 + (j + 3)) else f 280 (215 + j) := by
  intro k
  induction k with
  | zero => intro _ j _; rfl
  | succ k ih =>
    intro hk j hj
    show r_goKept_b16_m (r_goKept_f16 f k) k 280 (215 + j) = _
    unfold r_goKept_b16_m
    by_cases e : j = k
    · subst e
      rw [fl_row_self, upd_self, if_pos (by omega), show 215 + j + 3 = 215 + (j + 3) by omega, ih (by omega) (j + 3) (by omega), if_neg (by omega)]
    · rw [fl_row_self, upd_ne (by omega), ih (by omega) j hj]
      by_cases l : j < k
      · rw [if_pos l, if_pos (by omega)]
      · rw [if_neg l, if_neg (by omega)]
theorem r_kp_pack (h : 0 ≤ (f 280 21).toInt ∧ (f 280 21).toInt ≤ 32) : r_pack_v (fl_row (r_goKept_m9 f) 280 (upd ((r_goKept_m9 f) 280) (215 + (3 * (((r_goKept_m9 f) 280 21).toInt.toNat))) (f 280 5))) = r_pack_v f := by
  have b := r_goKept_m9_t h
  have w : ∀ q : Nat, (q < 21 ∨ 444 ≤ q) → (fl_row (r_goKept_m9 f) 280 (upd ((r_goKept_m9 f) 280) (215 + (3 * (((r_goKept_m9 f) 280 21).toInt.toNat))) (f 280 5))) 280 q = f 280 q := fun q hq => by
    rw [fl_row_self, upd_ne (by omega), r_goKept_m9_w (by omega)]
  unfold r_pack_v
  rw [w 2 (by omega), r_pack_c (w 5 (by omega)) (fun C hC q hq => w _ (by omega))]
theorem r_kp_lt (h : (f 280 21).toInt = (n : Int)) (hl : n < 32) : (r_goKept_f117 f 0 280 21).toInt = (n : Int) + 1 ∧ r_goKept_f117 f 0 280 (215 + 3 * n) = f 280 5 ∧ r_goKept_f117 f 0 280 (215 + 3 * n + 1) = r_pack_v f ∧ ∀ j : Nat, j < 3 * n → r_goKept_f117 f 0 280 (215 + j) = f 280 (215 + j) := by
  have c32 : (32 : Int32).toInt = 32 := by decide +kernel
  have c1 : (1 : Int32).toInt = 1 := by decide +kernel
  have pk := r_kp_pack (f := f) (by omega)
  have e : r_goKept_m9 f = f := by
    unfold r_goKept_m9
    rw [if_neg (by omega)]
  unfold r_goKept_f117
  rw [pk, e, h, Int.toNat_natCast]
  refine ⟨?_, ?_, ?_, fun j hj => ?_⟩
  · rw [fl_row_self, upd_self, at_add32] <;> omega
  · rw [fl_row_self, upd_ne (by omega), upd_ne (by omega), upd_ne (by omega), upd_self]
  · rw [fl_row_self, upd_ne (by omega), upd_ne (by omega), upd_self]
  · rw [fl_row_self, upd_ne (by omega), upd_ne (by omega), upd_ne (by omega), upd_ne (by omega)]
theorem r_kp_32 (h : (f 280 21).toInt = 32) : (r_goKept_f117 f 0 280 21).toInt = 32 ∧ r_goKept_f117 f 0 280 (215 + 3 * 31) = f 280 5 ∧ r_goKept_f117 f 0 280 (215 + 3 * 31 + 1) = r_pack_v f ∧ ∀ j : Nat, j < 93 → r_goKept_f117 f 0 280 (215 + j) = f 280 (215 + (j + 3)) := by
  have c32 : (32 : Int32).toInt = 32 := by decide +kernel
  have c1 : (1 : Int32).toInt = 1 := by decide +kernel
  have pk := r_kp_pack (f := f) (by omega)
  have e : r_goKept_m9 f = fl_row (r_goKept_f16 f 93) 280 (upd ((r_goKept_f16 f 93) 280) 21 ((f 280 21) - (1 : Int32))) := by
    unfold r_goKept_m9
    rw [if_pos (by omega)]
  have e21 : r_goKept_m9 f 280 21 = f 280 21 - (1 : Int32) := by rw [e, fl_row_self, upd_self]
  have i21 : (r_goKept_m9 f 280 21).toInt = 31 := by rw [e21, at_sub32] <;> omega
  have es : ∀ j : Nat, j < 93 → r_goKept_m9 f 280 (215 + j) = f 280 (215 + (j + 3)) := fun j hj => by
    rw [e, fl_row_self, upd_ne (by omega), r_kp_f16 93 (Nat.le_refl 93) j (by omega), if_pos hj]
  unfold r_goKept_f117
  rw [pk, i21]
  show (fl_row (r_goKept_m9 f) 280 (upd (upd (upd (upd ((r_goKept_m9 f) 280) (215 + 3 * 31) (f 280 5)) (215 + 3 * 31 + 1) (r_pack_v f)) (215 + 3 * 31 + 2) _) 21 ((r_goKept_m9 f) 280 21 + (1 : Int32))) 280 21).toInt = 32 ∧ fl_row (r_goKept_m9 f) 280 (upd (upd (upd (upd ((r_goKept_m9 f) 280) (215 + 3 * 31) (f 280 5)) (215 + 3 * 31 + 1) (r_pack_v f)) (215 + 3 * 31 + 2) _) 21 ((r_goKept_m9 f) 280 21 + (1 : Int32))) 280 (215 + 3 * 31) = f 280 5 ∧ fl_row (r_goKept_m9 f) 280 (upd (upd (upd (upd ((r_goKept_m9 f) 280) (215 + 3 * 31) (f 280 5)) (215 + 3 * 31 + 1) (r_pack_v f)) (215 + 3 * 31 + 2) _) 21 ((r_goKept_m9 f) 280 21 + (1 : Int32))) 280 (215 + 3 * 31 + 1) = r_pack_v f ∧ ∀ j : Nat, j < 93 → fl_row (r_goKept_m9 f) 280 (upd (upd (upd (upd ((r_goKept_m9 f) 280) (215 + 3 * 31) (f 280 5)) (215 + 3 * 31 + 1) (r_pack_v f)) (215 + 3 * 31 + 2) _) 21 ((r_goKept_m9 f) 280 21 + (1 : Int32))) 280 (215 + j) = f 280 (215 + (j + 3))
  refine ⟨?_, ?_, ?_, fun j hj => ?_⟩
  · rw [fl_row_self, upd_self, at_add32] <;> omega
  · rw [fl_row_self, upd_ne (by omega), upd_ne (by omega), upd_ne (by omega), upd_self]
  · rw [fl_row_self, upd_ne (by omega), upd_ne (by omega), upd_self]
  · rw [fl_row_self, upd_ne (by omega), upd_ne (by omega), upd_ne (by omega), upd_ne (by omega), es j hj]
end RALT

end

/-! 94.19.fol.lean.txt -/
section
/-! ===== block 0: turns followed; what a cell keeps; the trace ===== -/
section C0FOL
variable {fc fr f g F G A B : t2_F} {C n k : Nat} {c x y z : Int32}
theorem c0_follow_eq (h : c0_TI A B C) (hx : x = r_partOf_v B c C) (hp : 0 ≤ x.toInt ∧ x.toInt ≤ 1000) : c0_TI (c0_follow_m A C x) (r_goTurn_m B c C) C := by
  obtain ⟨e2, et, ec, ha⟩ := id h
  obtain ⟨h1, h2, h3, h5⟩ := id ha
  have c32 : (32 : Int32).toInt = 32 := by decide +kernel
  have c2 : (2 : Int32).toInt = 2 := by decide +kernel
  have c1 : (1 : Int32).toInt = 1 := by decide +kernel
  have c0 : (0 : Int32).toInt = 0 := rfl
  generalize hnn : (B 280 (444 + 61 * C + 10)).toInt.toNat = n
  have en : (B 280 (444 + 61 * C + 10)).toInt = (n : Int) := by omega
  have tl := et (n - 1) (by omega)
  unfold c0_follow_m r_goTurn_m
  rw [e2, hnn, tl, ← hx, if_neg (show ¬ (B 280 (444 + 61 * C + 10)).toInt = 0 by omega)]
  by_cases q : x.toInt = (B 280 (444 + 61 * C + (17 + (n - 1)))).toInt
  · rw [if_pos q, if_pos q]
    exact h
  · rw [if_neg q, if_neg q]
    have gj : c0_goesOn_v A C x = r_goTurn_j33_0 B c C := by
      unfold c0_goesOn_v r_goTurn_j33_0 c0_goesOn_j34_0 c0_goesOn_j44_0 r_goTurn_j52_0 r_goTurn_j70_0
      rw [e2, hnn, tl, ← hx]
      by_cases l : n < 2
      · rw [if_pos (by omega), if_neg (by omega)]
      · have t2 := et (n - 2) (by omega)
        have n1 := h3 (n - 2) (by omega)
        rw [show n - 2 + 1 = n - 1 by omega] at n1
        unfold r_tI at n1
        rw [if_neg (show ¬ (B 280 (444 + 61 * C + 10)).toInt < (2 : Int32).toInt by omega), if_pos (show (1 : Int32).toInt < (B 280 (444 + 61 * C + 10)).toInt by omega), t2, if_neg (show ¬ (B 280 (444 + 61 * C + (17 + (n - 1)))).toInt = (B 280 (444 + 61 * C + (17 + (n - 2)))).toInt from fun r => n1 r.symm)]
        by_cases u : (B 280 (444 + 61 * C + (17 + (n - 2)))).toInt < (B 280 (444 + 61 * C + (17 + (n - 1)))).toInt
        · by_cases v : (B 280 (444 + 61 * C + (17 + (n - 1)))).toInt < x.toInt
          · rw [if_pos u, if_pos v]
          · rw [if_pos u, if_neg v, if_neg (by omega), if_neg (by omega)]
        · by_cases v : (B 280 (444 + 61 * C + (17 + (n - 1)))).toInt < x.toInt
          · rw [if_neg u, if_pos v, if_neg (by omega), if_neg (by omega)]
          · rw [if_neg u, if_neg v]
    have gd : (2 ≤ n ∧ (r_tI B C (n - 2) < r_tI B C (n - 1) ↔ r_tI B C (n - 1) < x.toInt)) ↔ ¬ (r_goTurn_j33_0 B c C).toInt = 0 := by
      unfold r_goTurn_j33_0 r_goTurn_j52_0 r_goTurn_j70_0 r_tI
      rw [hnn, ← hx]
      by_cases l : n < 2
      · rw [if_neg (by omega)]
        exact ⟨fun r => absurd r.1 (by omega), fun r => absurd c0 r⟩
      · have n1 := h3 (n - 2) (by omega)
        rw [show n - 2 + 1 = n - 1 by omega] at n1
        unfold r_tI at n1
        rw [if_pos (show (1 : Int32).toInt < (B 280 (444 + 61 * C + 10)).toInt by omega), if_neg (show ¬ (B 280 (444 + 61 * C + (17 + (n - 1)))).toInt = (B 280 (444 + 61 * C + (17 + (n - 2)))).toInt from fun r => n1 r.symm)]
        by_cases u : (B 280 (444 + 61 * C + (17 + (n - 2)))).toInt < (B 280 (444 + 61 * C + (17 + (n - 1)))).toInt
        · by_cases v : (B 280 (444 + 61 * C + (17 + (n - 1)))).toInt < x.toInt
          · rw [if_pos u, if_pos v, if_pos rfl]
            exact ⟨fun _ => by omega, fun _ => ⟨by omega, fun _ => v, fun _ => u⟩⟩
          · rw [if_pos u, if_neg v, if_neg (by omega)]
            exact ⟨fun r => absurd (r.2.mp u) v, fun r => absurd c0 r⟩
        · by_cases v : (B 280 (444 + 61 * C + (17 + (n - 1)))).toInt < x.toInt
          · rw [if_neg u, if_pos v, if_neg (by omega)]
            exact ⟨fun r => absurd (r.2.mpr v) u, fun r => absurd c0 r⟩
          · rw [if_neg u, if_neg v, if_pos rfl]
            exact ⟨fun _ => by omega, fun _ => ⟨by omega, fun r => absurd r u, fun r => absurd r v⟩⟩
    have qI : x.toInt ≠ r_tI B C (n - 1) := q
    have ex1 : 444 + 61 * C + ((17 + n) - 1) = 444 + 61 * C + (17 + (n - 1)) := by omega
    rw [gj]
    by_cases d : (r_goTurn_j33_0 B c C).toInt = 0
    · rw [if_pos d, if_pos d]
      have nd : 2 ≤ n → ¬ (r_tI B C (n - 2) < r_tI B C (n - 1) ↔ r_tI B C (n - 1) < x.toInt) := fun l r => (gd.mp ⟨l, r⟩) d
      unfold c0_uadd_m
      rw [e2, hnn]
      by_cases f32 : (B 280 (444 + 61 * C + 10)).toInt = (32 : Int32).toInt
      · rw [if_pos f32, if_pos f32]
        have n32 : n = 32 := by omega
        subst n32
        refine c0_count_eq (c := c) 32 _ _ ?_
        have dt := r_dropTurnN_t (f := B) (c := c) (C := C) (X := 0)
        have da := r_dropTurnN_at (f := B) (c := c) (C := C) (X := 0) (n := 32) en (by decide) (by decide) (by decide)
        have dv : r_tv (r_dropTurnN_m B c C 0) C := r_dropTurnN_tv h1 (by decide) h2
        have i10 : ((B 280 (444 + 61 * C + 10)) - (1 : Int32) + (1 : Int32)).toInt = 32 := by
          rw [at_add32] <;> rw [at_sub32] <;> omega
        have tt : ∀ j : Nat, j < 32 → (fl_row (r_dropTurnN_m B c C 0) 280 (upd (upd ((r_dropTurnN_m B c C 0) 280) (444 + 61 * C + (17 + (32 - 1))) x) (444 + 61 * C + 10) (((B 280 (444 + 61 * C + 10)) - (1 : Int32)) + (1 : Int32)))) 280 (444 + 61 * C + (17 + j)) = if j = 31 then x else B 280 (444 + 61 * C + (17 + (j + 1))) := fun j hj => by
          rw [fl_row_self, upd_ne (by omega)]
          by_cases e : j = 31
          · rw [e, if_pos rfl, upd_self]
          · rw [if_neg e, upd_ne (by omega), da j hj, if_neg (by omega), if_pos (by omega)]
        refine ⟨?_, fun i hi => ?_, fun k hk => ?_, ?_⟩
        · rw [fl_row_self, upd_self, fl_row_self, upd_self]
        · rw [fl_row_self, upd_self, i10] at hi
          rw [tt i (by omega), fl_row_ne (by omega), fl_row_self]
          by_cases e : i = 31
          · rw [e, if_pos rfl, upd_self]
          · rw [if_neg e, upd_ne (by omega)]
            show (if 0 ≤ i ∧ i < 0 + 31 then A (20 + 4 * C) (1 + (i - 0)) else A (20 + 4 * C) i) = _
            rw [if_pos (by omega), show 1 + (i - 0) = i + 1 by omega]
            exact et (i + 1) (by omega)
        · rw [fl_row_ne (by omega), fl_row_ne (by omega), fl_row_ne (by omega), fl_row_ne (by omega), fl_row_self, upd_ne (by omega), upd_ne (by omega), r_dropTurnN_w h1 (by decide) (by omega)]
          exact ec k hk
        · refine r_alt_drop (x := x) ha en ?_ tt (r_tv2 dv hp) qI (nd (by decide))
          rw [fl_row_self, upd_self, i10]
      · rw [if_neg f32, if_neg f32]
        have n32 : n < 32 := by omega
        refine c0_count_eq (c := c) 32 _ _ ?_
        have i10 : ((B 280 (444 + 61 * C + 10)) + (1 : Int32)).toInt = (n : Int) + 1 := by rw [at_add32] <;> omega
        have tt : ∀ j : Nat, j < n + 1 → (fl_row B 280 (upd (upd (B 280) (444 + 61 * C + (17 + n)) x) (444 + 61 * C + 10) ((B 280 (444 + 61 * C + 10)) + (1 : Int32)))) 280 (444 + 61 * C + (17 + j)) = if j = n then x else B 280 (444 + 61 * C + (17 + j)) := fun j hj => by
          rw [fl_row_self, upd_ne (by omega)]
          by_cases e : j = n
          · rw [e, if_pos rfl, upd_self]
          · rw [if_neg e, upd_ne (by omega)]
        refine ⟨?_, fun i hi => ?_, fun k hk => ?_, ?_⟩
        · rw [fl_row_self, upd_self, fl_row_self, upd_self]
        · rw [fl_row_self, upd_self, i10] at hi
          rw [tt i (by omega), fl_row_ne (by omega), fl_row_self]
          by_cases e : i = n
          · rw [e, if_pos rfl, upd_self]
          · rw [if_neg e, upd_ne e]
            exact et i (by omega)
        · rw [fl_row_ne (by omega), fl_row_ne (by omega), fl_row_self, upd_ne (by omega), upd_ne (by omega)]
          exact ec k hk
        · refine r_alt_add (x := x) ha en ?_ n32 tt (r_tv2 h2 hp) qI nd
          rw [fl_row_self, upd_self, i10]
    · rw [if_neg d, if_neg d]
      have dd := gd.mpr d
      refine c0_count_eq (c := c) 32 _ _ ?_
      rw [ex1]
      have tt : ∀ j : Nat, j < n → (fl_row B 280 (upd (B 280) (444 + 61 * C + (17 + (n - 1))) x)) 280 (444 + 61 * C + (17 + j)) = if j = n - 1 then x else B 280 (444 + 61 * C + (17 + j)) := fun j hj => by
        rw [fl_row_self]
        by_cases e : j = n - 1
        · rw [e, if_pos rfl, upd_self]
        · rw [if_neg e, upd_ne (by omega)]
      have e10 : (fl_row B 280 (upd (B 280) (444 + 61 * C + (17 + (n - 1))) x)) 280 (444 + 61 * C + 10) = B 280 (444 + 61 * C + 10) := by rw [fl_row_self, upd_ne (by omega)]
      refine ⟨?_, fun i hi => ?_, fun k hk => ?_, ?_⟩
      · rw [e10, fl_row_ne (by omega)]
        exact e2
      · rw [e10] at hi
        rw [tt i (by omega), fl_row_self]
        by_cases e : i = n - 1
        · rw [e, if_pos rfl, upd_self]
        · rw [if_neg e, upd_ne e]
          exact et i hi
      · rw [fl_row_ne (by omega), fl_row_self, upd_ne (by omega)]
        exact ec k hk
      · exact r_alt_on (x := x) ha en dd.1 e10 tt (r_tvg h2 hp) qI dd.2
theorem c0_TI.congr {fc' fr' : t2_F} (h : c0_TI fc fr C) (e1 : fc' (19 + 4 * C) = fc (19 + 4 * C)) (e2 : fc' (20 + 4 * C) = fc (20 + 4 * C)) (e3 : fc' (21 + 4 * C) = fc (21 + 4 * C)) (e : ∀ w : Nat, 10 ≤ w → w < 60 → w ≠ 11 → w ≠ 12 → w ≠ 13 → w ≠ 14 → w ≠ 15 → w ≠ 16 → fr' 280 (444 + 61 * C + w) = fr 280 (444 + 61 * C + w)) : c0_TI fc' fr' C := by
  obtain ⟨h1, h2, h3, h4⟩ := h
  have b := h4.1
  refine ⟨?_, fun i hi => ?_, fun k hk => ?_, h4.congr (fun w hw => e w (by omega) (by omega) (by omega) (by omega) (by omega) (by omega) (by omega) (by omega))⟩
  · rw [e1, e 10 (by decide) (by decide) (by decide) (by decide) (by decide) (by decide) (by decide) (by decide)]
    exact h1
  · rw [e 10 (by decide) (by decide) (by decide) (by decide) (by decide) (by decide) (by decide) (by decide)] at hi
    rw [e2, e (17 + i) (by omega) (by omega) (by omega) (by omega) (by omega) (by omega) (by omega) (by omega)]
    exact h2 i hi
  · rw [e3, e (49 + k) (by omega) (by omega) (by omega) (by omega) (by omega) (by omega) (by omega) (by omega)]
    exact h3 k hk
end C0FOL

/-! ===== block 2: turns followed; what a cell keeps; the trace ===== -/
section C2FOL
variable {fc fr f g F G A B : t2_F} {C n k : Nat} {c x y z : Int32}
theorem c2_follow_eq (h : c2_TI A B C) (hx : x = r_partOf_v B c C) (hp : 0 ≤ x.toInt ∧ x.toInt ≤ 1000) : c2_TI (c2_follow_m A C x) (r_goTurn_m B c C) C := by
  obtain ⟨e2, et, ec, ha⟩ := id h
  obtain ⟨h1, h2, h3, h5⟩ := id ha
  have c32 : (32 : Int32).toInt = 32 := by decide +kernel
  have c2 : (2 : Int32).toInt = 2 := by decide +kernel
  have c1 : (1 : Int32).toInt = 1 := by decide +kernel
  have c0 : (0 : Int32).toInt = 0 := rfl
  generalize hnn : (B 280 (444 + 61 * C + 10)).toInt.toNat = n
  have en : (B 280 (444 + 61 * C + 10)).toInt = (n : Int) := by omega
  have tl := et (n - 1) (by omega)
  unfold c2_follow_m r_goTurn_m
  rw [e2, hnn, tl, ← hx, if_neg (show ¬ (B 280 (444 + 61 * C + 10)).toInt = 0 by omega)]
  by_cases q : x.toInt = (B 280 (444 + 61 * C + (17 + (n - 1)))).toInt
  · rw [if_pos q, if_pos q]
    exact h
  · rw [if_neg q, if_neg q]
    have gj : c2_goesOn_v A C x = r_goTurn_j33_0 B c C := by
      unfold c2_goesOn_v r_goTurn_j33_0 c2_goesOn_j34_0 c2_goesOn_j44_0 r_goTurn_j52_0 r_goTurn_j70_0
      rw [e2, hnn, tl, ← hx]
      by_cases l : n < 2
      · rw [if_pos (by omega), if_neg (by omega)]
      · have t2 := et (n - 2) (by omega)
        have n1 := h3 (n - 2) (by omega)
        rw [show n - 2 + 1 = n - 1 by omega] at n1
        unfold r_tI at n1
        rw [if_neg (show ¬ (B 280 (444 + 61 * C + 10)).toInt < (2 : Int32).toInt by omega), if_pos (show (1 : Int32).toInt < (B 280 (444 + 61 * C + 10)).toInt by omega), t2, if_neg (show ¬ (B 280 (444 + 61 * C + (17 + (n - 1)))).toInt = (B 280 (444 + 61 * C + (17 + (n - 2)))).toInt from fun r => n1 r.symm)]
        by_cases u : (B 280 (444 + 61 * C + (17 + (n - 2)))).toInt < (B 280 (444 + 61 * C + (17 + (n - 1)))).toInt
        · by_cases v : (B 280 (444 + 61 * C + (17 + (n - 1)))).toInt < x.toInt
          · rw [if_pos u, if_pos v]
          · rw [if_pos u, if_neg v, if_neg (by omega), if_neg (by omega)]
        · by_cases v : (B 280 (444 + 61 * C + (17 + (n - 1)))).toInt < x.toInt
          · rw [if_neg u, if_pos v, if_neg (by omega), if_neg (by omega)]
          · rw [if_neg u, if_neg v]
    have gd : (2 ≤ n ∧ (r_tI B C (n - 2) < r_tI B C (n - 1) ↔ r_tI B C (n - 1) < x.toInt)) ↔ ¬ (r_goTurn_j33_0 B c C).toInt = 0 := by
      unfold r_goTurn_j33_0 r_goTurn_j52_0 r_goTurn_j70_0 r_tI
      rw [hnn, ← hx]
      by_cases l : n < 2
      · rw [if_neg (by omega)]
        exact ⟨fun r => absurd r.1 (by omega), fun r => absurd c0 r⟩
      · have n1 := h3 (n - 2) (by omega)
        rw [show n - 2 + 1 = n - 1 by omega] at n1
        unfold r_tI at n1
        rw [if_pos (show (1 : Int32).toInt < (B 280 (444 + 61 * C + 10)).toInt by omega), if_neg (show ¬ (B 280 (444 + 61 * C + (17 + (n - 1)))).toInt = (B 280 (444 + 61 * C + (17 + (n - 2)))).toInt from fun r => n1 r.symm)]
        by_cases u : (B 280 (444 + 61 * C + (17 + (n - 2)))).toInt < (B 280 (444 + 61 * C + (17 + (n - 1)))).toInt
        · by_cases v : (B 280 (444 + 61 * C + (17 + (n - 1)))).toInt < x.toInt
          · rw [if_pos u, if_pos v, if_pos rfl]
            exact ⟨fun _ => by omega, fun _ => ⟨by omega, fun _ => v, fun _ => u⟩⟩
          · rw [if_pos u, if_neg v, if_neg (by omega)]
            exact ⟨fun r => absurd (r.2.mp u) v, fun r => absurd c0 r⟩
        · by_cases v : (B 280 (444 + 61 * C + (17 + (n - 1)))).toInt < x.toInt
          · rw [if_neg u, if_pos v, if_neg (by omega)]
            exact ⟨fun r => absurd (r.2.mpr v) u, fun r => absurd c0 r⟩
          · rw [if_neg u, if_neg v, if_pos rfl]
            exact ⟨fun _ => by omega, fun _ => ⟨by omega, fun r => absurd r u, fun r => absurd r v⟩⟩
    have qI : x.toInt ≠ r_tI B C (n - 1) := q
    have ex1 : 444 + 61 * C + ((17 + n) - 1) = 444 + 61 * C + (17 + (n - 1)) := by omega
    rw [gj]
    by_cases d : (r_goTurn_j33_0 B c C).toInt = 0
    · rw [if_pos d, if_pos d]
      have nd : 2 ≤ n → ¬ (r_tI B C (n - 2) < r_tI B C (n - 1) ↔ r_tI B C (n - 1) < x.toInt) := fun l r => (gd.mp ⟨l, r⟩) d
      unfold c2_uadd_m
      rw [e2, hnn]
      by_cases f32 : (B 280 (444 + 61 * C + 10)).toInt = (32 : Int32).toInt
      · rw [if_pos f32, if_pos f32]
        have n32 : n = 32 := by omega
        subst n32
        refine c2_count_eq (c := c) 32 _ _ ?_
        have dt := r_dropTurnN_t (f := B) (c := c) (C := C) (X := 0)
        have da := r_dropTurnN_at (f := B) (c := c) (C := C) (X := 0) (n := 32) en (by decide) (by decide) (by decide)
        have dv : r_tv (r_dropTurnN_m B c C 0) C := r_dropTurnN_tv h1 (by decide) h2
        have i10 : ((B 280 (444 + 61 * C + 10)) - (1 : Int32) + (1 : Int32)).toInt = 32 := by
          rw [at_add32] <;> rw [at_sub32] <;> omega
        have tt : ∀ j : Nat, j < 32 → (fl_row (r_dropTurnN_m B c C 0) 280 (upd (upd ((r_dropTurnN_m B c C 0) 280) (444 + 61 * C + (17 + (32 - 1))) x) (444 + 61 * C + 10) (((B 280 (444 + 61 * C + 10)) - (1 : Int32)) + (1 : Int32)))) 280 (444 + 61 * C + (17 + j)) = if j = 31 then x else B 280 (444 + 61 * C + (17 + (j + 1))) := fun j hj => by
          rw [fl_row_self, upd_ne (by omega)]
          by_cases e : j = 31
          · rw [e, if_pos rfl, upd_self]
          · rw [if_neg e, upd_ne (by omega), da j hj, if_neg (by omega), if_pos (by omega)]
        refine ⟨?_, fun i hi => ?_, fun k hk => ?_, ?_⟩
        · rw [fl_row_self, upd_self, fl_row_self, upd_self]
        · rw [fl_row_self, upd_self, i10] at hi
          rw [tt i (by omega), fl_row_ne (by omega), fl_row_self]
          by_cases e : i = 31
          · rw [e, if_pos rfl, upd_self]
          · rw [if_neg e, upd_ne (by omega)]
            show (if 0 ≤ i ∧ i < 0 + 31 then A (200 + 4 * C) (1 + (i - 0)) else A (200 + 4 * C) i) = _
            rw [if_pos (by omega), show 1 + (i - 0) = i + 1 by omega]
            exact et (i + 1) (by omega)
        · rw [fl_row_ne (by omega), fl_row_ne (by omega), fl_row_ne (by omega), fl_row_ne (by omega), fl_row_self, upd_ne (by omega), upd_ne (by omega), r_dropTurnN_w h1 (by decide) (by omega)]
          exact ec k hk
        · refine r_alt_drop (x := x) ha en ?_ tt (r_tv2 dv hp) qI (nd (by decide))
          rw [fl_row_self, upd_self, i10]
      · rw [if_neg f32, if_neg f32]
        have n32 : n < 32 := by omega
        refine c2_count_eq (c := c) 32 _ _ ?_
        have i10 : ((B 280 (444 + 61 * C + 10)) + (1 : Int32)).toInt = (n : Int) + 1 := by rw [at_add32] <;> omega
        have tt : ∀ j : Nat, j < n + 1 → (fl_row B 280 (upd (upd (B 280) (444 + 61 * C + (17 + n)) x) (444 + 61 * C + 10) ((B 280 (444 + 61 * C + 10)) + (1 : Int32)))) 280 (444 + 61 * C + (17 + j)) = if j = n then x else B 280 (444 + 61 * C + (17 + j)) := fun j hj => by
          rw [fl_row_self, upd_ne (by omega)]
          by_cases e : j = n
          · rw [e, if_pos rfl, upd_self]
          · rw [if_neg e, upd_ne (by omega)]
        refine ⟨?_, fun i hi => ?_, fun k hk => ?_, ?_⟩
        · rw [fl_row_self, upd_self, fl_row_self, upd_self]
        · rw [fl_row_self, upd_self, i10] at hi
          rw [tt i (by omega), fl_row_ne (by omega), fl_row_self]
          by_cases e : i = n
          · rw [e, if_pos rfl, upd_self]
          · rw [if_neg e, upd_ne e]
            exact et i (by omega)
        · rw [fl_row_ne (by omega), fl_row_ne (by omega), fl_row_self, upd_ne (by omega), upd_ne (by omega)]
          exact ec k hk
        · refine r_alt_add (x := x) ha en ?_ n32 tt (r_tv2 h2 hp) qI nd
          rw [fl_row_self, upd_self, i10]
    · rw [if_neg d, if_neg d]
      have dd := gd.mpr d
      refine c2_count_eq (c := c) 32 _ _ ?_
      rw [ex1]
      have tt : ∀ j : Nat, j < n → (fl_row B 280 (upd (B 280) (444 + 61 * C + (17 + (n - 1))) x)) 280 (444 + 61 * C + (17 + j)) = if j = n - 1 then x else B 280 (444 + 61 * C + (17 + j)) := fun j hj => by
        rw [fl_row_self]
        by_cases e : j = n - 1
        · rw [e, if_pos rfl, upd_self]
        · rw [if_neg e, upd_ne (by omega)]
      have e10 : (fl_row B 280 (upd (B 280) (444 + 61 * C + (17 + (n - 1))) x)) 280 (444 + 61 * C + 10) = B 280 (444 + 61 * C + 10) := by rw [fl_row_self, upd_ne (by omega)]
      refine ⟨?_, fun i hi => ?_, fun k hk => ?_, ?_⟩
      · rw [e10, fl_row_ne (by omega)]
        exact e2
      · rw [e10] at hi
        rw [tt i (by omega), fl_row_self]
        by_cases e : i = n - 1
        · rw [e, if_pos rfl, upd_self]
        · rw [if_neg e, upd_ne e]
          exact et i hi
      · rw [fl_row_ne (by omega), fl_row_self, upd_ne (by omega)]
        exact ec k hk
      · exact r_alt_on (x := x) ha en dd.1 e10 tt (r_tvg h2 hp) qI dd.2
theorem c2_TI.congr {fc' fr' : t2_F} (h : c2_TI fc fr C) (e1 : fc' (199 + 4 * C) = fc (199 + 4 * C)) (e2 : fc' (200 + 4 * C) = fc (200 + 4 * C)) (e3 : fc' (201 + 4 * C) = fc (201 + 4 * C)) (e : ∀ w : Nat, 10 ≤ w → w < 60 → w ≠ 11 → w ≠ 12 → w ≠ 13 → w ≠ 14 → w ≠ 15 → w ≠ 16 → fr' 280 (444 + 61 * C + w) = fr 280 (444 + 61 * C + w)) : c2_TI fc' fr' C := by
  obtain ⟨h1, h2, h3, h4⟩ := h
  have b := h4.1
  refine ⟨?_, fun i hi => ?_, fun k hk => ?_, h4.congr (fun w hw => e w (by omega) (by omega) (by omega) (by omega) (by omega) (by omega) (by omega) (by omega))⟩
  · rw [e1, e 10 (by decide) (by decide) (by decide) (by decide) (by decide) (by decide) (by decide) (by decide)]
    exact h1
  · rw [e 10 (by decide) (by decide) (by decide) (by decide) (by decide) (by decide) (by decide) (by decide)] at hi
    rw [e2, e (17 + i) (by omega) (by omega) (by omega) (by omega) (by omega) (by omega) (by omega) (by omega)]
    exact h2 i hi
  · rw [e3, e (49 + k) (by omega) (by omega) (by omega) (by omega) (by omega) (by omega) (by omega) (by omega)]
    exact h3 k hk
end C2FOL

end
