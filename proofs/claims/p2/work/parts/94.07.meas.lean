/-! ===== block 0: (6) of a second ===== -/
section C0MEAS
variable {fc fr f F G : t2_F} {C n k : Nat} {c x y z : Int32}
theorem c0_meas_w : c0_measure_m f C x y (18 + 4 * C) 14 = c0_measure_j15_0 f C x y ∧ c0_measure_m f C x y (18 + 4 * C) 11 = c0_voltsAt_v f C x ∧ c0_measure_m f C x y (18 + 4 * C) 16 = f (18 + 4 * C) 16 + x ∧ ∀ j : Nat, j ≠ 11 → j ≠ 14 → j ≠ 16 → c0_measure_m f C x y (18 + 4 * C) j = f (18 + 4 * C) j := by
  unfold c0_measure_m
  refine ⟨?_, ?_, ?_, fun j h1 h2 h3 => ?_⟩ <;> simp (disch := omega) only [fl_row_self, upd_self, upd_ne]
theorem c0_rest_w {P : Int32} (hP : t2_pb (c0_voltsAt_v f C (0 : Int32)) = P) : c0_reckonAtRest_m f C (18 + 4 * C) 8 = t2_heldTo_v (t2_chargeBy_v P (f (18 + 4 * C) 0)) (0 : Int32) (f (18 + 4 * C) 0 * (3600 : Int32)) ∧
    c0_reckonAtRest_m f C (18 + 4 * C) 15 = (if (f (18 + 4 * C) 17).toInt = (-1 : Int32).toInt then f (18 + 4 * C) 15 else (if (t2_abs_v (P - f (18 + 4 * C) 17)).toInt < (100 : Int32).toInt then f (18 + 4 * C) 15 else ((((t2_abs_v (f (18 + 4 * C) 16)).toInt64) * (1000 : Int64)) / (((t2_abs_v (P - f (18 + 4 * C) 17)).toInt64) * (3600 : Int64))).toInt32)) ∧
    c0_reckonAtRest_m f C (18 + 4 * C) 17 = P ∧ c0_reckonAtRest_m f C (18 + 4 * C) 16 = 0 ∧ ∀ j : Nat, j ≠ 8 → j ≠ 15 → j ≠ 16 → j ≠ 17 → c0_reckonAtRest_m f C (18 + 4 * C) j = f (18 + 4 * C) j := by
  unfold c0_reckonAtRest_m c0_reckonAtRest_j36_0 c0_putReckoned_m
  simp only [hP]
  refine ⟨?_, ?_, ?_, ?_, fun j h1 h2 h3 h4 => ?_⟩ <;> simp (disch := omega) only [fl_row_self, upd_self, upd_ne]
theorem c0_f46_at : ∀ {k : Nat}, C < k → c0_sMeasure_f46 f k (18 + 4 * C) = c0_sMeasure_b46_m (c0_sMeasure_f46 f C) (c0_sMeasure_j35_0 f) C (18 + 4 * C) := by
  intro k
  induction k with
  | zero => intro h; exact absurd h (Nat.not_lt_zero _)
  | succ k ih =>
    intro h
    by_cases e : C = k
    · subst e
      rfl
    · exact (c0_sMeasure_b46_fr (f := c0_sMeasure_f46 f k) (z := c0_sMeasure_j35_0 f) (k := k) (p := 18 + 4 * C) (by omega)).trans (ih (by omega))
theorem c0_f46_me : c0_sMeasure_f46 f C (18 + 4 * C) = f (18 + 4 * C) := by
  rw [c0_sMeasure_f46_fr (k := C) (fun j hj => by omega), fl_row_ne (by omega)]
theorem c0_f46_p {p : Nat} (h1 : p ≠ 1) (h18 : p < 18) : c0_sMeasure_f46 f k p = f p := by
  rw [c0_sMeasure_f46_fr (k := k) (fun j hj => by omega), fl_row_ne h1]
theorem c0_f46_1 : c0_sMeasure_f46 f k 1 = upd (f 1) 12 (c0_sMeasure_j5_0 f) := by
  rw [c0_sMeasure_f46_fr (k := k) (fun j hj => by omega), fl_row_self]
theorem c0_volts_row {f f' : t2_F} (e : f' (18 + 4 * C) = f (18 + 4 * C)) : c0_voltsAt_v f' C x = c0_voltsAt_v f C x := by
  unfold c0_voltsAt_v
  rw [e]
theorem c0_f46_w0 (hC : C < k) (hz : (c0_sMeasure_j35_0 f).toInt = 0) : c0_sMeasure_f46 f k (18 + 4 * C) 14 = c0_measure_j15_0 f C (f 1 9) (f 1 10) ∧ c0_sMeasure_f46 f k (18 + 4 * C) 11 = c0_voltsAt_v f C (f 1 9) ∧ c0_sMeasure_f46 f k (18 + 4 * C) 16 = f (18 + 4 * C) 16 + f 1 9 ∧ ∀ j : Nat, j ≠ 11 → j ≠ 14 → j ≠ 16 → c0_sMeasure_f46 f k (18 + 4 * C) j = f (18 + 4 * C) j := by
  have e9 : c0_sMeasure_f46 f C 1 9 = f 1 9 := by rw [c0_f46_1, upd_ne (by decide)]
  have e10 : c0_sMeasure_f46 f C 1 10 = f 1 10 := by rw [c0_f46_1, upd_ne (by decide)]
  obtain ⟨h1, h2, h3, h4⟩ := c0_meas_w (f := c0_sMeasure_f46 f C) (C := C) (x := f 1 9) (y := f 1 10)
  rw [c0_f46_at hC]
  unfold c0_sMeasure_b46_m
  rw [if_pos hz, e9, e10]
  refine ⟨?_, ?_, ?_, fun j a b d => ?_⟩
  · rw [h1]
    unfold c0_measure_j15_0
    rw [c0_volts_row c0_f46_me, c0_f46_me]
  · rw [h2, c0_volts_row c0_f46_me]
  · rw [h3, c0_f46_me]
  · rw [h4 j a b d, c0_f46_me]
theorem c0_f46_w1 {P : Int32} (hC : C < k) (hz : ¬ (c0_sMeasure_j35_0 f).toInt = 0) (hP : t2_pb (c0_voltsAt_v f C (0 : Int32)) = P) : c0_sMeasure_f46 f k (18 + 4 * C) 14 = c0_measure_j15_0 f C (f 1 9) (f 1 10) ∧ c0_sMeasure_f46 f k (18 + 4 * C) 11 = c0_voltsAt_v f C (f 1 9) ∧ c0_sMeasure_f46 f k (18 + 4 * C) 16 = 0 ∧ c0_sMeasure_f46 f k (18 + 4 * C) 17 = P ∧
    c0_sMeasure_f46 f k (18 + 4 * C) 8 = t2_heldTo_v (t2_chargeBy_v P (f (18 + 4 * C) 0)) (0 : Int32) (f (18 + 4 * C) 0 * (3600 : Int32)) ∧
    c0_sMeasure_f46 f k (18 + 4 * C) 15 = (if (f (18 + 4 * C) 17).toInt = (-1 : Int32).toInt then f (18 + 4 * C) 15 else (if (t2_abs_v (P - f (18 + 4 * C) 17)).toInt < (100 : Int32).toInt then f (18 + 4 * C) 15 else ((((t2_abs_v (f (18 + 4 * C) 16 + f 1 9)).toInt64) * (1000 : Int64)) / (((t2_abs_v (P - f (18 + 4 * C) 17)).toInt64) * (3600 : Int64))).toInt32)) ∧
    ∀ j : Nat, j ≠ 8 → j ≠ 11 → j ≠ 14 → j ≠ 15 → j ≠ 16 → j ≠ 17 → c0_sMeasure_f46 f k (18 + 4 * C) j = f (18 + 4 * C) j := by
  have e9 : c0_sMeasure_f46 f C 1 9 = f 1 9 := by rw [c0_f46_1, upd_ne (by decide)]
  have e10 : c0_sMeasure_f46 f C 1 10 = f 1 10 := by rw [c0_f46_1, upd_ne (by decide)]
  obtain ⟨h1, h2, h3, h4⟩ := c0_meas_w (f := c0_sMeasure_f46 f C) (C := C) (x := f 1 9) (y := f 1 10)
  have ev : c0_voltsAt_v (c0_measure_m (c0_sMeasure_f46 f C) C (f 1 9) (f 1 10)) C (0 : Int32) = c0_voltsAt_v f C (0 : Int32) := by
    unfold c0_voltsAt_v
    rw [h4 4 (by decide) (by decide) (by decide), h4 7 (by decide) (by decide) (by decide), h4 5 (by decide) (by decide) (by decide), c0_f46_me]
  obtain ⟨r1, r2, r3, r4, r5⟩ := c0_rest_w (f := c0_measure_m (c0_sMeasure_f46 f C) C (f 1 9) (f 1 10)) (C := C) (P := P) (by rw [ev, hP])
  rw [c0_f46_at hC]
  unfold c0_sMeasure_b46_m
  rw [if_neg hz, e9, e10]
  refine ⟨?_, ?_, r4, r3, ?_, ?_, fun j a8 a11 a14 a15 a16 a17 => ?_⟩
  · rw [r5 14 (by decide) (by decide) (by decide) (by decide), h1]
    unfold c0_measure_j15_0
    rw [c0_volts_row c0_f46_me, c0_f46_me]
  · rw [r5 11 (by decide) (by decide) (by decide) (by decide), h2, c0_volts_row c0_f46_me]
  · rw [r1, h4 0 (by decide) (by decide) (by decide), c0_f46_me]
  · rw [r2, h4 17 (by decide) (by decide) (by decide), h4 15 (by decide) (by decide) (by decide), h3, c0_f46_me]
  · rw [r5 j a8 a15 a16 a17, h4 j a11 a14 a16, c0_f46_me]
def c0_Rm (fc fr : t2_F) (C : Nat) : Prop := fc (18 + 4 * C) 14 = fr 280 (444 + 61 * C + 11) ∧ fc (18 + 4 * C) 15 = fr 280 (444 + 61 * C + 12) ∧ fc (18 + 4 * C) 16 = fr 280 (444 + 61 * C + 13) ∧ fc (18 + 4 * C) 17 = fr 280 (444 + 61 * C + 16)
/-- what (6) goes from, of a cell -/
def c0_R6 (fc fr : t2_F) (C : Nat) : Prop := c0_Rc fc fr C ∧ t2_cap (fc (18 + 4 * C) 0) ∧ t2_far (fr 280 5) (fr 280 (444 + 61 * C + 2)) ∧ c0_Rm fc fr C ∧ fc (18 + 4 * C) 10 = fr 280 (444 + 61 * C + 15) ∧ (fr 280 (444 + 61 * C + 15) = 0 ∨ fr 280 (444 + 61 * C + 15) = 1) ∧ (fr 280 (444 + 61 * C + 15) = 1 → fc (18 + 4 * C) 11 = fr 280 (444 + 61 * C + 14)) ∧ -1 ≤ (fr 280 (444 + 61 * C + 16)).toInt ∧ (fr 280 (444 + 61 * C + 16)).toInt ≤ 1000
theorem c0_meas_j15 (h : c0_R6 fc fr C) (hx : fc 1 9 = fr 280 5) (hy : fc 1 10 = fr 280 14) : c0_measure_j15_0 fc C (fc 1 9) (fc 1 10) = r_goMeasure_b17_j41_0 fr ((fr 280 5) - (fr 280 14)) C := by
  obtain ⟨hc, -, hf, hm, h10, h01, h11, -⟩ := h
  have ev := c0_volts_eq (c := Int32.ofNat C) hc hf
  have c1 : (1 : Int32).toInt = 1 := by decide +kernel
  have c0 : (0 : Int32).toInt = 0 := rfl
  unfold c0_measure_j15_0 r_goMeasure_b17_j41_0
  rw [hx, hy, h10, hm.1, ev]
  rcases h01 with e | e
  · rw [e, if_pos c0, if_neg (by omega)]
  · rw [if_neg (show ¬ (fr 280 (444 + 61 * C + 15)).toInt = 0 by rw [e]; omega), if_pos (show (fr 280 (444 + 61 * C + 15)).toInt = (1 : Int32).toInt by rw [e]), h11 e]
    rfl
/-- behind both loops -/
noncomputable def r_mid (f : t2_F) : t2_F := if (r_goMeasure_j144_0 f).toInt = (f 280 53).toInt then r_goMeasure_f163 f ((f 280 2).toInt.toNat) else fl_row (r_goMeasure_f17 f ((f 280 2).toInt.toNat)) 280 (upd (upd ((r_goMeasure_f17 f ((f 280 2).toInt.toNat)) 280) 14 (f 280 5)) 9 (r_goMeasure_j144_0 f))
theorem r_mid_lo {w : Nat} (hw : w < 444) (h9 : w ≠ 9) (h14 : w ≠ 14) : r_mid fr 280 w = fr 280 w := by
  unfold r_mid
  split
  · exact r_f163_lo hw h9 h14
  · rw [fl_row_self, upd_ne h9, upd_ne h14, r_f17_lo hw]
theorem r_mid_9 : r_mid fr 280 9 = r_goMeasure_j144_0 fr ∧ r_mid fr 280 14 = fr 280 5 := by
  unfold r_mid
  split
  · rw [r_goMeasure_f163_w (fun j hj => by omega) (fun j hj => by omega) (fun j hj => by omega) (fun j hj => by omega), r_goMeasure_f163_w (fun j hj => by omega) (fun j hj => by omega) (fun j hj => by omega) (fun j hj => by omega), fl_row_self, upd_self, upd_ne (by decide), upd_self]
    exact ⟨rfl, rfl⟩
  · rw [fl_row_self, upd_self, upd_ne (by decide), upd_self]
    exact ⟨rfl, rfl⟩
theorem r_mid_s {w : Nat} (hw : w = 0 ∨ w = 1 ∨ w = 2 ∨ w = 3 ∨ w = 5 ∨ w = 6 ∨ w = 9 ∨ w = 60) : r_mid fr 280 (444 + 61 * C + w) = fr 280 (444 + 61 * C + w) := by
  unfold r_mid
  split
  · rw [r_f163_o (by omega) (by omega) (by omega) (by omega) (by omega), r_f17_o (by omega) (by omega) (by omega) (by omega) (by omega)]
  · rw [fl_row_self, upd_ne (by omega), upd_ne (by omega), r_f17_o (by omega) (by omega) (by omega) (by omega) (by omega)]
theorem r_goMeasure_mid : r_goMeasure_m fr = fl_row (r_mid fr) 280 (upd (r_mid fr 280) 4 (if (r_isLive_v (r_mid fr)).toInt = 0 then r_mid fr 280 4 else r_pack_v (r_mid fr))) := by
  unfold r_goMeasure_m r_mid r_goMeasure_j204_0 r_goMeasure_j204_1
  by_cases h : (r_goMeasure_j144_0 fr).toInt = (fr 280 53).toInt
  · simp only [if_pos h]
  · simp only [if_neg h]
    funext q j
    by_cases hq : q = 280
    · subst hq
      simp only [fl_row_self, upd_ne (by decide : (4 : Nat) ≠ 9), upd_ne (by decide : (4 : Nat) ≠ 14)]
    · rw [fl_row_ne hq, fl_row_ne hq, fl_row_ne hq]
theorem r_live_c {f f' : t2_F} (h3 : f' 280 3 = f 280 3) (hk : ∀ k : Nat, k < 3 → f' 280 (64 + k) = f 280 (64 + k)) : r_actual_v f' = r_actual_v f ∧ r_isLive_v f' = r_isLive_v f ∧ r_ordered_v f' = r_ordered_v f := by
  have e : r_ordered_v f' = r_ordered_v f := by
    unfold r_ordered_v r_ordered_j6_0
    rw [h3]
  have a : r_actual_v f' = r_actual_v f := by
    unfold r_actual_v
    simp only [r_actual_a4, hk 0 (by omega), hk 1 (by omega), hk 2 (by omega), e]
  refine ⟨a, ?_, e⟩
  unfold r_isLive_v
  rw [a]
theorem c0_live_c {f f' : t2_F} (h7 : f' 1 7 = f 1 7) (h5 : f' 5 = f 5) : c0_actualBits_v f' = c0_actualBits_v f ∧ (∀ x : Int32, c0_areActual_v f' x = c0_areActual_v f x) ∧ c0_orderedBits_v f' = c0_orderedBits_v f := by
  have e : c0_orderedBits_v f' = c0_orderedBits_v f := by
    unfold c0_orderedBits_v c0_orderedBits_j14_0
    rw [h7]
  have a : c0_actualBits_v f' = c0_actualBits_v f := by
    unfold c0_actualBits_v
    simp only [c0_actualBits_a7, h5, e]
  refine ⟨a, fun x => ?_, e⟩
  unfold c0_areActual_v
  rw [a]
theorem c0_pack_c {f f' : t2_F} {n : Nat} (h : ∀ C : Nat, C < n → ∀ j : Nat, (j = 4 ∨ j = 5 ∨ j = 7) → f' (18 + 4 * C) j = f (18 + 4 * C) j) : c0_packAt_a4 f' x n = c0_packAt_a4 f x n := by
  induction n with
  | zero => rfl
  | succ n ih =>
    show c0_packAt_a4 f' x n + c0_voltsAt_v f' n x = c0_packAt_a4 f x n + c0_voltsAt_v f n x
    rw [ih (fun C hC => h C (by omega))]
    unfold c0_voltsAt_v
    rw [h n (by omega) 4 (by omega), h n (by omega) 5 (by omega), h n (by omega) 7 (by omega)]
/-- (6), a cell behind the loops -/
theorem c0_cell6 (hn : (fr 280 2).toInt.toNat = n) (hC : C < n) (h : c0_R6 fc fr C) (ck : t2_ck fr C) (hx : fc 1 9 = fr 280 5) (hy : fc 1 10 = fr 280 14) (hrst : fc 1 12 = fr 280 9) (hs : c0_Rs fc fr) (hr : 1 ≤ (fr 280 53).toInt) :
    c0_Rc (c0_sMeasure_f46 fc n) (r_mid fr) C ∧ t2_cap (c0_sMeasure_f46 fc n (18 + 4 * C) 0) ∧ c0_Rm (c0_sMeasure_f46 fc n) (r_mid fr) C ∧ c0_sMeasure_f46 fc n (18 + 4 * C) 11 = r_mid fr 280 (444 + 61 * C + 14) ∧ r_mid fr 280 (444 + 61 * C + 15) = 1 ∧ c0_sMeasure_f46 fc n (18 + 4 * C) 10 = fr 280 (444 + 61 * C + 15) ∧ (∀ j : Nat, (j = 4 ∨ j = 5 ∨ j = 7) → c0_sMeasure_f46 fc n (18 + 4 * C) j = fc (18 + 4 * C) j) ∧ t2_ck (r_mid fr) C := by
  have hj := c0_meas_j15 h hx hy
  obtain ⟨hc, hcap, hf, ⟨m14, m15, m16, m17⟩, h10, h01, h11, hb1, hb2⟩ := h
  obtain ⟨⟨a0, a1, a2⟩, ⟨a3, a4⟩, ⟨a5, a6, a7⟩, a8, a9, a18⟩ := id hc
  have ev := c0_volts_eq (c := Int32.ofNat C) hc hf
  have s19 : fc 4 19 = fr 280 53 := hs 19 (by omega)
  have ej : c0_sMeasure_j5_0 fc = r_goMeasure_j144_0 fr := by
    unfold c0_sMeasure_j5_0 r_goMeasure_j144_0
    rw [hx, hrst]
  have P3 : r_partOf_v (r_mid fr) 0 C = r_partOf_v fr 0 C := by
    unfold r_partOf_v
    rw [r_mid_s (by omega), r_mid_s (by omega)]
  obtain ⟨g11, g14, g15, g13⟩ := r_f17_w (f := fr) (C := C) (k := n) hC
  have c1 : (1 : Int32).toInt = 1 := by decide +kernel
  have c0 : (0 : Int32).toInt = 0 := rfl
  have ckm : t2_ck (r_mid fr) C := c0_ck_congr ck (r_mid_s (by omega)) (r_mid_s (by omega))
  by_cases hR : (r_goMeasure_j144_0 fr).toInt = (fr 280 53).toInt
  · -- resting
    have hcur : (fr 280 5).toInt = 0 := by
      apply Classical.byContradiction
      intro q
      unfold r_goMeasure_j144_0 at hR
      rw [if_neg q] at hR
      omega
    have hcur0 : fr 280 5 = 0 := Int32.toInt.inj hcur
    have hz : ¬ (c0_sMeasure_j35_0 fc).toInt = 0 := by
      unfold c0_sMeasure_j35_0
      rw [ej, s19, if_pos hR]
      omega
    have eM : r_mid fr = r_goMeasure_f163 fr n := by
      unfold r_mid
      rw [if_pos hR, hn]
    have evM : ∀ f' : t2_F, (∀ w : Nat, (w = 0 ∨ w = 1 ∨ w = 2 ∨ w = 9) → f' 280 (444 + 61 * C + w) = fr 280 (444 + 61 * C + w)) → f' 280 5 = fr 280 5 → r_voltsOf_v f' (Int32.ofNat C) C = r_voltsOf_v fr (Int32.ofNat C) C := fun f' q q5 => r_volts_c q5 (q 0 (by omega)) (q 1 (by omega)) (q 2 (by omega)) (q 9 (by omega))
    have q163 : ∀ w : Nat, (w = 0 ∨ w = 1 ∨ w = 2 ∨ w = 9) → r_goMeasure_f163 fr C 280 (444 + 61 * C + w) = fr 280 (444 + 61 * C + w) := fun w hw => by
      rw [r_f163_me (by omega), hn, r_f17_o (by omega) (by omega) (by omega) (by omega) (by omega)]
    have eV := evM (r_goMeasure_f163 fr C) q163 (r_f163_lo (by decide) (by decide) (by decide))
    generalize hP : t2_pb (r_voltsOf_v fr (Int32.ofNat C) C) = P
    have hPb : 0 ≤ P.toInt ∧ P.toInt ≤ 1000 := by rw [← hP]; exact t2_pb_b _
    have ev0 : c0_voltsAt_v fc C (0 : Int32) = r_voltsOf_v fr (Int32.ofNat C) C := by rw [← ev, hcur0]
    obtain ⟨w14, w11, w16, w17, w8, w15, wo⟩ := c0_f46_w1 (f := fc) (C := C) (k := n) (P := P) hC hz (by rw [ev0, hP])
    obtain ⟨r4, r12, r16, r13⟩ := r_rest_w (g := r_goMeasure_f163 fr C) (c := Int32.ofNat C) (C := C)
    rw [eV, hP] at r4 r16
    obtain ⟨n1, n2, n3, n4⟩ := t2_chg (P := P) hPb hcap
    have in_ : ∀ w : Nat, w < 61 → r_mid fr 280 (444 + 61 * C + w) = r_restNow_m (r_goMeasure_f163 fr C) (Int32.ofNat C) C 280 (444 + 61 * C + w) := fun w hw => by
      rw [eM, r_f163_in hw hC]
    have cf : (fc (18 + 4 * C) 0 * (3600 : Int32)).toInt = (fc (18 + 4 * C) 0).toInt * 3600 := t2_full_i hcap
    have p8 : c0_sMeasure_f46 fc n (18 + 4 * C) 8 = r_mid fr 280 (444 + 61 * C + 4) := by
      rw [w8, t2_held_id n2 (by omega), in_ 4 (by decide), r4]
      unfold r_chargeAt_v
      rw [q163 0 (by omega), ← a0, n4]
    have p15 : c0_sMeasure_f46 fc n (18 + 4 * C) 15 = r_mid fr 280 (444 + 61 * C + 12) := by
      rw [w15, in_ 12 (by decide), r12]
      unfold r_restNow_j32_0
      rw [eV, hP, r_f163_me (by decide), r_f163_me (by decide), r_f163_me (by decide), hn, r_f17_o (by decide) (by decide) (by decide) (by decide) (by decide), r_f17_o (by decide) (by decide) (by decide) (by decide) (by decide), g13, m17, m15, m16, hx]
      have hw := t2_abs_d (p := P) (q := fr 280 (444 + 61 * C + 16)) hPb ⟨hb1, hb2⟩
      have hg : ((1000 : Int64) * (r_size_v (fr 280 (444 + 61 * C + 13) + fr 280 5)).toInt64) / ((3600 : Int32) * (r_size_v (P - fr 280 (444 + 61 * C + 16)))).toInt64 = (((t2_abs_v (fr 280 (444 + 61 * C + 13) + fr 280 5)).toInt64) * (1000 : Int64)) / (((t2_abs_v (P - fr 280 (444 + 61 * C + 16))).toInt64) * (3600 : Int64)) := t2_gue hw
      rw [hg]
      rfl
    refine ⟨⟨⟨?_, ?_, ?_⟩, ⟨?_, ?_⟩, ⟨?_, ?_, ?_⟩, p8, ?_, ?_⟩, ?_, ⟨?_, p15, ?_, ?_⟩, ?_, ?_, ?_, fun j hj => wo j (by omega) (by omega) (by omega) (by omega) (by omega) (by omega), ckm⟩
    · rw [wo 0 (by decide) (by decide) (by decide) (by decide) (by decide) (by decide), r_mid_s (by omega), a0]
    · rw [wo 1 (by decide) (by decide) (by decide) (by decide) (by decide) (by decide), r_mid_s (by omega), a1]
    · rw [wo 2 (by decide) (by decide) (by decide) (by decide) (by decide) (by decide), r_mid_s (by omega), a2]
    · rw [wo 3 (by decide) (by decide) (by decide) (by decide) (by decide) (by decide), P3, a3]
    · rw [wo 4 (by decide) (by decide) (by decide) (by decide) (by decide) (by decide), P3, a4]
    · rw [wo 5 (by decide) (by decide) (by decide) (by decide) (by decide) (by decide), r_mid_s (by omega), a5]
    · rw [wo 6 (by decide) (by decide) (by decide) (by decide) (by decide) (by decide), r_mid_s (by omega), a6]
    · rw [wo 7 (by decide) (by decide) (by decide) (by decide) (by decide) (by decide), r_mid_s (by omega), a7]
    · rw [wo 9 (by decide) (by decide) (by decide) (by decide) (by decide) (by decide), r_mid_s (by omega), a9]
    · rw [wo 18 (by decide) (by decide) (by decide) (by decide) (by decide) (by decide), r_mid_s (by omega), a18]
    · rw [wo 0 (by decide) (by decide) (by decide) (by decide) (by decide) (by decide)]
      exact hcap
    · rw [w14, hj, eM, r_f163_o (by decide) (by decide) (by decide) (by decide) (by decide), hn, g11]
    · rw [w16, in_ 13 (by decide), r13]
    · rw [w17, in_ 16 (by decide), r16]
    · rw [w11, hx, ev, eM, r_f163_o (by decide) (by decide) (by decide) (by decide) (by decide), hn, g14]
    · rw [eM, r_f163_o (by decide) (by decide) (by decide) (by decide) (by decide), hn, g15]
    · rw [wo 10 (by decide) (by decide) (by decide) (by decide) (by decide) (by decide), h10]
  · have hz : (c0_sMeasure_j35_0 fc).toInt = 0 := by
      unfold c0_sMeasure_j35_0
      rw [ej, s19, if_neg hR]
      exact c0
    have in_ : ∀ w : Nat, w < 61 → r_mid fr 280 (444 + 61 * C + w) = r_goMeasure_f17 fr n 280 (444 + 61 * C + w) := fun w hw => by
      unfold r_mid
      rw [if_neg hR, fl_row_self, upd_ne (by omega), upd_ne (by omega), hn]
    have ino : ∀ w : Nat, w < 61 → w ≠ 11 → w ≠ 14 → w ≠ 15 → w ≠ 13 → r_mid fr 280 (444 + 61 * C + w) = fr 280 (444 + 61 * C + w) := fun w hw x1 x2 x3 x4 => by
      rw [in_ w hw, r_f17_o hw x1 x2 x3 x4]
    obtain ⟨w14, w11, w16, wo⟩ := c0_f46_w0 (f := fc) (C := C) (k := n) hC hz
    refine ⟨⟨⟨?_, ?_, ?_⟩, ⟨?_, ?_⟩, ⟨?_, ?_, ?_⟩, ?_, ?_, ?_⟩, ?_, ⟨?_, ?_, ?_, ?_⟩, ?_, ?_, ?_, fun j hj => wo j (by omega) (by omega) (by omega), ckm⟩
    · rw [wo 0 (by decide) (by decide) (by decide), r_mid_s (by omega), a0]
    · rw [wo 1 (by decide) (by decide) (by decide), r_mid_s (by omega), a1]
    · rw [wo 2 (by decide) (by decide) (by decide), r_mid_s (by omega), a2]
    · rw [wo 3 (by decide) (by decide) (by decide), P3, a3]
    · rw [wo 4 (by decide) (by decide) (by decide), P3, a4]
    · rw [wo 5 (by decide) (by decide) (by decide), r_mid_s (by omega), a5]
    · rw [wo 6 (by decide) (by decide) (by decide), r_mid_s (by omega), a6]
    · rw [wo 7 (by decide) (by decide) (by decide), r_mid_s (by omega), a7]
    · rw [wo 8 (by decide) (by decide) (by decide), ino 4 (by decide) (by decide) (by decide) (by decide) (by decide), a8]
    · rw [wo 9 (by decide) (by decide) (by decide), r_mid_s (by omega), a9]
    · rw [wo 18 (by decide) (by decide) (by decide), r_mid_s (by omega), a18]
    · rw [wo 0 (by decide) (by decide) (by decide)]
      exact hcap
    · rw [w14, hj, in_ 11 (by decide), g11]
    · rw [wo 15 (by decide) (by decide) (by decide), ino 12 (by decide) (by decide) (by decide) (by decide) (by decide), m15]
    · rw [w16, in_ 13 (by decide), g13, m16, hx]
    · rw [wo 17 (by decide) (by decide) (by decide), ino 16 (by decide) (by decide) (by decide) (by decide) (by decide), m17]
    · rw [w11, hx, ev, in_ 14 (by decide), g14]
    · rw [in_ 15 (by decide), g15]
    · rw [wo 10 (by decide) (by decide) (by decide), h10]
end C0MEAS
