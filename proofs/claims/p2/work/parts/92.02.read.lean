/-! ===== block 0: what is read of the two states is the same ===== -/
def c0_Rc (fc fr : t2_F) (C : Nat) : Prop :=
  (fc (18 + 4 * C) 0 = fr 280 (444 + 61 * C + 0) ∧ fc (18 + 4 * C) 1 = fr 280 (444 + 61 * C + 6) ∧ fc (18 + 4 * C) 2 = fr 280 (444 + 61 * C + 1)) ∧
  (fc (18 + 4 * C) 3 = r_partOf_v fr 0 C ∧ fc (18 + 4 * C) 4 = t2_rb (r_partOf_v fr 0 C)) ∧
  (fc (18 + 4 * C) 5 = fr 280 (444 + 61 * C + 2) ∧ fc (18 + 4 * C) 6 = fr 280 (444 + 61 * C + 3) ∧ fc (18 + 4 * C) 7 = fr 280 (444 + 61 * C + 9)) ∧
  fc (18 + 4 * C) 8 = fr 280 (444 + 61 * C + 4) ∧ fc (18 + 4 * C) 9 = fr 280 (444 + 61 * C + 5) ∧ fc (18 + 4 * C) 18 = fr 280 (444 + 61 * C + 60)
/-- settings, contactors, zones -/
def c0_Rs (fc fr : t2_F) : Prop := ∀ k : Nat, k < 30 → fc 4 k = fr 280 (34 + k)
def c0_Rk (fc fr : t2_F) : Prop := ∀ k : Nat, k < 3 → fc 5 k = fr 280 (64 + k)
def c0_Rz (fc fr : t2_F) : Prop := fc 3 6 = fr 280 17 ∧ (∀ k : Nat, k < 12 → fc 7 k = fr 280 (67 + k)) ∧ ∀ k : Nat, k < 6 → 0 ≤ (fr 280 (67 + 2 * k + 1)).toInt
section C0READ
variable {fc fr : t2_F} {C : Nat} {c x : Int32}
theorem c0_calm_eq (h : c0_Rc fc fr C) : fc (18 + 4 * C) 4 + fc (18 + 4 * C) 7 = r_calmVolts_v fr c C := by
  obtain ⟨-, ⟨-, h4⟩, ⟨-, -, h7⟩, -⟩ := h
  rw [h4, h7]
  rfl
/-- what a current makes over a cell's ohms isn't too far below 0 -/
def t2_far (x o : Int32) : Prop := -2147482000 ≤ (x * o).toInt
theorem t2_far_ok {x o : Int32} (hx : -99999 ≤ x.toInt ∧ x.toInt ≤ 99999) (ho : 0 ≤ o.toInt ∧ o.toInt ≤ 99) : t2_far x o := by
  have h1 : (99999 : Int) * 99 = 9899901 := by decide
  have h2 : x.toInt * o.toInt ≤ 99999 * 99 := Int.le_trans (Int.mul_le_mul_of_nonneg_right hx.2 ho.1) (Int.mul_le_mul_of_nonneg_left ho.2 (by omega))
  have h3 : (-99999) * o.toInt ≤ x.toInt * o.toInt := Int.mul_le_mul_of_nonneg_right hx.1 ho.1
  unfold t2_far
  rw [at_mul32] <;> omega
theorem c0_volts_eq (h : c0_Rc fc fr C) (hf : t2_far (fr 280 5) (fr 280 (444 + 61 * C + 2))) : c0_voltsAt_v fc C (fr 280 5) = r_voltsOf_v fr c C := by
  have e := c0_calm_eq (c := c) h
  obtain ⟨-, -, ⟨h5, -, -⟩, -⟩ := h
  unfold c0_voltsAt_v r_voltsOf_v
  rw [e, h5, t2_flo1000 hf]
theorem t2_fdiv0 : t2_fdiv_v (0 : Int32) (1000 : Int32) = 0 := by
  unfold t2_fdiv_v
  have e : ((0 : Int32) ^^^ (1000 : Int32)).toInt = 1000 := by decide +kernel
  rw [e, if_neg (by omega)]
  decide +kernel
theorem c0_volts0_eq (h : c0_Rc fc fr C) : c0_voltsAt_v fc C (0 : Int32) = r_calmVolts_v fr c C := by
  have e := c0_calm_eq (c := c) h
  unfold c0_voltsAt_v
  rw [e, Int32.zero_mul, t2_fdiv0, Int32.add_zero]
theorem c0_pack_eq {n : Nat} (h : ∀ C : Nat, C < n → c0_Rc fc fr C ∧ t2_far (fr 280 5) (fr 280 (444 + 61 * C + 2))) : c0_packAt_a4 fc (fr 280 5) n = r_pack_a4 fr n := by
  induction n with
  | zero => rfl
  | succ n ih =>
    have hn := h n (by omega)
    show c0_packAt_a4 fc (fr 280 5) n + c0_voltsAt_v fc n (fr 280 5) = r_pack_a4 fr n + r_voltsOf_v fr (Int32.ofNat n) n
    rw [ih (fun C hC => h C (by omega)), c0_volts_eq hn.1 hn.2]
theorem c0_packCalm_eq {n : Nat} (h : ∀ C : Nat, C < n → c0_Rc fc fr C) : c0_packAt_a4 fc (0 : Int32) n = r_packCalm_a4 fr n := by
  induction n with
  | zero => rfl
  | succ n ih =>
    have hn := h n (by omega)
    show c0_packAt_a4 fc (0 : Int32) n + c0_voltsAt_v fc n (0 : Int32) = r_packCalm_a4 fr n + r_calmVolts_v fr (Int32.ofNat n) n
    rw [ih (fun C hC => h C (by omega)), c0_volts0_eq hn]
theorem c0_least_eq {n : Nat} (h : ∀ C : Nat, C < n → c0_Rc fc fr C) : c0_leastPart_a6 fc n = r_leastPart_a6 fr n := by
  induction n with
  | zero => rfl
  | succ n ih =>
    obtain ⟨-, ⟨h3, -⟩, -⟩ := h n (by omega)
    show t2_min_v (c0_leastPart_a6 fc n) (fc (18 + 4 * n) 3) = r_lesser_v (r_leastPart_a6 fr n) (r_partOf_v fr (Int32.ofNat n) n)
    rw [ih (fun C hC => h C (by omega)), h3, t2_les]
    rfl
/-- the contactors -/
theorem c0_ordered_eq (hs : fc 1 7 = fr 280 3) : c0_orderedBits_v fc = r_ordered_v fr := by
  unfold c0_orderedBits_v c0_orderedBits_j14_0 r_ordered_v r_ordered_j6_0
  rw [hs]
theorem c0_ordered_in : c0_orderedBits_v fc = 0 ∨ c0_orderedBits_v fc = 3 ∨ c0_orderedBits_v fc = 5 := by
  unfold c0_orderedBits_v c0_orderedBits_j14_0
  split
  · exact Or.inl rfl
  · split
    · exact Or.inr (Or.inl rfl)
    · exact Or.inr (Or.inr rfl)
/-- how a contactor is stuck: 0, 1, 2 -/
def t2_how (x : Int32) : Prop := x = 0 ∨ x = 1 ∨ x = 2
theorem c0_actual_eq (hs : fc 1 7 = fr 280 3) (hk : c0_Rk fc fr) (hw : ∀ k : Nat, k < 3 → t2_how (fr 280 (64 + k))) : c0_actualBits_v fc = r_actual_v fr := by
  have e := c0_ordered_eq hs
  have k0 := hk 0 (by omega)
  have k1 := hk 1 (by omega)
  have k2 := hk 2 (by omega)
  have w0 := hw 0 (by omega)
  have w1 := hw 1 (by omega)
  have w2 := hw 2 (by omega)
  have o := c0_ordered_in (fc := fc)
  unfold c0_actualBits_v r_actual_v
  simp only [c0_actualBits_a7, r_actual_a4, k0, k1, k2, ← e]
  generalize c0_orderedBits_v fc = q at o
  generalize fr 280 (64 + 0) = a at w0
  generalize fr 280 (64 + 1) = b at w1
  generalize fr 280 (64 + 2) = d at w2
  rcases o with rfl | rfl | rfl <;> rcases w0 with rfl | rfl | rfl <;> rcases w1 with rfl | rfl | rfl <;> rcases w2 with rfl | rfl | rfl <;> decide +kernel
theorem c0_live_eq (hs : fc 1 7 = fr 280 3) (hk : c0_Rk fc fr) (hw : ∀ k : Nat, k < 3 → t2_how (fr 280 (64 + k))) : c0_areActual_v fc (5 : Int32) = r_isLive_v fr := by
  unfold c0_areActual_v r_isLive_v
  rw [c0_actual_eq hs hk hw]
/-- limits -/
theorem c0_zone_eq (hz : c0_Rz fc fr) {n : Nat} (hn : n ≤ 6) (w : Int32) (hx : w = fr 280 (444 + 61 * C + 3)) : (c0_zoneCurrent_a5 fc w n = (2147483647 : Int32) ∧ r_limitBy_a84 fr c C x n = (-1 : Int32)) ∨ (c0_zoneCurrent_a5 fc w n = r_limitBy_a84 fr c C x n ∧ 0 ≤ (r_limitBy_a84 fr c C x n).toInt) := by
  induction n with
  | zero => exact Or.inl ⟨rfl, rfl⟩
  | succ n ih =>
    have ih := ih (by omega)
    have e0 : fc 7 (2 * n) = fr 280 (67 + (2 * n)) := hz.2.1 (2 * n) (by omega)
    have e1 : fc 7 (2 * n + 1) = fr 280 ((67 + (2 * n)) + 1) := hz.2.1 (2 * n + 1) (by omega)
    have e2 := hz.2.2 n (by omega)
    unfold c0_zoneCurrent_a5 r_limitBy_a84
    rw [e0, e1, hx]
    by_cases hc : (fr 280 (444 + 61 * C + 3)).toInt < (fr 280 (67 + (2 * n))).toInt
    · rw [if_pos hc, if_pos hc, ← hx]
      exact ih
    · rw [if_neg hc, if_neg hc]
      exact Or.inr ⟨rfl, e2⟩
theorem c0_own_eq (h : c0_Rc fc fr C) (hs : c0_Rs fc fr) (hz : c0_Rz fc fr) (hz6 : 0 ≤ (fr 280 17).toInt ∧ (fr 280 17).toInt ≤ 6) : c0_ownLimit_v fc C x = r_limitBy_v fr c C x := by
  have s0 : fc 4 0 = fr 280 34 := hs 0 (by omega)
  have s1 : fc 4 1 = fr 280 35 := hs 1 (by omega)
  have s2 : fc 4 2 = fr 280 36 := hs 2 (by omega)
  have s3 : fc 4 3 = fr 280 37 := hs 3 (by omega)
  have s5 : fc 4 5 = fr 280 39 := hs 5 (by omega)
  have e := c0_calm_eq (c := c) h
  obtain ⟨-, -, ⟨-, h6, -⟩, -⟩ := h
  have zz := c0_zone_eq (C := C) (c := c) (x := x) hz (n := (fr 280 17).toInt.toNat) (by omega) (fc (18 + 4 * C) 6) h6
  have m1 : (-1 : Int32).toInt = -1 := by decide +kernel
  unfold c0_ownLimit_v r_limitBy_v r_limitBy_j151_0 r_limitBy_j137_0 r_limitBy_j63_0 r_limitBy_j8_0 c0_zoneCurrent_v
  rw [hz.1, s0, s1, s2, s3, s5, e, h6, t2_m32 (500 : Int32)]
  rw [h6] at zz
  simp only [t2_les]
  by_cases hx : x.toInt = 0
  · simp only [if_pos hx]
    by_cases hc : (fr 280 (444 + 61 * C + 3)).toInt < (fr 280 37).toInt
    · simp only [if_pos hc]
      rcases zz with ⟨-, z2⟩ | ⟨-, z2⟩
      · simp only [z2, if_pos]
        rfl
      · simp only [if_neg (show ¬ (r_limitBy_a84 fr c C x ((fr 280 17).toInt.toNat)).toInt = (-1 : Int32).toInt by omega)]
        exact t2_lim3 z2
    · simp only [if_neg hc]
      rcases zz with ⟨z1, z2⟩ | ⟨z1, z2⟩
      · simp only [z1, z2, if_pos]
        exact t2_lim1 _ _
      · simp only [z1, if_neg (show ¬ (r_limitBy_a84 fr c C x ((fr 280 17).toInt.toNat)).toInt = (-1 : Int32).toInt by omega)]
        exact t2_lim2 _ _ _
  · simp only [if_neg hx]
    rcases zz with ⟨z1, z2⟩ | ⟨z1, z2⟩
    · simp only [z1, z2, if_pos]
      exact t2_lim1 _ _
    · simp only [z1, if_neg (show ¬ (r_limitBy_a84 fr c C x ((fr 280 17).toInt.toNat)).toInt = (-1 : Int32).toInt by omega)]
      exact t2_lim2 _ _ _
theorem c0_own_nn : 0 ≤ (c0_ownLimit_v fc C x).toInt := by
  have e0 : (0 : Int32).toInt = 0 := rfl
  unfold c0_ownLimit_v
  repeat' split
  · omega
  · rw [t2_max_i, e0]
    omega
  · rw [t2_max_i, e0]
    omega
theorem c0_worst_eq {n : Nat} (hn : n ≤ 16) (h : ∀ C : Nat, C < n → ∀ c : Int32, c0_ownLimit_v fc C x = r_limitBy_v fr c C x) : (c0_worstCell_a8 fc x n).1 = r_tightest_a4 fr x n ∧ ((n = 0 ∧ r_tightest_a4 fr x n = (-1 : Int32)) ∨ ∃ j : Nat, j < n ∧ r_tightest_a4 fr x n = Int32.ofNat j ∧ (c0_worstCell_a8 fc x n).2 = c0_ownLimit_v fc j x) := by
  have m1 : (-1 : Int32).toInt = -1 := by decide +kernel
  induction n with
  | zero => exact ⟨rfl, Or.inl ⟨rfl, rfl⟩⟩
  | succ n ih =>
    obtain ⟨e1, e2⟩ := ih (by omega) (fun C hC => h C (by omega))
    have hw := h n (by omega)
    have en : (Int32.ofNat n).toInt = n := at_ofN (by omega)
    unfold c0_worstCell_a8 r_tightest_a4
    rw [e1]
    rcases e2 with ⟨rfl, e2⟩ | ⟨j, hj, e2, e3⟩
    · simp only [e2, if_pos]
      exact ⟨trivial, Or.inr ⟨0, by omega, rfl, rfl⟩⟩
    · have ej : (Int32.ofNat j).toInt = j := at_ofN (by omega)
      have ejn : (Int32.ofNat j).toInt.toNat = j := by omega
      have hwj := h j (by omega) (Int32.ofNat j)
      rw [e2, e3]
      simp only [if_neg (show ¬ (Int32.ofNat j).toInt = (-1 : Int32).toInt by omega), ejn]
      rw [← hw, ← hwj]
      by_cases hl : (c0_ownLimit_v fc n x).toInt < (c0_ownLimit_v fc j x).toInt
      · simp only [if_pos hl]
        exact ⟨trivial, Or.inr ⟨n, by omega, rfl, rfl⟩⟩
      · simp only [if_neg hl]
        exact ⟨trivial, Or.inr ⟨j, by omega, rfl, rfl⟩⟩
theorem c0_limit_eq {n : Nat} (hn : n ≤ 16) (h : ∀ C : Nat, C < n → ∀ c : Int32, c0_ownLimit_v fc C x = r_limitBy_v fr c C x) : r_limitOf_a8 fr x n = if n = 0 then fr 280 38 else t2_min_v (fr 280 38) (c0_worstCell_a8 fc x n).2 := by
  have m1 : (-1 : Int32).toInt = -1 := by decide +kernel
  induction n with
  | zero => rfl
  | succ n ih =>
    have ih := ih (by omega) (fun C hC => h C (by omega))
    have hw := h n (by omega) (Int32.ofNat n)
    have ww := c0_worst_eq (fc := fc) (fr := fr) (x := x) (n := n) (by omega) (fun C hC => h C (by omega))
    rw [if_neg (by omega)]
    show r_lesser_v (r_limitOf_a8 fr x n) (r_limitBy_v fr (Int32.ofNat n) n x) = _
    have ew : (c0_worstCell_a8 fc x (n + 1)).2 = if ((c0_worstCell_a8 fc x n).1).toInt = (-1 : Int32).toInt then c0_ownLimit_v fc n x else (if (c0_ownLimit_v fc n x).toInt < ((c0_worstCell_a8 fc x n).2).toInt then c0_ownLimit_v fc n x else (c0_worstCell_a8 fc x n).2) := rfl
    rw [ih, ← hw, t2_les, ew]
    rcases ww.2 with ⟨h0, e2⟩ | ⟨j, hj, e2, e3⟩
    · have hne : ((c0_worstCell_a8 fc x n).1).toInt = (-1 : Int32).toInt := by rw [ww.1, e2]
      rw [if_pos h0, if_pos hne]
    · have ej : (Int32.ofNat j).toInt = j := at_ofN (by omega)
      have hne : ¬ ((c0_worstCell_a8 fc x n).1).toInt = (-1 : Int32).toInt := by
        rw [ww.1, e2]
        omega
      rw [if_neg (show ¬ n = 0 by omega), if_neg hne, t2_min_a]
      rfl
/-- (1) of a second: the bus -/
theorem c0_bus_eq {n : Nat} (hn : (fc 1 5).toInt = n) (hn2 : fc 1 5 = fr 280 2) (hC : ∀ C : Nat, C < n → c0_Rc fc fr C) (hst : fc 1 7 = fr 280 3) (hb : fc 1 8 = fr 280 4) (hs : c0_Rs fc fr) (hk : c0_Rk fc fr) (hw : ∀ k : Nat, k < 3 → t2_how (fr 280 (64 + k))) (bb : -1000000000 ≤ (fr 280 4).toInt ∧ (fr 280 4).toInt ≤ 1000000000) (bp : -1000000000 ≤ (r_packCalm_v fr).toInt ∧ (r_packCalm_v fr).toInt ≤ 1000000000) : c0_packAt_v fc (0 : Int32) = r_packCalm_v fr ∧ c0_moveBus_j16_0 fc = r_goBus_j16_0 fr := by
  have e0 : (0 : Int32).toInt = 0 := rfl
  have e3 : (3 : Int32).toInt = 3 := by decide +kernel
  have e03 : ((0 : Int32) + (3 : Int32)) / (4 : Int32) = 0 := by decide +kernel
  have s7 : fc 4 7 = fr 280 41 := hs 7 (by omega)
  have hp : c0_packAt_v fc (0 : Int32) = r_packCalm_v fr := by
    unfold c0_packAt_v r_packCalm_v
    rw [← hn2, hn, Int.toNat_natCast]
    exact c0_packCalm_eq hC
  refine ⟨hp, ?_⟩
  have hl := c0_live_eq hst hk hw
  have ha := c0_actual_eq hst hk hw
  unfold c0_moveBus_j16_0 r_goBus_j16_0
  rw [hl, hp, hb, s7]
  have h3 : c0_areActual_v fc (3 : Int32) = if ((r_actual_v fr) &&& (3 : Int32)).toInt = (3 : Int32).toInt then (1 : Int32) else (0 : Int32) := by
    unfold c0_areActual_v
    rw [ha]
  rw [h3]
  by_cases h1 : (r_isLive_v fr).toInt = 0
  · rw [if_pos h1, if_pos h1]
    by_cases h2 : ((r_actual_v fr) &&& (3 : Int32)).toInt = (3 : Int32).toInt
    · rw [if_pos h2, if_pos h2, if_neg (by decide +kernel)]
      have hd : (r_packCalm_v fr - fr 280 4).toInt = (r_packCalm_v fr).toInt - (fr 280 4).toInt := at_sub32 (by omega) (by omega)
      have hj : (t2_max_v (r_packCalm_v fr - fr 280 4) (0 : Int32) + (3 : Int32)) / (4 : Int32) = r_goBus_j41_0 fr := by
        unfold r_goBus_j41_0 t2_max_v
        by_cases hlt : (fr 280 4).toInt < (r_packCalm_v fr).toInt
        · rw [if_pos hlt, if_neg (by omega)]
        · rw [if_neg hlt]
          by_cases hlt2 : (r_packCalm_v fr - fr 280 4).toInt < (0 : Int32).toInt
          · rw [if_pos hlt2]
            exact e03
          · rw [if_neg hlt2]
            have : r_packCalm_v fr - fr 280 4 = 0 := Int32.toInt.inj (by omega)
            rw [this]
            exact e03
      rw [hj]
      unfold r_goBus_j78_0 t2_max_v
      rfl
    · rw [if_neg h2, if_neg h2, if_pos e0, t2_flo2 (by omega)]
  · rw [if_neg h1, if_neg h1]
end C0READ
/-- what (1) leaves: words -/
theorem c0_moveBus_w {f : t2_F} (j : Nat) : c0_moveBus_m f 1 j = if j = 8 then c0_moveBus_j16_0 f else if j = 7 then (if (f 1 7).toInt = (1 : Int32).toInt then (if ((c0_moveBus_j16_0 f) * (1000 : Int32)).toInt < ((950 : Int32) * (c0_packAt_v f (0 : Int32))).toInt then f 1 7 else (2 : Int32)) else f 1 7) else f 1 j := by
  unfold c0_moveBus_m
  by_cases h1 : (f 1 7).toInt = (1 : Int32).toInt
  · simp only [if_pos h1]
    by_cases h2 : ((c0_moveBus_j16_0 f) * (1000 : Int32)).toInt < ((950 : Int32) * (c0_packAt_v f (0 : Int32))).toInt
    · simp only [if_pos h2]
      split
      all_goals
        simp only [fl_row_self, upd]
        repeat' split
        all_goals first | rfl | simp_all
    · simp only [if_neg h2, fl_row_self, upd]
      repeat' split
      all_goals first | rfl | simp_all
  · simp only [if_neg h1, fl_row_self, upd]
    repeat' split
    all_goals first | rfl | simp_all
