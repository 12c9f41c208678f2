/-! ===== block 0: (7) of a second: the pack's faults, the book ===== -/
section C0FPK
variable {fc fr f g F G : t2_F} {C n k : Nat} {c x y z : Int32}
theorem c0_spread_c {f f' : t2_F} (h1 : f' 1 = f 1) (h : ∀ C : Nat, f' (18 + 4 * C) = f (18 + 4 * C)) : c0_partSpread_v f' = c0_partSpread_v f := by
  have e : ∀ (y : Int32) (k : Nat), c0_spreadOf_a10 f' y k = c0_spreadOf_a10 f y k := by
    intro y k
    induction k with
    | zero => rfl
    | succ k ih =>
      unfold c0_spreadOf_a10
      rw [ih, h]
  unfold c0_partSpread_v c0_partSpread_j4_0 c0_spreadOf_v
  rw [h1, e]
theorem c0_fp_bits (hk : k < 11) : t2_bt (c0_faultsOfPack_v f) k = t2_pk (decide ((f 1 7).toInt = (2 : Int32).toInt ∧ (f 4 4).toInt < (t2_abs_v (f 4 20)).toInt)) (decide ((c0_leakBit_j2_0 f (c0_faultsOfPack_j59_0 f)).toInt = (3 : Int32).toInt)) (decide ((f 4 17).toInt < (c0_partSpread_v f).toInt)) (decide (¬ (c0_actualBits_v f).toInt = (c0_orderedBits_v f).toInt) && decide (¬ (f 10 6).toInt = 0)) (decide (¬ (f 4 28).toInt = 0 ∧ (f 4 28).toInt < (f 10 4 + (1 : Int32)).toInt)) (decide ((f 4 29).toInt = 0)) k := by
  have lk := c0_live_c (f := f) (f' := c0_leakBit_m f (c0_faultsOfPack_j59_0 f)) (by rw [c0_leakBit_fr (by decide)]) (by rw [c0_leakBit_fr (by decide)])
  have sp := c0_spread_c (f := f) (f' := c0_leakBit_m f (c0_faultsOfPack_j59_0 f)) (by rw [c0_leakBit_fr (by decide)]) (fun C => by rw [c0_leakBit_fr (by omega)])
  have r6 : c0_leakBit_m f (c0_faultsOfPack_j59_0 f) 10 6 = f 10 6 := by
    unfold c0_leakBit_m
    rw [fl_row_self, upd_ne (by decide)]
  have r4 : c0_leakBit_m f (c0_faultsOfPack_j59_0 f) 10 4 = f 10 4 := by
    unfold c0_leakBit_m
    rw [fl_row_self, upd_ne (by decide)]
  have r40 : c0_weldBit0_m (c0_leakBit_m f (c0_faultsOfPack_j59_0 f)) 10 4 = f 10 4 := by
    unfold c0_weldBit0_m
    rw [fl_row_self, upd_ne (by decide), r4]
  have r41 : c0_weldBit1_m (c0_leakBit_m f (c0_faultsOfPack_j59_0 f)) 10 4 = f 10 4 := by
    unfold c0_weldBit1_m
    rw [fl_row_self, upd_ne (by decide), r4]
  have b4 : t2_bt (c0_faultsOfPack_j36_0 f) k = (decide ((f 1 7).toInt = (2 : Int32).toInt ∧ (f 4 4).toInt < (t2_abs_v (f 4 20)).toInt) && decide (k = 4)) := by
    unfold c0_faultsOfPack_j36_0 c0_faultsOfPack_j13_0
    rw [t2_if3]
    exact t2_bt_if (by decide +kernel) hk
  have b6 : t2_bt (c0_leakBit_v f (c0_faultsOfPack_j59_0 f)) k = (decide ((c0_leakBit_j2_0 f (c0_faultsOfPack_j59_0 f)).toInt = (3 : Int32).toInt) && decide (k = 6)) := by
    unfold c0_leakBit_v c0_leakBit_j27_0
    exact t2_bt_if (by decide +kernel) hk
  have b7 : t2_bt (c0_faultsOfPack_j81_0 f) k = (decide ((f 4 17).toInt < (c0_partSpread_v f).toInt) && decide (k = 7)) := by
    unfold c0_faultsOfPack_j81_0
    rw [sp]
    exact t2_bt_if (by decide +kernel) hk
  have b8 : t2_bt (c0_weldBit1_v (c0_leakBit_m f (c0_faultsOfPack_j59_0 f))) k = (decide (¬ (f 10 6).toInt = 0) && decide (k = 8)) := by
    unfold c0_weldBit1_v c0_weldBit1_j23_0 c0_weldBit1_j8_0
    rw [r6, t2_if4]
    exact t2_bt_if (by decide +kernel) hk
  have b9 : ∀ M : t2_F, M 10 4 = f 10 4 → t2_bt (c0_silentBit_v M (f 4 28)) k = (decide (¬ (f 4 28).toInt = 0 ∧ (f 4 28).toInt < (f 10 4 + (1 : Int32)).toInt) && decide (k = 9)) := fun M hM => by
    unfold c0_silentBit_v c0_silentBit_j11_0
    rw [hM, t2_if2]
    exact t2_bt_if (by decide +kernel) hk
  have b10 : t2_bt (c0_faultsOfPack_j138_0 f) k = (decide ((f 4 29).toInt = 0) && decide (k = 10)) := by
    unfold c0_faultsOfPack_j138_0
    exact t2_bt_if (by decide +kernel) hk
  have b10' : t2_bt (c0_faultsOfPack_j138_1 f) k = (decide ((f 4 29).toInt = 0) && decide (k = 10)) := by
    unfold c0_faultsOfPack_j138_1
    exact t2_bt_if (by decide +kernel) hk
  rw [← t2_pk_or hk]
  unfold c0_faultsOfPack_v
  rw [lk.1, lk.2.2]
  by_cases hd : (c0_actualBits_v f).toInt = (c0_orderedBits_v f).toInt
  · have hf : decide (¬ (c0_actualBits_v f).toInt = (c0_orderedBits_v f).toInt) = false := decide_eq_false (fun h => h hd)
    rw [if_pos hd, t2_bt_or, t2_bt_or, t2_bt_or, t2_bt_or, t2_bt_or, b4, b6, b7, b9 _ r40, b10, hf, Bool.false_and, Bool.false_and]
    unfold c0_weldBit0_v
    rw [t2_bt0]
  · rw [if_neg hd, t2_bt_or, t2_bt_or, t2_bt_or, t2_bt_or, t2_bt_or, b4, b6, b7, b8, b9 _ r41, b10', decide_eq_true hd, Bool.true_and]
theorem c0_fp_m : c0_faultsOfPack_m f 10 4 = f 10 4 + (1 : Int32) ∧ c0_faultsOfPack_m f 10 5 = c0_leakBit_j2_0 f (c0_faultsOfPack_j59_0 f) ∧ c0_faultsOfPack_m f 10 6 = (if (c0_actualBits_v f).toInt = (c0_orderedBits_v f).toInt then (0 : Int32) else (1 : Int32)) ∧ ∀ j : Nat, j ≠ 4 → j ≠ 5 → j ≠ 6 → c0_faultsOfPack_m f 10 j = f 10 j := by
  have lk := c0_live_c (f := f) (f' := c0_leakBit_m f (c0_faultsOfPack_j59_0 f)) (by rw [c0_leakBit_fr (by decide)]) (by rw [c0_leakBit_fr (by decide)])
  unfold c0_faultsOfPack_m
  rw [lk.1, lk.2.2]
  by_cases hd : (c0_actualBits_v f).toInt = (c0_orderedBits_v f).toInt
  · rw [if_pos hd, if_pos hd]
    unfold c0_silentBit_m c0_weldBit0_m c0_leakBit_m
    refine ⟨?_, ?_, ?_, fun j h1 h2 h3 => ?_⟩ <;> simp (disch := omega) only [fl_row_self, upd_self, upd_ne]
  · rw [if_neg hd, if_neg hd]
    unfold c0_silentBit_m c0_weldBit1_m c0_leakBit_m
    refine ⟨?_, ?_, ?_, fun j h1 h2 h3 => ?_⟩ <;> simp (disch := omega) only [fl_row_self, upd_self, upd_ne]
/-- the book: a ring, a list -/
def c0_Bk (fc fr : t2_F) : Prop := fc 13 0 = (24 : Int32) ∧ (0 ≤ (fc 13 2).toInt ∧ (fc 13 2).toInt ≤ 23) ∧ fc 13 3 = fr 280 20 ∧ (0 ≤ (fr 280 20).toInt ∧ (fr 280 20).toInt ≤ 24) ∧ ∀ i : Nat, (i : Int) < (fr 280 20).toInt → fc 14 (t2_pl 24 (fc 13 2).toInt.toNat i * 3) = fr 280 (167 + 2 * i) ∧ fc 14 (t2_pl 24 (fc 13 2).toInt.toNat i * 3 + 1) = fr 280 (167 + 2 * i + 1)
theorem c0_bplace {n : Nat} {x : Int32} (h0 : f 13 0 = (24 : Int32)) (hF : 0 ≤ (f 13 2).toInt ∧ (f 13 2).toInt ≤ 23) (hx : x.toInt = n) (hn : n ≤ 24) : (c0_bplace_v f x).toInt = (t2_pl 24 (f 13 2).toInt.toNat n : Nat) := by
  have c24 : (24 : Int32).toInt = 24 := by decide +kernel
  have e : (f 13 2 + x).toInt = (f 13 2).toInt + n := by rw [at_add32] <;> omega
  unfold c0_bplace_v c0_bplace_j12_0 t2_pl
  rw [h0]
  by_cases h : (f 13 2 + x).toInt < (24 : Int32).toInt
  · rw [if_pos h, if_pos (by omega)]
    omega
  · rw [if_neg h, if_neg (by omega), at_sub32] <;> omega
theorem c0_bk_add {t : Int32} (h : c0_Bk fc fr) (ht : fr 280 7 = t) : c0_Bk (c0_badd_m fc t x z) (r_writeDown_m fr x) := by
  obtain ⟨h0, hF, h3, hn, hr⟩ := h
  have c24 : (24 : Int32).toInt = 24 := by decide +kernel
  have c1 : (1 : Int32).toInt = 1 := by decide +kernel
  generalize hnn : (fr 280 20).toInt.toNat = n at *
  have en : (fr 280 20).toInt = (n : Int) := by omega
  generalize hFF : (fc 13 2).toInt.toNat = Fi at *
  have eF : (fc 13 2).toInt = (Fi : Int) := by omega
  have pn := c0_bplace (f := fc) (x := fc 13 3) (n := n) h0 hF (by rw [h3]; exact en) (by omega)
  rw [hFF] at pn
  have pnn : (c0_bplace_v fc (fc 13 3)).toInt.toNat = t2_pl 24 Fi n := by omega
  have lF : Fi < 24 := by omega
  by_cases hl : n < 24
  · obtain ⟨w20, wa, wb, wo⟩ := r_wd_lt (f := fr) (x := x) en hl
    have hlt : (fc 13 3).toInt < (fc 13 0).toInt := by rw [h3, h0]; omega
    have k0 : c0_badd_m fc t x z 13 0 = fc 13 0 := by
      unfold c0_badd_m
      rw [fl_row_self, upd_ne (by decide), upd_ne (by decide)]
    have k2 : c0_badd_m fc t x z 13 2 = fc 13 2 := by
      unfold c0_badd_m c0_badd_j48_1
      rw [fl_row_self, upd_self, if_pos hlt]
    have k3 : c0_badd_m fc t x z 13 3 = fc 13 3 + (1 : Int32) := by
      unfold c0_badd_m c0_badd_j48_0
      rw [fl_row_self, upd_ne (by decide), upd_self, if_pos hlt]
    have kr : c0_badd_m fc t x z 14 = upd (upd (upd (fc 14) (t2_pl 24 Fi n * 3) t) (t2_pl 24 Fi n * 3 + 1) x) (t2_pl 24 Fi n * 3 + 2) z := by
      unfold c0_badd_m
      rw [fl_row_ne (by decide), fl_row_self, pnn]
    refine ⟨by rw [k0, h0], by rw [k2]; exact hF, ?_, by omega, fun i hi => ?_⟩
    · rw [k3, h3]
      apply Int32.toInt.inj
      rw [w20, at_add32] <;> omega
    · rw [k2, hFF, kr]
      by_cases e : i = n
      · subst e
        rw [wa, wb, ht, upd_ne (by omega), upd_ne (by omega), upd_self, upd_ne (by omega), upd_self]
        exact ⟨rfl, rfl⟩
      · have hne := t2_pl_ne (m := 24) (F := Fi) (i := i) (j := n) lF (by omega) hl e
        obtain ⟨r1, r2⟩ := hr i (by omega)
        have w1 := wo (2 * i) (by omega)
        have w2 := wo (2 * i + 1) (by omega)
        rw [w1, show 167 + 2 * i + 1 = 167 + (2 * i + 1) by omega, w2, upd_ne (by omega), upd_ne (by omega), upd_ne (by omega), upd_ne (by omega), upd_ne (by omega), upd_ne (by omega)]
        exact ⟨r1, r2⟩
  · have e24 : n = 24 := by omega
    subst e24
    obtain ⟨w20, wa, wb, wo⟩ := r_wd_24 (f := fr) (x := x) en
    rw [t2_pl_m lF] at pnn
    have hlt : ¬ (fc 13 3).toInt < (fc 13 0).toInt := by rw [h3, h0]; omega
    have k0 : c0_badd_m fc t x z 13 0 = fc 13 0 := by
      unfold c0_badd_m
      rw [fl_row_self, upd_ne (by decide), upd_ne (by decide)]
    have kr : c0_badd_m fc t x z 14 = upd (upd (upd (fc 14) (Fi * 3) t) (Fi * 3 + 1) x) (Fi * 3 + 2) z := by
      unfold c0_badd_m
      rw [fl_row_ne (by decide), fl_row_self, pnn]
    have k3 : c0_badd_m fc t x z 13 3 = fc 13 3 := by
      unfold c0_badd_m c0_badd_j48_0
      rw [fl_row_self, upd_ne (by decide), upd_self, if_neg hlt]
    have p1 := c0_bplace (f := fl_row fc 14 (upd (upd (upd (fc 14) (Fi * 3) t) (Fi * 3 + 1) x) (Fi * 3 + 2) z)) (x := (1 : Int32)) (n := 1) (by rw [fl_row_ne (by decide)]; exact h0) (by rw [fl_row_ne (by decide)]; exact hF) c1 (by decide)
    rw [fl_row_ne (by decide), hFF] at p1
    have k2 : (c0_badd_m fc t x z 13 2).toInt = (t2_pl 24 Fi 1 : Nat) := by
      unfold c0_badd_m c0_badd_j48_1
      rw [fl_row_self, upd_self, if_neg hlt, pnn, p1]
    have l1 := t2_pl_lt (m := 24) (F := Fi) (i := 1) lF (by decide)
    refine ⟨by rw [k0, h0], by omega, ?_, by omega, fun i hi => ?_⟩
    · rw [k3, h3]
      apply Int32.toInt.inj
      rw [w20, en]
      rfl
    · rw [k2, Int.toNat_natCast, kr]
      by_cases e : i = 23
      · subst e
        have e23 := t2_pl_e (m := 24) (F := Fi) lF (by decide)
        rw [show 24 - 1 = 23 from rfl] at e23
        rw [e23, wa, wb, ht, upd_ne (by omega), upd_ne (by omega), upd_self, upd_ne (by omega), upd_self]
        exact ⟨rfl, rfl⟩
      · rw [t2_pl_s lF (by omega)]
        have hne := t2_pl_n0 (m := 24) (F := Fi) (i := i) lF (by omega)
        obtain ⟨r1, r2⟩ := hr (i + 1) (by omega)
        have w1 := wo (2 * i) (by omega)
        have w2 := wo (2 * i + 1) (by omega)
        rw [w1, show 167 + 2 * i + 1 = 167 + (2 * i + 1) by omega, w2, upd_ne (by omega), upd_ne (by omega), upd_ne (by omega), upd_ne (by omega), upd_ne (by omega), upd_ne (by omega)]
        exact ⟨r1, r2⟩
theorem c0_Bk.congr {fc' fr' : t2_F} (h : c0_Bk fc fr) (e1 : fc' 13 = fc 13) (e2 : fc' 14 = fc 14) (e3 : ∀ w : Nat, (w = 20 ∨ (167 ≤ w ∧ w < 215)) → fr' 280 w = fr 280 w) : c0_Bk fc' fr' := by
  obtain ⟨h0, hF, h3, hn, hr⟩ := h
  unfold c0_Bk
  rw [e1, e2, e3 20 (Or.inl rfl)]
  exact ⟨h0, hF, h3, hn, fun i hi => by rw [e3 _ (by omega), e3 _ (by omega)]; exact hr i hi⟩
end C0FPK
