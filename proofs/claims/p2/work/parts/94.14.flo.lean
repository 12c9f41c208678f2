/-! ===== block 0: (7) of a second: latched ===== -/
section C0FLO
variable {fc fr f g F G : t2_F} {C n k : Nat} {c x y z : Int32}
theorem r_soBy_c {f f' : t2_F} (h : ∀ w : Nat, (w = 2 ∨ w = 5 ∨ (34 ≤ w ∧ w < 64) ∨ 444 ≤ w) → f' 280 w = f 280 w) : r_soBy_v f' x = r_soBy_v f x := by
  have e : ∀ k : Nat, r_soBy_e2 f' x k = r_soBy_e2 f x k := by
    intro k
    induction k with
    | zero => rfl
    | succ k ih =>
      unfold r_soBy_e2
      rw [ih, r_volts_c (h 5 (by omega)) (h _ (by omega)) (h _ (by omega)) (h _ (by omega)) (h _ (by omega)), h 34 (by omega), h 35 (by omega), h 36 (by omega), h 37 (by omega), h 5 (by omega), h (444 + 61 * k + 3) (by omega)]
  unfold r_soBy_v
  rw [e, h 2 (by omega)]
theorem c0_spread_a (h : ∀ C : Nat, C < n → fc (18 + 4 * C) 3 = r_partOf_v fr (Int32.ofNat C) C) : ∀ k : Nat, k ≤ n → c0_spreadOf_a10 fc y k = (r_leastPart_a6 fr k, r_spreadOf_a4 fr k) := by
  intro k
  induction k with
  | zero => intro _; rfl
  | succ k ih =>
    intro hk
    unfold c0_spreadOf_a10 r_leastPart_a6 r_spreadOf_a4
    rw [ih (by omega), h k (by omega), t2_les]
    rfl
theorem c0_spread_eq (hn1 : (fc 1 5).toInt = n) (hn2 : (fr 280 2).toInt = n) (h : ∀ C : Nat, C < n → fc (18 + 4 * C) 3 = r_partOf_v fr (Int32.ofNat C) C) : c0_partSpread_v fc = if n = 0 then (-1 : Int32) else r_spreadOf_v fr := by
  have hnn : (fc 1 5).toInt.toNat = n := by omega
  have hgn : (fr 280 2).toInt.toNat = n := by omega
  unfold c0_partSpread_v c0_partSpread_j4_0 r_spreadOf_v r_spreadOf_j45_0 c0_spreadOf_v r_leastPart_v
  by_cases e : n = 0
  · rw [if_pos e, if_pos (by omega)]
  · rw [if_neg e, if_neg (by omega), if_neg (by omega), hnn, hgn, c0_spread_a h n (Nat.le_refl n)]
def c0_R7 (fc fr : t2_F) (n : Nat) : Prop := ((fc 1 5).toInt = n ∧ (fr 280 2).toInt = n ∧ n ≤ 16) ∧ (fc 1 6 = fr 280 7 ∧ fc 1 7 = fr 280 3 ∧ fc 1 9 = fr 280 5 ∧ fc 1 11 = fr 280 8) ∧ c0_Rs fc fr ∧ (c0_Rk fc fr ∧ ∀ k : Nat, k < 3 → t2_how (fr 280 (64 + k))) ∧
  (∀ C : Nat, C < n → c0_voltsAt_v fc C (fc 1 9) = r_voltsOf_v fr (Int32.ofNat C) C ∧ fc (18 + 4 * C) 6 = fr 280 (444 + 61 * C + 3) ∧ fc (18 + 4 * C) 3 = r_partOf_v fr (Int32.ofNat C) C) ∧
  (fc 10 3 = fr 280 6 ∧ fc 10 4 = fr 280 22 ∧ fc 10 5 = fr 280 15 ∧ ((fc 10 6).toInt = min (fr 280 16).toInt 1 ∧ 0 ≤ (fr 280 16).toInt ∧ (fr 280 16).toInt ≤ 2)) ∧ (∀ j : Nat, j < 11 → fc 11 j = fr 280 (23 + j)) ∧ (∀ j : Nat, j < 4 → fc 12 j = fr 280 (311 + j)) ∧ c0_Bk fc fr ∧ 1 ≤ (fr 280 51).toInt
/-- the class's bits and the reference's -/
theorem c0_bits {so : Int32} {slow : Bool} (h : c0_R7 fc fr n) (hso : so = if slow = true then (32 : Int32) else (0 : Int32)) (hsl : fr 277 4 = if slow = true then 1 else 0) : ∀ k : Nat, k < 11 → t2_bt ((so ||| c0_faultsOfCells_v fc) ||| c0_faultsOfPack_v (c0_faultsOfCells_m fc)) k = t2_bt (r_goFaults_a91 fr 11) k := by
  obtain ⟨⟨hn1, hn2, hn16⟩, ⟨e6, e7, e9, e11⟩, hs, ⟨hk, hw⟩, hc, ⟨l3, l4, l5, ⟨l6, l61, l62⟩⟩, hwh, hcu, hbk, hsp⟩ := h
  have c1 : (1 : Int32).toInt = 1 := by decide +kernel
  have c2 : (2 : Int32).toInt = 2 := by decide +kernel
  have c3 : (3 : Int32).toInt = 3 := by decide +kernel
  have c0 : (0 : Int32).toInt = 0 := rfl
  have s2 : fc 4 2 = fr 280 36 := hs 2 (by omega)
  have s4 : fc 4 4 = fr 280 38 := hs 4 (by omega)
  have s9 : fc 4 9 = fr 280 43 := hs 9 (by omega)
  have s10 : fc 4 10 = fr 280 44 := hs 10 (by omega)
  have s17 : fc 4 17 = fr 280 51 := hs 17 (by omega)
  have s20 : fc 4 20 = fr 280 54 := hs 20 (by omega)
  have s28 : fc 4 28 = fr 280 62 := hs 28 (by omega)
  have s29 : fc 4 29 = fr 280 63 := hs 29 (by omega)
  have gw : ∀ w : Nat, w ≠ 15 → w ≠ 16 → w ≠ 22 → r_gp fr 280 w = fr 280 w := fun w a b d => r_gp_w a b d
  have gv : ∀ C : Nat, r_voltsOf_v (r_gp fr) (Int32.ofNat C) C = r_voltsOf_v fr (Int32.ofNat C) C := fun C => r_volts_c (gw _ (by decide) (by decide) (by decide)) (gw _ (by omega) (by omega) (by omega)) (gw _ (by omega) (by omega) (by omega)) (gw _ (by omega) (by omega) (by omega)) (gw _ (by omega) (by omega) (by omega))
  have gp : ∀ C : Nat, r_partOf_v (r_gp fr) (Int32.ofNat C) C = r_partOf_v fr (Int32.ofNat C) C := fun C => by
    unfold r_partOf_v
    rw [gw _ (by omega) (by omega) (by omega), gw _ (by omega) (by omega) (by omega)]
  have g2 : (r_gp fr 280 2).toInt = n := by rw [gw 2 (by decide) (by decide) (by decide)]; exact hn2
  obtain ⟨q0, q1, q2, q3⟩ := c0_four (fc := fc) (fr := r_gp fr) hn1 g2 hn16 (fun C hC => by rw [gv]; exact (hc C hC).1) (fun C hC => by rw [gw _ (by omega) (by omega) (by omega)]; exact (hc C hC).2.1) (by rw [gw 5 (by decide) (by decide) (by decide)]; exact e9) (fun k hk => by rw [gw _ (by omega) (by omega) (by omega)]; exact hs k hk)
  have f1 : ∀ p : Nat, p ≠ 12 → c0_faultsOfCells_m fc p = fc p := fun p hp => c0_faultsOfCells_fr hp
  have lv := c0_live_c (f := fc) (f' := c0_faultsOfCells_m fc) (by rw [f1 _ (by decide)]) (f1 _ (by decide))
  have spc : c0_partSpread_v (c0_faultsOfCells_m fc) = c0_partSpread_v fc := c0_spread_c (f1 _ (by decide)) (fun C => f1 _ (by omega))
  have ac := c0_actual_eq e7 hk hw
  have od := c0_ordered_eq (fc := fc) (fr := fr) e7
  have hj2 : c0_leakBit_j2_0 (c0_faultsOfCells_m fc) (c0_faultsOfPack_j59_0 (c0_faultsOfCells_m fc)) = r_goFaults_j18_0 fr := by
    unfold c0_leakBit_j2_0 c0_faultsOfPack_j59_0 r_goFaults_j18_0
    rw [f1 4 (by decide), f1 10 (by decide), s9, s10, l5, t2_les]
    by_cases q : (fr 280 43).toInt < (fr 280 44).toInt
    · rw [if_pos q, if_neg (by omega), if_pos q]
    · rw [if_neg q, if_pos c0, if_neg q]
  have g15 : r_gp fr 280 15 = r_goFaults_j18_0 fr := by
    unfold r_gp
    rw [fl_row_self, upd_ne (by decide), upd_ne (by decide), upd_self]
  have g16 : r_gp fr 280 16 = r_goFaults_j53_0 fr := by
    unfold r_gp
    rw [fl_row_self, upd_ne (by decide), upd_self]
  have g22 : r_gp fr 280 22 = fr 280 22 + (1 : Int32) := by
    unfold r_gp
    rw [fl_row_self, upd_self]
  have le3 : (r_goFaults_j18_0 fr).toInt ≤ 3 := by
    unfold r_goFaults_j18_0
    rw [t2_les]
    split
    · rw [t2_min_i]; omega
    · omega
  have p6 : decide ((r_goFaults_j18_0 fr).toInt = (3 : Int32).toInt) = decide (¬ (r_gp fr 280 15).toInt < (3 : Int32).toInt) := by
    rw [g15]
    exact decide_eq_decide.mpr ⟨fun q => by omega, fun q => by omega⟩
  have p7 : decide ((fr 280 51).toInt < (c0_partSpread_v fc).toInt) = decide ((r_gp fr 280 51).toInt < (r_spreadOf_v (r_gp fr)).toInt) := by
    have m1 : (-1 : Int32).toInt = -1 := by decide +kernel
    rw [gw 51 (by decide) (by decide) (by decide), c0_spread_eq (fr := r_gp fr) hn1 g2 (fun C hC => by rw [gp]; exact (hc C hC).2.2)]
    by_cases e : n = 0
    · have z : r_spreadOf_v (r_gp fr) = 0 := by
        unfold r_spreadOf_v r_spreadOf_j45_0
        rw [if_pos (by omega)]
      rw [if_pos e, z]
      exact decide_eq_decide.mpr ⟨fun q => by omega, fun q => by omega⟩
    · rw [if_neg e]
  have ordg : r_ordered_v (fl_row fr 280 (upd (fr 280) 15 (r_goFaults_j18_0 fr))) = r_ordered_v fr ∧ r_actual_v (fl_row fr 280 (upd (fr 280) 15 (r_goFaults_j18_0 fr))) = r_actual_v fr := by
    have l := r_live_c (f := fr) (f' := fl_row fr 280 (upd (fr 280) 15 (r_goFaults_j18_0 fr))) (by rw [fl_row_self, upd_ne (by decide)]) (fun k hk => by rw [fl_row_self, upd_ne (by omega)])
    exact ⟨l.2.2, l.1⟩
  have p8 : (decide (¬ (r_actual_v fr).toInt = (r_ordered_v fr).toInt) && decide (¬ (fc 10 6).toInt = 0)) = decide (¬ (r_gp fr 280 16).toInt < (2 : Int32).toInt) := by
    rw [g16]
    unfold r_goFaults_j53_0
    rw [ordg.1, ordg.2]
    by_cases d : (r_actual_v fr).toInt = (r_ordered_v fr).toInt
    · rw [if_pos d]
      have df : decide (¬ (r_actual_v fr).toInt = (r_ordered_v fr).toInt) = false := decide_eq_false (fun q => q d)
      rw [df, Bool.false_and]
      exact (decide_eq_false (fun q => q (by omega))).symm
    · rw [if_neg d, decide_eq_true d, Bool.true_and, t2_les]
      have a : (fr 280 16 + (1 : Int32)).toInt = (fr 280 16).toInt + 1 := by rw [at_add32] <;> omega
      refine decide_eq_decide.mpr ?_
      rw [t2_min_i]
      omega
  intro k hk11
  have bso : t2_bt so k = (slow && decide (k = 5)) := by
    rw [hso]
    have := t2_bt_if (P := slow = true) (c := (32 : Int32)) (i := 5) (by decide +kernel) hk11
    rw [this]
    cases slow <;> rfl
  have fin := c0_fcv (fc := fc) (n := n) (by omega) q0 q1 q2 q3 ⟨k, hk11⟩
  rw [t2_bt_or, t2_bt_or, bso, fin, c0_fp_bits hk11, r_a91_bt 11 (Nat.le_refl 11) k hk11, decide_eq_true hk11, Bool.true_and, r_isSo_b (slow := slow) (by unfold r_gp; rw [fl_row_ne (by decide)]; exact hsl) k hk11]
  rw [lv.1, lv.2.2, spc, hj2, f1 1 (by decide), f1 4 (by decide), f1 10 (by decide), ac, od, p8, s17, p7, p6, s2, s4, s20, s28, s29, e7, e11, l4, gw 36 (by decide) (by decide) (by decide), gw 8 (by decide) (by decide) (by decide), gw 3 (by decide) (by decide) (by decide), gw 38 (by decide) (by decide) (by decide), gw 54 (by decide) (by decide) (by decide), gw 62 (by decide) (by decide) (by decide), gw 63 (by decide) (by decide) (by decide), g22]
  rfl
end C0FLO
