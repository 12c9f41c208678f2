/-! ===== what the reference's words keep to (beside the ranges of at_Good) ===== -/
def t2_los : List Int := [3000, 2000, 200, -400, 1, 1, -400, 0, 0, 0, 0, 0, 0, 0, 0, 0, 0, 1, -999, 1, -99999, 1, 0, 0, 0, 0, 0, 0, 0, 0]
def t2_his : List Int := [4500, 3700, 900, 200, 99999, 999, 600, 9999, 9999, 99999, 9999, 2, 9999, 16, 999, 99999, 100, 2000, 999, 99, 99999, 99, 64, 4500, 9999, 99, 200, 999, 999, 1]
def t2_lo (k : Nat) : Int := t2_los.getD k 0
def t2_hi (k : Nat) : Int := t2_his.getD k 0
/-- a cell's words -/
def t2_OC (g : Nat → Int32) (C : Nat) : Prop :=
  (t2_cap (g (444 + 61 * C + 0)) ∧ 0 ≤ (g (444 + 61 * C + 1)).toInt ∧ (g (444 + 61 * C + 1)).toInt ≤ 3600 * (g (444 + 61 * C + 0)).toInt) ∧
  (0 ≤ (g (444 + 61 * C + 2)).toInt ∧ (g (444 + 61 * C + 2)).toInt ≤ 99) ∧
  (0 ≤ (g (444 + 61 * C + 4)).toInt ∧ (g (444 + 61 * C + 4)).toInt ≤ 3600 * (g (444 + 61 * C + 0)).toInt) ∧
  (0 ≤ (g (444 + 61 * C + 5)).toInt ∧ (g (444 + 61 * C + 5)).toInt ≤ 99999 * (g 7).toInt) ∧
  (-10000 ≤ (g (444 + 61 * C + 9)).toInt ∧ (g (444 + 61 * C + 9)).toInt ≤ 10000) ∧
  (g (444 + 61 * C + 15) = 0 ∨ g (444 + 61 * C + 15) = 1) ∧
  (-1 ≤ (g (444 + 61 * C + 16)).toInt ∧ (g (444 + 61 * C + 16)).toInt ≤ 1000) ∧
  r_alt (fun _ => g) C
def t2_OK (g : Nat → Int32) : Prop :=
  (∀ k : Nat, k < 30 → t2_lo k ≤ (g (34 + k)).toInt ∧ (g (34 + k)).toInt ≤ t2_hi k) ∧
  ((-99999 ≤ (g 5).toInt ∧ (g 5).toInt ≤ 99999) ∧ (-1000000 ≤ (g 4).toInt ∧ (g 4).toInt ≤ 1000000) ∧ (0 ≤ (g 2).toInt ∧ (g 2).toInt ≤ 16) ∧ (0 ≤ (g 7).toInt ∧ (g 7).toInt ≤ 9999)) ∧
  (∀ k : Nat, k < 3 → t2_how (g (64 + k))) ∧
  ((0 ≤ (g 17).toInt ∧ (g 17).toInt ≤ 6) ∧ ∀ k : Nat, k < 6 → 0 ≤ (g (67 + 2 * k + 1)).toInt) ∧
  ((0 ≤ (g 18).toInt ∧ (g 18).toInt ≤ 8) ∧ (∀ k : Nat, k < 8 → 0 ≤ (g ((79 + (5 * k)) + 3)).toInt ∧ (g ((79 + (5 * k)) + 3)).toInt ≤ 29) ∧ ∀ k : Nat, (k : Int) < (g 18).toInt → t2_lo (g ((79 + (5 * k)) + 3)).toInt.toNat ≤ (g ((79 + (5 * k)) + 4)).toInt ∧ (g ((79 + (5 * k)) + 4)).toInt ≤ t2_hi (g ((79 + (5 * k)) + 3)).toInt.toNat) ∧
  ((0 ≤ (g 19).toInt ∧ (g 19).toInt ≤ 24) ∧ ∀ k : Nat, (k : Int) < (g 19).toInt → (-99999 ≤ (g (119 + 2 * k)).toInt ∧ (g (119 + 2 * k)).toInt ≤ 99999) ∧ (1 ≤ (g (119 + 2 * k + 1)).toInt ∧ (g (119 + 2 * k + 1)).toInt ≤ 99)) ∧
  ((0 ≤ (g 16).toInt ∧ (g 16).toInt ≤ 2) ∧ (0 ≤ (g 20).toInt ∧ (g 20).toInt ≤ 24) ∧ (0 ≤ (g 21).toInt ∧ (g 21).toInt ≤ 32)) ∧
  ∀ C : Nat, (C : Int) < (g 2).toInt → t2_OC g C
/-- bounds of what the cells tell together -/
theorem r_rest_b {x : Int32} : 0 ≤ (t2_rb x).toInt ∧ (t2_rb x).toInt ≤ 4700 := by
  rw [t2_rbi]
  exact t2_rvb _
theorem r_calm_b {f : t2_F} {c : Int32} {C : Nat} (h : -10000 ≤ (f 280 (444 + 61 * C + 9)).toInt ∧ (f 280 (444 + 61 * C + 9)).toInt ≤ 10000) : -10000 ≤ (r_calmVolts_v f c C).toInt ∧ (r_calmVolts_v f c C).toInt ≤ 14700 := by
  have r := r_rest_b (x := r_partOf_v f c C)
  unfold r_calmVolts_v
  rw [at_add32 (by omega) (by omega)]
  omega
theorem r_packCalm_b {f : t2_F} {n : Nat} (hn : n ≤ 16) (h : ∀ C : Nat, C < n → -10000 ≤ (f 280 (444 + 61 * C + 9)).toInt ∧ (f 280 (444 + 61 * C + 9)).toInt ≤ 10000) : -10000 * (n : Int) ≤ (r_packCalm_a4 f n).toInt ∧ (r_packCalm_a4 f n).toInt ≤ 14700 * (n : Int) := by
  have e0 : (0 : Int32).toInt = 0 := rfl
  induction n with
  | zero => exact ⟨by show _ ≤ (0 : Int32).toInt; omega, by show (0 : Int32).toInt ≤ _; omega⟩
  | succ n ih =>
    have i := ih (by omega) (fun C hC => h C (by omega))
    have v := r_calm_b (c := Int32.ofNat n) (h n (by omega))
    show _ ≤ (r_packCalm_a4 f n + r_calmVolts_v f (Int32.ofNat n) n).toInt ∧ _
    have e : (r_packCalm_a4 f n + r_calmVolts_v f (Int32.ofNat n) n).toInt = (r_packCalm_a4 f n).toInt + (r_calmVolts_v f (Int32.ofNat n) n).toInt := at_add32 (by omega) (by omega)
    refine ⟨by omega, ?_⟩
    show (r_packCalm_a4 f n + r_calmVolts_v f (Int32.ofNat n) n).toInt ≤ _
    omega
theorem r_drop_b {x o : Int32} (hx : -99999 ≤ x.toInt ∧ x.toInt ≤ 99999) (ho : 0 ≤ o.toInt ∧ o.toInt ≤ 99) : -9900 ≤ (r_floor_v (x * o) (1000 : Int32)).toInt ∧ (r_floor_v (x * o) (1000 : Int32)).toInt ≤ 9900 := by
  have c1000 : (1000 : Int32).toInt = 1000 := by decide +kernel
  have c1 : (1 : Int32).toInt = 1 := by decide +kernel
  have a1 : x.toInt * o.toInt ≤ 99999 * 99 := Int.le_trans (Int.mul_le_mul_of_nonneg_right hx.2 ho.1) (Int.mul_le_mul_of_nonneg_left ho.2 (by omega))
  have a2 : (-99999) * o.toInt ≤ x.toInt * o.toInt := Int.mul_le_mul_of_nonneg_right hx.1 ho.1
  have e : (x * o).toInt = x.toInt * o.toInt := at_mul32 (by omega) (by omega)
  generalize hy : x * o = y at *
  unfold r_floor_v
  by_cases h : y.toInt < 0
  · rw [if_pos h]
    have e1 : (((1000 : Int32) - (1 : Int32)) - y).toInt = 999 - y.toInt := by
      have q : ((1000 : Int32) - (1 : Int32)).toInt = 999 := by decide +kernel
      rw [at_sub32 (by rw [q]; omega) (by rw [q]; omega), q]
    have e2 : ((((1000 : Int32) - (1 : Int32)) - y) / (1000 : Int32)).toInt = (999 - y.toInt) / 1000 := by rw [at_div32 (by omega) (by omega), e1, c1000]
    rw [Int32.toInt_neg, e2, Int.bmod_eq_of_le (by omega) (by omega)]
    omega
  · rw [if_neg h, at_div32 (by omega) (by omega), c1000]
    omega
theorem r_volts_b {f : t2_F} {c : Int32} {C : Nat} (hx : -99999 ≤ (f 280 5).toInt ∧ (f 280 5).toInt ≤ 99999) (ho : 0 ≤ (f 280 (444 + 61 * C + 2)).toInt ∧ (f 280 (444 + 61 * C + 2)).toInt ≤ 99) (h : -10000 ≤ (f 280 (444 + 61 * C + 9)).toInt ∧ (f 280 (444 + 61 * C + 9)).toInt ≤ 10000) : -19900 ≤ (r_voltsOf_v f c C).toInt ∧ (r_voltsOf_v f c C).toInt ≤ 24600 := by
  have a := r_calm_b (c := c) h
  have b := r_drop_b hx ho
  unfold r_voltsOf_v
  rw [at_add32 (by omega) (by omega)]
  omega
theorem r_pack_b {f : t2_F} {n : Nat} (hn : n ≤ 16) (hx : -99999 ≤ (f 280 5).toInt ∧ (f 280 5).toInt ≤ 99999) (h : ∀ C : Nat, C < n → (0 ≤ (f 280 (444 + 61 * C + 2)).toInt ∧ (f 280 (444 + 61 * C + 2)).toInt ≤ 99) ∧ -10000 ≤ (f 280 (444 + 61 * C + 9)).toInt ∧ (f 280 (444 + 61 * C + 9)).toInt ≤ 10000) : -19900 * (n : Int) ≤ (r_pack_a4 f n).toInt ∧ (r_pack_a4 f n).toInt ≤ 24600 * (n : Int) := by
  have e0 : (0 : Int32).toInt = 0 := rfl
  induction n with
  | zero => exact ⟨by show _ ≤ (0 : Int32).toInt; omega, by show (0 : Int32).toInt ≤ _; omega⟩
  | succ n ih =>
    have i := ih (by omega) (fun C hC => h C (by omega))
    have v := r_volts_b (c := Int32.ofNat n) hx (h n (by omega)).1 (h n (by omega)).2
    have e : (r_pack_a4 f n + r_voltsOf_v f (Int32.ofNat n) n).toInt = (r_pack_a4 f n).toInt + (r_voltsOf_v f (Int32.ofNat n) n).toInt := at_add32 (by omega) (by omega)
    show _ ≤ (r_pack_a4 f n + r_voltsOf_v f (Int32.ofNat n) n).toInt ∧ _
    refine ⟨by omega, ?_⟩
    show (r_pack_a4 f n + r_voltsOf_v f (Int32.ofNat n) n).toInt ≤ _
    omega
