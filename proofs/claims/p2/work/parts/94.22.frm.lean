/-! ===== block 0: what the parts of a second leave alone ===== -/
section C0FRM
variable {fc fr f f' g F G A B : t2_F} {C n k : Nat} {c x y z : Int32}
/-- (1): too slow? -/
theorem c0_slow_eq (hst : fc 1 7 = fr 280 3) (hb : fc 1 8 = fr 280 4) (hs : c0_Rs fc fr) (hp : c0_packAt_v fc (0 : Int32) = r_packCalm_v fr) (hj : c0_moveBus_j16_0 fc = r_goBus_j16_0 fr) : c0_moveBus_v fc = r_goBus_m fr 277 4 ∧ (r_goBus_m fr 277 4 = 0 ∨ r_goBus_m fr 277 4 = 1) ∧ ∀ j : Nat, j ≠ 4 → r_goBus_m fr 277 j = fr 277 j := by
  have s8 : fc 4 8 = fr 280 42 := hs 8 (by omega)
  unfold c0_moveBus_v r_goBus_m
  rw [hst, hb, hp, hj, s8, t2_m32 (r_goBus_j16_0 fr) (1000 : Int32)]
  by_cases h1 : (fr 280 3).toInt = (1 : Int32).toInt
  · by_cases h2 : ((1000 : Int32) * (r_goBus_j16_0 fr)).toInt < ((950 : Int32) * (r_packCalm_v fr)).toInt
    · by_cases h3 : ((r_goBus_j16_0 fr) - (fr 280 4)).toInt < (fr 280 42).toInt
      · simp only [if_pos h1, if_pos h2, if_pos h3]
        refine ⟨?_, Or.inr ?_, fun j hj => ?_⟩
        · rw [fl_row_self, upd_self]
        · rw [fl_row_self, upd_self]
        · rw [fl_row_self, upd_ne hj]
      · simp only [if_pos h1, if_pos h2, if_neg h3]
        refine ⟨?_, Or.inl ?_, fun j hj => ?_⟩
        · rw [fl_row_self, upd_self]
        · rw [fl_row_self, upd_self]
        · rw [fl_row_self, upd_ne hj]
    · simp only [if_pos h1, if_neg h2]
      refine ⟨?_, Or.inl ?_, fun j hj => ?_⟩
      · rw [fl_row_ne (by decide), fl_row_self, upd_self]
      · rw [fl_row_ne (by decide), fl_row_self, upd_self]
      · rw [fl_row_ne (by decide), fl_row_self, upd_ne hj]
  · simp only [if_neg h1]
    refine ⟨?_, Or.inl ?_, fun j hj => ?_⟩
    · rw [fl_row_self, upd_self]
    · rw [fl_row_self, upd_self]
    · rw [fl_row_self, upd_ne hj]
/-- (3): the words of a cell that stay -/
theorem c0_wear_o {i : Nat} {j : Nat} (h0 : j ≠ 0) (h8 : j ≠ 8) (h9 : j ≠ 9) : c0_wear_m f i x (18 + 4 * i) j = f (18 + 4 * i) j := by
  unfold c0_wear_m c0_putReckoned_m
  split
  · split
    · rfl
    · rw [fl_row_self, upd_ne h8, fl_row_self, upd_ne h9, upd_ne h0]
  · rfl
theorem c0_pass_o {i j : Nat} (hj : j = 1 ∨ j = 5 ∨ 10 ≤ j) : c0_pass_m f i x (18 + 4 * i) j = f (18 + 4 * i) j := by
  unfold c0_pass_m c0_putReckoned_m c0_putCharge_m
  rw [fl_row_self, upd_ne (by omega), fl_row_self, upd_ne (by omega), upd_ne (by omega), upd_ne (by omega), c0_wear_o (by omega) (by omega) (by omega), fl_row_self, upd_ne (by omega), upd_ne (by omega), upd_ne (by omega)]
theorem c0_cells_o (hn : (fc 1 5).toInt.toNat = n) (hC : C < n) {j : Nat} (hj : j = 1 ∨ j = 5 ∨ 10 ≤ j) : c0_passCells_m fc (18 + 4 * C) j = fc (18 + 4 * C) j := by
  unfold c0_passCells_m
  rw [c0_f35_o (by omega), hn, c0_f2_at hC, c0_pass_o hj, c0_passCells_f2_fr (k := C) (p := 18 + 4 * C) (fun j hj => by omega)]
theorem c0_cells_p {p : Nat} (hp : p < 18 ∨ ∀ C : Nat, C < 16 → p ≠ 18 + 4 * C) (hn : (fc 1 5).toInt.toNat ≤ 16) : c0_passCells_m fc p = fc p := by
  unfold c0_passCells_m
  rw [c0_passCells_f35_fr (fun j hj => by rcases hp with h | h; omega; exact h j (by omega)) (fun j hj => by rcases hp with h | h; omega; exact h (j + 1) (by omega)), c0_passCells_f2_fr (fun j hj => by rcases hp with h | h; omega; exact h j (by omega))]
theorem r_cells_o {w : Nat} (hn : (fr 280 2).toInt.toNat = n) (hw : w < 61) (h : w ≠ 0 ∧ w ≠ 1 ∧ w ≠ 3 ∧ w ≠ 4 ∧ w ≠ 5 ∧ w ≠ 9) : r_goCells_m fr 280 (444 + 61 * C + w) = fr 280 (444 + 61 * C + w) := by
  unfold r_goCells_m
  exact r_f50_same hw h.1 h.2.1 h.2.2.1 h.2.2.2.1 h.2.2.2.2.1 h.2.2.2.2.2
theorem r_cells_lo {w : Nat} (hw : w < 444) : r_goCells_m fr 280 w = fr 280 w := by
  unfold r_goCells_m
  exact r_f50_lo hw
/-! (4) -/
theorem r_shuttle_277 {j : Nat} (hj : j ≠ 6) : r_shuttle_m f c C 277 j = f 277 j := by
  unfold r_shuttle_m
  repeat' split
  all_goals first | rfl | (rw [fl_row_self, upd_ne hj, r_hld_p (by decide), r_hld_p (by decide), fl_row_ne (by decide)])
theorem r_shunt_277 {j : Nat} (hj : j ≠ 6) : r_shuntAll_m f 277 j = f 277 j := by
  have key : ∀ k : Nat, r_shuntAll_f81 f k 277 j = f 277 j := by
    intro k
    induction k with
    | zero =>
      show r_shuntAll_f40 f _ 277 j = _
      rw [r_shuntAll_f40_fr (fun j hj => by decide)]
    | succ k ih =>
      rw [r_shuntAll_fS]
      unfold r_shuntAll_b81_m
      rw [fl_row_self, upd_ne hj, r_hld_p (by decide), fl_row_ne (by decide)]
      exact ih
  exact key _
theorem r_balance_277 {j : Nat} (hj : j ≠ 6) : r_goBalance_m f 277 j = f 277 j := by
  have z : (fl_row (fl_row f 280 (upd (f 280) 13 (0 : Int32))) 277 (upd (f 277) 6 (0 : Int32))) 277 j = f 277 j := by rw [fl_row_self, upd_ne hj]
  have key : ∀ k : Nat, r_goBalance_f57 f k 277 j = f 277 j := by
    intro k
    induction k with
    | zero =>
      show (if (f 280 45).toInt = (1 : Int32).toInt then _ else _ : t2_F) 277 j = _
      split
      · rw [r_shunt_277 hj, z]
      · exact z
    | succ k ih =>
      show r_shuttle_m (r_goBalance_f57 f k) _ _ 277 j = _
      rw [r_shuttle_277 hj, ih]
  unfold r_goBalance_m
  split
  · split
    · exact key _
    · split
      · rw [r_shunt_277 hj, z]
      · exact z
  · exact z
theorem c0_balance_o (hc : (fc 1 5).toInt.toNat = n) (hg : (fr 280 2).toInt.toNat = n) (hn : n ≤ 16) (h : c0_RB fc fr n) (hl : fc 10 3 = fr 280 6) (ht : fc 1 6 = fr 280 7) (ho : 0 ≤ (fr 280 47).toInt ∧ (fr 280 47).toInt ≤ 16) :
    (∀ p : Nat, p ≠ 1 → (∀ C : Nat, C < 16 → p ≠ 18 + 4 * C) → c0_balance_m fc p = fc p) ∧ (∀ j : Nat, j ≠ 11 → j ≠ 13 → j ≠ 14 → j ≠ 15 → j ≠ 16 → c0_balance_m fc 1 j = fc 1 j) ∧ (∀ C : Nat, C < n → ∀ j : Nat, j ≠ 2 → j ≠ 3 → j ≠ 4 → j ≠ 8 → c0_balance_m fc (18 + 4 * C) j = fc (18 + 4 * C) j) ∧ (∀ C : Nat, C < n → ∀ w : Nat, w < 61 → w ≠ 1 → w ≠ 4 → r_goBalance_m fr 280 (444 + 61 * C + w) = fr 280 (444 + 61 * C + w)) := by
  have c1 : (1 : Int32).toInt = 1 := by decide +kernel
  have c2 : (2 : Int32).toInt = 2 := by decide +kernel
  have s11 : fc 4 11 = fr 280 45 := h.1 11 (by omega)
  have zc : ∀ j : Nat, j ≠ 16 → (fl_row fc 1 (upd (fc 1) 16 (0 : Int32))) 1 j = fc 1 j := fun j hj => by rw [fl_row_self, upd_ne hj]
  have zp : ∀ p : Nat, p ≠ 1 → (fl_row fc 1 (upd (fc 1) 16 (0 : Int32))) p = fc p := fun p hp => fl_row_ne hp
  have zr : ∀ w : Nat, w ≠ 13 → (fl_row (fl_row fr 280 (upd (fr 280) 13 (0 : Int32))) 277 (upd (fr 277) 6 (0 : Int32))) 280 w = fr 280 w := fun w hw => by rw [fl_row_ne (by decide), fl_row_self, upd_ne hw]
  have hz : c0_RB (fl_row fc 1 (upd (fc 1) 16 (0 : Int32))) (fl_row (fl_row fr 280 (upd (fr 280) 13 (0 : Int32))) 277 (upd (fr 277) 6 (0 : Int32))) n := by
    obtain ⟨hs, hC, e14, e15, e11, e13, e16⟩ := h
    refine ⟨hs.congr (zp _ (by decide)) (fun k hk => zr _ (by omega)), fun C hC' => ⟨(hC C hC').1.congr (zp _ (by omega)) (fun k hk => zr _ (by omega)), by rw [zp _ (by omega)]; exact (hC C hC').2.1, c0_ck_congr (hC C hC').2.2 (zr _ (by omega)) (zr _ (by omega))⟩, ?_, ?_, ?_, ?_, ?_⟩
    · rw [zr 11 (by decide), zc 14 (by decide), e14]
    · rw [zr 12 (by decide), zc 15 (by decide), e15]
    · rw [zr 8 (by decide), zc 11 (by decide), e11]
    · rw [zr 10 (by decide), zc 13 (by decide), e13]
    · rw [fl_row_self, upd_self, fl_row_ne (by decide), fl_row_self, upd_self]
  unfold c0_balance_m r_goBalance_m
  rw [hl, s11]
  by_cases h6 : (fr 280 6).toInt = 0
  · rw [if_pos h6, if_pos h6]
    by_cases m1 : (fr 280 45).toInt = (1 : Int32).toInt
    · rw [if_pos m1, if_neg (show ¬ (fr 280 45).toInt = (2 : Int32).toInt by omega), if_pos m1]
      obtain ⟨si, gi⟩ := c0_shunt_two (n := n) (by rw [zc 5 (by decide)]; exact hc) (by rw [zr 2 (by decide)]; exact hg) hn hz (by rw [fl_row_self, upd_self]) (by rw [zr 47 (by decide)]; exact ho)
      obtain ⟨q1, q2, q3, q4, q5, q6⟩ := gi
      refine ⟨fun p hp hC => ?_, fun j a11 a13 a14 a15 a16 => ?_, fun C hC j b2 b3 b4 b8 => ?_, fun C hC w hw w1 w4 => ?_⟩
      · unfold c0_shuntCells_m
        have h5 := zc 5 (by decide)
        rw [c0_shuntCells_f95_fr (fun j hj => hp) (fun j hj => hC j (by rw [h5, hc] at hj; omega)), c0_shuntCells_gw hp, zp p hp]
      · rw [q5 j a11 a13 a16, zc j a16]
      · by_cases hb : t2_bt (r_shuntAll_m (fl_row (fl_row fr 280 (upd (fr 280) 13 (0 : Int32))) 277 (upd (fr 277) 6 (0 : Int32))) 280 13) C = true
        · rw [((q1 C hC).1 ⟨hC, hb⟩).2.2.2.2 j b2 b3 b4 b8, zp _ (by omega)]
        · rw [(q1 C hC).2 (fun q => hb q.2), zp _ (by omega)]
      · rw [si.2.2.1 _ (by omega) (by omega) (by omega) (fun D hD => ⟨by omega, by omega⟩), zr _ (by omega)]
    · rw [if_neg m1]
      by_cases m2 : (fr 280 45).toInt = (2 : Int32).toInt
      · rw [if_pos m2, if_pos m2]
        have ej : c0_balance_j58_0 fc = r_goBalance_j48_0 fr := by
          unfold c0_balance_j58_0 r_goBalance_j48_0
          rw [ht]
        rw [hc, hg, ej]
        have shc : ∀ (f : t2_F) (i : Nat), i + 1 < n → (∀ p : Nat, p ≠ 1 → (∀ C : Nat, C < 16 → p ≠ 18 + 4 * C) → c0_shuttle_m f i p = f p) ∧ (∀ j : Nat, j ≠ 14 → j ≠ 15 → c0_shuttle_m f i 1 j = f 1 j) ∧ (∀ C : Nat, ∀ j : Nat, j ≠ 2 → j ≠ 3 → j ≠ 4 → j ≠ 8 → c0_shuttle_m f i (18 + 4 * C) j = f (18 + 4 * C) j) := by
          intro f i hi
          have one : ∀ A B : Nat, A ≠ B → A < 16 → B < 16 → (∀ p : Nat, p ≠ 1 → (∀ C : Nat, C < 16 → p ≠ 18 + 4 * C) → c0_sh f A B p = f p) ∧ (∀ j : Nat, j ≠ 14 → j ≠ 15 → c0_sh f A B 1 j = f 1 j) ∧ (∀ C : Nat, ∀ j : Nat, j ≠ 2 → j ≠ 3 → j ≠ 4 → j ≠ 8 → c0_sh f A B (18 + 4 * C) j = f (18 + 4 * C) j) := by
            intro A B hAB hA hB
            obtain ⟨⟨-, -, -, -, wAo⟩, ⟨-, -, -, -, wBo⟩, wp, wo, -, -⟩ := c0_sh_w (f := f) hAB
            refine ⟨fun p hp hC => wp p hp (hC A hA) (hC B hB), wo, fun C j b2 b3 b4 b8 => ?_⟩
            by_cases eA : C = A
            · subst eA
              exact wAo j b2 b3 b4 b8
            · by_cases eB : C = B
              · subst eB
                exact wBo j b2 b3 b4 b8
              · rw [wp _ (by omega) (by omega) (by omega)]
          rw [c0_shuttle_sh]
          split
          · split
            · exact one i (i + 1) (by omega) (by omega) (by omega)
            · exact one (i + 1) i (by omega) (by omega) (by omega)
          · exact ⟨fun _ _ _ => rfl, fun _ _ _ => rfl, fun _ _ _ _ _ _ => rfl⟩
        have loop : ∀ k : Nat, k ≤ (n - (r_goBalance_j48_0 fr).toInt.toNat) / 2 → (∀ p : Nat, p ≠ 1 → (∀ C : Nat, C < 16 → p ≠ 18 + 4 * C) → c0_balance_f67 fc k p = fc p) ∧ (∀ j : Nat, j ≠ 11 → j ≠ 13 → j ≠ 14 → j ≠ 15 → j ≠ 16 → c0_balance_f67 fc k 1 j = fc 1 j) ∧ (∀ C : Nat, C < n → ∀ j : Nat, j ≠ 2 → j ≠ 3 → j ≠ 4 → j ≠ 8 → c0_balance_f67 fc k (18 + 4 * C) j = fc (18 + 4 * C) j) ∧ (∀ C : Nat, C < n → ∀ w : Nat, w < 61 → w ≠ 1 → w ≠ 4 → r_goBalance_f57 fr k 280 (444 + 61 * C + w) = fr 280 (444 + 61 * C + w)) := by
          intro k
          induction k with
          | zero =>
            intro _
            refine ⟨fun p hp _ => zp p hp, fun j _ _ _ _ a16 => zc j a16, fun C hC j _ _ _ _ => ?_, fun C hC w hw w1 w4 => ?_⟩
            · show fl_row fc 1 _ (18 + 4 * C) j = _
              rw [fl_row_ne (by omega)]
            · show (if (fr 280 45).toInt = (1 : Int32).toInt then _ else _ : t2_F) 280 _ = _
              rw [if_neg m1]
              exact zr _ (by omega)
          | succ k ih =>
            intro hk
            obtain ⟨i1, i2, i3, i4⟩ := ih (by omega)
            obtain ⟨s1, s2, s3⟩ := shc (c0_balance_f67 fc k) ((c0_balance_j58_0 fc).toInt.toNat + 2 * k) (by rw [ej]; omega)
            refine ⟨fun p hp hC => ?_, fun j a11 a13 a14 a15 a16 => ?_, fun C hC j b2 b3 b4 b8 => ?_, fun C hC w hw w1 w4 => ?_⟩
            · exact (s1 p hp hC).trans (i1 p hp hC)
            · exact (s2 j a14 a15).trans (i2 j a11 a13 a14 a15 a16)
            · exact (s3 C j b2 b3 b4 b8).trans (i3 C hC j b2 b3 b4 b8)
            · show r_shuttle_m (r_goBalance_f57 fr k) _ _ 280 _ = _
              rw [r_shuttle_w (by omega) (by omega) (by omega) (by omega) (by omega) (by omega)]
              exact i4 C hC w hw w1 w4
        exact loop _ (Nat.le_refl _)
      · rw [if_neg m2, if_neg m2, if_neg m1]
        exact ⟨fun p hp _ => zp p hp, fun j _ _ _ _ a16 => zc j a16, fun C hC j _ _ _ _ => by rw [fl_row_ne (by omega)], fun C hC w hw w1 w4 => zr _ (by omega)⟩
  · rw [if_neg h6, if_neg h6]
    exact ⟨fun p hp _ => zp p hp, fun j _ _ _ _ a16 => zc j a16, fun C hC j _ _ _ _ => by rw [fl_row_ne (by omega)], fun C hC w hw w1 w4 => zr _ (by omega)⟩
/-! (6): the words that stay -/
theorem c0_measure_o (hn : (fc 1 5).toInt.toNat = n) : (∀ p : Nat, p ≠ 1 → p ≠ 4 → (∀ C : Nat, C < n → p ≠ 18 + 4 * C) → c0_sMeasure_m fc p = fc p) ∧ (∀ j : Nat, j ≠ 8 → j ≠ 12 → c0_sMeasure_m fc 1 j = fc 1 j) ∧ (∀ C : Nat, C < n → ∀ j : Nat, j ≠ 8 → j ≠ 11 → j ≠ 14 → j ≠ 15 → j ≠ 16 → j ≠ 17 → c0_sMeasure_m fc (18 + 4 * C) j = fc (18 + 4 * C) j) := by
  have row : ∀ p : Nat, p ≠ 1 → p ≠ 4 → c0_sMeasure_m fc p = c0_sMeasure_f46 fc n p := by
    intro p h1 h4
    unfold c0_sMeasure_m
    rw [hn]
    split
    · rw [c0_taper_fx h4, fl_row_ne h1]
    · rw [fl_row_ne h1]
  have row1 : ∀ j : Nat, j ≠ 8 → c0_sMeasure_m fc 1 j = c0_sMeasure_f46 fc n 1 j := by
    intro j h8
    unfold c0_sMeasure_m
    rw [hn]
    split
    · rw [c0_taper_fx (by decide), fl_row_self, upd_ne h8]
    · rw [fl_row_self, upd_ne h8]
  refine ⟨fun p h1 h4 hC => ?_, fun j h8 h12 => ?_, fun C hC j a8 a11 a14 a15 a16 a17 => ?_⟩
  · rw [row p h1 h4, c0_sMeasure_f46_fr (fun j hj => hC j hj), fl_row_ne h1]
  · rw [row1 j h8, c0_f46_1, upd_ne h12]
  · rw [row _ (by omega) (by omega)]
    by_cases hz : (c0_sMeasure_j35_0 fc).toInt = 0
    · exact (c0_f46_w0 hC hz).2.2.2 j a11 a14 a16
    · exact (c0_f46_w1 hC hz rfl).2.2.2.2.2.2 j a8 a11 a14 a15 a16 a17
end C0FRM
