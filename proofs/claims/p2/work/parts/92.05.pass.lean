/-! ===== block 0: (3) of a second, a cell's own ===== -/
section C0PASS
variable {f : t2_F} {i : Nat} {x : Int32}
theorem t2_irem {T l : Int32} (hT : 0 ≤ T.toInt) (hl : 0 < l.toInt) : (T - T / l * l).toInt = T.toInt % l.toInt ∧ (T / l).toInt = T.toInt / l.toInt ∧ 0 ≤ T.toInt / l.toInt ∧ T.toInt / l.toInt ≤ T.toInt := by
  have d := at_div32 (x := T) (y := l) hT hl
  have q0 : 0 ≤ T.toInt / l.toInt := Int.ediv_nonneg hT (by omega)
  have q1 : T.toInt / l.toInt ≤ T.toInt := Int.ediv_le_self _ hT
  have m1 : T.toInt / l.toInt * l.toInt ≤ T.toInt := Int.ediv_mul_le _ (by omega)
  have m0 : 0 ≤ T.toInt / l.toInt * l.toInt := Int.mul_nonneg q0 (by omega)
  have bT := at_i32 T
  have e : (T / l * l).toInt = T.toInt / l.toInt * l.toInt := by rw [at_mul32] <;> rw [d] <;> omega
  refine ⟨?_, d, q0, q1⟩
  rw [at_sub32 (by omega) (by omega), e, Int.emod_def, Int.mul_comm l.toInt]
theorem t2_heldTo_i {v y : Int32} (hy : 0 ≤ y.toInt) : (t2_heldTo_v v (0 : Int32) y).toInt = max 0 (min v.toInt y.toInt) := by
  have e : (0 : Int32).toInt = 0 := rfl
  unfold t2_heldTo_v
  split
  · omega
  · split <;> omega
theorem c0_wear_w (hcap : t2_cap (f (18 + 4 * i) 0)) (hT : 0 ≤ (f (18 + 4 * i) 9).toInt) (hl : 0 ≤ (x * (3600 : Int32)).toInt) (hr : 0 ≤ (f (18 + 4 * i) 8).toInt ∧ (f (18 + 4 * i) 8).toInt ≤ 3600 * (f (18 + 4 * i) 0).toInt) :
    (∀ j : Nat, j ≠ 0 → j ≠ 8 → j ≠ 9 → c0_wear_m f i x (18 + 4 * i) j = f (18 + 4 * i) j) ∧ t2_cap (c0_wear_m f i x (18 + 4 * i) 0) ∧
    ((x * (3600 : Int32)).toInt = 0 → c0_wear_m f i x = f) ∧
    (0 < (x * (3600 : Int32)).toInt → (c0_wear_m f i x (18 + 4 * i) 9).toInt = (f (18 + 4 * i) 9).toInt % (x * (3600 : Int32)).toInt ∧ (c0_wear_m f i x (18 + 4 * i) 0).toInt = max 100 ((f (18 + 4 * i) 0).toInt - (f (18 + 4 * i) 9).toInt / (x * (3600 : Int32)).toInt) ∧ (c0_wear_m f i x (18 + 4 * i) 8).toInt = min (f (18 + 4 * i) 8).toInt (3600 * (c0_wear_m f i x (18 + 4 * i) 0).toInt)) := by
  obtain ⟨hc1, hc2⟩ := hcap
  have e100 : (100 : Int32).toInt = 100 := by decide +kernel
  unfold c0_wear_m
  generalize hlot : x * (3600 : Int32) = lot at hl
  by_cases h1 : 0 < lot.toInt
  · simp only [if_pos h1]
    by_cases h2 : (f (18 + 4 * i) 9).toInt < lot.toInt
    · simp only [if_pos h2]
      refine ⟨fun j _ _ _ => trivial, ⟨hc1, hc2⟩, fun h => absurd h (by omega), fun _ => ?_⟩
      rw [Int.emod_eq_of_lt hT h2, Int.ediv_eq_zero_of_lt hT h2]
      omega
    · simp only [if_neg h2]
      obtain ⟨d1, d2, d3, d4⟩ := t2_irem hT h1
      have k0 : (t2_max_v (100 : Int32) (f (18 + 4 * i) 0 - f (18 + 4 * i) 9 / lot)).toInt = max 100 ((f (18 + 4 * i) 0).toInt - (f (18 + 4 * i) 9).toInt / lot.toInt) := by
        have b9 := at_i32 (f (18 + 4 * i) 9)
        rw [t2_max_i, e100, at_sub32 (by omega) (by omega), d2]
      unfold c0_putReckoned_m
      simp only [fl_row_self, upd_ne (by decide : 0 ≠ 8), upd_ne (by decide : 9 ≠ 8), upd_ne (by decide : 0 ≠ 9), upd_self, upd_ne (by decide : 8 ≠ 9), upd_ne (by decide : 8 ≠ 0)]
      have kc : t2_cap (t2_max_v (100 : Int32) (f (18 + 4 * i) 0 - f (18 + 4 * i) 9 / lot)) := by
        unfold t2_cap
        omega
      refine ⟨fun j j0 j8 j9 => by rw [upd_ne j8, upd_ne j9, upd_ne j0], kc, fun h => absurd h (by omega), fun _ => ⟨d1, k0, ?_⟩⟩
      rw [t2_heldTo_i (by rw [t2_full_i kc]; omega), t2_full_i kc]
      omega
  · simp only [if_neg h1]
    exact ⟨fun j _ _ _ => trivial, ⟨hc1, hc2⟩, fun _ => trivial, fun h => absurd h (by omega)⟩
end C0PASS
