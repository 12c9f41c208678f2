/-! ===== the reference's image and back, as functions ===== -/
section T2RI
variable {L : Nat} {xs : Nat → Int32} {m : fl_M} {Q : Option fl_V → fl_M → Prop}
theorem r_image_q (k : ∀ g : t2_F, (∀ p : Nat, p ≠ 281 → g p = m.1 p) → (∀ j : Nat, j < 29780 → g 281 j = m.1 280 j) → Q (some (.inl (g 280 7))) (g, m.2)) : fl_Tq (pw_P L xs) 323 0 (fl_args (am_mxl (pw_P L xs) 323) [.inr (.inr (.inl (76, 277)))]) [] m Q := by
  have k81 : fk_K 281 = 80 := by decide +kernel
  refine fl_Tq.stp rfl rfl (fl_bo rfl) rfl ?_
  refine fl_Tq.stp rfl rfl (fl_bo rfl) rfl ?_
  refine fl_Tq.stp rfl rfl (fl_bo rfl) rfl ?_
  refine fl_Tq.stp rfl rfl (fl_bo rfl) rfl ?_
  refine fl_Tq.cal rfl rfl (fl_bo rfl) rfl ?_
  refine at_copy (p := 280) (q := 281) (tp := 79) (tq := 80) fk_K_280 k81 (by decide) (by decide) rfl rfl (by decide) ?_
  refine fl_Tq.stp rfl rfl (fl_bo rfl) rfl ?_
  refine fl_Tq.stp rfl rfl (fl_bo rfl) rfl ?_
  refine fl_Tq.stp rfl rfl (fl_bo rfl) rfl ?_
  refine fl_Tq.ld (p := 280) (τ := 79) (n := 29780) (z := (0, 0, 0)) (k := 7) rfl (fl_bo rfl) rfl (by decide +kernel) (by decide) ?_
  refine fl_Tq.ret rfl rfl rfl ?_
  refine k (bl_cp 280 0 281 0 29780 m).1 (fun p hp => funext (fun j => bl_cp_out (fun h => absurd h hp))) (fun j hj => ?_)
  rw [bl_cp_in (by omega) (by omega)]
  rfl
theorem r_back_q (k : ∀ g : t2_F, (∀ p : Nat, p ≠ 280 → g p = m.1 p) → (∀ j : Nat, j < 29780 → g 280 j = m.1 281 j) → Q (some (.inl (g 280 7))) (g, m.2)) : fl_Tq (pw_P L xs) 324 0 (fl_args (am_mxl (pw_P L xs) 324) [.inr (.inr (.inl (76, 277)))]) [] m Q := by
  have k81 : fk_K 281 = 80 := by decide +kernel
  refine fl_Tq.stp rfl rfl (fl_bo rfl) rfl ?_
  refine fl_Tq.stp rfl rfl (fl_bo rfl) rfl ?_
  refine fl_Tq.stp rfl rfl (fl_bo rfl) rfl ?_
  refine fl_Tq.stp rfl rfl (fl_bo rfl) rfl ?_
  refine fl_Tq.cal rfl rfl (fl_bo rfl) rfl ?_
  refine at_copy (p := 281) (q := 280) (tp := 80) (tq := 79) k81 fk_K_280 (by decide) (by decide) rfl rfl (by decide) ?_
  refine fl_Tq.stp rfl rfl (fl_bo rfl) rfl ?_
  refine fl_Tq.stp rfl rfl (fl_bo rfl) rfl ?_
  refine fl_Tq.stp rfl rfl (fl_bo rfl) rfl ?_
  refine fl_Tq.ld (p := 280) (τ := 79) (n := 29780) (z := (0, 0, 0)) (k := 7) rfl (fl_bo rfl) rfl (by decide +kernel) (by decide) ?_
  refine fl_Tq.ret rfl rfl rfl ?_
  refine k (bl_cp 281 0 280 0 29780 m).1 (fun p hp => funext (fun j => bl_cp_out (fun h => absurd h hp))) (fun j hj => ?_)
  rw [bl_cp_in (by omega) (by omega)]
  rfl
end T2RI
