/-! ===== image, back ===== -/
section ATIM
variable {L : Nat} {xs : Nat → Int32}
theorem at_v323 : at_Valid at_XI (pw_P L xs) (323, [.inl (76, some 277)], [], some (.inr (false, -2147483648, 2147483647)), false, [(80, false, 0, 29779)]) := by
  intro m vs hg hk _
  obtain ⟨r, rfl, hk2⟩ := at_ag277 hk
  have hr0 := at_agnil (vs := r) hk2
  subst hr0
  have k81 : fk_K 281 = 80 := by decide +kernel
  refine fl_Tq.stp rfl rfl (fl_bo rfl) rfl ?_
  refine fl_Tq.stp rfl rfl (fl_bo rfl) rfl ?_
  refine fl_Tq.stp rfl rfl (fl_bo rfl) rfl ?_
  refine fl_Tq.stp rfl rfl (fl_bo rfl) rfl ?_
  refine fl_Tq.cal rfl rfl (fl_bo rfl) rfl ?_
  refine at_copy (p := 280) (q := 281) (tp := 79) (tq := 80) fk_K_280 k81 (by decide) (by decide) rfl rfl (by decide) ?_
  refine fl_Tq.stp rfl rfl (fl_bo rfl) rfl ?_
  refine fl_Tq.stp rfl rfl (fl_bo rfl) rfl ?_
  refine fl_Tq.stp rfl rfl (fl_bo rfl) rfl ?_
  refine fl_Tq.ld (p := 280) (τ := 79) (n := 29780) (z := (0, 0, 0)) (k := 7) rfl (fl_bo rfl) rfl (by decide +kernel) (by decide) ?_
  refine fl_Tq.ret rfl rfl rfl ?_
  have ne : ∀ p j : Nat, (p = 281 → 29780 ≤ j) → (bl_cp 280 0 281 0 29780 m).1 p j = m.1 p j := fun p j e => bl_cp_out (fun h => by have := e h; omega)
  have hin : ∀ j : Nat, j < 29780 → (bl_cp 280 0 281 0 29780 m).1 281 j = m.1 280 j := fun j hj => by
    rw [bl_cp_in (by omega) (by omega)]
    rfl
  have hX : at_XI (bl_cp 280 0 281 0 29780 m) := by
    obtain ⟨a1, a2, a3, a4, a5, ⟨a6, a7, a8⟩, a9, a10⟩ := hg.2.2
    refine ⟨fun q hq i hi => ?_, ?_, fun p hp i => ?_, ?_, fun s hs => ?_, ⟨?_, ?_, ?_⟩, fun s hs => ?_, fun p j hp => ?_⟩
    · rw [ne q i (by omega)]
      exact a1 q hq i hi
    · unfold at_cnt at_nzr at a2 ⊢
      simp only [fun i => ne 272 i (by omega), fun i => ne 274 i (by omega)]
      exact a2
    · have hp : fl_N m.2.2 ≤ p := hp
      rw [ne p i (by unfold fl_N at hp; omega)]
      exact a3 p hp i
    · exact a4.congr (fun j _ _ => by (try dsimp only); rw [ne 283 _ (by omega)])
    · exact (a5 s hs).congr (fun j _ _ => by (try dsimp only); rw [ne 280 _ (by omega)])
    · exact hg.AK.congr (fun j _ _ => by (try dsimp only); rw [hin j (by omega)]; rfl)
    · rw [hin 0 (by decide)]; exact hg.w0
    · rw [hin 1 (by decide)]; exact hg.w1
    · exact (a5 s hs).congr (fun j _ _ => by (try dsimp only); rw [hin _ (by omega)])
    · rw [ne p j (by omega)]
      exact a10 p j hp
  have ew : ∀ j, at_w (bl_cp 280 0 281 0 29780 m) j = at_w m j := fun j => by
    show ((bl_cp 280 0 281 0 29780 m).1 280 j).toInt = _
    rw [ne 280 j (by omega)]
    rfl
  obtain ⟨b1, b2⟩ := at_i32 ((bl_cp 280 0 281 0 29780 m).1 280 7)
  refine ⟨hg.mk rfl hX (fun p j hp _ hne => ?_) (by rw [ew]; exact hg.w0) (by rw [ew]; exact hg.w1) (hg.AK.congr (fun j _ _ => ew j)), ⟨Nat.le_refl _, fun p j hne => ⟨_, List.mem_singleton.mpr rfl, ?_⟩⟩, ⟨_, rfl, b1, b2, fun h => by cases h⟩⟩
  · by_cases e : p = 281
    · subst e
      rw [k81]
      decide +kernel
    · exact absurd (ne p j (fun h => absurd h e)) hne
  · by_cases e : p = 281
    · subst e
      refine ⟨k81.symm, ?_⟩
      rw [if_neg (by decide)]
      by_cases hj : j < 29780
      · show (0 : Int) ≤ j ∧ (j : Int) ≤ 29779
        omega
      · exact absurd (ne 281 j (fun _ => by omega)) hne
    · exact absurd (ne p j (fun h => absurd h e)) hne
theorem at_v324 : at_Valid at_XI (pw_P L xs) (324, [.inl (76, some 277)], [], some (.inr (false, -2147483648, 2147483647)), false, [(79, false, 0, 29779)]) := by
  intro m vs hg hk _
  obtain ⟨r, rfl, hk2⟩ := at_ag277 hk
  have hr0 := at_agnil (vs := r) hk2
  subst hr0
  have k81 : fk_K 281 = 80 := by decide +kernel
  refine fl_Tq.stp rfl rfl (fl_bo rfl) rfl ?_
  refine fl_Tq.stp rfl rfl (fl_bo rfl) rfl ?_
  refine fl_Tq.stp rfl rfl (fl_bo rfl) rfl ?_
  refine fl_Tq.stp rfl rfl (fl_bo rfl) rfl ?_
  refine fl_Tq.cal rfl rfl (fl_bo rfl) rfl ?_
  refine at_copy (p := 281) (q := 280) (tp := 80) (tq := 79) k81 fk_K_280 (by decide) (by decide) rfl rfl (by decide) ?_
  refine fl_Tq.stp rfl rfl (fl_bo rfl) rfl ?_
  refine fl_Tq.stp rfl rfl (fl_bo rfl) rfl ?_
  refine fl_Tq.stp rfl rfl (fl_bo rfl) rfl ?_
  refine fl_Tq.ld (p := 280) (τ := 79) (n := 29780) (z := (0, 0, 0)) (k := 7) rfl (fl_bo rfl) rfl (by decide +kernel) (by decide) ?_
  refine fl_Tq.ret rfl rfl rfl ?_
  have ne : ∀ p j : Nat, (p = 280 → 29780 ≤ j) → (bl_cp 281 0 280 0 29780 m).1 p j = m.1 p j := fun p j e => bl_cp_out (fun h => by have := e h; omega)
  have hin : ∀ j : Nat, j < 29780 → (bl_cp 281 0 280 0 29780 m).1 280 j = m.1 281 j := fun j hj => by
    rw [bl_cp_in (by omega) (by omega)]
    rfl
  obtain ⟨a1, a2, a3, a4, a5, ⟨a6, a7, a8⟩, a9, a10⟩ := id hg.2.2
  have hX : at_XI (bl_cp 281 0 280 0 29780 m) := by
    refine hg.2.2.mk280 rfl (fun p j e => ne p j (fun h => absurd h e)) (fun s hs => (a9 s hs).congr (fun j _ _ => ?_))
    try dsimp only
    rw [hin _ (by omega)]
  have ew : ∀ j, j < 29780 → at_w (bl_cp 281 0 280 0 29780 m) j = (m.1 281 j).toInt := fun j hj => by
    show ((bl_cp 281 0 280 0 29780 m).1 280 j).toInt = _
    rw [hin j hj]
  obtain ⟨b1, b2⟩ := at_i32 ((bl_cp 281 0 280 0 29780 m).1 280 7)
  refine ⟨hg.mk rfl hX (fun p j hp _ hne => absurd (ne p j (fun h => absurd h hp)) hne) (by rw [ew 0 (by decide)]; exact a7) (by rw [ew 1 (by decide)]; exact a8) (a6.congr (fun j _ _ => ew j (by omega))), ⟨Nat.le_refl _, fun p j hne => ⟨_, List.mem_singleton.mpr rfl, ?_⟩⟩, ⟨_, rfl, b1, b2, fun h => by cases h⟩⟩
  by_cases e : p = 280
  · subst e
    refine ⟨fk_K_280.symm, ?_⟩
    rw [if_neg (by decide)]
    by_cases hj : j < 29780
    · show (0 : Int) ≤ j ∧ (j : Int) ≤ 29779
      omega
    · exact absurd (ne 280 j (fun _ => by omega)) hne
  · exact absurd (ne p j (fun h => absurd h e)) hne
/-! ===== keep, undo ===== -/
theorem at_st240 {x y : Int32} {m : fl_M} {Q : Option fl_V → fl_M → Prop} (hx : 0 ≤ x.toInt ∧ x.toInt ≤ 20) (hy : 0 ≤ y.toInt ∧ y.toInt ≤ 20) (k : ∀ v : Int32, v.toInt = 1420 + 1418 * ((x.toInt + y.toInt) % 20) → Q (some (.inl v)) m) : fl_Tq (pw_P L xs) 240 0 (fl_args (am_mxl (pw_P L xs) 240) [.inl x, .inl y]) [] m Q := by
  refine fl_Tq.stp rfl rfl (fl_bo rfl) rfl ?_
  refine fl_Tq.stp rfl rfl (fl_bo rfl) rfl ?_
  refine fl_Tq.stp rfl rfl (fl_bo rfl) rfl ?_
  refine fl_Tq.stp rfl rfl (fl_bo rfl) rfl ?_
  refine fl_Tq.stp rfl rfl (fl_bo rfl) rfl ?_
  refine fl_Tq.stp rfl rfl (fl_bo rfl) rfl ?_
  refine fl_Tq.rm rfl (fl_bo rfl) (by decide +kernel) ?_
  refine fl_Tq.stp rfl rfl (fl_bo rfl) rfl ?_
  refine fl_Tq.stp rfl rfl (fl_bo rfl) rfl ?_
  refine fl_Tq.ret rfl rfl rfl (k _ ?_)
  dsimp only
  have es := at_add32 (x := x) (y := y) (by omega) (by omega)
  have e20 : (Int8.ofInt 20).toInt32.toInt = 20 := by decide +kernel
  have e18 : (Int16.ofInt 1418).toInt32.toInt = 1418 := by decide +kernel
  have e14 : (Int16.ofInt 1420).toInt32.toInt = 1420 := by decide +kernel
  generalize x + y = s at es ⊢
  generalize (Int8.ofInt 20).toInt32 = t at e20 ⊢
  generalize (Int16.ofInt 1418).toInt32 = u at e18 ⊢
  generalize (Int16.ofInt 1420).toInt32 = w at e14 ⊢
  have eq : (s / t).toInt = s.toInt / 20 := by
    rw [Int32.toInt_div, e20, Int.tdiv_eq_ediv_of_nonneg (by omega)]
    exact Int.bmod_eq_of_le (by omega) (by omega)
  have em : (s / t * t).toInt = s.toInt / 20 * 20 := by
    rw [at_mul32] <;> rw [eq, e20] <;> omega
  have er : (s - s / t * t).toInt = s.toInt % 20 := by
    rw [at_sub32] <;> rw [em] <;> omega
  have e1 : (u * (s - s / t * t)).toInt = 1418 * (s.toInt % 20) := by
    rw [at_mul32] <;> rw [er, e18] <;> omega
  rw [at_add32] <;> rw [e14, e1] <;> omega
end ATIM
