/-! ===== block 0: (3) of a second: all cells ===== -/
section C0CELLS
variable {fc fr : t2_F} {C : Nat} {c x : Int32}
theorem c0_f2_at {f : t2_F} : ∀ {k : Nat}, C < k → c0_passCells_f2 f k (18 + 4 * C) = c0_pass_m (c0_passCells_f2 f C) C (f 1 9) (18 + 4 * C) := by
  intro k
  induction k with
  | zero => intro h; exact absurd h (Nat.not_lt_zero _)
  | succ k ih =>
    intro h
    by_cases e : C = k
    · subst e
      show c0_pass_m (c0_passCells_f2 f C) C ((c0_passCells_f2 f C) 1 9) (18 + 4 * C) = _
      rw [c0_passCells_f2_fr (k := C) (p := 1) (fun j hj => by omega)]
    · exact (c0_passCells_b2_fr (f := c0_passCells_f2 f k) (k := k) (p := 18 + 4 * C) (by omega)).trans (ih (by omega))
theorem r_goWarm_1 {g : t2_F} : r_goWarm_m g c C 280 (444 + 61 * C + 1) = r_held_v (g 280 (444 + 61 * C + 1) + g 280 5 - g 280 61) (0 : Int32) ((3600 : Int32) * g 280 (444 + 61 * C + 0)) := by
  unfold r_goWarm_m r_full_v
  rw [fl_row_self, upd_ne (by omega), upd_self]
theorem r_goWarm_3 {g : t2_F} : r_goWarm_m g c C 280 (444 + 61 * C + 3) = (((g 280 (444 + 61 * C + 3)) + (((((g 280 5) / (1000 : Int32)) * ((g 280 5) / (1000 : Int32))) * (g 280 (444 + 61 * C + 2))) / (500 : Int32))) + (((g 280 40) - ((g 280 (444 + 61 * C + 3)) + (((((g 280 5) / (1000 : Int32)) * ((g 280 5) / (1000 : Int32))) * (g 280 (444 + 61 * C + 2))) / (500 : Int32)))) / (32 : Int32))) := by
  unfold r_goWarm_m
  rw [fl_row_self, upd_self]
theorem r_f2_in {f : t2_F} {w : Nat} (hw : w < 61) : ∀ {k : Nat}, C < k → r_goCells_f2 f k 280 (444 + 61 * C + w) = r_goWarm_m (r_goCells_f2 f C) (Int32.ofNat C) C 280 (444 + 61 * C + w) := by
  intro k
  induction k with
  | zero => intro h; exact absurd h (Nat.not_lt_zero _)
  | succ k ih =>
    intro h
    by_cases e : C = k
    · subst e
      rfl
    · exact (r_goCells_b2_w (f := r_goCells_f2 f k) (k := k) (w := 444 + 61 * C + w) (by omega) (by omega)).trans (ih (by omega))
theorem r_f2_lo {f : t2_F} {k w : Nat} (hw : w < 444) : r_goCells_f2 f k 280 w = f 280 w := r_goCells_f2_w (k := k) (w := w) (fun j hj => by omega) (fun j hj => by omega)
theorem r_f2_me {f : t2_F} {w : Nat} (hw : w < 61) : r_goCells_f2 f C 280 (444 + 61 * C + w) = f 280 (444 + 61 * C + w) := r_goCells_f2_w (k := C) (w := 444 + 61 * C + w) (fun j hj => by omega) (fun j hj => by omega)
theorem r_f50_in {f : t2_F} {w : Nat} (hw : w < 61) : ∀ {k : Nat}, C < k → r_goCells_f50 f k 280 (444 + 61 * C + w) = r_goOld_m (r_goCells_f50 f C) (Int32.ofNat C) C 280 (444 + 61 * C + w) := by
  intro k
  induction k with
  | zero => intro h; exact absurd h (Nat.not_lt_zero _)
  | succ k ih =>
    intro h
    by_cases e : C = k
    · subst e
      rfl
    · exact (r_goCells_b50_w (f := r_goCells_f50 f k) (k := k) (w := 444 + 61 * C + w) (by omega) (by omega) (by omega) (by omega) (by omega)).trans (ih (by omega))
theorem r_f50_lo {f : t2_F} {k w : Nat} (hw : w < 444) : r_goCells_f50 f k 280 w = f 280 w := by
  rw [r_goCells_f50_w (k := k) (w := w) (fun j hj => by omega) (fun j hj => by omega) (fun j hj => by omega) (fun j hj => by omega) (fun j hj => by omega), r_goCells_f25_w (w := w) (fun j hj => by omega) (fun j hj => by omega)]
  exact r_f2_lo hw
theorem r_f50_me {f : t2_F} {w : Nat} (hw : w < 61) (h3 : w ≠ 3) : r_goCells_f50 f C 280 (444 + 61 * C + w) = r_goCells_f2 f ((f 280 2).toInt.toNat) 280 (444 + 61 * C + w) := by
  rw [r_goCells_f50_w (k := C) (w := 444 + 61 * C + w) (fun j hj => by omega) (fun j hj => by omega) (fun j hj => by omega) (fun j hj => by omega) (fun j hj => by omega), r_goCells_f25_w (w := 444 + 61 * C + w) (fun j hj => by omega) (fun j hj => by omega)]
theorem c0_touch_step {F G : t2_F} {k N : Nat} (hk : k + 1 < N) (h : ∀ C : Nat, C < N → F (18 + 4 * C) 6 = G 280 (444 + 61 * C + 3)) (ht : F 4 22 = G 280 56) : ∀ C : Nat, C < N → c0_passCells_b35_m F k (18 + 4 * C) 6 = r_goCells_b25_m G k 280 (444 + 61 * C + 3) := by
  intro C hC
  have h1 := h k (by omega)
  have h2 := h (k + 1) hk
  unfold c0_passCells_b35_m r_goCells_b25_m r_touch_m
  by_cases e1 : C = k + 1
  · subst e1
    rw [fl_row_self, upd_self, fl_row_self, upd_self, h1, h2, ht]
  · by_cases e2 : C = k
    · subst e2
      rw [fl_row_ne (by omega), fl_row_self, upd_self, fl_row_self, upd_ne (by omega), upd_self, h1, h2, ht]
    · rw [fl_row_ne (by omega), fl_row_ne (by omega), fl_row_self, upd_ne (by omega), upd_ne (by omega)]
      exact h C hC
theorem c0_touch_eq {N : Nat} (hN : (fr 280 2).toInt.toNat = N) (hM : (fc 1 5).toInt.toNat = N) (h : ∀ C : Nat, C < N → c0_passCells_f2 fc N (18 + 4 * C) 6 = r_goCells_f2 fr N 280 (444 + 61 * C + 3)) (ht : fc 4 22 = fr 280 56) : ∀ k : Nat, k ≤ N - 1 → ∀ C : Nat, C < N → c0_passCells_f35 fc k (18 + 4 * C) 6 = r_goCells_f25 fr k 280 (444 + 61 * C + 3) := by
  intro k
  induction k with
  | zero =>
    intro _ C hC
    show c0_passCells_f2 fc ((fc 1 5).toInt.toNat) (18 + 4 * C) 6 = r_goCells_f2 fr ((fr 280 2).toInt.toNat) 280 (444 + 61 * C + 3)
    rw [hM, hN]
    exact h C hC
  | succ k ih =>
    intro hk
    refine c0_touch_step (F := c0_passCells_f35 fc k) (G := r_goCells_f25 fr k) (by omega) (ih (by omega)) ?_
    rw [c0_passCells_f35_fr (k := k) (p := 4) (fun j hj => by omega) (fun j hj => by omega), c0_passCells_f2_fr (p := 4) (fun j hj => by omega), r_goCells_f25_w (k := k) (w := 56) (fun j hj => by omega) (fun j hj => by omega), r_f2_lo (by omega)]
    exact ht
theorem c0_f35_o {j : Nat} (hj : j ≠ 6) : ∀ {k : Nat}, c0_passCells_f35 fc k (18 + 4 * C) j = c0_passCells_f2 fc ((fc 1 5).toInt.toNat) (18 + 4 * C) j := by
  intro k
  induction k with
  | zero => rfl
  | succ k ih =>
    show c0_passCells_b35_m (c0_passCells_f35 fc k) k (18 + 4 * C) j = _
    unfold c0_passCells_b35_m
    by_cases e1 : C = k + 1
    · subst e1
      rw [fl_row_self, upd_ne hj]
      exact ih
    · by_cases e2 : C = k
      · subst e2
        rw [fl_row_ne (by omega), fl_row_self, upd_ne hj]
        exact ih
      · rw [fl_row_ne (by omega), fl_row_ne (by omega)]
        exact ih
theorem c0_pass_6 {f : t2_F} : c0_pass_m f C x (18 + 4 * C) 6 = (((f (18 + 4 * C) 6) + ((((x / (1000 : Int32)) * (x / (1000 : Int32))) * (f (18 + 4 * C) 5)) / (500 : Int32))) + (((f 4 6) - ((f (18 + 4 * C) 6) + ((((x / (1000 : Int32)) * (x / (1000 : Int32))) * (f (18 + 4 * C) 5)) / (500 : Int32)))) / (32 : Int32))) ∧ c0_pass_m f C x (18 + 4 * C) 3 = t2_partOf_v (c0_pass_m f C x (18 + 4 * C) 2) (c0_pass_m f C x (18 + 4 * C) 0 * (3600 : Int32)) ∧ c0_pass_m f C x (18 + 4 * C) 4 = t2_rb (c0_pass_m f C x (18 + 4 * C) 3) := by
  have hw : ∀ (M : t2_F) (z : Int32), c0_wear_m M C z (18 + 4 * C) 6 = M (18 + 4 * C) 6 := by
    intro M z
    unfold c0_wear_m
    split
    · split
      · rfl
      · unfold c0_putReckoned_m
        rw [fl_row_self, upd_ne (by decide), fl_row_self, upd_ne (by decide), upd_ne (by decide)]
    · rfl
  unfold c0_pass_m c0_putReckoned_m c0_putCharge_m
  refine ⟨?_, ?_, ?_⟩
  · rw [fl_row_self, upd_ne (by decide), fl_row_self, upd_ne (by decide), upd_ne (by decide), upd_ne (by decide), hw, fl_row_self, upd_ne (by decide), upd_ne (by decide), upd_self]
  · simp only [fl_row_self, upd_self, upd_ne (by decide : 3 ≠ 8), upd_ne (by decide : 3 ≠ 4), upd_ne (by decide : 2 ≠ 8), upd_ne (by decide : 2 ≠ 4), upd_ne (by decide : 2 ≠ 3), upd_ne (by decide : 0 ≠ 8), upd_ne (by decide : 0 ≠ 4), upd_ne (by decide : 0 ≠ 3), upd_ne (by decide : 0 ≠ 2)]
  · simp only [fl_row_self, upd_self, upd_ne (by decide : 4 ≠ 8), upd_ne (by decide : 3 ≠ 8), upd_ne (by decide : 3 ≠ 4)]
theorem r_f2_oth {f : t2_F} {k w : Nat} (hw : w < 61) (h1 : w ≠ 1) (h3 : w ≠ 3) : r_goCells_f2 f k 280 (444 + 61 * C + w) = f 280 (444 + 61 * C + w) := r_goCells_f2_w (k := k) (w := 444 + 61 * C + w) (fun j hj => by omega) (fun j hj => by omega)
theorem r_f50_out {f : t2_F} {k w : Nat} (hw : w < 61) (h0 : w ≠ 0) (h1 : w ≠ 1) (h4 : w ≠ 4) (h5 : w ≠ 5) (h9 : w ≠ 9) : r_goCells_f50 f k 280 (444 + 61 * C + w) = r_goCells_f25 f ((f 280 2).toInt.toNat - 1) 280 (444 + 61 * C + w) := r_goCells_f50_w (k := k) (w := 444 + 61 * C + w) (fun j hj => by omega) (fun j hj => by omega) (fun j hj => by omega) (fun j hj => by omega) (fun j hj => by omega)
theorem r_f50_same {f : t2_F} {k w : Nat} (hw : w < 61) (h0 : w ≠ 0) (h1 : w ≠ 1) (h3 : w ≠ 3) (h4 : w ≠ 4) (h5 : w ≠ 5) (h9 : w ≠ 9) : r_goCells_f50 f k 280 (444 + 61 * C + w) = f 280 (444 + 61 * C + w) := by
  rw [r_f50_out hw h0 h1 h4 h5 h9, r_goCells_f25_w (w := 444 + 61 * C + w) (fun j hj => by omega) (fun j hj => by omega)]
  exact r_f2_oth hw h1 h3
theorem c0_cells_eq {n : Nat} (hM : (fc 1 5).toInt.toNat = n) (hN : (fr 280 2).toInt.toNat = n) (hx : fc 1 9 = fr 280 5) (hs : c0_Rs fc fr) (h : ∀ C : Nat, C < n → c0_Rc fc fr C) (hB : ∀ C : Nat, C < n → t2_cap (fc (18 + 4 * C) 0) ∧ (0 ≤ (fc (18 + 4 * C) 8).toInt ∧ (fc (18 + 4 * C) 8).toInt ≤ 3600 * (fc (18 + 4 * C) 0).toInt) ∧ 0 ≤ (fc (18 + 4 * C) 9 + t2_abs_v (fr 280 5)).toInt) (hl : 0 ≤ (fc 4 24 * (3600 : Int32)).toInt) :
    ∀ C : Nat, C < n → c0_Rc (c0_passCells_m fc) (r_goCells_m fr) C ∧ t2_cap (c0_passCells_m fc (18 + 4 * C) 0) := by
  have F4 : ∀ k : Nat, c0_passCells_f2 fc k 4 = fc 4 := fun k => c0_passCells_f2_fr (k := k) (p := 4) (fun j hj => by omega)
  have FC : ∀ C : Nat, c0_passCells_f2 fc C (18 + 4 * C) = fc (18 + 4 * C) := fun C => c0_passCells_f2_fr (k := C) (p := 18 + 4 * C) (fun j hj => by omega)
  have s6 : fc 4 6 = fr 280 40 := hs 6 (by omega)
  have s18 : fc 4 18 = fr 280 52 := hs 18 (by omega)
  have s22 : fc 4 22 = fr 280 56 := hs 22 (by omega)
  have s24 : fc 4 24 = fr 280 58 := hs 24 (by omega)
  have s25 : fc 4 25 = fr 280 59 := hs 25 (by omega)
  have s27 : fc 4 27 = fr 280 61 := hs 27 (by omega)
  have warm : ∀ C : Nat, C < n → c0_passCells_f2 fc n (18 + 4 * C) 6 = r_goCells_f2 fr n 280 (444 + 61 * C + 3) := by
    intro C hC
    obtain ⟨-, -, ⟨h5, h6, -⟩, -⟩ := h C hC
    rw [c0_f2_at hC, c0_pass_6.1, r_f2_in (by decide) hC, r_goWarm_3, FC, F4, hx, r_f2_me (by decide), r_f2_me (by decide), r_f2_lo (by decide), r_f2_lo (by decide), h5, h6, s6]
  have touch := c0_touch_eq hN hM warm s22
  intro C hC
  obtain ⟨⟨h0, h1, h2⟩, ⟨h3, h4⟩, ⟨h5, h6, h7⟩, h8, h9, h18⟩ := h C hC
  obtain ⟨b1, b2, b3⟩ := hB C hC
  have key := c0_pass_old (fc := c0_passCells_f2 fc C) (g := r_goCells_f50 fr C) (C := C) (c := Int32.ofNat C) (x := fr 280 5) (by rw [FC]; exact b1) (by rw [FC]; exact b2) (by rw [FC]; exact b3) (by rw [F4]; exact hl)
    (by rw [r_f50_me (by decide) (by decide), r_f2_oth (by decide) (by decide) (by decide), FC, h0])
    (by rw [r_f50_me (by decide) (by decide), hN, r_f2_in (by decide) hC, r_goWarm_1, r_f2_me (by decide), r_f2_me (by decide), r_f2_lo (by decide), r_f2_lo (by decide), FC, F4, h0, h2, s27])
    (by rw [r_f50_me (by decide) (by decide), r_f2_oth (by decide) (by decide) (by decide), FC, h8])
    (by rw [r_f50_me (by decide) (by decide), r_f2_oth (by decide) (by decide) (by decide), FC, h9])
    (by rw [r_f50_me (by decide) (by decide), r_f2_oth (by decide) (by decide) (by decide), FC, h7])
    (r_f50_lo (by decide)) (by rw [r_f50_lo (by decide), F4, s24]) (by rw [r_f50_lo (by decide), F4, s25]) (by rw [r_f50_lo (by decide), F4, s18])
  obtain ⟨k0, k2, k8, k9, k7, kc, kj⟩ := key
  have P : ∀ j : Nat, j ≠ 6 → c0_passCells_m fc (18 + 4 * C) j = c0_pass_m (c0_passCells_f2 fc C) C (fr 280 5) (18 + 4 * C) j := by
    intro j hj
    unfold c0_passCells_m
    rw [c0_f35_o hj, hM, c0_f2_at hC, hx]
  have Rw : ∀ w : Nat, w < 61 → r_goCells_m fr 280 (444 + 61 * C + w) = r_goOld_m (r_goCells_f50 fr C) (Int32.ofNat C) C 280 (444 + 61 * C + w) := by
    intro w hw
    unfold r_goCells_m
    rw [hN, r_f50_in hw hC]
  have Rs : ∀ w : Nat, w < 61 → w ≠ 0 → w ≠ 1 → w ≠ 3 → w ≠ 4 → w ≠ 5 → w ≠ 9 → r_goCells_m fr 280 (444 + 61 * C + w) = fr 280 (444 + 61 * C + w) := fun w hw a0 a1 a3 a4 a5 a9 => r_f50_same hw a0 a1 a3 a4 a5 a9
  have p0 : c0_passCells_m fc (18 + 4 * C) 0 = r_goCells_m fr 280 (444 + 61 * C + 0) := by rw [P 0 (by decide), Rw 0 (by decide), k0]
  have p2 : c0_passCells_m fc (18 + 4 * C) 2 = r_goCells_m fr 280 (444 + 61 * C + 1) := by rw [P 2 (by decide), Rw 1 (by decide), k2]
  have pc : t2_cap (c0_passCells_m fc (18 + 4 * C) 0) := by rw [P 0 (by decide)]; exact kc
  have p3 : c0_passCells_m fc (18 + 4 * C) 3 = r_partOf_v (r_goCells_m fr) 0 C := by
    have e := (c0_pass_6 (f := c0_passCells_f2 fc C) (C := C) (x := fr 280 5)).2.1
    rw [← P 3 (by decide), ← P 2 (by decide), ← P 0 (by decide)] at e
    rw [e, ← t2_partAt_eq pc, p0, p2]
    rfl
  have p4 : c0_passCells_m fc (18 + 4 * C) 4 = t2_rb (r_partOf_v (r_goCells_m fr) 0 C) := by
    have e := (c0_pass_6 (f := c0_passCells_f2 fc C) (C := C) (x := fr 280 5)).2.2
    rw [← P 4 (by decide), ← P 3 (by decide)] at e
    rw [e, p3]
  refine ⟨⟨⟨p0, ?_, p2⟩, ⟨p3, p4⟩, ⟨?_, ?_, ?_⟩, ?_, ?_, ?_⟩, pc⟩
  · rw [P 1 (by decide), kj 1 (by omega), FC, h1, Rs 6 (by decide) (by decide) (by decide) (by decide) (by decide) (by decide) (by decide)]
  · rw [P 5 (by decide), kj 5 (by omega), FC, h5, Rs 2 (by decide) (by decide) (by decide) (by decide) (by decide) (by decide) (by decide)]
  · have := touch (n - 1) (Nat.le_refl _) C hC
    unfold c0_passCells_m r_goCells_m
    rw [hM, this, r_f50_out (by decide) (by decide) (by decide) (by decide) (by decide) (by decide), hN]
  · rw [P 7 (by decide), k7, Rw 9 (by decide)]
  · rw [P 8 (by decide), k8, Rw 4 (by decide)]
  · rw [P 9 (by decide), k9, Rw 5 (by decide)]
  · rw [P 18 (by decide), kj 18 (by omega), FC, h18, Rs 60 (by decide) (by decide) (by decide) (by decide) (by decide) (by decide) (by decide)]
end C0CELLS
