/-! ===== what seconds, drives leave alone ===== -/
section C0FRM2
variable {fc fr : t2_F} {p : Nat}
theorem c0_I.curP' (h : c0_I fc fr) (hp : 91 ≤ p) : c0_letCurrent_m fc p = fc p := by
  have cn := h.cnt
  obtain ⟨⟨⟨g5, g6, g7, g8⟩, -⟩, rs, gx, cl, ok⟩ := id h
  have hm0 : t2_lo 4 ≤ (fr 280 38).toInt ∧ (fr 280 38).toInt ≤ t2_hi 4 := ok.s (k := 4) (by decide)
  have l4 : t2_lo 4 = 1 := by decide
  have h4 : t2_hi 4 = 99999 := by decide
  obtain ⟨-, -, -, k4, -⟩ := c0_cur_eq h.rl g7 gx.1.1 ok.2.2.1 (by omega)
  exact funext (fun k => k4 p k (fun q => absurd q (by omega)) (fun C c q => absurd q (by omega)))
theorem c0_I.balP' (h : c0_I fc fr) (hp : 91 ≤ p) : c0_balance_m fc p = fc p := by
  have hh := h
  obtain ⟨⟨⟨g5, g6, g7, g8⟩, ⟨g9, g10, g11, g12⟩, g13, g14, g15, g16⟩, rs, gx, cl, ok⟩ := h
  have cn := hh.cnt
  generalize hnn : (fr 280 2).toInt.toNat = n at *
  have hM : (fc 1 5).toInt.toNat = n := by omega
  have oc : ∀ C : Nat, C < n → t2_OC (fr 280) C := fun C hC => (hh.cell (by omega)).2
  have rc : ∀ C : Nat, C < n → c0_Rc fc fr C := fun C hC => (hh.cell (by omega)).1.1
  have rb : c0_RB fc fr n := ⟨rs, fun C hC => ⟨rc C hC, by rw [(rc C hC).1.1]; exact (oc C hC).1.1, (oc C hC).1⟩, g14, g15, g11, g13, g16⟩
  have b13 : t2_lo 13 ≤ (fr 280 47).toInt ∧ (fr 280 47).toInt ≤ t2_hi 13 := ok.s (k := 13) (by decide)
  have q13 : t2_lo 13 = 0 ∧ t2_hi 13 = 16 := by decide
  have hl : fc 10 3 = fr 280 6 := gx.2.1.1.1
  obtain ⟨P, -, -, -⟩ := c0_balance_o hM hnn cn.2.1 rb hl g6 (by omega)
  exact P p (by omega) (fun C hC => by omega)
theorem c0_u6_P (h : c0_I fc fr) (ht : (fr 280 7).toInt < 9999) (hp : 91 ≤ p) : c0_u6 fc p = fc p := by
  obtain ⟨i1, i2, i3, i4, i5, i6, -⟩ := h.chain ht
  have b6 := i6.hc
  unfold c0_u6
  rw [(c0_measure_o (n := (c0_s5 (c0_balance_m (c0_passCells_m (c0_letCurrent_m (c0_moveBus_m (c0_s1 fc))))) 1 5).toInt.toNat) rfl).1 p (by omega) (by omega) (fun C hC => by omega)]
  have e5 : ∀ f : t2_F, c0_s5 f p = f p := fun f => fl_row_ne (by omega)
  rw [e5, i4.balP' hp, c0_cells_p (Or.inr (fun C hC => by omega)) (by have := i3.hc; omega), i2.curP' hp, c0_moveBus_fr (by omega)]
  exact fl_row_ne (by omega)
theorem c0_I.secP (h : c0_I fc fr) (ht : (fr 280 7).toInt < 9999) (hp : 91 ≤ p) : c0_sec_m fc p = fc p := by
  obtain ⟨-, -, -, -, -, -, -, -, ⟨i8, -⟩, -, -⟩ := h.chain ht
  have b8 := i8.hc
  unfold c0_sec_m c0_s9
  rw [fl_row_ne (by omega), c0_obeyRules_fr (by omega)]
  unfold c0_sKeep_m
  rw [c0_sKeep_f25_fr (fun j hj => by omega) (fun j hj => by omega) (fun j hj => by omega) (fun j hj => by omega), c0_tadd_fr (by omega) (by omega), c0_s8_p (by omega) (by omega), c0_u6_P h ht hp]
theorem c0_K.runP (h : c0_K fc fr) (hp : 91 ≤ p) : ∀ k : Nat, (fr 280 7).toInt + k ≤ 9999 → c0_runN fc k p = fc p := by
  intro k
  induction k with
  | zero => intro _; rfl
  | succ k ih =>
    intro hk
    obtain ⟨⟨a, -⟩, t, -⟩ := h.run (0 : Int32) (k := k) (by omega)
    show c0_sec_m (c0_runN fc k) p = _
    rw [a.secP (by omega) hp, ih (by omega)]
theorem r_runP (h1 : p ≠ 280) (h2 : p ≠ 277) (h3 : p ≠ 282) : ∀ k : Nat, r_runN fr k p = fr p := by
  intro k
  induction k with
  | zero => rfl
  | succ k ih =>
    show r_sec_m (r_runN fr k) p = _
    rw [r_sec_p h1 h2 h3, ih]
theorem c0_K.drvP (h : c0_K fc fr) (hp : 91 ≤ p) : ∀ j : Nat, (j : Int) ≤ (fr 280 19).toInt → (c0_drv fc j).1 p = fc p := by
  have q20 : t2_lo 20 = -99999 ∧ t2_hi 20 = 99999 := by decide
  intro j
  induction j with
  | zero => intro _; rfl
  | succ j ih =>
    intro hj
    obtain ⟨a, b, d⟩ := h.drv j (by omega)
    obtain ⟨p1, p2, p3, p4, p5, p6⟩ := a.pn (j := j) (by rw [b]; omega)
    have s := a.set (k := 20) (v := (r_drv fr j).1 280 (119 + 2 * j)) (by decide) (by omega)
    have t7 : r_set (r_drv fr j).1 20 ((r_drv fr j).1 280 (119 + 2 * j)) 280 7 = (r_drv fr j).1 280 7 := by unfold r_set; rw [fl_row_self, upd_ne (by decide)]
    show c0_runN (c0_set (c0_drv fc j).1 20 ((c0_drv fc j).1 8 (j * 2))) (c0_pn (c0_drv fc j).1 j).toInt.toNat p = _
    rw [p1, p4, s.runP hp _ (by rw [t7]; omega)]
    unfold c0_set
    rw [fl_row_ne (by omega), ih (by omega)]
theorem r_drvP (h1 : p ≠ 280) (h2 : p ≠ 277) (h3 : p ≠ 282) : ∀ j : Nat, (r_drv fr j).1 p = fr p := by
  intro j
  induction j with
  | zero => rfl
  | succ j ih =>
    show r_runN (r_set (r_drv fr j).1 20 ((r_drv fr j).1 280 (119 + 2 * j))) (r_pn (r_drv fr j).1 j) p = _
    rw [r_runP h1 h2 h3]
    unfold r_set
    rw [fl_row_ne h1, ih]
end C0FRM2
