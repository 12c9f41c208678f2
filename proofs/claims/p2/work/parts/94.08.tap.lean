/-! ===== block 0: (6) of a second, whole: taper ===== -/
section C0TAP
variable {fc fr f F G : t2_F} {C n k : Nat} {c x y z : Int32}
theorem c0_taper_none : ∀ k : Nat, (∀ C : Nat, C < k → (c0_voltsAt_v f C (f 1 9)).toInt < (f 4 23).toInt) → c0_taper_e33 f k = none := by
  intro k
  induction k with
  | zero => intro _; rfl
  | succ k ih =>
    intro h
    unfold c0_taper_e33
    rw [ih (fun C hC => h C (by omega))]
    show (if _ then _ else _) = _
    rw [if_pos (h k (by omega))]
theorem c0_taper_some : ∀ k : Nat, (∃ C : Nat, C < k ∧ ¬ (c0_voltsAt_v f C (f 1 9)).toInt < (f 4 23).toInt) → c0_taper_e33 f k = some (fl_row f 4 (upd (f 4) 20 (if (((f 4 20) * (9 : Int32)) / (10 : Int32)).toInt < (100 : Int32).toInt then (0 : Int32) else ((f 4 20) * (9 : Int32)) / (10 : Int32)))) := by
  intro k
  induction k with
  | zero => rintro ⟨C, h, -⟩; exact absurd h (Nat.not_lt_zero C)
  | succ k ih =>
    rintro ⟨C, h1, h2⟩
    unfold c0_taper_e33
    by_cases hl : ∃ C : Nat, C < k ∧ ¬ (c0_voltsAt_v f C (f 1 9)).toInt < (f 4 23).toInt
    · rw [ih hl]
    · rw [c0_taper_none k (fun D hD => Classical.byContradiction (fun q => hl ⟨D, hD, q⟩))]
      have e : C = k := by
        apply Classical.byContradiction
        intro q
        exact hl ⟨C, by omega, h2⟩
      subst e
      show (if _ then _ else _) = _
      rw [if_neg h2]
theorem r_taper_a : ∀ k : Nat, ((∃ C : Nat, C < k ∧ ¬ (r_voltsOf_v f (Int32.ofNat C) C).toInt < (f 280 57).toInt) → r_goTaper_a4 f k = 1) ∧ ((∀ C : Nat, C < k → (r_voltsOf_v f (Int32.ofNat C) C).toInt < (f 280 57).toInt) → r_goTaper_a4 f k = 0) := by
  have c1 : (1 : Int32).toInt = 1 := by decide +kernel
  have c0 : (0 : Int32).toInt = 0 := rfl
  intro k
  induction k with
  | zero => exact ⟨fun ⟨C, h, _⟩ => absurd h (Nat.not_lt_zero C), fun _ => rfl⟩
  | succ k ih =>
    refine ⟨fun ⟨C, h1, h2⟩ => ?_, fun h => ?_⟩
    · unfold r_goTaper_a4
      by_cases hl : ∃ C : Nat, C < k ∧ ¬ (r_voltsOf_v f (Int32.ofNat C) C).toInt < (f 280 57).toInt
      · rw [ih.1 hl, if_neg (by omega)]
      · rw [ih.2 (fun D hD => Classical.byContradiction (fun q => hl ⟨D, hD, q⟩)), if_pos c0]
        have e : C = k := by
          apply Classical.byContradiction
          intro q
          exact hl ⟨C, by omega, h2⟩
        subst e
        rw [if_neg h2]
    · unfold r_goTaper_a4
      rw [ih.2 (fun D hD => h D (by omega)), if_pos c0, if_pos (h k (by omega))]
/-- the two tapers, where all that they read is the same -/
theorem c0_taper_eq {g : t2_F} (hn : (f 1 5).toInt.toNat = n) (hg : (g 280 2).toInt.toNat = n) (hs : c0_Rs f g) (hst : f 1 7 = g 280 3) (hv : ∀ C : Nat, C < n → c0_voltsAt_v f C (f 1 9) = r_voltsOf_v g (Int32.ofNat C) C) (ht : 0 ≤ (g 280 57).toInt) :
    c0_Rs (if (f 1 7).toInt = (2 : Int32).toInt then c0_taper_m f else f) (r_goTaper_m g) ∧ (∀ p : Nat, p ≠ 4 → (if (f 1 7).toInt = (2 : Int32).toInt then c0_taper_m f else f) p = f p) ∧ (∀ w : Nat, w ≠ 54 → r_goTaper_m g 280 w = g 280 w) := by
  have c1 : (1 : Int32).toInt = 1 := by decide +kernel
  have c0 : (0 : Int32).toInt = 0 := rfl
  have s20 : f 4 20 = g 280 54 := hs 20 (by omega)
  have s23 : f 4 23 = g 280 57 := hs 23 (by omega)
  refine ⟨?_, fun p hp => ?_, fun w hw => r_goTaper_w hw⟩
  · unfold c0_taper_m r_goTaper_m
    rw [hst, hn, hg, s23, s20]
    by_cases hex : ∃ C : Nat, C < n ∧ ¬ (r_voltsOf_v g (Int32.ofNat C) C).toInt < (g 280 57).toInt
    · have hex2 : ∃ C : Nat, C < n ∧ ¬ (c0_voltsAt_v f C (f 1 9)).toInt < (f 4 23).toInt := by
        obtain ⟨C, a, b⟩ := hex
        exact ⟨C, a, by rw [hv C a, s23]; exact b⟩
      rw [(r_taper_a n).1 hex, c0_taper_some n hex2, if_neg (show ¬ (1 : Int32).toInt = 0 by omega)]
      by_cases h2 : (g 280 3).toInt = (2 : Int32).toInt
      · rw [if_pos h2, if_pos h2]
        by_cases h0 : (g 280 57).toInt = 0
        · rw [if_neg (by omega), if_pos h0]
          exact hs
        · rw [if_pos (by omega), if_neg h0]
          by_cases hr : 0 < (g 280 54).toInt
          · rw [if_pos hr, if_pos hr]
            intro k hk
            show fl_row f 4 _ 4 k = _
            rw [fl_row_self, fl_row_self, s20]
            unfold r_goTaper_j99_0
            by_cases e : k = 20
            · subst e
              rw [upd_self, upd_self]
            · rw [upd_ne e, upd_ne (by omega)]
              exact hs k hk
          · rw [if_neg hr, if_neg hr]
            exact hs
      · rw [if_neg h2, if_neg h2]
        exact hs
    · have hal : ∀ C : Nat, C < n → (r_voltsOf_v g (Int32.ofNat C) C).toInt < (g 280 57).toInt := fun C hC => Classical.byContradiction (fun q => hex ⟨C, hC, q⟩)
      rw [(r_taper_a n).2 hal, c0_taper_none n (fun C hC => by rw [hv C hC, s23]; exact hal C hC), if_pos c0]
      have e : (if (g 280 3).toInt = (2 : Int32).toInt then (if 0 < (g 280 57).toInt then (if 0 < (g 280 54).toInt then (match (none : Option t2_F) with | some r => r | none => f) else f) else f) else f) = f := by
        repeat' split
        all_goals first | rfl | simp_all
      rw [e]
      exact hs
  · split
    · exact c0_taper_fx hp
    · rfl
/-- (6) -/
theorem c0_measure_eq (hn1 : (fc 1 5).toInt = n) (hn2 : (fr 280 2).toInt = n) (hx : fc 1 9 = fr 280 5) (hy : fc 1 10 = fr 280 14) (hrst : fc 1 12 = fr 280 9) (hbus : fc 1 8 = fr 280 4) (hst : fc 1 7 = fr 280 3) (hs : c0_Rs fc fr) (hk : c0_Rk fc fr) (hw : ∀ k : Nat, k < 3 → t2_how (fr 280 (64 + k))) (h : ∀ C : Nat, C < n → c0_R6 fc fr C ∧ t2_ck fr C) (hr : 1 ≤ (fr 280 53).toInt) (ht : 0 ≤ (fr 280 57).toInt) :
    (c0_sMeasure_m fc 1 8 = r_goTaper_m (r_goMeasure_m fr) 280 4 ∧ c0_sMeasure_m fc 1 12 = r_goTaper_m (r_goMeasure_m fr) 280 9 ∧ r_goTaper_m (r_goMeasure_m fr) 280 14 = fr 280 5 ∧ c0_Rs (c0_sMeasure_m fc) (r_goTaper_m (r_goMeasure_m fr))) ∧
    ∀ C : Nat, C < n → c0_Rc (c0_sMeasure_m fc) (r_goTaper_m (r_goMeasure_m fr)) C ∧ t2_cap (c0_sMeasure_m fc (18 + 4 * C) 0) ∧ c0_Rm (c0_sMeasure_m fc) (r_goTaper_m (r_goMeasure_m fr)) C ∧ c0_sMeasure_m fc (18 + 4 * C) 11 = r_goTaper_m (r_goMeasure_m fr) 280 (444 + 61 * C + 14) ∧ r_goTaper_m (r_goMeasure_m fr) 280 (444 + 61 * C + 15) = 1 ∧ c0_sMeasure_m fc (18 + 4 * C) 10 = fr 280 (444 + 61 * C + 15) ∧ t2_ck (r_goTaper_m (r_goMeasure_m fr)) C := by
  have hnn : (fc 1 5).toInt.toNat = n := by omega
  have hgn : (fr 280 2).toInt.toNat = n := by omega
  have cells := fun (C : Nat) (hC : C < n) => c0_cell6 hgn hC (h C hC).1 (h C hC).2 hx hy hrst hs hr
  have bus : c0_sMeasure_j95_0 fc = if (r_isLive_v (r_mid fr)).toInt = 0 then r_mid fr 280 4 else r_pack_v (r_mid fr) := by
    unfold c0_sMeasure_j95_0
    rw [hnn, (c0_live_c (f := fc) (by rw [c0_f46_1, upd_ne (by decide)]) (c0_f46_p (by decide) (by decide))).2.1, c0_live_eq hst hk hw, (r_live_c (f := fr) (r_mid_lo (by decide) (by decide) (by decide)) (fun k hk => r_mid_lo (by omega) (by omega) (by omega))).2.1, c0_f46_1, upd_ne (by decide), r_mid_lo (by decide) (by decide) (by decide), hbus]
    have e : c0_packAt_v (c0_sMeasure_f46 fc n) (fc 1 9) = r_pack_v (r_mid fr) := by
      unfold c0_packAt_v r_pack_v
      rw [c0_f46_1, upd_ne (by decide), hnn, r_mid_lo (by decide) (by decide) (by decide), hgn, c0_pack_c (f := fc) (fun C hC j hj => (cells C hC).2.2.2.2.2.2.1 j hj), r_pack_c (f := fr) (r_mid_lo (by decide) (by decide) (by decide)) (fun C hC w hw => r_mid_s (by omega)), hx]
      exact c0_pack_eq (fun C hC => ⟨(h C hC).1.1, (h C hC).1.2.2.1⟩)
    rw [e]
  generalize hB : (if (r_isLive_v (r_mid fr)).toInt = 0 then r_mid fr 280 4 else r_pack_v (r_mid fr)) = B at bus
  have eG : r_goMeasure_m fr = fl_row (r_mid fr) 280 (upd (r_mid fr 280) 4 B) := by rw [r_goMeasure_mid, hB]
  have gw : ∀ w : Nat, w ≠ 4 → r_goMeasure_m fr 280 w = r_mid fr 280 w := fun w hw => by rw [eG, fl_row_self, upd_ne hw]
  have g4 : r_goMeasure_m fr 280 4 = B := by rw [eG, fl_row_self, upd_self]
  let F0 : t2_F := fl_row (c0_sMeasure_f46 fc n) 1 (upd (c0_sMeasure_f46 fc n 1) 8 B)
  have eF : c0_sMeasure_m fc = if (F0 1 7).toInt = (2 : Int32).toInt then c0_taper_m F0 else F0 := by
    have e7 : F0 1 7 = fc 1 7 := by
      show fl_row _ _ _ 1 7 = _
      rw [fl_row_self, upd_ne (by decide), c0_f46_1, upd_ne (by decide)]
    rw [e7]
    unfold c0_sMeasure_m
    rw [hnn, bus]
  have f1 : ∀ j : Nat, j ≠ 8 → j ≠ 12 → F0 1 j = fc 1 j := fun j h8 h12 => by
    show fl_row _ _ _ 1 j = _
    rw [fl_row_self, upd_ne h8, c0_f46_1, upd_ne h12]
  have fp : ∀ p : Nat, p ≠ 1 → F0 p = c0_sMeasure_f46 fc n p := fun p hp => fl_row_ne hp
  have hs0 : c0_Rs F0 (r_goMeasure_m fr) := fun k hk => by
    rw [fp 4 (by decide), c0_f46_p (by decide) (by decide), gw _ (by omega), r_mid_lo (by omega) (by omega) (by omega)]
    exact hs k hk
  have tap := c0_taper_eq (f := F0) (g := r_goMeasure_m fr) (n := n) (by rw [f1 5 (by decide) (by decide)]; exact hnn) (by rw [gw 2 (by decide), r_mid_lo (by decide) (by decide) (by decide)]; exact hgn) hs0 (by rw [f1 7 (by decide) (by decide), gw 3 (by decide), r_mid_lo (by decide) (by decide) (by decide)]; exact hst)
    (fun C hC => by
      have e1 : c0_voltsAt_v F0 C (F0 1 9) = c0_voltsAt_v fc C (fr 280 5) := by
        rw [f1 9 (by decide) (by decide), hx]
        unfold c0_voltsAt_v
        rw [fp _ (by omega), (cells C hC).2.2.2.2.2.2.1 4 (by omega), (cells C hC).2.2.2.2.2.2.1 5 (by omega), (cells C hC).2.2.2.2.2.2.1 7 (by omega)]
      rw [e1, c0_volts_eq (c := Int32.ofNat C) (h C hC).1.1 (h C hC).1.2.2.1]
      have m : ∀ w : Nat, (w = 0 ∨ w = 1 ∨ w = 2 ∨ w = 9) → r_goMeasure_m fr 280 (444 + 61 * C + w) = fr 280 (444 + 61 * C + w) := fun w hw => by rw [gw _ (by omega), r_mid_s (by omega)]
      exact (r_volts_c (by rw [gw 5 (by decide), r_mid_lo (by decide) (by decide) (by decide)]) (m 0 (by omega)) (m 1 (by omega)) (m 2 (by omega)) (m 9 (by omega))).symm)
    (by rw [gw 57 (by decide), r_mid_lo (by decide) (by decide) (by decide)]; exact ht)
  rw [← eF] at tap
  obtain ⟨t1, t2, t3⟩ := tap
  have G : ∀ w : Nat, w ≠ 4 → w ≠ 54 → r_goTaper_m (r_goMeasure_m fr) 280 w = r_mid fr 280 w := fun w h4 h54 => by rw [t3 w h54, gw w h4]
  have Fc : ∀ C : Nat, C < n → c0_sMeasure_m fc (18 + 4 * C) = c0_sMeasure_f46 fc n (18 + 4 * C) := fun C hC => by rw [t2 _ (by omega), fp _ (by omega)]
  refine ⟨⟨?_, ?_, ?_, t1⟩, fun C hC => ?_⟩
  · rw [t2 1 (by decide), t3 4 (by decide), g4]
    show fl_row _ _ _ 1 8 = _
    rw [fl_row_self, upd_self]
  · rw [t2 1 (by decide), G 9 (by decide) (by decide), r_mid_9.1]
    show fl_row _ _ _ 1 12 = _
    rw [fl_row_self, upd_ne (by decide), c0_f46_1, upd_self]
    unfold c0_sMeasure_j5_0 r_goMeasure_j144_0
    rw [hx, hrst]
  · rw [G 14 (by decide) (by decide), r_mid_9.2]
  · obtain ⟨k1, k2, k3, k4, k5, k6, k7, k8⟩ := cells C hC
    have ge : ∀ w : Nat, w < 61 → r_goTaper_m (r_goMeasure_m fr) 280 (444 + 61 * C + w) = r_mid fr 280 (444 + 61 * C + w) := fun w hw => G _ (by omega) (by omega)
    refine ⟨k1.congr (Fc C hC) ge, by rw [Fc C hC]; exact k2, ?_, ?_, ?_, ?_, c0_ck_congr k8 (ge 0 (by decide)) (ge 1 (by decide))⟩
    · unfold c0_Rm
      rw [Fc C hC, ge 11 (by decide), ge 12 (by decide), ge 13 (by decide), ge 16 (by decide)]
      exact k3
    · rw [Fc C hC, ge 14 (by decide), k4]
    · rw [ge 15 (by decide), k5]
    · rw [Fc C hC, k6]
end C0TAP
