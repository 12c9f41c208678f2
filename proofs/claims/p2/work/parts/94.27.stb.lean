/-! ===== block 0: a second, from (6) on ===== -/
section C0STB
variable {fc fr fc' fr' f g : t2_F} {C n : Nat} {c x : Int32}
/-- between (6) and the second's end: the scalars -/
def c0_GSM (fc fr : t2_F) : Prop := (fc 1 5 = fr 280 2 ∧ fc 1 6 = fr 280 7 ∧ fc 1 7 = fr 280 3 ∧ fc 1 8 = fr 280 4) ∧ (fc 1 9 = fr 280 5 ∧ fr 280 14 = fr 280 5 ∧ fc 1 11 = fr 280 8 ∧ fc 1 12 = fr 280 9) ∧ fc 1 13 = fr 280 10 ∧ fc 1 14 = fr 280 11 ∧ fc 1 15 = fr 280 12 ∧ fc 1 16 = fr 280 13
/-- and a cell -/
def c0_GCM (fc fr : t2_F) (C : Nat) : Prop := c0_Rm fc fr C ∧ (fr 280 (444 + 61 * C + 15) = 1 ∧ fc (18 + 4 * C) 11 = fr 280 (444 + 61 * C + 14)) ∧ c0_Rh fc fr C ∧ c0_TI fc fr C
def c0_IM (fc fr : t2_F) : Prop := c0_GSM fc fr ∧ c0_Rs fc fr ∧ c0_GX fc fr ∧ (∀ C : Nat, (C : Int) < (fr 280 2).toInt → c0_Rc fc fr C ∧ c0_GCM fc fr C) ∧ t2_OK (fr 280)
theorem c0_IM.cnt (h : c0_IM fc fr) : (fr 280 2).toInt = (((fr 280 2).toInt.toNat : Nat) : Int) ∧ (fr 280 2).toInt.toNat ≤ 16 ∧ (fc 1 5).toInt = (((fr 280 2).toInt.toNat : Nat) : Int) := by
  obtain ⟨⟨⟨h5, -⟩, -⟩, -, -, -, -, ⟨-, -, h2, -⟩, -⟩ := h
  rw [h5]
  omega
theorem c0_IM.cell (h : c0_IM fc fr) {C : Nat} (hC : C < (fr 280 2).toInt.toNat) : (c0_Rc fc fr C ∧ c0_GCM fc fr C) ∧ t2_OC (fr 280) C := by
  have q : (C : Int) < (fr 280 2).toInt := by have := h.cnt; omega
  exact ⟨h.2.2.2.1 C q, h.2.2.2.2.2.2.2.2.2.2.2 C q⟩
theorem c0_IM.far (h : c0_IM fc fr) {C : Nat} (hC : C < (fr 280 2).toInt.toNat) : t2_far (fr 280 5) (fr 280 (444 + 61 * C + 2)) := t2_far_ok h.2.2.2.2.2.1.1 (h.cell hC).2.2.1
/-- (6) -/
theorem c0_I.meas (h : c0_I fc fr) : c0_IM (c0_sMeasure_m fc) (r_goTaper_m (r_goMeasure_m fr)) := by
  have hh := h
  obtain ⟨⟨⟨g5, g6, g7, g8⟩, ⟨g9, g10, g11, g12⟩, g13, g14, g15, g16⟩, rs, gx, cl, ok⟩ := h
  have cn := hh.cnt
  have far := fun C hC => hh.far (C := C) hC
  generalize hnn : (fr 280 2).toInt.toNat = n at *
  have hM : (fc 1 5).toInt.toNat = n := by omega
  have oc : ∀ C : Nat, C < n → t2_OC (fr 280) C := fun C hC => (hh.cell (by omega)).2
  have rc : ∀ C : Nat, C < n → c0_Rc fc fr C ∧ c0_GC fc fr C := fun C hC => (hh.cell (by omega)).1
  have b19 : t2_lo 19 ≤ (fr 280 53).toInt ∧ (fr 280 53).toInt ≤ t2_hi 19 := ok.s (k := 19) (by decide)
  have b23 : t2_lo 23 ≤ (fr 280 57).toInt ∧ (fr 280 57).toInt ≤ t2_hi 23 := ok.s (k := 23) (by decide)
  have q19 : t2_lo 19 = 1 ∧ t2_lo 23 = 0 := by decide
  have r6 : ∀ C : Nat, C < n → c0_R6 fc fr C ∧ t2_ck fr C := fun C hC => by
    obtain ⟨k1, k2, k3, t, po, k15, k16, ka⟩ := oc C hC
    obtain ⟨a, b, d, -, -⟩ := rc C hC
    exact ⟨⟨a, by rw [a.1.1]; exact k1.1, far C hC, b, d.1, k15, d.2, k16.1, k16.2⟩, k1⟩
  obtain ⟨⟨e8, e12, e14, rs'⟩, k⟩ := c0_measure_eq cn.2.2 cn.1 g9 g10 g12 g8 g7 rs gx.1.1 ok.2.2.1 r6 (by omega) (by omega)
  obtain ⟨P, Q, Pc⟩ := c0_measure_o hM
  have Wt : ∀ w : Nat, w ≠ 54 → w ≠ 4 → r_goTaper_m (r_goMeasure_m fr) 280 w = r_mid fr 280 w := fun w h54 h4 => by rw [r_goTaper_w h54, r_meas_mid h4]
  have W : ∀ w : Nat, w < 444 → w ≠ 4 → w ≠ 9 → w ≠ 14 → w ≠ 54 → r_goTaper_m (r_goMeasure_m fr) 280 w = fr 280 w := fun w hw h4 h9 h14 h54 => by rw [Wt w h54 h4, r_mid_lo hw h9 h14]
  have Wc : ∀ C w : Nat, w < 61 → w ≠ 4 → w ≠ 11 → w ≠ 12 → w ≠ 13 → w ≠ 14 → w ≠ 15 → w ≠ 16 → r_goTaper_m (r_goMeasure_m fr) 280 (444 + 61 * C + w) = fr 280 (444 + 61 * C + w) := fun C w hw a4 a11 a12 a13 a14 a15 a16 => by
    rw [r_goTaper_w (by omega), r_goMeasure_w (by omega) (fun j => by omega) (fun j => by omega) (fun j => by omega) (fun j => by omega) (by omega) (by omega) (fun j => by omega) (fun j => by omega) (fun j => by omega)]
  refine ⟨⟨⟨?_, ?_, ?_, e8⟩, ⟨?_, ?_, ?_, e12⟩, ?_, ?_, ?_, ?_⟩, rs', gx.congr ok.2.2.2.2.2.1.1.2 (fun p hp => P p (by omega) (by omega) (fun C hC => by omega)) (fun w hw => W w (by omega) (by omega) (by omega) (by omega) (by omega)), fun C hC => ?_, ?_⟩
  · rw [Q 5 (by decide) (by decide), W 2 (by decide) (by decide) (by decide) (by decide) (by decide), g5]
  · rw [Q 6 (by decide) (by decide), W 7 (by decide) (by decide) (by decide) (by decide) (by decide), g6]
  · rw [Q 7 (by decide) (by decide), W 3 (by decide) (by decide) (by decide) (by decide) (by decide), g7]
  · rw [Q 9 (by decide) (by decide), W 5 (by decide) (by decide) (by decide) (by decide) (by decide), g9]
  · rw [e14, W 5 (by decide) (by decide) (by decide) (by decide) (by decide)]
  · rw [Q 11 (by decide) (by decide), W 8 (by decide) (by decide) (by decide) (by decide) (by decide), g11]
  · rw [Q 13 (by decide) (by decide), W 10 (by decide) (by decide) (by decide) (by decide) (by decide), g13]
  · rw [Q 14 (by decide) (by decide), W 11 (by decide) (by decide) (by decide) (by decide) (by decide), g14]
  · rw [Q 15 (by decide) (by decide), W 12 (by decide) (by decide) (by decide) (by decide) (by decide), g15]
  · rw [Q 16 (by decide) (by decide), W 13 (by decide) (by decide) (by decide) (by decide) (by decide), g16]
  · rw [W 2 (by decide) (by decide) (by decide) (by decide) (by decide)] at hC
    have hC' : C < n := by omega
    obtain ⟨k1, k2, k3, k4, k5, k6, k7⟩ := k C hC'
    obtain ⟨-, -, -, hr, ht⟩ := rc C hC'
    refine ⟨k1, k3, ⟨k5, k4⟩, ?_, ht.congr (P _ (by omega) (by omega) (fun D hD => by omega)) (P _ (by omega) (by omega) (fun D hD => by omega)) (P _ (by omega) (by omega) (fun D hD => by omega)) (fun w h1 h2 a11 a12 a13 a14 a15 a16 => Wc C w (by omega) (by omega) a11 a12 a13 a14 a15 a16)⟩
    unfold c0_Rh
    rw [Pc C hC' 10 (by decide) (by decide) (by decide) (by decide) (by decide) (by decide), Pc C hC' 12 (by decide) (by decide) (by decide) (by decide) (by decide) (by decide), Pc C hC' 13 (by decide) (by decide) (by decide) (by decide) (by decide) (by decide), Wc C 7 (by decide) (by decide) (by decide) (by decide) (by decide) (by decide) (by decide) (by decide), Wc C 8 (by decide) (by decide) (by decide) (by decide) (by decide) (by decide) (by decide) (by decide)]
    exact hr
  · have b5 := ok.2.1.1
    have b4 := ok.2.1.2.1
    have x4 : -1000000 ≤ (r_goTaper_m (r_goMeasure_m fr) 280 4).toInt ∧ (r_goTaper_m (r_goMeasure_m fr) 280 4).toInt ≤ 1000000 := by
      rw [r_goTaper_w (by decide)]
      rcases r_meas_4 (f := fr) with e | e
      · rw [e]
        exact b4
      · have m2 : r_mid fr 280 2 = fr 280 2 := r_mid_lo (by decide) (by decide) (by decide)
        have m5 : r_mid fr 280 5 = fr 280 5 := r_mid_lo (by decide) (by decide) (by decide)
        have ep : r_pack_v (r_mid fr) = r_pack_a4 (r_mid fr) n := by
          unfold r_pack_v
          rw [m2, hnn]
        have b := r_pack_b (f := r_mid fr) (n := n) cn.2.1 (by rw [m5]; exact b5) (fun C hC => by
          rw [r_mid_s (by omega), r_mid_s (by omega)]
          exact ⟨(oc C hC).2.1, (oc C hC).2.2.2.2.1⟩)
        rw [e, ep]
        omega
    refine ok.upd (fun w hw => W w (by omega) (by omega) (by omega) (by omega) (by omega)) (fun k hk => ?_) (by rw [W 5 (by decide) (by decide) (by decide) (by decide) (by decide)]; exact b5) x4 (by rw [W 7 (by decide) (by decide) (by decide) (by decide) (by decide)]; exact ok.2.1.2.2.2) (by rw [W 16 (by decide) (by decide) (by decide) (by decide) (by decide), W 20 (by decide) (by decide) (by decide) (by decide) (by decide), W 21 (by decide) (by decide) (by decide) (by decide) (by decide)]; exact ok.2.2.2.2.2.2.1) (fun C hC => ?_)
    · by_cases e : k = 20
      · subst e
        have q20 : t2_lo 20 = -99999 ∧ t2_hi 20 = 99999 := by decide
        have b20 : t2_lo 20 ≤ (fr 280 54).toInt ∧ (fr 280 54).toInt ≤ t2_hi 20 := ok.s (k := 20) (by decide)
        have m54 : r_goMeasure_m fr 280 54 = fr 280 54 := by rw [r_meas_mid (by decide), r_mid_lo (by decide) (by decide) (by decide)]
        have := r_taper_b (f := r_goMeasure_m fr) (by rw [m54]; omega)
        show t2_lo 20 ≤ (r_goTaper_m (r_goMeasure_m fr) 280 54).toInt ∧ (r_goTaper_m (r_goMeasure_m fr) 280 54).toInt ≤ t2_hi 20
        omega
      · rw [W _ (by omega) (by omega) (by omega) (by omega) (by omega)]
        exact ok.s hk
    · have hC' : C < n := by omega
      obtain ⟨k1, k2, k3, t, po, k15, k16, ka⟩ := oc C hC'
      obtain ⟨-, -, -, -, y15, -, yck⟩ := k C hC'
      obtain ⟨m4, m16⟩ := r_mid_cell (f := fr) (C := C) (by omega) k1.1
      have w0 : r_goTaper_m (r_goMeasure_m fr) 280 (444 + 61 * C + 0) = fr 280 (444 + 61 * C + 0) := Wc C 0 (by decide) (by decide) (by decide) (by decide) (by decide) (by decide) (by decide) (by decide)
      refine ⟨yck, ?_, ?_, ?_, ?_, Or.inr y15, ?_, ka.congr (fun w hw => Wc C w (by omega) (by omega) (by omega) (by omega) (by omega) (by omega) (by omega) (by omega))⟩
      · rw [Wc C 2 (by decide) (by decide) (by decide) (by decide) (by decide) (by decide) (by decide) (by decide)]
        exact k2
      · rw [w0, Wt _ (by omega) (by omega)]
        rcases m4 with e | e
        · rw [e]
          exact k3
        · exact e
      · rw [W 7 (by decide) (by decide) (by decide) (by decide) (by decide), Wc C 5 (by decide) (by decide) (by decide) (by decide) (by decide) (by decide) (by decide) (by decide)]
        exact t
      · rw [Wc C 9 (by decide) (by decide) (by decide) (by decide) (by decide) (by decide) (by decide) (by decide)]
        exact po
      · rw [Wt _ (by omega) (by omega)]
        rcases m16 with e | e
        · rw [e]
          exact k16
        · omega
/-- (7) -/
noncomputable def c0_s7 (so : Int32) (f : t2_F) : t2_F := c0_latch_m (c0_faultsOfPack_m (c0_faultsOfCells_m f)) ((so ||| c0_faultsOfCells_v f) ||| c0_faultsOfPack_v (c0_faultsOfCells_m f)) (f 1 6)
noncomputable def c0_s8 (f : t2_F) : t2_F := if (f 10 3).toInt = 0 then f else fl_row f 1 (upd (f 1) 7 (0 : Int32))
theorem c0_IM.flt (h : c0_IM fc fr) {so : Int32} {slow : Bool} (hso : so = if slow = true then (32 : Int32) else (0 : Int32)) (hsl : fr 277 4 = if slow = true then 1 else 0) : c0_IM (c0_s8 (c0_s7 so fc)) (r_goFaults_m fr) ∧ c0_latch_v (c0_faultsOfPack_m (c0_faultsOfCells_m fc)) ((so ||| c0_faultsOfCells_v fc) ||| c0_faultsOfPack_v (c0_faultsOfCells_m fc)) (fc 1 6) = r_goFaults_v fr := by
  have hh := h
  obtain ⟨⟨⟨g5, g6, g7, g8⟩, ⟨g9, g10, g11, g12⟩, g13, g14, g15, g16⟩, rs, gx, cl, ok⟩ := h
  have cn := hh.cnt
  have far := fun C hC => hh.far (C := C) hC
  generalize hnn : (fr 280 2).toInt.toNat = n at *
  have oc : ∀ C : Nat, C < n → t2_OC (fr 280) C := fun C hC => (hh.cell (by omega)).2
  have rc : ∀ C : Nat, C < n → c0_Rc fc fr C ∧ c0_GCM fc fr C := fun C hC => (hh.cell (by omega)).1
  have b17 : t2_lo 17 ≤ (fr 280 51).toInt ∧ (fr 280 51).toInt ≤ t2_hi 17 := ok.s (k := 17) (by decide)
  have q17 : t2_lo 17 = 1 := by decide
  have hb := ok.2.2.2.2.2.2.1.2.1
  obtain ⟨gt, ⟨w1, w2, w3, w4⟩, gtr, gm⟩ := id gx
  have r7 : c0_R7 fc fr n := ⟨⟨cn.2.2, cn.1, cn.2.1⟩, ⟨g6, g7, g9, g11⟩, rs, ⟨gt.1, ok.2.2.1⟩, fun C hC => ⟨by rw [g9]; exact c0_volts_eq (rc C hC).1 (far C hC), (rc C hC).1.2.2.1.2.1, (rc C hC).1.2.1.1⟩, w1, w2, w3, w4, by omega⟩
  obtain ⟨ev, eF⟩ := c0_faults_eq r7 hso hsl
  obtain ⟨f1, f2, f3, f4, f5⟩ := eF (c0_s7 so fc) rfl
  refine ⟨?_, ev⟩
  have P7 : ∀ p : Nat, (p < 10 ∨ 15 ≤ p) → c0_s7 so fc p = fc p := fun p hp => by
    unfold c0_s7
    rw [c0_latch_fr (by omega) (by omega) (by omega) (by omega), c0_faultsOfPack_fr (by omega), c0_faultsOfCells_fr (by omega)]
  have P8 : ∀ p : Nat, p ≠ 1 → c0_s8 (c0_s7 so fc) p = c0_s7 so fc p := fun p hp => by
    unfold c0_s8
    split
    · rfl
    · rw [fl_row_ne hp]
  have P : ∀ p : Nat, p ≠ 1 → (p < 10 ∨ 15 ≤ p) → c0_s8 (c0_s7 so fc) p = fc p := fun p h1 hp => by rw [P8 p h1, P7 p hp]
  have Q : ∀ j : Nat, j ≠ 7 → c0_s8 (c0_s7 so fc) 1 j = fc 1 j := fun j hj => by
    unfold c0_s8
    split
    · rw [P7 _ (by decide)]
    · rw [fl_row_self, upd_ne hj, P7 _ (by decide)]
  have q7 : c0_s8 (c0_s7 so fc) 1 7 = r_goFaults_m fr 280 3 := by
    rw [f5]
    unfold c0_s8
    split
    · rw [P7 _ (by decide)]
    · rw [fl_row_self, upd_self]
  have W : ∀ w : Nat, (w ≠ 6 ∧ w ≠ 20 ∧ (w < 23 ∨ 34 ≤ w) ∧ (w < 167 ∨ 217 ≤ w) ∧ (w < 311 ∨ 315 ≤ w) ∧ w ≠ 3 ∧ w ≠ 15 ∧ w ≠ 16 ∧ w ≠ 22) → r_goFaults_m fr 280 w = fr 280 w := fun w hw => r_goFaults_w hb hw
  have W2 : ∀ w : Nat, (w = 21 ∨ (215 ≤ w ∧ w < 311)) → r_goFaults_m fr 280 w = fr 280 w := fun w hw => by
    by_cases e : w = 215 ∨ w = 216
    · exact r_faults_215 hb e
    · exact W w (by omega)
  have gw : c0_GW (c0_s7 so fc) (r_goFaults_m fr) := ⟨f1, f2, f3, f4⟩
  refine ⟨⟨⟨?_, ?_, q7, ?_⟩, ⟨?_, ?_, ?_, ?_⟩, ?_, ?_, ?_, ?_⟩, rs.congr (P _ (by decide) (by decide)) (fun k hk => W _ (by omega)), ⟨gt.congr ok.2.2.2.2.2.1.1.2 (P _ (by decide) (by decide)) (P _ (by decide) (by decide)) (P _ (by decide) (by decide)) (P _ (by decide) (by decide)) (P _ (by decide) (by decide)) (P _ (by decide) (by decide)) (fun w hw => W w (by omega)), gw.congr (P8 _ (by decide)) (P8 _ (by decide)) (P8 _ (by decide)) (P8 _ (by decide)) (P8 _ (by decide)) (fun w _ => rfl), gtr.congr (P _ (by decide) (by decide)) (P _ (by decide) (by decide)) W2, gm.congr (fun p hp => P p (by omega) (by omega)) (fun w hw => W w (by omega))⟩, fun C hC => ?_, ?_⟩
  · rw [Q 5 (by decide), W 2 (by decide), g5]
  · rw [Q 6 (by decide), W 7 (by decide), g6]
  · rw [Q 8 (by decide), W 4 (by decide), g8]
  · rw [Q 9 (by decide), W 5 (by decide), g9]
  · rw [W 14 (by decide), W 5 (by decide), g10]
  · rw [Q 11 (by decide), W 8 (by decide), g11]
  · rw [Q 12 (by decide), W 9 (by decide), g12]
  · rw [Q 13 (by decide), W 10 (by decide), g13]
  · rw [Q 14 (by decide), W 11 (by decide), g14]
  · rw [Q 15 (by decide), W 12 (by decide), g15]
  · rw [Q 16 (by decide), W 13 (by decide), g16]
  · rw [W 2 (by decide)] at hC
    obtain ⟨ra, ⟨m1, m2, m3, m4⟩, ⟨d15, d14⟩, rh, ti⟩ := cl C hC
    have row : c0_s8 (c0_s7 so fc) (18 + 4 * C) = fc (18 + 4 * C) := P _ (by omega) (by omega)
    have Wc : ∀ w : Nat, r_goFaults_m fr 280 (444 + 61 * C + w) = fr 280 (444 + 61 * C + w) := fun w => W _ (by omega)
    refine ⟨ra.congr row (fun k _ => Wc k), ⟨?_, ?_, ?_, ?_⟩, ⟨?_, ?_⟩, ?_, ti.congr (P _ (by omega) (by omega)) (P _ (by omega) (by omega)) (P _ (by omega) (by omega)) (fun w _ _ _ _ _ _ _ _ => Wc w)⟩
    · rw [row, Wc, m1]
    · rw [row, Wc, m2]
    · rw [row, Wc, m3]
    · rw [row, Wc, m4]
    · rw [Wc, d15]
    · rw [row, Wc, d14]
    · unfold c0_Rh
      rw [row, Wc, Wc]
      exact rh
  · refine ok.upd (fun w hw => W w (by omega)) (fun k hk => by rw [W _ (by omega)]; exact ok.s hk) (by rw [W 5 (by decide)]; exact ok.2.1.1) (by rw [W 4 (by decide)]; exact ok.2.1.2.1) (by rw [W 7 (by decide)]; exact ok.2.1.2.2.2) ⟨f1.2.2.2.2, f4.2.2.2.1, by rw [W 21 (by decide)]; exact ok.2.2.2.2.2.2.1.2.2⟩ (fun C hC => ?_)
    exact (hh.2.2.2.2.2.2.2.2.2.2.2 C hC).congr (fun w hw => W _ (by omega)) (by rw [W 7 (by decide)]; exact Int.le_refl _)
/-- behind what is kept: all but the current ahead -/
def c0_IK (fc fr : t2_F) : Prop := c0_GSM fc fr ∧ c0_Rs fc fr ∧ c0_GX fc fr ∧ (∀ C : Nat, (C : Int) < (fr 280 2).toInt → c0_Rc fc fr C ∧ c0_GC fc fr C) ∧ t2_OK (fr 280)
theorem c0_IM.kept (h : c0_IM fc fr) : c0_IK (c0_sKeep_m fc) (r_goKept_m fr) := by
  have hh := h
  obtain ⟨⟨⟨g5, g6, g7, g8⟩, ⟨g9, g10, g11, g12⟩, g13, g14, g15, g16⟩, rs, gx, cl, ok⟩ := h
  have cn := hh.cnt
  have far := fun C hC => hh.far (C := C) hC
  generalize hnn : (fr 280 2).toInt.toNat = n at *
  have hM : (fc 1 5).toInt.toNat = n := by omega
  have oc : ∀ C : Nat, C < n → t2_OC (fr 280) C := fun C hC => (hh.cell (by omega)).2
  have rc : ∀ C : Nat, C < n → c0_Rc fc fr C ∧ c0_GCM fc fr C := fun C hC => (hh.cell (by omega)).1
  obtain ⟨gt, gw, gtr, gm⟩ := id gx
  have hpk : c0_packAt_v fc (fc 1 9) = r_pack_v fr := by
    have e := c0_pack_eq (fc := fc) (fr := fr) (n := n) (fun C hC => ⟨(rc C hC).1, far C hC⟩)
    unfold c0_packAt_v r_pack_v
    rw [hM, hnn, g9, e]
  obtain ⟨tr', k⟩ := c0_kept_eq cn.2.2 cn.1 cn.2.1 g9 gtr hpk (fun C hC => by
    obtain ⟨k1, k2, k3, t, po, k15, k16, ka⟩ := oc C hC
    obtain ⟨ra, -, -, rh, ti⟩ := rc C hC
    have vb := r_volts_b (f := fr) (c := Int32.ofNat C) (C := C) ok.2.1.1 k2 po
    exact ⟨ti, c0_volts_eq ra (far C hC), ra.2.1.1, k1, by omega, rh⟩)
  have P : ∀ p : Nat, (p < 16 ∨ 82 ≤ p) → c0_sKeep_m fc p = fc p := fun p hp => by
    unfold c0_sKeep_m
    rw [hM, c0_sKeep_f25_fr (k := n) (fun j hj => by omega) (fun j hj => by omega) (fun j hj => by omega) (fun j hj => by omega), c0_tadd_fr (by omega) (by omega)]
  have W : ∀ w : Nat, w < 444 → w ≠ 21 → (w < 215 ∨ 311 ≤ w) → r_goKept_m fr 280 w = fr 280 w := fun w hw a b => by
    unfold r_goKept_m
    exact r_goKept_f117_w (by omega) (fun C hC => (oc C (by omega)).1) ok.2.2.2.2.2.2.1.2.2 (fun C hC => ⟨(oc C (by omega)).2.2.2.2.2.2.2.1, (oc C (by omega)).2.2.2.2.2.2.2.2.1⟩) (Nat.le_refl _) (Or.inl hw) ⟨a, b⟩
  have P1 : c0_sKeep_m fc 1 = fc 1 := P _ (by decide)
  refine ⟨⟨⟨?_, ?_, ?_, ?_⟩, ⟨?_, ?_, ?_, ?_⟩, ?_, ?_, ?_, ?_⟩, rs.congr (P _ (by decide)) (fun k hk => W _ (by omega) (by omega) (by omega)), ⟨gt.congr ok.2.2.2.2.2.1.1.2 (P _ (by decide)) (P _ (by decide)) (P _ (by decide)) (P _ (by decide)) (P _ (by decide)) (P _ (by decide)) (fun w hw => W w (by omega) (by omega) (by omega)), gw.congr (P _ (by decide)) (P _ (by decide)) (P _ (by decide)) (P _ (by decide)) (P _ (by decide)) (fun w hw => W w (by omega) (by omega) (by omega)), tr', gm.congr (fun p hp => P p (by omega)) (fun w hw => W w (by omega) (by omega) (by omega))⟩, fun C hC => ?_, ?_⟩
  · rw [P1, W 2 (by decide) (by decide) (by decide), g5]
  · rw [P1, W 7 (by decide) (by decide) (by decide), g6]
  · rw [P1, W 3 (by decide) (by decide) (by decide), g7]
  · rw [P1, W 4 (by decide) (by decide) (by decide), g8]
  · rw [P1, W 5 (by decide) (by decide) (by decide), g9]
  · rw [W 14 (by decide) (by decide) (by decide), W 5 (by decide) (by decide) (by decide), g10]
  · rw [P1, W 8 (by decide) (by decide) (by decide), g11]
  · rw [P1, W 9 (by decide) (by decide) (by decide), g12]
  · rw [P1, W 10 (by decide) (by decide) (by decide), g13]
  · rw [P1, W 11 (by decide) (by decide) (by decide), g14]
  · rw [P1, W 12 (by decide) (by decide) (by decide), g15]
  · rw [P1, W 13 (by decide) (by decide) (by decide), g16]
  · rw [W 2 (by decide) (by decide) (by decide)] at hC
    have hC' : C < n := by omega
    obtain ⟨ra, ⟨m1, m2, m3, m4⟩, ⟨d15, d14⟩, -, -⟩ := rc C hC'
    obtain ⟨ti, ⟨t10, t12, t13⟩, co, wo⟩ := k C hC'
    refine ⟨ra.c18 (fun j hj => co j (by omega) (by omega) (by omega)) (by rw [co 18 (by decide) (by decide) (by decide), wo 60 (by decide) (by decide) (by decide)]; exact ra.2.2.2.2.2) (fun w hw => wo w (by omega) (by omega) (by omega)), ⟨?_, ?_, ?_, ?_⟩, ⟨?_, fun _ => ?_⟩, Or.inr ⟨t10, t12, t13⟩, ti⟩
    · rw [co 14 (by decide) (by decide) (by decide), wo 11 (by decide) (by decide) (by decide), m1]
    · rw [co 15 (by decide) (by decide) (by decide), wo 12 (by decide) (by decide) (by decide), m2]
    · rw [co 16 (by decide) (by decide) (by decide), wo 13 (by decide) (by decide) (by decide), m3]
    · rw [co 17 (by decide) (by decide) (by decide), wo 16 (by decide) (by decide) (by decide), m4]
    · rw [t10, wo 15 (by decide) (by decide) (by decide), d15]
    · rw [co 11 (by decide) (by decide) (by decide), wo 14 (by decide) (by decide) (by decide), d14]
  · refine ok.upd (fun w hw => W w (by omega) (by omega) (by omega)) (fun k hk => by rw [W _ (by omega) (by omega) (by omega)]; exact ok.s hk) (by rw [W 5 (by decide) (by decide) (by decide)]; exact ok.2.1.1) (by rw [W 4 (by decide) (by decide) (by decide)]; exact ok.2.1.2.1) (by rw [W 7 (by decide) (by decide) (by decide)]; exact ok.2.1.2.2.2) ⟨by rw [W 16 (by decide) (by decide) (by decide)]; exact ok.2.2.2.2.2.2.1.1, by rw [W 20 (by decide) (by decide) (by decide)]; exact ok.2.2.2.2.2.2.1.2.1, tr'.2.2.2.1⟩ (fun C hC => ?_)
    have hC' : C < n := by omega
    obtain ⟨k1, k2, k3, t, po, k15, k16, ka⟩ := oc C hC'
    obtain ⟨ti, -, -, wo⟩ := k C hC'
    refine ⟨?_, ?_, ?_, ?_, ?_, ?_, ?_, ti.2.2.2.congr (fun w _ => rfl)⟩
    · rw [wo 0 (by decide) (by decide) (by decide), wo 1 (by decide) (by decide) (by decide)]
      exact k1
    · rw [wo 2 (by decide) (by decide) (by decide)]
      exact k2
    · rw [wo 0 (by decide) (by decide) (by decide), wo 4 (by decide) (by decide) (by decide)]
      exact k3
    · rw [wo 5 (by decide) (by decide) (by decide), W 7 (by decide) (by decide) (by decide)]
      exact t
    · rw [wo 9 (by decide) (by decide) (by decide)]
      exact po
    · rw [wo 15 (by decide) (by decide) (by decide)]
      exact k15
    · rw [wo 16 (by decide) (by decide) (by decide)]
      exact k16
/-- what the two tell -/
theorem c0_IK.tell (h : c0_IK fc fr) : c0_tell_v fc x = r_is_v fr x := by
  obtain ⟨⟨⟨g5, g6, g7, g8⟩, ⟨g9, g10, g11, g12⟩, g13, g14, g15, g16⟩, rs, gx, cl, ok⟩ := h
  have n2 := ok.2.1.2.2.1
  have b5 := ok.2.1.1
  have hpk : c0_packAt_v fc (fc 1 9) = r_pack_v fr := by
    have e := c0_pack_eq (fc := fc) (fr := fr) (n := (fr 280 2).toInt.toNat) (fun C hC => ⟨(cl C (by omega)).1, t2_far_ok b5 (ok.2.2.2.2.2.2.2 C (by omega)).2.1⟩)
    unfold c0_packAt_v r_pack_v
    rw [g5, g9, e]
  have ha := c0_actual_eq g7 gx.1.1 ok.2.2.1
  unfold c0_tell_v r_is_v
  rw [g5, g7, g8, hpk, g9, gx.2.1.1.1, g6, g11, g12, g13, g14, g15, g16, ha, gx.1.2.2.2.2.1, gx.1.2.1.1]
/-- (8) -/
theorem c0_IK.rules (h : c0_IK fc fr) : c0_IK (c0_obeyRules_m fc) (r_goRules_m fr) := by
  have tl := fun x => h.tell (x := x)
  have hh := h
  obtain ⟨⟨⟨g5, g6, g7, g8⟩, ⟨g9, g10, g11, g12⟩, g13, g14, g15, g16⟩, rs, gx, cl, ok⟩ := h
  have rs' := c0_rules_eq rs gx.1.2.2.1 ok.2.2.2.2.1.2.1 tl
  have P : ∀ p : Nat, p ≠ 4 → c0_obeyRules_m fc p = fc p := fun p hp => c0_obeyRules_fr hp
  have W : ∀ w : Nat, (w < 34 ∨ 64 ≤ w) → r_goRules_m fr 280 w = fr 280 w := fun w hw => r_goRules_w ok.2.2.2.2.1.1 ok.2.2.2.2.1.2.1 hw
  have P1 : c0_obeyRules_m fc 1 = fc 1 := P _ (by decide)
  refine ⟨⟨⟨?_, ?_, ?_, ?_⟩, ⟨?_, ?_, ?_, ?_⟩, ?_, ?_, ?_, ?_⟩, rs', gx.congr ok.2.2.2.2.2.1.1.2 (fun p hp => P p (by omega)) (fun w hw => W w (by omega)), fun C hC => ?_, ?_⟩
  · rw [P1, W 2 (by decide), g5]
  · rw [P1, W 7 (by decide), g6]
  · rw [P1, W 3 (by decide), g7]
  · rw [P1, W 4 (by decide), g8]
  · rw [P1, W 5 (by decide), g9]
  · rw [W 14 (by decide), W 5 (by decide), g10]
  · rw [P1, W 8 (by decide), g11]
  · rw [P1, W 9 (by decide), g12]
  · rw [P1, W 10 (by decide), g13]
  · rw [P1, W 11 (by decide), g14]
  · rw [P1, W 12 (by decide), g15]
  · rw [P1, W 13 (by decide), g16]
  · rw [W 2 (by decide)] at hC
    exact ⟨(cl C hC).1.congr (P _ (by omega)) (fun k hk => W _ (by omega)), (cl C hC).2.congr (fun j _ _ => by rw [P _ (by omega)]) (fun p hp => P p (by omega)) (fun w hw => W _ (by omega))⟩
  · refine ok.upd (fun w hw => W w (by omega)) (r_rules_b ok) (by rw [W 5 (by decide)]; exact ok.2.1.1) (by rw [W 4 (by decide)]; exact ok.2.1.2.1) (by rw [W 7 (by decide)]; exact ok.2.1.2.2.2) (by rw [W 16 (by decide), W 20 (by decide), W 21 (by decide)]; exact ok.2.2.2.2.2.2.1) (fun C hC => ?_)
    exact (ok.2.2.2.2.2.2.2 C hC).congr (fun w hw => W _ (by omega)) (by rw [W 7 (by decide)]; exact Int.le_refl _)
/-- the second's end -/
noncomputable def c0_s9 (f : t2_F) : t2_F := fl_row f 1 (upd (f 1) 10 (f 1 9))
theorem c0_IK.s9 (h : c0_IK fc fr) : c0_I (c0_s9 fc) fr := by
  obtain ⟨⟨⟨g5, g6, g7, g8⟩, ⟨g9, g10, g11, g12⟩, g13, g14, g15, g16⟩, rs, gx, cl, ok⟩ := h
  have P : ∀ p : Nat, p ≠ 1 → c0_s9 fc p = fc p := fun p hp => fl_row_ne hp
  have Q : ∀ j : Nat, j ≠ 10 → c0_s9 fc 1 j = fc 1 j := fun j hj => by unfold c0_s9; rw [fl_row_self, upd_ne hj]
  refine ⟨⟨⟨?_, ?_, ?_, ?_⟩, ⟨?_, ?_, ?_, ?_⟩, ?_, ?_, ?_, ?_⟩, rs.congr (P _ (by decide)) (fun k hk => rfl), gx.congr ok.2.2.2.2.2.1.1.2 (fun p hp => P p (by omega)) (fun w hw => rfl), fun C hC => ⟨(cl C hC).1.congr (P _ (by omega)) (fun k hk => rfl), (cl C hC).2.congr (fun j _ _ => by rw [P _ (by omega)]) (fun p hp => P p (by omega)) (fun w hw => rfl)⟩, ok⟩
  · rw [Q 5 (by decide), g5]
  · rw [Q 6 (by decide), g6]
  · rw [Q 7 (by decide), g7]
  · rw [Q 8 (by decide), g8]
  · rw [Q 9 (by decide), g9]
  · unfold c0_s9
    rw [fl_row_self, upd_self, g10, g9]
  · rw [Q 11 (by decide), g11]
  · rw [Q 12 (by decide), g12]
  · rw [Q 13 (by decide), g13]
  · rw [Q 14 (by decide), g14]
  · rw [Q 15 (by decide), g15]
  · rw [Q 16 (by decide), g16]
/-- a second of the class -/
noncomputable def c0_so (f : t2_F) : Int32 := if (c0_moveBus_v (c0_s1 f)).toInt = 0 then (0 : Int32) else (32 : Int32)
noncomputable def c0_u6 (f : t2_F) : t2_F := c0_sMeasure_m (c0_s5 (c0_balance_m (c0_passCells_m (c0_letCurrent_m (c0_moveBus_m (c0_s1 f))))))
noncomputable def c0_sec_m (f : t2_F) : t2_F := c0_s9 (c0_obeyRules_m (c0_sKeep_m (c0_s8 (c0_s7 (c0_so f) (c0_u6 f)))))
noncomputable def c0_sec_v (f : t2_F) : Int32 := c0_latch_v (c0_faultsOfPack_m (c0_faultsOfCells_m (c0_u6 f))) ((c0_so f ||| c0_faultsOfCells_v (c0_u6 f)) ||| c0_faultsOfPack_v (c0_faultsOfCells_m (c0_u6 f))) (c0_u6 f 1 6)
/-- a second of the reference -/
noncomputable def r_v6 (f : t2_F) : t2_F := r_goTaper_m (r_goMeasure_m (r_t5 (r_goBalance_m (r_goCells_m (r_goCurrent_m (r_goBus_m (r_t1 f)))))))
noncomputable def r_sec_m (f : t2_F) : t2_F := r_goRules_m (r_goKept_m (r_goFaults_m (r_v6 f)))
noncomputable def r_sec_v (f : t2_F) : Int32 := r_goFaults_v (r_v6 f)
/-- A SECOND KEEPS THE RELATION -/
theorem c0_I.sec (h : c0_I fc fr) (ht : (fr 280 7).toInt < 9999) : c0_I (c0_sec_m fc) (r_sec_m fr) ∧ c0_sec_v fc = r_sec_v fr := by
  have c0 : (0 : Int32).toInt = 0 := rfl
  have c1 : (1 : Int32).toInt = 1 := by decide +kernel
  obtain ⟨i1, t1⟩ := h.s1 ht
  obtain ⟨i2, sv, s01, -⟩ := i1.bus
  obtain ⟨i3, w3⟩ := i2.cur
  have o1 : ∀ w : Nat, w ≠ 7 → r_t1 fr 280 w = fr 280 w := fun w hw => by unfold r_t1; rw [fl_row_self, upd_ne hw]
  have o2 : ∀ w : Nat, w ≠ 3 → w ≠ 4 → r_goBus_m (r_t1 fr) 280 w = r_t1 fr 280 w := fun w h3 h4 => by rw [r_goBus_w2, if_neg h4, if_neg h3]
  have i4 := i3.cells (fun C hC => by
    have e7 : r_goCurrent_m (r_goBus_m (r_t1 fr)) 280 7 = r_t1 fr 280 7 := by rw [w3 7 (by decide) (fun D _ => by omega), o2 7 (by decide) (by decide)]
    have e5 : r_goCurrent_m (r_goBus_m (r_t1 fr)) 280 (444 + 61 * C + 5) = fr 280 (444 + 61 * C + 5) := by rw [w3 _ (by omega) (fun D _ => by omega), o2 _ (by omega) (by omega), o1 _ (by omega)]
    have e2 : r_goCurrent_m (r_goBus_m (r_t1 fr)) 280 2 = fr 280 2 := by rw [w3 2 (by decide) (fun D _ => by omega), o2 2 (by decide) (by decide), o1 2 (by decide)]
    rw [e2] at hC
    have t := (h.cell hC).2.2.2.2.1.2
    rw [e5, e7, t1]
    omega)
  have i6 := i4.bal.s5.meas
  have f277 : r_v6 fr 277 4 = r_goBus_m (r_t1 fr) 277 4 := by
    unfold r_v6
    rw [r_goTaper_fr (by decide), r_goMeasure_fr (by decide)]
    unfold r_t5
    rw [fl_row_ne (by decide), r_balance_277 (by decide), r_goCells_fr (by decide), r_goCurrent_fr (by decide)]
  have hsl : r_v6 fr 277 4 = if (decide (r_goBus_m (r_t1 fr) 277 4 = 1)) = true then 1 else 0 := by
    rw [f277]
    rcases s01 with e | e
    · rw [e]
      decide
    · rw [e]
      decide
  have hso : c0_so fc = if (decide (r_goBus_m (r_t1 fr) 277 4 = 1)) = true then (32 : Int32) else (0 : Int32) := by
    unfold c0_so
    rw [sv]
    rcases s01 with e | e
    · rw [e]
      decide
    · rw [e]
      decide
  obtain ⟨i8, v8⟩ := i6.flt hso hsl
  exact ⟨i8.kept.rules.s9, v8⟩
end C0STB
