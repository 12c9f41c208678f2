/-! ===== block 0: (7) of a second: the loop ===== -/
section C0LAT
variable {fc fr f g F G A B : t2_F} {C n k : Nat} {c x y z : Int32}
theorem c0_badd_13 {t : Int32} {p : Nat} (h14 : p ≠ 14) (h13 : p ≠ 13) : c0_badd_m A t x z p = A p := c0_badd_fr h14 h13
/-- class and reference behind k numbers -/
def c0_LK (g : t2_F) (A B : t2_F) (a b : Int32) (y : Int32) (Z : Int32) (k : Nat) : Prop := A 10 3 = B 280 6 ∧ (∀ j : Nat, j < 11 → A 11 j = B 280 (23 + j)) ∧ c0_Bk A B ∧ a = b ∧ B 280 7 = y ∧ (∀ j : Nat, j < 4 → B 280 (311 + j) = if j < k ∧ t2_bt Z j = true then r_soBy_v g (Int32.ofNat j) else g 280 (311 + j))
theorem c0_LK_step {X Z a b : Int32} (hk : k < 11) (hX : t2_bt X k = t2_bt Z k) (h : c0_LK g A B a b y Z k) (hs : r_soBy_v B (Int32.ofNat k) = r_soBy_v g (Int32.ofNat k)) : c0_LK g (c0_latch_b5_m A X y a k) (r_goFaults_b123_m B Z b k) (c0_latch_b5_v A X y a k) (r_goFaults_b123_v B Z b k) y Z (k + 1) := by
  obtain ⟨h6, h11, hb, hab, hy, hc⟩ := h
  have ek : (Int32.ofNat k).toInt = k := at_ofN (by omega)
  have c4 : (4 : Int32).toInt = 4 := by decide +kernel
  have hb20 : 0 ≤ (B 280 20).toInt ∧ (B 280 20).toInt ≤ 24 := hb.2.2.2.1
  unfold c0_latch_b5_v c0_latch_b5_j22_0 c0_latch_b5_m r_goFaults_b123_v r_goFaults_b123_j134_0 r_goFaults_b123_m
  by_cases hz : t2_bt Z k = false
  · have x0 : (X &&& ((1 : Int32) <<< ((Int32.ofNat k) &&& 31))).toInt = 0 := (t2_anb (by omega)).mpr (hX.trans hz)
    have z0 : (r_has_v Z (Int32.ofNat k)).toInt = 0 := (t2_has0 (by omega)).mpr hz
    simp only [if_pos x0, if_pos z0]
    refine ⟨h6, h11, hb, hab, hy, fun j hj => ?_⟩
    rw [hc j hj]
    by_cases e : j = k
    · subst e
      rw [if_neg (fun q => Nat.lt_irrefl j q.1), if_neg (fun q => by rw [hz] at q; exact Bool.false_ne_true q.2)]
    · by_cases q : j < k ∧ t2_bt Z j = true
      · rw [if_pos q, if_pos ⟨by omega, q.2⟩]
      · rw [if_neg q, if_neg (fun r => q ⟨by omega, r.2⟩)]
  · have hz1 : t2_bt Z k = true := by
      cases e : t2_bt Z k with
      | true => rfl
      | false => exact absurd e hz
    have x0 : ¬ (X &&& ((1 : Int32) <<< ((Int32.ofNat k) &&& 31))).toInt = 0 := fun q => hz (hX.symm.trans ((t2_anb (by omega)).mp q))
    have z0 : ¬ (r_has_v Z (Int32.ofNat k)).toInt = 0 := fun q => hz ((t2_has0 (by omega)).mp q)
    simp only [if_neg x0, if_neg z0, h6, hs]
    have culp : ∀ (W : Nat → Int32), (∀ j : Nat, j < 4 → W (311 + j) = if j = k then r_soBy_v g (Int32.ofNat j) else B 280 (311 + j)) → ∀ j : Nat, j < 4 → W (311 + j) = if j < k + 1 ∧ t2_bt Z j = true then r_soBy_v g (Int32.ofNat j) else g 280 (311 + j) := by
      intro W hW j hj
      rw [hW j hj]
      by_cases e : j = k
      · subst e
        rw [if_pos rfl, if_pos ⟨Nat.lt_succ_self j, hz1⟩]
      · rw [if_neg e, hc j hj]
        by_cases q : j < k ∧ t2_bt Z j = true
        · rw [if_pos q, if_pos ⟨by omega, q.2⟩]
        · rw [if_neg q, if_neg (fun r => q ⟨by omega, r.2⟩)]
    by_cases hl : t2_bt (B 280 6) k = false
    · -- latched now
      have l0 : (B 280 6 &&& ((1 : Int32) <<< ((Int32.ofNat k) &&& 31))).toInt = 0 := (t2_anb (by omega)).mpr hl
      have l1 : (r_has_v (B 280 6) (Int32.ofNat k)).toInt = 0 := (t2_has0 (by omega)).mpr hl
      simp only [if_pos l0, if_pos l1]
      have fin : ∀ M : t2_F, (∀ w : Nat, w ≠ 6 → w ≠ 23 + k → (w < 311 ∨ 315 ≤ w) → M 280 w = B 280 w) → M 280 6 = B 280 6 ||| ((1 : Int32) <<< ((Int32.ofNat k) &&& 31)) → M 280 (23 + k) = B 280 7 → (∀ j : Nat, j < 4 → M 280 (311 + j) = if j = k then r_soBy_v g (Int32.ofNat j) else B 280 (311 + j)) →
          c0_LK g (c0_badd_m (fl_row (fl_row A 11 (upd (A 11) k y)) 10 (upd (A 10) 3 (B 280 6 ||| ((1 : Int32) <<< ((Int32.ofNat k) &&& 31))))) y (Int32.ofNat k) (0 : Int32)) (r_writeDown_m M (Int32.ofNat k)) (a + (1 : Int32)) (b + (1 : Int32)) y Z (k + 1) := by
        intro M m1 m2 m3 m4
        have mb : 0 ≤ (M 280 20).toInt ∧ (M 280 20).toInt ≤ 24 := by rw [m1 20 (by decide) (by omega) (by decide)]; exact hb20
        have wd : ∀ w : Nat, w ≠ 20 → (w < 167 ∨ 217 ≤ w) → r_writeDown_m M (Int32.ofNat k) 280 w = M 280 w := fun w a1 a2 => r_writeDown_w mb ⟨a1, a2⟩
        have m7 : M 280 7 = y := by rw [m1 7 (by decide) (by omega) (by decide)]; exact hy
        refine ⟨?_, fun j hj => ?_, ?_, by rw [hab], ?_, ?_⟩
        · rw [c0_badd_13 (by decide) (by decide), fl_row_self, upd_self, wd 6 (by decide) (by decide), m2]
        · rw [c0_badd_13 (by decide) (by decide), fl_row_ne (by decide), fl_row_self, wd (23 + j) (by omega) (by omega)]
          by_cases e : j = k
          · subst e
            rw [upd_self, m3, hy]
          · rw [upd_ne e, m1 (23 + j) (by omega) (by omega) (by omega)]
            exact h11 j hj
        · refine c0_bk_add (hb.congr ?_ ?_ (fun w hw => m1 w (by omega) (by omega) (by omega))) m7
          · rw [fl_row_ne (by decide), fl_row_ne (by decide)]
          · rw [fl_row_ne (by decide), fl_row_ne (by decide)]
        · rw [wd 7 (by decide) (by decide), m7]
        · exact culp (fun w => r_writeDown_m M (Int32.ofNat k) 280 w) (fun j hj => by
            show r_writeDown_m M (Int32.ofNat k) 280 (311 + j) = _
            rw [wd (311 + j) (by omega) (by omega), m4 j hj])
      by_cases h4 : (Int32.ofNat k).toInt < (4 : Int32).toInt
      · simp only [if_pos h4]
        refine fin _ (fun w a1 a2 a3 => ?_) ?_ ?_ (fun j hj => ?_)
        · rw [fl_row_self, upd_ne a1, upd_ne a2, upd_ne (by omega)]
        · rw [fl_row_self, upd_self]
        · rw [fl_row_self, upd_ne (by omega), upd_self]
        · rw [fl_row_self, upd_ne (by omega), upd_ne (by omega)]
          by_cases e : j = k
          · subst e
            rw [upd_self, if_pos rfl]
          · rw [upd_ne (by omega), if_neg e]
      · simp only [if_neg h4]
        refine fin _ (fun w a1 a2 a3 => ?_) ?_ ?_ (fun j hj => ?_)
        · rw [fl_row_self, upd_ne a1, upd_ne a2]
        · rw [fl_row_self, upd_self]
        · rw [fl_row_self, upd_ne (by omega), upd_self]
        · rw [fl_row_self, upd_ne (by omega), upd_ne (by omega), if_neg (by omega)]
    · have l0 : ¬ (B 280 6 &&& ((1 : Int32) <<< ((Int32.ofNat k) &&& 31))).toInt = 0 := fun q => hl ((t2_anb (by omega)).mp q)
      have l1 : ¬ (r_has_v (B 280 6) (Int32.ofNat k)).toInt = 0 := fun q => hl ((t2_has0 (by omega)).mp q)
      simp only [if_neg l0, if_neg l1]
      have fin : ∀ M : t2_F, (∀ w : Nat, w ≠ 23 + k → (w < 311 ∨ 315 ≤ w) → M 280 w = B 280 w) → M 280 (23 + k) = B 280 7 → (∀ j : Nat, j < 4 → M 280 (311 + j) = if j = k then r_soBy_v g (Int32.ofNat j) else B 280 (311 + j)) →
          c0_LK g (fl_row A 11 (upd (A 11) k y)) M a b y Z (k + 1) := by
        intro M m1 m3 m4
        refine ⟨?_, fun j hj => ?_, ?_, hab, ?_, ?_⟩
        · rw [fl_row_ne (by decide), m1 6 (by omega) (by decide)]
          exact h6
        · rw [fl_row_self]
          by_cases e : j = k
          · subst e
            rw [upd_self, m3, hy]
          · rw [upd_ne e, m1 (23 + j) (by omega) (by omega)]
            exact h11 j hj
        · exact hb.congr (fl_row_ne (by decide)) (fl_row_ne (by decide)) (fun w hw => m1 w (by omega) (by omega))
        · rw [m1 7 (by omega) (by decide)]
          exact hy
        · exact culp (fun w => M 280 w) m4
      by_cases h4 : (Int32.ofNat k).toInt < (4 : Int32).toInt
      · simp only [if_pos h4, ite_self]
        refine fin _ (fun w a2 a3 => ?_) ?_ (fun j hj => ?_)
        · rw [fl_row_self, upd_ne a2, upd_ne (by omega)]
        · rw [fl_row_self, upd_self]
        · rw [fl_row_self, upd_ne (by omega)]
          by_cases e : j = k
          · subst e
            rw [upd_self, if_pos rfl]
          · rw [upd_ne (by omega), if_neg e]
      · simp only [if_neg h4, ite_self]
        refine fin _ (fun w a2 a3 => ?_) ?_ (fun j hj => ?_)
        · rw [fl_row_self, upd_ne a2]
        · rw [fl_row_self, upd_self]
        · rw [fl_row_self, upd_ne (by omega), if_neg (by omega)]
/-- (7) -/
theorem c0_faults_eq {so : Int32} {slow : Bool} (h : c0_R7 fc fr n) (hso : so = if slow = true then (32 : Int32) else (0 : Int32)) (hsl : fr 277 4 = if slow = true then 1 else 0) :
    (c0_latch_v (c0_faultsOfPack_m (c0_faultsOfCells_m fc)) ((so ||| c0_faultsOfCells_v fc) ||| c0_faultsOfPack_v (c0_faultsOfCells_m fc)) (fc 1 6) = r_goFaults_v fr) ∧
    ∀ F : t2_F, F = c0_latch_m (c0_faultsOfPack_m (c0_faultsOfCells_m fc)) ((so ||| c0_faultsOfCells_v fc) ||| c0_faultsOfPack_v (c0_faultsOfCells_m fc)) (fc 1 6) →
      (F 10 3 = r_goFaults_m fr 280 6 ∧ F 10 4 = r_goFaults_m fr 280 22 ∧ F 10 5 = r_goFaults_m fr 280 15 ∧ ((F 10 6).toInt = min (r_goFaults_m fr 280 16).toInt 1 ∧ 0 ≤ (r_goFaults_m fr 280 16).toInt ∧ (r_goFaults_m fr 280 16).toInt ≤ 2)) ∧ (∀ j : Nat, j < 11 → F 11 j = r_goFaults_m fr 280 (23 + j)) ∧ (∀ j : Nat, j < 4 → F 12 j = r_goFaults_m fr 280 (311 + j)) ∧ c0_Bk F (r_goFaults_m fr) ∧ r_goFaults_m fr 280 3 = (if (F 10 3).toInt = 0 then fc 1 7 else (0 : Int32)) := by
  have bits := c0_bits h hso hsl
  obtain ⟨⟨hn1, hn2, hn16⟩, ⟨e6, e7, e9, e11⟩, hs, ⟨hk, hw⟩, hc, ⟨l3, l4, l5, ⟨l6, l61, l62⟩⟩, hwh, hcu, hbk, hsp⟩ := h
  have c1 : (1 : Int32).toInt = 1 := by decide +kernel
  have c2 : (2 : Int32).toInt = 2 := by decide +kernel
  have c0 : (0 : Int32).toInt = 0 := rfl
  have hb20 : 0 ≤ (fr 280 20).toInt ∧ (fr 280 20).toInt ≤ 24 := hbk.2.2.2.1
  have f1 : ∀ p : Nat, p ≠ 12 → c0_faultsOfCells_m fc p = fc p := fun p hp => c0_faultsOfCells_fr hp
  have f2 : ∀ p : Nat, p ≠ 10 → c0_faultsOfPack_m (c0_faultsOfCells_m fc) p = c0_faultsOfCells_m fc p := fun p hp => c0_faultsOfPack_fr hp
  obtain ⟨m4, m5, m6, mo⟩ := c0_fp_m (f := c0_faultsOfCells_m fc)
  have gw : ∀ w : Nat, w ≠ 15 → w ≠ 16 → w ≠ 22 → r_gp fr 280 w = fr 280 w := fun w a b d => r_gp_w a b d
  have gB : ∀ k : Nat, k ≤ 11 → ∀ w : Nat, w ≠ 6 → w ≠ 20 → (w < 23 ∨ 34 ≤ w) → (w < 167 ∨ 217 ≤ w) → (w < 311 ∨ 315 ≤ w) → w ≠ 15 → w ≠ 16 → w ≠ 22 → r_goFaults_f123 fr k 280 w = fr 280 w := fun k hk w a1 a2 a3 a4 a5 a6 a7 a8 => r_goFaults_f123_w hb20 hk ⟨a1, a2, a3, a4, a5, a6, a7, a8⟩
  have B0 : r_goFaults_f123 fr 0 = r_gp fr := rfl
  generalize hX : (so ||| c0_faultsOfCells_v fc) ||| c0_faultsOfPack_v (c0_faultsOfCells_m fc) = X at bits
  generalize hf2 : c0_faultsOfPack_m (c0_faultsOfCells_m fc) = f2m at f2 m4 m5 m6 mo
  have loop : ∀ k : Nat, k ≤ 11 → c0_LK (r_gp fr) (c0_latch_f5 f2m X (fc 1 6) k) (r_goFaults_f123 fr k) (c0_latch_a5_0 f2m X (fc 1 6) k) (r_goFaults_a123_0 fr k) (fc 1 6) (r_goFaults_a91 fr 11) k := by
    intro k
    induction k with
    | zero =>
      intro _
      show c0_LK (r_gp fr) f2m (r_gp fr) (0 : Int32) (0 : Int32) (fc 1 6) (r_goFaults_a91 fr 11) 0
      refine ⟨?_, fun j hj => ?_, ?_, rfl, ?_, fun j hj => ?_⟩
      · rw [mo 3 (by decide) (by decide) (by decide), f1 10 (by decide), gw 6 (by decide) (by decide) (by decide)]
        exact l3
      · rw [f2 11 (by decide), f1 11 (by decide), gw (23 + j) (by omega) (by omega) (by omega)]
        exact hwh j hj
      · exact hbk.congr (by rw [f2 13 (by decide), f1 13 (by decide)]) (by rw [f2 14 (by decide), f1 14 (by decide)]) (fun w hw => gw w (by omega) (by omega) (by omega))
      · rw [gw 7 (by decide) (by decide) (by decide), e6]
      · rw [if_neg (fun q => Nat.not_lt_zero j q.1)]
    | succ k ih =>
      intro hk11
      have hs' : r_soBy_v (r_goFaults_f123 fr k) (Int32.ofNat k) = r_soBy_v (r_gp fr) (Int32.ofNat k) := r_soBy_c (fun w hw => by
        rw [gB k (by omega) w (by omega) (by omega) (by omega) (by omega) (by omega) (by omega) (by omega) (by omega), gw w (by omega) (by omega) (by omega)])
      exact c0_LK_step (by omega) (bits k (by omega)) (ih (by omega)) hs'
  obtain ⟨q6, q11, qb, qab, qy, qc⟩ := loop 11 (Nat.le_refl 11)
  refine ⟨qab, fun F hF => ?_⟩
  have hF2 : F = c0_latch_f5 f2m X (fc 1 6) 11 := hF
  have Gw : ∀ w : Nat, w ≠ 3 → r_goFaults_m fr 280 w = r_goFaults_f123 fr 11 280 w := fun w hw => by
    unfold r_goFaults_m
    rw [fl_row_self, upd_ne hw]
  have G3 : r_goFaults_m fr 280 3 = r_goFaults_j227_0 fr := by
    unfold r_goFaults_m
    rw [fl_row_self, upd_self]
  have g15 : r_goFaults_f123 fr 11 280 15 = r_goFaults_j18_0 fr ∧ r_goFaults_f123 fr 11 280 16 = r_goFaults_j53_0 fr ∧ r_goFaults_f123 fr 11 280 22 = fr 280 22 + (1 : Int32) := by
    have st : ∀ w : Nat, (w = 15 ∨ w = 16 ∨ w = 22) → ∀ k : Nat, k ≤ 11 → r_goFaults_f123 fr k 280 w = r_gp fr 280 w := by
      intro w hw k
      induction k with
      | zero => intro _; rfl
      | succ k ih =>
        intro hk
        exact (r_goFaults_b123_w (a0 := (r_goFaults_l123 fr k).2) (by omega) (r_goFaults_ib hb20 k) (by omega)).trans (ih (by omega))
    refine ⟨?_, ?_, ?_⟩
    · rw [st 15 (by omega) 11 (Nat.le_refl 11)]
      unfold r_gp
      rw [fl_row_self, upd_ne (by decide), upd_ne (by decide), upd_self]
    · rw [st 16 (by omega) 11 (Nat.le_refl 11)]
      unfold r_gp
      rw [fl_row_self, upd_ne (by decide), upd_self]
    · rw [st 22 (by omega) 11 (Nat.le_refl 11)]
      unfold r_gp
      rw [fl_row_self, upd_self]
  -- the words of the watch that the loop leaves
  have A10 : ∀ k : Nat, ∀ j : Nat, j ≠ 3 → c0_latch_f5 f2m X (fc 1 6) k 10 j = f2m 10 j := by
    intro k
    induction k with
    | zero => intro j _; rfl
    | succ k ih =>
      intro j hj
      show c0_latch_b5_m (c0_latch_f5 f2m X (fc 1 6) k) X (fc 1 6) (c0_latch_a5_0 f2m X (fc 1 6) k) k 10 j = _
      unfold c0_latch_b5_m
      split
      · exact ih j hj
      · split
        · rw [c0_badd_13 (by decide) (by decide), fl_row_self, upd_ne hj]
          exact ih j hj
        · rw [fl_row_ne (by decide)]
          exact ih j hj
  have A12 : c0_latch_f5 f2m X (fc 1 6) 11 12 = c0_faultsOfCells_m fc 12 := by
    rw [c0_latch_f5_fr (fun j hj => by decide) (fun j hj => by decide) (fun j hj => by decide) (fun j hj => by decide), f2 12 (by decide)]
  subst hF2
  have s9 : fc 4 9 = fr 280 43 := hs 9 (by omega)
  have s10 : fc 4 10 = fr 280 44 := hs 10 (by omega)
  have ac := c0_actual_eq e7 hk hw
  have od := c0_ordered_eq (fc := fc) (fr := fr) e7
  have lv := c0_live_c (f := fc) (f' := c0_faultsOfCells_m fc) (by rw [f1 _ (by decide)]) (f1 _ (by decide))
  have ordg := r_live_c (f := fr) (f' := fl_row fr 280 (upd (fr 280) 15 (r_goFaults_j18_0 fr))) (by rw [fl_row_self, upd_ne (by decide)]) (fun k hk => by rw [fl_row_self, upd_ne (by omega)])
  refine ⟨⟨?_, ?_, ?_, ?_⟩, fun j hj => ?_, fun j hj => ?_, ?_, ?_⟩
  · rw [Gw 6 (by decide)]; exact q6
  · rw [A10 11 4 (by decide), m4, f1 10 (by decide), l4, Gw 22 (by decide), g15.2.2]
  · rw [A10 11 5 (by decide), m5, Gw 15 (by decide), g15.1]
    unfold c0_leakBit_j2_0 c0_faultsOfPack_j59_0 r_goFaults_j18_0
    rw [f1 4 (by decide), f1 10 (by decide), s9, s10, l5, t2_les]
    by_cases q : (fr 280 43).toInt < (fr 280 44).toInt
    · rw [if_pos q, if_neg (by omega), if_pos q]
    · rw [if_neg q, if_pos c0, if_neg q]
  · rw [A10 11 6 (by decide), m6, Gw 16 (by decide), g15.2.1]
    unfold r_goFaults_j53_0
    rw [lv.1, lv.2.2, ac, od, ordg.1, ordg.2.2]
    by_cases d : (r_actual_v fr).toInt = (r_ordered_v fr).toInt
    · rw [if_pos d, if_pos d]
      omega
    · have a : (fr 280 16 + (1 : Int32)).toInt = (fr 280 16).toInt + 1 := by rw [at_add32] <;> omega
      rw [if_neg d, if_neg d, t2_les, t2_min_i]
      omega
  · rw [Gw (23 + j) (by omega)]
    exact q11 j hj
  · rw [Gw (311 + j) (by omega), A12, qc j hj]
    have gv : ∀ C : Nat, r_voltsOf_v (r_gp fr) (Int32.ofNat C) C = r_voltsOf_v fr (Int32.ofNat C) C := fun C => r_volts_c (gw _ (by decide) (by decide) (by decide)) (gw _ (by omega) (by omega) (by omega)) (gw _ (by omega) (by omega) (by omega)) (gw _ (by omega) (by omega) (by omega)) (gw _ (by omega) (by omega) (by omega))
    have g2 : (r_gp fr 280 2).toInt = n := by rw [gw 2 (by decide) (by decide) (by decide)]; exact hn2
    obtain ⟨z0, z1, z2, z3⟩ := c0_four (fc := fc) (fr := r_gp fr) hn1 g2 hn16 (fun C hC => by rw [gv]; exact (hc C hC).1) (fun C hC => by rw [gw _ (by omega) (by omega) (by omega)]; exact (hc C hC).2.1) (by rw [gw 5 (by decide) (by decide) (by decide)]; exact e9) (fun k hk => by rw [gw _ (by omega) (by omega) (by omega)]; exact hs k hk)
    obtain ⟨u0, u1, u2, u3⟩ := c0_fcm (fc := fc) (n := n) (by omega) z0 z1 z2 z3
    have bt := r_a91_bt (fr := fr) 11 (Nat.le_refl 11) j (by omega)
    rw [decide_eq_true (show j < 11 by omega), Bool.true_and, r_isSo_b (slow := slow) (by unfold r_gp; rw [fl_row_ne (by decide)]; exact hsl) j (by omega)] at bt
    rw [bt, gw (311 + j) (by omega) (by omega) (by omega)]
    have s2 : fc 4 2 = fr 280 36 := hs 2 (by omega)
    have m1 : (-1 : Int32).toInt = -1 := by decide +kernel
    rcases (show j = 0 ∨ j = 1 ∨ j = 2 ∨ j = 3 by omega) with h | h | h | h <;> subst h
    · rw [u0, hcu 0 (by decide)]
      show _ = if 0 < 11 ∧ _ then r_soBy_v (r_gp fr) (0 : Int32) else _
      by_cases q : (r_soBy_v (r_gp fr) (0 : Int32)).toInt = (-1 : Int32).toInt
      · rw [if_pos q]; simp [q, t2_cb, t2_pk]
      · rw [if_neg q]
        rw [m1] at q
        simp [q, t2_cb, t2_pk]
    · rw [u1, hcu 1 (by decide)]
      show _ = if 1 < 11 ∧ _ then r_soBy_v (r_gp fr) (1 : Int32) else _
      by_cases q : (r_soBy_v (r_gp fr) (1 : Int32)).toInt = (-1 : Int32).toInt
      · rw [if_pos q]; simp [q, t2_cb, t2_pk]
      · rw [if_neg q]
        rw [m1] at q
        simp [q, t2_cb, t2_pk]
    · rw [u2, hcu 2 (by decide), s2, e11, ← gw 36 (by decide) (by decide) (by decide), ← gw 8 (by decide) (by decide) (by decide)]
      show _ = if 2 < 11 ∧ _ then r_soBy_v (r_gp fr) (2 : Int32) else _
      by_cases q : (r_soBy_v (r_gp fr) (2 : Int32)).toInt = (-1 : Int32).toInt
      · rw [if_pos q]; simp [q, t2_cb, t2_pk]
      · rw [if_neg q]
        rw [m1] at q
        simp [q, t2_cb, t2_pk]
    · rw [u3, hcu 3 (by decide)]
      show _ = if 3 < 11 ∧ _ then r_soBy_v (r_gp fr) (3 : Int32) else _
      by_cases q : (r_soBy_v (r_gp fr) (3 : Int32)).toInt = (-1 : Int32).toInt
      · rw [if_pos q]; simp [q, t2_cb, t2_pk]
      · rw [if_neg q]
        rw [m1] at q
        simp [q, t2_cb, t2_pk]
  · exact qb.congr rfl rfl (fun w hw => Gw w (by omega))
  · rw [G3]
    unfold r_goFaults_j227_0
    rw [q6]
    by_cases q : (r_goFaults_f123 fr 11 280 6).toInt = 0
    · rw [if_pos q, if_pos q, gB 11 (Nat.le_refl 11) 3 (by decide) (by decide) (by decide) (by decide) (by decide) (by decide) (by decide) (by decide), e7]
    · rw [if_neg q, if_neg q]
end C0LAT
