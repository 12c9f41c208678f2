/-! 95.04.x2.lean.txt -/
section
/-! ===== the trial block at its plainest: begun, a second's frames, many seconds ===== -/
section C3BEG
variable {fc fr fc' fr' f g : t2_F} {C n p : Nat} {x v : Int32}
theorem c3_I.of2 (h : c2_I fc fr) (hv : -99999 ≤ v.toInt ∧ v.toInt ≤ 99999) (P : ∀ p : Nat, 181 ≤ p → p < 271 → p ≠ 183 → p ≠ 184 → fc' p = fc p) (e3 : ∀ j : Nat, j ≠ 8 → fc' 183 j = fc 183 j) (e38 : (fc' 183 8).toInt = 0) (e4 : ∀ k : Nat, k ≠ 20 → k ≠ 23 → fc' 184 k = fc 184 k) (e20 : fc' 184 20 = v) (W : ∀ w : Nat, 2 ≤ w → w < 1420 → w ≠ 54 → fr' 280 w = fr 280 w) (w54 : fr' 280 54 = v) : c3_I fc' fr' := by
  obtain ⟨⟨⟨g5, g6, g7, g8⟩, ⟨g9, g10, g11, g12⟩, g13, g14, g15, g16⟩, rs, ⟨⟨gk, ⟨z1, z2, z3⟩, ⟨r1, r2, r3⟩, gp, g7', gd⟩, gw, tr, gm⟩, cl, ok⟩ := h
  have P1 : fc' 181 = fc 181 := P 181 (by decide) (by decide) (by decide) (by decide)
  have n16 := ok.2.1.2.2.1
  have n24 := ok.2.2.2.2.2.1.1
  have W' : ∀ w : Nat, w ≠ 54 → 2 ≤ w → w < 1420 → fr' 280 w = fr 280 w := fun w a b c => W w b c a
  refine ⟨⟨⟨?_, ?_, ?_, ?_⟩, ⟨?_, ?_, ?_, ?_⟩, ?_, ?_, ?_, ?_⟩, fun k hk => ?_, ⟨⟨?_, ⟨?_, fun k hk => ?_, fun k hk => ?_⟩, ⟨e38, ?_⟩, fun k hk => ?_, ?_, fun j hj => ?_⟩, gw.congr (P _ (by decide) (by decide) (by decide) (by decide)) (P _ (by decide) (by decide) (by decide) (by decide)) (P _ (by decide) (by decide) (by decide) (by decide)) (P _ (by decide) (by decide) (by decide) (by decide)) (P _ (by decide) (by decide) (by decide) (by decide)) (fun w hw => W w (by omega) (by omega) (by omega)), tr.congr (P _ (by decide) (by decide) (by decide) (by decide)) (P _ (by decide) (by decide) (by decide) (by decide)) (fun w hw => W w (by omega) (by omega) (by omega)), gm.congr (fun p hp => P p (by omega) (by omega) (by omega) (by omega)) (fun w hw => W w (by omega) (by omega) (by omega))⟩, fun C hC => ?_, ?_⟩
  · rw [P1, W 2 (by decide) (by decide) (by decide), g5]
  · rw [P1, W 7 (by decide) (by decide) (by decide), g6]
  · rw [P1, W 3 (by decide) (by decide) (by decide), g7]
  · rw [P1, W 4 (by decide) (by decide) (by decide), g8]
  · rw [P1, W 5 (by decide) (by decide) (by decide), g9]
  · rw [P1, W 14 (by decide) (by decide) (by decide), g10]
  · rw [P1, W 8 (by decide) (by decide) (by decide), g11]
  · rw [P1, W 9 (by decide) (by decide) (by decide), g12]
  · rw [P1, W 10 (by decide) (by decide) (by decide), g13]
  · rw [P1, W 11 (by decide) (by decide) (by decide), g14]
  · rw [P1, W 12 (by decide) (by decide) (by decide), g15]
  · rw [P1, W 13 (by decide) (by decide) (by decide), g16]
  · by_cases e : k = 20
    · subst e
      rw [e20, w54]
    · rw [e4 k e hk.2, W (34 + k) (by omega) (by omega) (by omega)]
      exact rs k hk.1
  · exact gk.congr (P _ (by decide) (by decide) (by decide) (by decide)) (fun k hk => W _ (by omega) (by omega) (by omega))
  · rw [e3 6 (by decide), W 17 (by decide) (by decide) (by decide), z1]
  · rw [P 187 (by decide) (by decide) (by decide) (by decide), W _ (by omega) (by omega) (by omega)]
    exact z2 k hk
  · rw [W _ (by omega) (by omega) (by omega)]
    exact z3 k hk
  · rw [W 18 (by decide) (by decide) (by decide)]
    exact r2
  · rw [P 186 (by decide) (by decide) (by decide) (by decide), W _ (by omega) (by omega) (by omega)]
    exact gp k hk
  · rw [e3 7 (by decide), W 19 (by decide) (by decide) (by decide), g7']
  · rw [W 19 (by decide) (by decide) (by decide)] at hj
    rw [P 188 (by decide) (by decide) (by decide) (by decide), W _ (by omega) (by omega) (by omega)]
    exact gd j hj
  · rw [W 2 (by decide) (by decide) (by decide)] at hC
    exact ⟨(cl C hC).1.congr (P _ (by omega) (by omega) (by omega) (by omega)) (fun k hk => W _ (by omega) (by omega) (by omega)), (cl C hC).2.congr (fun j _ _ => by rw [P _ (by omega) (by omega) (by omega) (by omega)]) (fun p hp => P p (by omega) (by omega) (by omega) (by omega)) (fun w hw => W _ (by omega) (by omega) (by omega))⟩
  · refine ok.upd (fun w hw => W w (by omega) (by omega) (by omega)) (fun k hk => ?_) (by rw [W 5 (by decide) (by decide) (by decide)]; exact ok.2.1.1) (by rw [W 4 (by decide) (by decide) (by decide)]; exact ok.2.1.2.1) (by rw [W 7 (by decide) (by decide) (by decide)]; exact ok.2.1.2.2.2) (by rw [W 16 (by decide) (by decide) (by decide), W 20 (by decide) (by decide) (by decide), W 21 (by decide) (by decide) (by decide)]; exact ok.2.2.2.2.2.2.1) (fun C hC => ?_)
    · by_cases e : k = 20
      · subst e
        have q20 : t2_lo 20 = -99999 ∧ t2_hi 20 = 99999 := by decide
        show t2_lo 20 ≤ (fr' 280 54).toInt ∧ (fr' 280 54).toInt ≤ t2_hi 20
        rw [w54]
        omega
      · rw [W _ (by omega) (by omega) (by omega)]
        exact ok.s hk
    · exact (ok.2.2.2.2.2.2.2 C hC).congr (fun w hw => W _ (by omega) (by omega) (by omega)) (by rw [W 7 (by decide) (by decide) (by decide)]; exact Int.le_refl _)
theorem t3_meas184 (nt : t3_nt f) : c2_sMeasure_m f 184 = f 184 := by
  have e : ∀ w : Nat → Int32, fl_row (c2_sMeasure_f46 f ((f 181 5).toInt.toNat)) 181 w 184 = f 184 := fun w => by rw [fl_row_ne (by decide), c2_f46_p (by decide) (by decide)]
  unfold c2_sMeasure_m
  split
  · rw [t3_taper (by unfold t3_nt; rw [e]; exact nt), e]
  · rw [e]
theorem c3_I.s184 (h : c3_I fc fr) (ht : (fr 280 7).toInt < 9999) (nt : t3_nt fc) : c2_sec_m fc 184 = fc 184 := by
  obtain ⟨i1, i2, i3, i4, i5, i6, im, -, ⟨i8, -⟩, ik, -⟩ := h.chain ht nt
  have n4 : c2_s5 (c2_balance_m (c2_passCells_m (c2_letCurrent_m (c2_moveBus_m (c2_s1 fc))))) 184 = fc 184 := by
    have e5 : ∀ f : t2_F, c2_s5 f 184 = f 184 := fun f => fl_row_ne (by decide)
    rw [e5, i4.balP 184 (by decide) (fun C => by omega), c2_cells_p (Or.inr (fun C _ => by omega)) (by have := i3.hc; omega), i2.curP 184 (by decide) (fun C => by omega), c2_moveBus_fr (by decide)]
    exact fl_row_ne (by decide)
  have z := ik.2.2.1.1.2.2.1.1
  unfold c2_sec_m
  rw [t3_rules z]
  unfold c2_s9
  rw [fl_row_ne (by decide)]
  unfold c2_sKeep_m
  rw [c2_sKeep_f25_fr (fun j hj => by omega) (fun j hj => by omega) (fun j hj => by omega) (fun j hj => by omega), c2_tadd_fr (by decide) (by decide), c2_s8_p (by decide) (by decide)]
  unfold c2_u6
  rw [t3_meas184 (by unfold t3_nt; rw [n4]; exact nt), n4]
theorem c3_I.curP' (h : c3_I fc fr) (hp : p < 181 ∨ 271 ≤ p) : c2_letCurrent_m fc p = fc p := by
  have cn := h.cnt
  obtain ⟨⟨⟨g5, g6, g7, g8⟩, -⟩, rs, gx, cl, ok⟩ := id h
  have hm0 : t2_lo 4 ≤ (fr 280 38).toInt ∧ (fr 280 38).toInt ≤ t2_hi 4 := ok.s (k := 4) (by decide)
  have l4 : t2_lo 4 = 1 := by decide
  have h4 : t2_hi 4 = 99999 := by decide
  obtain ⟨-, -, -, k4, -⟩ := c3_cur_eq h.rl g7 gx.1.1 ok.2.2.1 (by omega)
  exact funext (fun k => k4 p k (fun q => absurd q (by omega)) (fun C c q => absurd q (by omega)))
theorem c3_I.balP' (h : c3_I fc fr) (hp : p < 181 ∨ 271 ≤ p) : c2_balance_m fc p = fc p := by
  have hh := h
  obtain ⟨⟨⟨g5, g6, g7, g8⟩, ⟨g9, g10, g11, g12⟩, g13, g14, g15, g16⟩, rs, gx, cl, ok⟩ := h
  have cn := hh.cnt
  generalize hnn : (fr 280 2).toInt.toNat = n at *
  have hM : (fc 181 5).toInt.toNat = n := by omega
  have oc : ∀ C : Nat, C < n → t2_OC (fr 280) C := fun C hC => (hh.cell (by omega)).2
  have rc : ∀ C : Nat, C < n → c2_Rc fc fr C := fun C hC => (hh.cell (by omega)).1.1
  have rb : c3_RB fc fr n := ⟨rs, fun C hC => ⟨rc C hC, by rw [(rc C hC).1.1]; exact (oc C hC).1.1, (oc C hC).1⟩, g14, g15, g11, g13, g16⟩
  have b13 : t2_lo 13 ≤ (fr 280 47).toInt ∧ (fr 280 47).toInt ≤ t2_hi 13 := ok.s (k := 13) (by decide)
  have q13 : t2_lo 13 = 0 ∧ t2_hi 13 = 16 := by decide
  have hl : fc 190 3 = fr 280 6 := gx.2.1.1.1
  obtain ⟨P, -, -, -⟩ := c3_balance_o hM hnn cn.2.1 rb hl g6 (by omega)
  exact P p (by omega) (fun C hC => by omega)
theorem c3_u6_P (h : c3_I fc fr) (ht : (fr 280 7).toInt < 9999) (nt : t3_nt fc) (hp : p < 181 ∨ 271 ≤ p) : c2_u6 fc p = fc p := by
  obtain ⟨i1, i2, i3, i4, i5, i6, -⟩ := h.chain ht nt
  have b6 := i6.hc
  unfold c2_u6
  rw [(c2_measure_o (n := (c2_s5 (c2_balance_m (c2_passCells_m (c2_letCurrent_m (c2_moveBus_m (c2_s1 fc))))) 181 5).toInt.toNat) rfl).1 p (by omega) (by omega) (fun C hC => by omega)]
  have e5 : ∀ f : t2_F, c2_s5 f p = f p := fun f => fl_row_ne (by omega)
  rw [e5, i4.balP' hp, c2_cells_p (Or.inr (fun C hC => by omega)) (by have := i3.hc; omega), i2.curP' hp, c2_moveBus_fr (by omega)]
  exact fl_row_ne (by omega)
theorem c3_I.secP (h : c3_I fc fr) (ht : (fr 280 7).toInt < 9999) (nt : t3_nt fc) (hp : p < 181 ∨ 271 ≤ p) : c2_sec_m fc p = fc p := by
  obtain ⟨-, -, -, -, -, -, -, -, ⟨i8, -⟩, -, -⟩ := h.chain ht nt
  have b8 := i8.hc
  unfold c2_sec_m c2_s9
  rw [fl_row_ne (by omega), c2_obeyRules_fr (by omega)]
  unfold c2_sKeep_m
  rw [c2_sKeep_f25_fr (fun j hj => by omega) (fun j hj => by omega) (fun j hj => by omega) (fun j hj => by omega), c2_tadd_fr (by omega) (by omega), c2_s8_p (by omega) (by omega), c3_u6_P h ht nt hp]
theorem r_w6_p {p : Nat} (h280 : p ≠ 280) (h277 : p ≠ 277) (h282 : p ≠ 282) : r_w6 f p = f p := by
  unfold r_w6
  rw [r_goMeasure_fr h280]
  unfold r_t5
  rw [fl_row_ne h280, r_goBalance_fr h277 h282 h280, r_goCells_fr h280, r_goCurrent_fr h280, r_goBus_fr h277 h280]
  exact fl_row_ne h280
theorem r_psec_p {p : Nat} (h280 : p ≠ 280) (h277 : p ≠ 277) (h282 : p ≠ 282) : r_psec_m f p = f p := by
  unfold r_psec_m
  rw [r_kept_p h280, r_goFaults_fr h280, r_w6_p h280 h277 h282]
theorem c3_I.time (h : c3_I fc fr) (ht : (fr 280 7).toInt < 9999) (nt : t3_nt fc) : (r_psec_m fr 280 7).toInt = (fr 280 7).toInt + 1 := by
  obtain ⟨i1, i2, i3, i4, i5, i6, im, -, ⟨i8, -⟩, ik, -⟩ := h.chain ht nt
  have k1 := (h.s1 ht).2
  have ok8 := i8.2.2.2.2
  unfold r_psec_m
  have e1 : r_goKept_m (r_goFaults_m (r_w6 fr)) 280 7 = r_goFaults_m (r_w6 fr) 280 7 := by
    unfold r_goKept_m
    exact r_goKept_f117_w ok8.2.1.2.2.1 (fun C hC => (ok8.2.2.2.2.2.2.2 C hC).1) ok8.2.2.2.2.2.2.1.2.2 (fun C hC => ⟨(ok8.2.2.2.2.2.2.2 C hC).2.2.2.2.2.2.2.1, (ok8.2.2.2.2.2.2.2 C hC).2.2.2.2.2.2.2.2.1⟩) (Nat.le_refl _) (Or.inl (by decide)) (by decide)
  rw [e1, r_goFaults_w im.2.2.2.2.2.2.2.2.2.2.1.2.1 (by decide)]
  unfold r_w6
  rw [r_meas_mid (by decide), r_mid_lo (by decide) (by decide) (by decide)]
  unfold r_t5
  rw [fl_row_self, upd_ne (by decide), r_goBalance_w (by decide), r_cells_lo (by decide), i2.cur.2 7 (by decide) (fun C _ => by omega), r_goBus_w2, if_neg (by decide), if_neg (by decide), k1]
noncomputable def r_prunN (f : t2_F) : Nat → t2_F
  | 0 => f
  | k + 1 => r_psec_m (r_prunN f k)
def c3_K (fc fr : t2_F) : Prop := c3_I fc fr ∧ c2_J fc ∧ t2_RS fr ∧ fr 277 7 = 1
theorem t3_nt.same (nt : t3_nt f) (e : g 184 = f 184) : t3_nt g := by
  unfold t3_nt
  rw [e]
  exact nt
theorem c3_K.run (h : c3_K fc fr) (nt : t3_nt fc) : ∀ k : Nat, (fr 280 7).toInt + k ≤ 9999 → c3_K (c2_runN fc k) (r_prunN fr k) ∧ (r_prunN fr k 280 7).toInt = (fr 280 7).toInt + k ∧ c2_runN fc k 184 = fc 184 ∧ (∀ p : Nat, p < 181 ∨ 271 ≤ p → c2_runN fc k p = fc p) := by
  intro k
  induction k with
  | zero => intro _; exact ⟨h, by show (fr 280 7).toInt = _; omega, rfl, fun _ _ => rfl⟩
  | succ k ih =>
    intro hk
    obtain ⟨⟨a, b, d, e⟩, t, s, pp⟩ := ih (by omega)
    have ht : (r_prunN fr k 280 7).toInt < 9999 := by omega
    have nk := nt.same s
    obtain ⟨-, -, -, -, -, -, -, -, -, -, q⟩ := a.chain ht nk
    refine ⟨⟨q, c3_J_sec a ht nk b, d.same (r_psec_p (by decide) (by decide) (by decide)), ?_⟩, ?_, ?_, fun p hp => ?_⟩
    · show r_psec_m (r_prunN fr k) 277 7 = 1
      rw [(a.p277 ht nk (by decide) (by decide)).2, e]
    · show (r_psec_m (r_prunN fr k) 280 7).toInt = _
      rw [a.time ht nk]
      omega
    · show c2_sec_m (c2_runN fc k) 184 = _
      rw [a.s184 ht nk, s]
    · show c2_sec_m (c2_runN fc k) p = _
      rw [a.secP ht nk hp, pp p hp]
theorem c3_K.sec (h : c3_K fc fr) (ht : (fr 280 7).toInt < 9999) (nt : t3_nt fc) : c2_sec_v fc = r_psec_v fr := by
  obtain ⟨-, -, -, -, -, -, -, -, ⟨-, q⟩, -, -⟩ := h.1.chain ht nt
  exact q
end C3BEG

end

/-! 95.05.cmp.lean.txt -/
section
/-! ===== this row's own, printed by wip/t2/cmp ===== -/
theorem x_yi_A {L : Nat} {xs : Nat → Int32} {f : t2_F} {l : t2_L} {Q : Option fl_V → fl_M → Prop} {a : Int32}  (k : ((t2_within_v a (1 : Int32) (99999 : Int32)).toInt = 0) → Q (some (.inl (-1 : Int32))) (f, l)) (k1 : (¬ ((t2_within_v a (1 : Int32) (99999 : Int32)).toInt = 0)) → fl_Tq (pw_P L xs) 166 20 [some (.inr (.inr (.inl (0, 0)))), some (.inl a), none] [.inr (.inr (.inl (1, 1))), .inr (.inr (.inl (49, 181)))] (f, l) Q) : fl_Tq (pw_P L xs) 166 0 [some (.inr (.inr (.inl (0, 0)))), some (.inl a), none] [] (f, l) Q := by
  refine fl_Tq.stp (pc' := 1) (lv' := [some (.inr (.inr (.inl (0, 0)))), some (.inl a), none]) (st' := [.inl a]) (m' := (f, l)) rfl rfl (fl_bo rfl) rfl ?_
  refine fl_Tq.cI (c := (1 : Int32)) rfl (by decide +kernel) (fl_bo rfl) ?_
  refine fl_Tq.stp (pc' := 4) (lv' := [some (.inr (.inr (.inl (0, 0)))), some (.inl a), none]) (st' := [.inl (99999 : Int32), .inl (1 : Int32), .inl a]) (m' := (f, l)) rfl rfl (fl_bo rfl) rfl ?_
  refine fl_Tq.cal rfl rfl (fl_bo rfl) rfl ?_
  refine t2_within_q  ?_
  show fl_Tq _ 166 7 [some (.inr (.inr (.inl (0, 0)))), some (.inl a), none] [.inl (t2_within_v a (1 : Int32) (99999 : Int32))] (f, l) _
  by_cases h1 : (t2_within_v a (1 : Int32) (99999 : Int32)).toInt = 0
  · refine fl_Tq.zf rfl (fl_bo rfl) (c1_ne_f h1) rfl ?_
    refine fl_Tq.cI (c := (-1 : Int32)) rfl (by decide +kernel) (fl_bo rfl) ?_
    exact fl_Tq.ret rfl rfl rfl (k h1)
  · refine fl_Tq.zt rfl (fl_bo rfl) (c1_ne_t h1) rfl ?_
    refine fl_Tq.stp (pc' := 13) (lv' := [some (.inr (.inr (.inl (0, 0)))), some (.inl a), none]) (st' := [.inr (.inr (.inl (0, 0)))]) (m' := (f, l)) rfl rfl (fl_bo rfl) rfl ?_
    refine fl_Tq.stp (pc' := 16) (lv' := [some (.inr (.inr (.inl (0, 0)))), some (.inl a), none]) (st' := [.inr (.inr (.inl (49, 181)))]) (m' := (f, l)) rfl rfl (fl_bo rfl) rfl ?_
    refine fl_Tq.stp (pc' := 17) (lv' := [some (.inr (.inr (.inl (0, 0)))), some (.inl a), none]) (st' := [.inr (.inr (.inl (0, 0))), .inr (.inr (.inl (49, 181)))]) (m' := (f, l)) rfl rfl (fl_bo rfl) rfl ?_
    refine fl_Tq.stp (pc' := 20) (lv' := [some (.inr (.inr (.inl (0, 0)))), some (.inl a), none]) (st' := [.inr (.inr (.inl (1, 1))), .inr (.inr (.inl (49, 181)))]) (m' := (f, l)) rfl rfl (fl_bo rfl) rfl ?_
    exact k1 h1
theorem x_yi_B {L : Nat} {xs : Nat → Int32} {f : t2_F} {l : t2_L} {Q : Option fl_V → fl_M → Prop} {a : Int32}  (k : fl_Tq (pw_P L xs) 166 51 [some (.inr (.inr (.inl (0, 0)))), some (.inl a), some (.inl (1 : Int32))] [] (fl_row (fl_row f 183 (upd (f 183) 8 (0 : Int32))) 184 (upd (f 184) 20 (-a)), l) Q) : fl_Tq (pw_P L xs) 166 23 [some (.inr (.inr (.inl (0, 0)))), some (.inl a), none] [] (f, l) Q := by
  refine fl_Tq.stp (pc' := 24) (lv' := [some (.inr (.inr (.inl (0, 0)))), some (.inl a), none]) (st' := [.inr (.inr (.inl (0, 0)))]) (m' := (f, l)) rfl rfl (fl_bo rfl) rfl ?_
  refine fl_Tq.stp (pc' := 27) (lv' := [some (.inr (.inr (.inl (0, 0)))), some (.inl a), none]) (st' := [.inr (.inr (.inl (49, 181)))]) (m' := (f, l)) rfl rfl (fl_bo rfl) rfl ?_
  refine fl_Tq.stp (pc' := 30) (lv' := [some (.inr (.inr (.inl (0, 0)))), some (.inl a), none]) (st' := [.inr (.inr (.inl (51, 183)))]) (m' := (f, l)) rfl rfl (fl_bo rfl) rfl ?_
  refine fl_Tq.cI (c := (0 : Int32)) rfl (by decide +kernel) (fl_bo rfl) ?_
  refine fl_Tq.pfV (k := 8) (m' := (fl_row f 183 (upd (f 183) 8 (0 : Int32)), l)) rfl (fl_bo rfl) rfl (t2_upn rfl) ?_
  refine fl_Tq.stp (pc' := 35) (lv' := [some (.inr (.inr (.inl (0, 0)))), some (.inl a), none]) (st' := [.inr (.inr (.inl (0, 0)))]) (m' := (fl_row f 183 (upd (f 183) 8 (0 : Int32)), l)) rfl rfl (fl_bo rfl) rfl ?_
  refine fl_Tq.stp (pc' := 38) (lv' := [some (.inr (.inr (.inl (0, 0)))), some (.inl a), none]) (st' := [.inr (.inr (.inl (49, 181)))]) (m' := (fl_row f 183 (upd (f 183) 8 (0 : Int32)), l)) rfl rfl (fl_bo rfl) rfl ?_
  refine fl_Tq.stp (pc' := 41) (lv' := [some (.inr (.inr (.inl (0, 0)))), some (.inl a), none]) (st' := [.inr (.inr (.inl (51, 183)))]) (m' := (fl_row f 183 (upd (f 183) 8 (0 : Int32)), l)) rfl rfl (fl_bo rfl) rfl ?_
  refine fl_Tq.stp (pc' := 44) (lv' := [some (.inr (.inr (.inl (0, 0)))), some (.inl a), none]) (st' := [.inr (.inr (.inl (52, 184)))]) (m' := (fl_row f 183 (upd (f 183) 8 (0 : Int32)), l)) rfl rfl (fl_bo rfl) rfl ?_
  refine fl_Tq.cB (c := (20 : Int32)) rfl (by decide +kernel) (fl_bo rfl) ?_
  refine fl_Tq.stp (pc' := 47) (lv' := [some (.inr (.inr (.inl (0, 0)))), some (.inl a), none]) (st' := [.inl a, .inl (20 : Int32), .inr (.inr (.inl (52, 184)))]) (m' := (fl_row f 183 (upd (f 183) 8 (0 : Int32)), l)) rfl rfl (fl_bo rfl) rfl ?_
  refine fl_Tq.stp (pc' := 48) (lv' := [some (.inr (.inr (.inl (0, 0)))), some (.inl a), none]) (st' := [.inl (-a), .inl (20 : Int32), .inr (.inr (.inl (52, 184)))]) (m' := (fl_row f 183 (upd (f 183) 8 (0 : Int32)), l)) rfl rfl (fl_bo rfl) rfl ?_
  refine fl_Tq.svV (p := 184) (τ := 52) (n := 30) (z := (0, 0, 0)) (k := 20) (m' := (fl_row (fl_row f 183 (upd (f 183) 8 (0 : Int32))) 184 (upd (f 184) 20 (-a)), l)) rfl (fl_bo rfl) rfl (by decide +kernel) (by decide) (t2_upn (by rw [fl_row_ne (by decide : 184 ≠ 183)])) ?_
  refine fl_Tq.cI (c := (1 : Int32)) rfl (by decide +kernel) (fl_bo rfl) ?_
  refine fl_Tq.stp (pc' := 51) (lv' := [some (.inr (.inr (.inl (0, 0)))), some (.inl a), some (.inl (1 : Int32))]) (st' := []) (m' := (fl_row (fl_row f 183 (upd (f 183) 8 (0 : Int32))) 184 (upd (f 184) 20 (-a)), l)) rfl rfl (fl_bo rfl) rfl ?_
  exact k
theorem x_yi_C {L : Nat} {xs : Nat → Int32} {f : t2_F} {l : t2_L} {Q : Option fl_V → fl_M → Prop} {a : Int32} {j : Nat}  (k : ((2000 : Int32).toInt < (Int32.ofNat j).toInt) → Q (some (.inl (-1 : Int32))) (f, l)) (k1 : (¬ ((2000 : Int32).toInt < (Int32.ofNat j).toInt)) → ((f 181 6).toInt < (9999 : Int32).toInt) → fl_Tq (pw_P L xs) 166 75 [some (.inr (.inr (.inl (0, 0)))), some (.inl a), some (.inl (Int32.ofNat j))] [.inr (.inr (.inl (49, 181)))] (f, l) Q) (k2 : (¬ ((2000 : Int32).toInt < (Int32.ofNat j).toInt)) → (¬ ((f 181 6).toInt < (9999 : Int32).toInt)) → Q (some (.inl (-1 : Int32))) (f, l)) : fl_Tq (pw_P L xs) 166 51 [some (.inr (.inr (.inl (0, 0)))), some (.inl a), some (.inl (Int32.ofNat j))] [] (f, l) Q := by
  refine fl_Tq.stp (pc' := 52) (lv' := [some (.inr (.inr (.inl (0, 0)))), some (.inl a), some (.inl (Int32.ofNat j))]) (st' := [.inl (Int32.ofNat j)]) (m' := (f, l)) rfl rfl (fl_bo rfl) rfl ?_
  refine fl_Tq.cS (c := (2000 : Int32)) rfl (by decide +kernel) (fl_bo rfl) ?_
  by_cases h1 : (2000 : Int32).toInt < (Int32.ofNat j).toInt
  · refine fl_Tq.jt rfl (fl_bo rfl) (c2_gt_t h1) rfl ?_
    refine fl_Tq.cI (c := (-1 : Int32)) rfl (by decide +kernel) (fl_bo rfl) ?_
    exact fl_Tq.ret rfl rfl rfl (k h1)
  · refine fl_Tq.jf rfl (fl_bo rfl) (c2_gt_f h1) rfl ?_
    refine fl_Tq.stp (pc' := 59) (lv' := [some (.inr (.inr (.inl (0, 0)))), some (.inl a), some (.inl (Int32.ofNat j))]) (st' := [.inr (.inr (.inl (0, 0)))]) (m' := (f, l)) rfl rfl (fl_bo rfl) rfl ?_
    refine fl_Tq.stp (pc' := 62) (lv' := [some (.inr (.inr (.inl (0, 0)))), some (.inl a), some (.inl (Int32.ofNat j))]) (st' := [.inr (.inr (.inl (49, 181)))]) (m' := (f, l)) rfl rfl (fl_bo rfl) rfl ?_
    refine fl_Tq.gfV (k := 6) (v := f 181 6) rfl (fl_bo rfl) rfl rfl ?_
    refine fl_Tq.cS (c := (9999 : Int32)) rfl (by decide +kernel) (fl_bo rfl) ?_
    by_cases h2 : (f 181 6).toInt < (9999 : Int32).toInt
    · refine fl_Tq.jf rfl (fl_bo rfl) (c2_ge_f h2) rfl ?_
      refine fl_Tq.stp (pc' := 72) (lv' := [some (.inr (.inr (.inl (0, 0)))), some (.inl a), some (.inl (Int32.ofNat j))]) (st' := [.inr (.inr (.inl (0, 0)))]) (m' := (f, l)) rfl rfl (fl_bo rfl) rfl ?_
      refine fl_Tq.stp (pc' := 75) (lv' := [some (.inr (.inr (.inl (0, 0)))), some (.inl a), some (.inl (Int32.ofNat j))]) (st' := [.inr (.inr (.inl (49, 181)))]) (m' := (f, l)) rfl rfl (fl_bo rfl) rfl ?_
      exact k1 h1 h2
    · refine fl_Tq.jt rfl (fl_bo rfl) (c2_ge_t h2) rfl ?_
      refine fl_Tq.cI (c := (-1 : Int32)) rfl (by decide +kernel) (fl_bo rfl) ?_
      exact fl_Tq.ret rfl rfl rfl (k2 h1 h2)
theorem x_yi_D {L : Nat} {xs : Nat → Int32} {f : t2_F} {l : t2_L} {Q : Option fl_V → fl_M → Prop} {a z : Int32} {j : Nat}  (k : ((f 181 9).toInt = (-a).toInt) → fl_Tq (pw_P L xs) 166 51 [some (.inr (.inr (.inl (0, 0)))), some (.inl a), some (.inl ((Int32.ofNat j) + (1 : Int32)))] [] (f, l) Q) (k1 : (¬ ((f 181 9).toInt = (-a).toInt)) → Q (some (.inl (Int32.ofNat j))) (f, l)) : fl_Tq (pw_P L xs) 166 78 [some (.inr (.inr (.inl (0, 0)))), some (.inl a), some (.inl (Int32.ofNat j))] [.inl z] (f, l) Q := by
  refine fl_Tq.stp (pc' := 79) (lv' := [some (.inr (.inr (.inl (0, 0)))), some (.inl a), some (.inl (Int32.ofNat j))]) (st' := []) (m' := (f, l)) rfl rfl (fl_bo rfl) rfl ?_
  refine fl_Tq.stp (pc' := 80) (lv' := [some (.inr (.inr (.inl (0, 0)))), some (.inl a), some (.inl (Int32.ofNat j))]) (st' := [.inr (.inr (.inl (0, 0)))]) (m' := (f, l)) rfl rfl (fl_bo rfl) rfl ?_
  refine fl_Tq.stp (pc' := 83) (lv' := [some (.inr (.inr (.inl (0, 0)))), some (.inl a), some (.inl (Int32.ofNat j))]) (st' := [.inr (.inr (.inl (49, 181)))]) (m' := (f, l)) rfl rfl (fl_bo rfl) rfl ?_
  refine fl_Tq.gfV (k := 9) (v := f 181 9) rfl (fl_bo rfl) rfl rfl ?_
  refine fl_Tq.stp (pc' := 87) (lv' := [some (.inr (.inr (.inl (0, 0)))), some (.inl a), some (.inl (Int32.ofNat j))]) (st' := [.inl a, .inl (f 181 9)]) (m' := (f, l)) rfl rfl (fl_bo rfl) rfl ?_
  refine fl_Tq.stp (pc' := 88) (lv' := [some (.inr (.inr (.inl (0, 0)))), some (.inl a), some (.inl (Int32.ofNat j))]) (st' := [.inl (-a), .inl (f 181 9)]) (m' := (f, l)) rfl rfl (fl_bo rfl) rfl ?_
  by_cases h1 : (f 181 9).toInt = (-a).toInt
  · refine fl_Tq.jt rfl (fl_bo rfl) (c2_eq_t h1) rfl ?_
    refine fl_Tq.stp (pc' := 96) (lv' := [some (.inr (.inr (.inl (0, 0)))), some (.inl a), some (.inl ((Int32.ofNat j) + (1 : Int32)))]) (st' := []) (m' := (f, l)) rfl rfl (fl_bo rfl) rfl ?_
    refine fl_Tq.stp (pc' := 51) (lv' := [some (.inr (.inr (.inl (0, 0)))), some (.inl a), some (.inl ((Int32.ofNat j) + (1 : Int32)))]) (st' := []) (m' := (f, l)) rfl rfl (fl_bo rfl) rfl ?_
    exact k h1
  · refine fl_Tq.jf rfl (fl_bo rfl) (c2_eq_f h1) rfl ?_
    refine fl_Tq.stp (pc' := 92) (lv' := [some (.inr (.inr (.inl (0, 0)))), some (.inl a), some (.inl (Int32.ofNat j))]) (st' := [.inl (Int32.ofNat j)]) (m' := (f, l)) rfl rfl (fl_bo rfl) rfl ?_
    exact fl_Tq.ret rfl rfl rfl (k1 h1)
def tz_c166 : at_C := (166, [.inl (0, some 0), .inr (false, -2147483648, 2147483647)], [], some (.inr (false, -1, 2000)), false, [(49, false, 5, 16), (51, false, 6, 8), (52, false, 0, 29), (53, false, 0, 2), (54, false, 0, 23), (55, false, 0, 11), (56, false, 0, 47), (57, false, 0, 39), (58, false, 3, 6), (59, false, 0, 10), (60, false, 0, 3), (61, false, 2, 3), (62, false, -69, 140), (64, false, 2, 3), (65, false, -93, 188), (66, false, 0, 18), (67, false, 2, 2), (68, false, 0, 31), (69, false, 0, 10), (70, false, 2, 3), (71, false, 0, 15), (72, false, 0, 15)])
set_option maxRecDepth 100000 in
theorem tz_c166_in : tz_c166 ∈ at_CM ++ at_CA := List.mem_of_getElem? (i := 175) rfl
def tz_c317 : at_C := (317, [.inl (76, some 277), .inr (false, -2147483648, 2147483647)], [], some (.inr (false, -1, 2000)), false, [(76, false, 4, 4), (76, false, 6, 7), (79, false, 2, 1419), (79, true, 1, 1), (79, true, 3, 4), (79, true, 7, 8), (79, true, 10, 60), (81, false, 0, 15), (82, false, 0, 1417)])
set_option maxRecDepth 100000 in
theorem tz_c317_in : tz_c317 ∈ at_CM ++ at_CA := List.mem_of_getElem? (i := 272) rfl
/-! ===== yields, on both sides ===== -/
noncomputable def r_prunV (f : t2_F) : Nat → Int32
  | 0 => (0 : Int32)
  | k + 1 => r_prunV f k + r_psec_v (r_prunN f k)
noncomputable def t3_is (F : t2_F) (a : Int32) (j : Nat) : Int32 := if j = 0 then (0 : Int32) else (if (c2_runN F j 181 9).toInt = (-a).toInt then (0 : Int32) else (1 : Int32))
theorem t2_cmp {L : Nat} {xs : Nat → Int32} {f : t2_F} {l : t2_L} {a : Int32} (hall : ∀ c ∈ at_CM ++ at_CA, at_Valid at_XI (pw_P L xs) c) (hg : t2_Z (f, l)) : fl_Tq (pw_P L xs) 166 0 (fl_args (am_mxl (pw_P L xs) 166) [lx_x, .inl a]) [] (f, l) (t2_End L xs 317 [at_this, .inl a]) := by
  have I : c0_I f f := hg.2.1
  have c0 : (0 : Int32).toInt = 0 := rfl
  have c1 : (1 : Int32).toInt = 1 := by decide +kernel
  have c9 : (9999 : Int32).toInt = 9999 := by decide +kernel
  have c20 : (2000 : Int32).toInt = 2000 := by decide +kernel
  have c99 : (99999 : Int32).toInt = 99999 := by decide +kernel
  have t7 : 0 ≤ (f 280 7).toInt ∧ (f 280 7).toInt ≤ 9999 := I.2.2.2.2.2.1.2.2.2
  refine t2_trial (hall _ tz_c166_in) rfl hg ⟨lx_kx _, lx_ki _, True.intro⟩ rfl (fun m Z => t2_acall (hall _ tz_c317_in) rfl Z ⟨at_k277 _, lx_ki _, True.intro⟩ rfl rfl rfl (t2_z317 hall Z.1 Z.2.2.2.2)) ?_
  show fl_Tq (pw_P L xs) 166 0 [some (.inr (.inr (.inl (0, 0)))), some (.inl a), none] [] (f, l) _
  refine x_yi_A (fun h1 => ?_) (fun h1 => ?_)
  · refine ⟨f, _, rfl, rfl, fun p _ => rfl, ?_⟩
    show fl_Tq (pw_P L xs) 317 0 [some (.inr (.inr (.inl (76, 277)))), some (.inl a), none, none, none] [] (f, l) _
    exact z317_A (fun _ => rfl) (fun h => absurd h1 h)
  have h1' := h1
  rw [t2_w0, Classical.not_not, c1, c99] at h1
  have na : (-a).toInt = -a.toInt := by rw [Int32.toInt_neg, Int.bmod_eq_of_le (by omega) (by omega)]
  refine fl_Tq.cal rfl rfl (fl_bo rfl) rfl ?_
  refine t2_begun hg (fun M mf K => ?_)
  refine x_yi_B ?_
  have FP : ∀ p : Nat, p ≠ 183 → p ≠ 184 → (fl_row (fl_row M 183 (upd (M 183) 8 (0 : Int32))) 184 (upd (M 184) 20 (-a))) p = M p := fun p h3 h4 => by rw [fl_row_ne h4, fl_row_ne h3]
  have F3 : (fl_row (fl_row M 183 (upd (M 183) 8 (0 : Int32))) 184 (upd (M 184) 20 (-a))) 183 = upd (M 183) 8 (0 : Int32) := by rw [fl_row_ne (by decide), fl_row_self]
  have F4 : (fl_row (fl_row M 183 (upd (M 183) 8 (0 : Int32))) 184 (upd (M 184) 20 (-a))) 184 = upd (M 184) 20 (-a) := by rw [fl_row_self]
  generalize fl_row (fl_row M 183 (upd (M 183) 8 (0 : Int32))) 184 (upd (M 184) 20 (-a)) = F at FP F3 F4 ⊢
  have nt : t3_nt F := Or.inr (by rw [F4, upd_self, na]; omega)
  have KG : ∀ g : t2_F, g 280 = f 280 → g 279 = f 279 → c3_K F (fl_row (fl_row g 277 (upd (g 277) 7 (1 : Int32))) 280 (upd (g 280) 54 (-a))) := fun g g280 g279 => by
    refine ⟨c3_I.of2 K.1 (v := -a) (by omega) (fun p _ _ h3 h4 => FP p h3 h4) (fun j hj => by rw [F3, upd_ne hj]) (by rw [F3, upd_self]; exact c0) (fun k hk _ => by rw [F4, upd_ne hk]) (by rw [F4, upd_self]) (fun w _ _ hw => by rw [fl_row_self, upd_ne hw, g280]) (by rw [fl_row_self, upd_self]), K.2.1.congr (fun p hp => FP p (by omega) (by omega)), K.2.2.1.same (by rw [fl_row_ne (by decide), fl_row_ne (by decide), g279]), ?_⟩
    rw [fl_row_ne (by decide), fl_row_self, upd_self]
  have T7 : ∀ g : t2_F, g 280 = f 280 → (fl_row (fl_row g 277 (upd (g 277) 7 (1 : Int32))) 280 (upd (g 280) 54 (-a))) 280 7 = f 280 7 := fun g g280 => by rw [fl_row_self, upd_ne (by decide), g280]
  obtain ⟨n, hn⟩ : ∃ n : Nat, (n : Int) = min 2000 (9999 - (f 280 7).toInt) := ⟨(min 2000 (9999 - (f 280 7).toInt)).toNat, by omega⟩
  have RUN : ∀ g : t2_F, g 280 = f 280 → g 279 = f 279 → ∀ k : Nat, k ≤ n → c3_K (c2_runN F k) (r_prunN (fl_row (fl_row g 277 (upd (g 277) 7 (1 : Int32))) 280 (upd (g 280) 54 (-a))) k) ∧ (r_prunN (fl_row (fl_row g 277 (upd (g 277) 7 (1 : Int32))) 280 (upd (g 280) 54 (-a))) k 280 7).toInt = (f 280 7).toInt + k := fun g h0 h9 k hk => by
    have r := (KG g h0 h9).run nt k (by rw [T7 g h0]; omega)
    rw [T7 g h0] at r
    exact ⟨r.1, r.2.1⟩
  have NT : ∀ k : Nat, k ≤ n → t3_nt (c2_runN F k) := fun k hk => by
    have r := (KG f rfl rfl).run nt k (by rw [T7 f rfl]; omega)
    exact nt.same r.2.2.1
  have PN : ∀ k : Nat, k ≤ n → ∀ p : Nat, p < 181 ∨ 271 ≤ p → c2_runN F k p = f p := fun k hk p hp => by
    have r := (KG f rfl rfl).run nt k (by rw [T7 f rfl]; omega)
    rw [r.2.2.2 p hp, FP p (by omega) (by omega), mf p hp]
  have TN : ∀ k : Nat, k ≤ n → (c2_runN F k 181 6).toInt = (f 280 7).toInt + k := fun k hk => by
    obtain ⟨r, t⟩ := RUN f rfl rfl k hk
    rw [r.1.1.1.2.1]
    exact t
  -- the first second in which the current isn't that
  obtain ⟨F0, F1⟩ := t2_fst_p (fun k => decide (¬ (c2_runN F (k + 1) 181 9).toInt = (-a).toInt)) n
  have FL := t2_fst_le (fun k => decide (¬ (c2_runN F (k + 1) 181 9).toInt = (-a).toInt)) n
  generalize t2_fst (fun k => decide (¬ (c2_runN F (k + 1) 181 9).toInt = (-a).toInt)) n = N at F0 F1 FL
  have f0 : ∀ k : Nat, k < N → (c2_runN F (k + 1) 181 9).toInt = (-a).toInt := fun k hk => Classical.not_not.mp (of_decide_eq_false (F0 k hk))
  have f1 : N < n → ¬ (c2_runN F (N + 1) 181 9).toInt = (-a).toInt := fun h => of_decide_eq_true (F1 h)
  have is0 : ∀ j : Nat, j ≤ N → t3_is F a j = 0 := fun j hj => by
    unfold t3_is
    by_cases e : j = 0
    · rw [if_pos e]
    · have := f0 (j - 1) (by omega)
      rw [show j - 1 + 1 = j by omega] at this
      rw [if_neg e, if_pos this]
  -- the reference, from what the class leaves
  have ref : ∀ (J : Nat) (y : Int32), J ≤ n → (∀ j : Nat, j < J → t3_is F a j = 0) → ((t3_is F a J = 0 ∧ J = n ∧ y = -1) ∨ (t3_is F a J = 1 ∧ y = Int32.ofNat J)) → ∀ G : t2_F, (∀ p : Nat, p < 181 ∨ 271 ≤ p → G p = f p) → fl_Tq (pw_P L xs) 317 0 (fl_args (am_mxl (pw_P L xs) 317) [at_this, .inl a]) [] (G, l) (fun v2 _ => v2 = some (.inl y)) := by
    intro J y hJ hz hy G hG
    show fl_Tq (pw_P L xs) 317 0 [some (.inr (.inr (.inl (76, 277)))), some (.inl a), none, none, none] [] (G, l) _
    refine z317_A (fun h => absurd h h1') (fun _ => ?_)
    refine fl_Tq.cal rfl rfl (fl_bo rfl) rfl ?_
    refine r_putAside_q (m := (G, l)) (fun g gp _ => ?_)
    have gp : ∀ p : Nat, p ≠ 283 → g p = G p := gp
    refine z317_B ?_
    have R := RUN g ((gp 280 (by decide)).trans (hG 280 (Or.inr (by decide)))) ((gp 279 (by decide)).trans (hG 279 (Or.inr (by decide))))
    generalize fl_row (fl_row g 277 (upd (g 277) 7 (1 : Int32))) 280 (upd (g 280) 54 (-a)) = H at R ⊢
    have fin : ∀ (b c : Int32) (H' : t2_F), c = t3_is F a J → fl_Tq (pw_P L xs) 317 99 [some (.inr (.inr (.inl (76, 277)))), some (.inl a), some (.inl (Int32.ofNat J)), some (.inl b), some (.inl c)] [.inr (.inr (.inl (76, 277)))] (H', l) (fun v2 _ => v2 = some (.inl y)) := by
      intro b c H' hc
      refine fl_Tq.cal rfl rfl (fl_bo rfl) rfl ?_
      refine r_bringBack_q (m := (H', l)) (fun g2 _ _ _ => ?_)
      refine z317_E ?_
      show some (Sum.inl (z317_E_j104_0 a b c J)) = some (Sum.inl y)
      unfold z317_E_j104_0
      rcases hy with ⟨e, -, rfl⟩ | ⟨e, rfl⟩
      · rw [hc, e, if_pos c0]
      · rw [hc, e, if_neg (by decide)]
    refine t2_for (n := J) (S := fun j => fl_Tq (pw_P L xs) 317 37 [some (.inr (.inr (.inl (76, 277)))), some (.inl a), some (.inl (Int32.ofNat j)), some (.inl (r_prunV H j)), some (.inl (t3_is F a j))] [] (r_prunN H j, l) (fun v2 _ => v2 = some (.inl y))) (fun j hj hS => ?_) ?_
    · have ej : (Int32.ofNat j).toInt = j := at_ofN (by omega)
      obtain ⟨r, t⟩ := R j (by omega)
      have z := hz j hj
      refine z317_C (fun _ _ _ => ?_) (fun _ _ h => absurd (by rw [t, c9]; omega) h) (fun _ h => absurd (by rw [ej, c20]; omega) h) (fun h => absurd (by rw [z]; exact c0) h)
      refine fl_Tq.cal rfl rfl (fl_bo rfl) rfl ?_
      refine c3_rsec_q r.1 (by rw [t]; omega) (NT j (by omega)) r.2.2.1 r.2.2.2 ?_
      refine z317_D ?_
      rw [t2_k1]
      have e5 : z317_D_j80_0 (r_psec_m (r_prunN H j)) a (r_prunV H j) (t3_is F a j) (r_psec_v (r_prunN H j)) j = t3_is F a (j + 1) := by
        obtain ⟨r', -⟩ := R (j + 1) (by omega)
        have w5 : c2_runN F (j + 1) 181 9 = r_psec_m (r_prunN H j) 280 5 := r'.1.1.2.1.1
        unfold z317_D_j80_0 t3_is
        rw [if_neg (Nat.succ_ne_zero j), w5]
      rw [e5]
      exact hS
    · have eJ : (Int32.ofNat J).toInt = J := at_ofN (by omega)
      obtain ⟨r, t⟩ := R J hJ
      refine z317_C (fun h h2 h3 => ?_) (fun _ _ _ => fin _ _ _ rfl) (fun _ _ => fin _ _ _ rfl) (fun _ => fin _ _ _ rfl)
      rw [eJ, c20] at h2
      rw [t, c9] at h3
      rcases hy with ⟨-, e, -⟩ | ⟨e, -⟩
      · omega
      · rw [e, c1] at h
        omega
  refine t2_for (n := N) (S := fun j => fl_Tq (pw_P L xs) 166 51 [some (.inr (.inr (.inl (0, 0)))), some (.inl a), some (.inl (Int32.ofNat (j + 1)))] [] (c2_runN F j, l) _) (fun j hj hS => ?_) ?_
  · have ej : (Int32.ofNat (j + 1)).toInt = ((j + 1 : Nat) : Int) := at_ofN (by omega)
    obtain ⟨r, t⟩ := RUN f rfl rfl j (by omega)
    have tt := TN j (by omega)
    refine x_yi_C (fun h => absurd h (by rw [ej, c20]; omega)) (fun _ _ => ?_) (fun _ h => absurd (by rw [tt, c9]; omega) h)
    refine fl_Tq.cal rfl rfl (fl_bo rfl) rfl ?_
    refine c3_sec_q r.1 (by rw [t]; omega) (NT j (by omega)) r.2.1 ?_
    refine x_yi_D (fun _ => ?_) (fun h => absurd (f0 j hj) h)
    rw [t2_k1]
    exact hS
  · have eN : (Int32.ofNat (N + 1)).toInt = ((N + 1 : Nat) : Int) := at_ofN (by omega)
    obtain ⟨r, t⟩ := RUN f rfl rfl N FL
    have tt := TN N FL
    have none_ : N = n → ∃ (G : t2_F) (y : Int32), (some (.inl (-1 : Int32)) : Option fl_V) = some (.inl y) ∧ ((c2_runN F N, l) : fl_M) = (G, l) ∧ (∀ p : Nat, p < 181 ∨ 271 ≤ p → G p = f p) ∧ fl_Tq (pw_P L xs) 317 0 (fl_args (am_mxl (pw_P L xs) 317) [at_this, .inl a]) [] (G, l) (fun v2 _ => v2 = some (.inl y)) := fun e =>
      ⟨_, _, rfl, rfl, PN N FL, ref N _ FL (fun j hj => is0 j (by omega)) (Or.inl ⟨is0 N (Nat.le_refl _), e, rfl⟩) _ (PN N FL)⟩
    refine x_yi_C (fun h => ?_) (fun h h2 => ?_) (fun h h2 => ?_)
    · rw [eN, c20] at h
      exact none_ (by omega)
    · rw [eN, c20] at h
      rw [tt, c9] at h2
      have hN : N < n := by omega
      refine fl_Tq.cal rfl rfl (fl_bo rfl) rfl ?_
      refine c3_sec_q r.1 (by rw [t]; omega) (NT N FL) r.2.1 ?_
      refine x_yi_D (fun e => absurd e (f1 hN)) (fun _ => ?_)
      refine ⟨_, _, rfl, rfl, PN (N + 1) hN, ref (N + 1) _ hN (fun j hj => is0 j (by omega)) (Or.inr ⟨?_, rfl⟩) _ (PN (N + 1) hN)⟩
      unfold t3_is
      rw [if_neg (Nat.succ_ne_zero N), if_neg (f1 hN)]
    · rw [tt, c9] at h2
      exact none_ (by omega)

end

/-! 95.10.lawx.lean.txt -/
section
/-! ===== printed by wip/gen/lawgen3.py: contracts, codes that are wanting ===== -/
set_option maxRecDepth 1000000 in
theorem lx_l273 : am_cl nw_P0 0 (.invokevirtual 273) = some (317, 2) := by decide +kernel

end

/-! 95.11.lawcase.lean.txt -/
section
/-! ===== printed by wip/gen/lawgen3.py: the law's cases ===== -/
theorem ly_c0 {L : Nat} {xs : Nat → Int32} {m : fl_M} {Q : Option fl_V → fl_M → Prop} {i : Nat} (hall : ∀ c ∈ at_CM ++ at_CA, at_Valid at_XI (pw_P L xs) c) (hL : L ≤ 3072) (hi : i + 6 ≤ L) (hg : t2_Z m) (kk : ∀ m' : fl_M, t2_Z m' → fl_Tq (pw_P L xs) 0 2030 (lx_lv i) [] m' Q) : fl_Tq (pw_P L xs) 0 320 (lx_lv i) [] m Q := by
  obtain ⟨f, l⟩ := m
  refine fl_Tq.stp (pw_cod lx_k320) rfl (fl_bo rfl) rfl ?_
  refine lx_arg (i := i) (jn := 1) (pw_cod lx_k321) (pw_cod lx_k322) (pw_cod lx_k323) (pw_cod lx_k324) (pw_cod lx_k325) rfl (fl_bo rfl) hL (by omega) ?_
  refine lx_arg (i := i) (jn := 2) (pw_cod lx_k326) (pw_cod lx_k327) (pw_cod lx_k328) (pw_cod lx_k329) (pw_cod lx_k330) rfl (fl_bo rfl) hL (by omega) ?_
  refine lx_arg (i := i) (jn := 3) (pw_cod lx_k331) (pw_cod lx_k332) (pw_cod lx_k333) (pw_cod lx_k334) (pw_cod lx_k335) rfl (fl_bo rfl) hL (by omega) ?_
  refine lx_callG (as_ := [lx_x, .inl (xs (i + 1)), .inl (xs (i + 2)), .inl (xs (i + 3))]) (rest := []) (pw_cod lx_k336) (pw_cll lx_l13) rfl (fl_bo rfl) rfl rfl (t2_step (ar := [at_this, .inl (xs (i + 1)), .inl (xs (i + 2)), .inl (xs (i + 3))]) (hall _ at_c101_in) (hall _ at_c243_in) rfl rfl hg ⟨lx_kx _, lx_ki _, lx_ki _, lx_ki _, True.intro⟩ rfl (fun _ => ⟨at_k277 _, lx_ki _, lx_ki _, lx_ki _, True.intro⟩) rfl (t2_cell hg)) (fun v1 m1 hg1 => ?_)
  obtain ⟨⟨y1, rfl⟩, hg1⟩ := hg1
  refine fl_Tq.stp (pw_cod lx_k339) rfl (fl_bo rfl) rfl ?_
  refine fl_Tq.stp (pw_cod lx_k340) rfl (fl_bo rfl) rfl ?_
  refine lx_arg (i := i) (jn := 1) (pw_cod lx_k341) (pw_cod lx_k342) (pw_cod lx_k343) (pw_cod lx_k344) (pw_cod lx_k345) rfl (fl_bo rfl) hL (by omega) ?_
  refine lx_arg (i := i) (jn := 2) (pw_cod lx_k346) (pw_cod lx_k347) (pw_cod lx_k348) (pw_cod lx_k349) (pw_cod lx_k350) rfl (fl_bo rfl) hL (by omega) ?_
  refine lx_arg (i := i) (jn := 3) (pw_cod lx_k351) (pw_cod lx_k352) (pw_cod lx_k353) (pw_cod lx_k354) (pw_cod lx_k355) rfl (fl_bo rfl) hL (by omega) ?_
  refine lx_callG (as_ := [at_this, .inl (xs (i + 1)), .inl (xs (i + 2)), .inl (xs (i + 3))]) (rest := []) (pw_cod lx_k356) (pw_cll lx_l17) rfl (fl_bo rfl) rfl rfl hg1 (fun v2 m2 hg2 => ?_)
  obtain ⟨rfl, hg2⟩ := hg2
  refine fl_Tq.stp (pw_cod lx_k359) rfl (fl_bo rfl) rfl ?_
  refine fl_Tq.stp (pw_cod lx_k360) rfl (fl_bo rfl) rfl ?_
  exact kk m2 hg2
theorem ly_c1 {L : Nat} {xs : Nat → Int32} {m : fl_M} {Q : Option fl_V → fl_M → Prop} {i : Nat} (hall : ∀ c ∈ at_CM ++ at_CA, at_Valid at_XI (pw_P L xs) c) (hL : L ≤ 3072) (hi : i + 6 ≤ L) (hg : t2_Z m) (kk : ∀ m' : fl_M, t2_Z m' → fl_Tq (pw_P L xs) 0 2030 (lx_lv i) [] m' Q) : fl_Tq (pw_P L xs) 0 363 (lx_lv i) [] m Q := by
  obtain ⟨f, l⟩ := m
  refine fl_Tq.stp (pw_cod lx_k363) rfl (fl_bo rfl) rfl ?_
  refine lx_arg (i := i) (jn := 1) (pw_cod lx_k364) (pw_cod lx_k365) (pw_cod lx_k366) (pw_cod lx_k367) (pw_cod lx_k368) rfl (fl_bo rfl) hL (by omega) ?_
  refine lx_arg (i := i) (jn := 2) (pw_cod lx_k369) (pw_cod lx_k370) (pw_cod lx_k371) (pw_cod lx_k372) (pw_cod lx_k373) rfl (fl_bo rfl) hL (by omega) ?_
  refine lx_callG (as_ := [lx_x, .inl (xs (i + 1)), .inl (xs (i + 2))]) (rest := []) (pw_cod lx_k374) (pw_cll lx_l18) rfl (fl_bo rfl) rfl rfl (t2_step (ar := [at_this, .inl (xs (i + 1)), .inl (xs (i + 2))]) (hall _ at_c102_in) (hall _ at_c244_in) rfl rfl hg ⟨lx_kx _, lx_ki _, lx_ki _, True.intro⟩ rfl (fun _ => ⟨at_k277 _, lx_ki _, lx_ki _, True.intro⟩) rfl (t2_charge hg)) (fun v1 m1 hg1 => ?_)
  obtain ⟨⟨y1, rfl⟩, hg1⟩ := hg1
  refine fl_Tq.stp (pw_cod lx_k377) rfl (fl_bo rfl) rfl ?_
  refine fl_Tq.stp (pw_cod lx_k378) rfl (fl_bo rfl) rfl ?_
  refine lx_arg (i := i) (jn := 1) (pw_cod lx_k379) (pw_cod lx_k380) (pw_cod lx_k381) (pw_cod lx_k382) (pw_cod lx_k383) rfl (fl_bo rfl) hL (by omega) ?_
  refine lx_arg (i := i) (jn := 2) (pw_cod lx_k384) (pw_cod lx_k385) (pw_cod lx_k386) (pw_cod lx_k387) (pw_cod lx_k388) rfl (fl_bo rfl) hL (by omega) ?_
  refine lx_callG (as_ := [at_this, .inl (xs (i + 1)), .inl (xs (i + 2))]) (rest := []) (pw_cod lx_k389) (pw_cll lx_l22) rfl (fl_bo rfl) rfl rfl hg1 (fun v2 m2 hg2 => ?_)
  obtain ⟨rfl, hg2⟩ := hg2
  refine fl_Tq.stp (pw_cod lx_k392) rfl (fl_bo rfl) rfl ?_
  refine fl_Tq.stp (pw_cod lx_k393) rfl (fl_bo rfl) rfl ?_
  exact kk m2 hg2
theorem ly_c2 {L : Nat} {xs : Nat → Int32} {m : fl_M} {Q : Option fl_V → fl_M → Prop} {i : Nat} (hall : ∀ c ∈ at_CM ++ at_CA, at_Valid at_XI (pw_P L xs) c) (hL : L ≤ 3072) (hi : i + 6 ≤ L) (hg : t2_Z m) (kk : ∀ m' : fl_M, t2_Z m' → fl_Tq (pw_P L xs) 0 2030 (lx_lv i) [] m' Q) : fl_Tq (pw_P L xs) 0 396 (lx_lv i) [] m Q := by
  obtain ⟨f, l⟩ := m
  refine fl_Tq.stp (pw_cod lx_k396) rfl (fl_bo rfl) rfl ?_
  refine lx_arg (i := i) (jn := 1) (pw_cod lx_k397) (pw_cod lx_k398) (pw_cod lx_k399) (pw_cod lx_k400) (pw_cod lx_k401) rfl (fl_bo rfl) hL (by omega) ?_
  refine lx_arg (i := i) (jn := 2) (pw_cod lx_k402) (pw_cod lx_k403) (pw_cod lx_k404) (pw_cod lx_k405) (pw_cod lx_k406) rfl (fl_bo rfl) hL (by omega) ?_
  refine lx_callG (as_ := [lx_x, .inl (xs (i + 1)), .inl (xs (i + 2))]) (rest := []) (pw_cod lx_k407) (pw_cll lx_l23) rfl (fl_bo rfl) rfl rfl (t2_step (ar := [at_this, .inl (xs (i + 1)), .inl (xs (i + 2))]) (hall _ at_c103_in) (hall _ at_c245_in) rfl rfl hg ⟨lx_kx _, lx_ki _, lx_ki _, True.intro⟩ rfl (fun _ => ⟨at_k277 _, lx_ki _, lx_ki _, True.intro⟩) rfl (t2_warm hg)) (fun v1 m1 hg1 => ?_)
  obtain ⟨⟨y1, rfl⟩, hg1⟩ := hg1
  refine fl_Tq.stp (pw_cod lx_k410) rfl (fl_bo rfl) rfl ?_
  refine fl_Tq.stp (pw_cod lx_k411) rfl (fl_bo rfl) rfl ?_
  refine lx_arg (i := i) (jn := 1) (pw_cod lx_k412) (pw_cod lx_k413) (pw_cod lx_k414) (pw_cod lx_k415) (pw_cod lx_k416) rfl (fl_bo rfl) hL (by omega) ?_
  refine lx_arg (i := i) (jn := 2) (pw_cod lx_k417) (pw_cod lx_k418) (pw_cod lx_k419) (pw_cod lx_k420) (pw_cod lx_k421) rfl (fl_bo rfl) hL (by omega) ?_
  refine lx_callG (as_ := [at_this, .inl (xs (i + 1)), .inl (xs (i + 2))]) (rest := []) (pw_cod lx_k422) (pw_cll lx_l26) rfl (fl_bo rfl) rfl rfl hg1 (fun v2 m2 hg2 => ?_)
  obtain ⟨rfl, hg2⟩ := hg2
  refine fl_Tq.stp (pw_cod lx_k425) rfl (fl_bo rfl) rfl ?_
  refine fl_Tq.stp (pw_cod lx_k426) rfl (fl_bo rfl) rfl ?_
  exact kk m2 hg2
theorem ly_c3 {L : Nat} {xs : Nat → Int32} {m : fl_M} {Q : Option fl_V → fl_M → Prop} {i : Nat} (hall : ∀ c ∈ at_CM ++ at_CA, at_Valid at_XI (pw_P L xs) c) (hL : L ≤ 3072) (hi : i + 6 ≤ L) (hg : t2_Z m) (kk : ∀ m' : fl_M, t2_Z m' → fl_Tq (pw_P L xs) 0 2030 (lx_lv i) [] m' Q) : fl_Tq (pw_P L xs) 0 429 (lx_lv i) [] m Q := by
  obtain ⟨f, l⟩ := m
  refine fl_Tq.stp (pw_cod lx_k429) rfl (fl_bo rfl) rfl ?_
  refine lx_arg (i := i) (jn := 1) (pw_cod lx_k430) (pw_cod lx_k431) (pw_cod lx_k432) (pw_cod lx_k433) (pw_cod lx_k434) rfl (fl_bo rfl) hL (by omega) ?_
  refine lx_arg (i := i) (jn := 2) (pw_cod lx_k435) (pw_cod lx_k436) (pw_cod lx_k437) (pw_cod lx_k438) (pw_cod lx_k439) rfl (fl_bo rfl) hL (by omega) ?_
  refine lx_callG (as_ := [lx_x, .inl (xs (i + 1)), .inl (xs (i + 2))]) (rest := []) (pw_cod lx_k440) (pw_cll lx_l27) rfl (fl_bo rfl) rfl rfl (t2_step (ar := [at_this, .inl (xs (i + 1)), .inl (xs (i + 2))]) (hall _ at_c104_in) (hall _ at_c247_in) rfl rfl hg ⟨lx_kx _, lx_ki _, lx_ki _, True.intro⟩ rfl (fun _ => ⟨at_k277 _, lx_ki _, lx_ki _, True.intro⟩) rfl (t2_set hg)) (fun v1 m1 hg1 => ?_)
  obtain ⟨⟨y1, rfl⟩, hg1⟩ := hg1
  refine fl_Tq.stp (pw_cod lx_k443) rfl (fl_bo rfl) rfl ?_
  refine fl_Tq.stp (pw_cod lx_k444) rfl (fl_bo rfl) rfl ?_
  refine lx_arg (i := i) (jn := 1) (pw_cod lx_k445) (pw_cod lx_k446) (pw_cod lx_k447) (pw_cod lx_k448) (pw_cod lx_k449) rfl (fl_bo rfl) hL (by omega) ?_
  refine lx_arg (i := i) (jn := 2) (pw_cod lx_k450) (pw_cod lx_k451) (pw_cod lx_k452) (pw_cod lx_k453) (pw_cod lx_k454) rfl (fl_bo rfl) hL (by omega) ?_
  refine lx_callG (as_ := [at_this, .inl (xs (i + 1)), .inl (xs (i + 2))]) (rest := []) (pw_cod lx_k455) (pw_cll lx_l30) rfl (fl_bo rfl) rfl rfl hg1 (fun v2 m2 hg2 => ?_)
  obtain ⟨rfl, hg2⟩ := hg2
  refine fl_Tq.stp (pw_cod lx_k458) rfl (fl_bo rfl) rfl ?_
  refine fl_Tq.stp (pw_cod lx_k459) rfl (fl_bo rfl) rfl ?_
  exact kk m2 hg2
theorem ly_c4 {L : Nat} {xs : Nat → Int32} {m : fl_M} {Q : Option fl_V → fl_M → Prop} {i : Nat} (hall : ∀ c ∈ at_CM ++ at_CA, at_Valid at_XI (pw_P L xs) c) (hL : L ≤ 3072) (hi : i + 6 ≤ L) (hg : t2_Z m) (kk : ∀ m' : fl_M, t2_Z m' → fl_Tq (pw_P L xs) 0 2030 (lx_lv i) [] m' Q) : fl_Tq (pw_P L xs) 0 462 (lx_lv i) [] m Q := by
  obtain ⟨f, l⟩ := m
  refine fl_Tq.stp (pw_cod lx_k462) rfl (fl_bo rfl) rfl ?_
  refine lx_arg (i := i) (jn := 1) (pw_cod lx_k463) (pw_cod lx_k464) (pw_cod lx_k465) (pw_cod lx_k466) (pw_cod lx_k467) rfl (fl_bo rfl) hL (by omega) ?_
  refine lx_callG (as_ := [lx_x, .inl (xs (i + 1))]) (rest := []) (pw_cod lx_k468) (pw_cll lx_l31) rfl (fl_bo rfl) rfl rfl (t2_stepG (ar := [at_this, .inl (xs (i + 1))]) (hall _ at_c105_in) (hall _ at_c250_in) rfl rfl hg ⟨lx_kx _, lx_ki _, True.intro⟩ rfl (fun _ => ⟨at_k277 _, lx_ki _, True.intro⟩) rfl (t2_run hall hg)) (fun v1 m1 hg1 => ?_)
  obtain ⟨⟨y1, rfl⟩, hg1⟩ := hg1
  refine fl_Tq.stp (pw_cod lx_k471) rfl (fl_bo rfl) rfl ?_
  refine fl_Tq.stp (pw_cod lx_k472) rfl (fl_bo rfl) rfl ?_
  refine lx_arg (i := i) (jn := 1) (pw_cod lx_k473) (pw_cod lx_k474) (pw_cod lx_k475) (pw_cod lx_k476) (pw_cod lx_k477) rfl (fl_bo rfl) hL (by omega) ?_
  refine lx_callG (as_ := [at_this, .inl (xs (i + 1))]) (rest := []) (pw_cod lx_k478) (pw_cll lx_l35) rfl (fl_bo rfl) rfl rfl hg1 (fun v2 m2 hg2 => ?_)
  obtain ⟨rfl, hg2⟩ := hg2
  refine fl_Tq.stp (pw_cod lx_k481) rfl (fl_bo rfl) rfl ?_
  refine fl_Tq.stp (pw_cod lx_k482) rfl (fl_bo rfl) rfl ?_
  exact kk m2 hg2
theorem ly_c5 {L : Nat} {xs : Nat → Int32} {m : fl_M} {Q : Option fl_V → fl_M → Prop} {i : Nat} (hall : ∀ c ∈ at_CM ++ at_CA, at_Valid at_XI (pw_P L xs) c) (hL : L ≤ 3072) (hi : i + 6 ≤ L) (hg : t2_Z m) (kk : ∀ m' : fl_M, t2_Z m' → fl_Tq (pw_P L xs) 0 2030 (lx_lv i) [] m' Q) : fl_Tq (pw_P L xs) 0 485 (lx_lv i) [] m Q := by
  obtain ⟨f, l⟩ := m
  refine fl_Tq.stp (pw_cod lx_k485) rfl (fl_bo rfl) rfl ?_
  refine lx_callG (as_ := [lx_x]) (rest := []) (pw_cod lx_k486) (pw_cll lx_l36) rfl (fl_bo rfl) rfl rfl (t2_step (ar := [at_this]) (hall _ at_c106_in) (hall _ at_c251_in) rfl rfl hg ⟨lx_kx _, True.intro⟩ rfl (fun _ => ⟨at_k277 _, True.intro⟩) rfl (t2_close hg)) (fun v1 m1 hg1 => ?_)
  obtain ⟨⟨y1, rfl⟩, hg1⟩ := hg1
  refine fl_Tq.stp (pw_cod lx_k489) rfl (fl_bo rfl) rfl ?_
  refine fl_Tq.stp (pw_cod lx_k490) rfl (fl_bo rfl) rfl ?_
  refine lx_callG (as_ := [at_this]) (rest := []) (pw_cod lx_k491) (pw_cll lx_l40) rfl (fl_bo rfl) rfl rfl hg1 (fun v2 m2 hg2 => ?_)
  obtain ⟨rfl, hg2⟩ := hg2
  refine fl_Tq.stp (pw_cod lx_k494) rfl (fl_bo rfl) rfl ?_
  refine fl_Tq.stp (pw_cod lx_k495) rfl (fl_bo rfl) rfl ?_
  exact kk m2 hg2
theorem ly_c6 {L : Nat} {xs : Nat → Int32} {m : fl_M} {Q : Option fl_V → fl_M → Prop} {i : Nat} (hall : ∀ c ∈ at_CM ++ at_CA, at_Valid at_XI (pw_P L xs) c) (hL : L ≤ 3072) (hi : i + 6 ≤ L) (hg : t2_Z m) (kk : ∀ m' : fl_M, t2_Z m' → fl_Tq (pw_P L xs) 0 2030 (lx_lv i) [] m' Q) : fl_Tq (pw_P L xs) 0 498 (lx_lv i) [] m Q := by
  obtain ⟨f, l⟩ := m
  refine fl_Tq.stp (pw_cod lx_k498) rfl (fl_bo rfl) rfl ?_
  refine lx_callG (as_ := [lx_x]) (rest := []) (pw_cod lx_k499) (pw_cll lx_l41) rfl (fl_bo rfl) rfl rfl (t2_step (ar := [at_this]) (hall _ at_c107_in) (hall _ at_c252_in) rfl rfl hg ⟨lx_kx _, True.intro⟩ rfl (fun _ => ⟨at_k277 _, True.intro⟩) rfl (t2_open hg)) (fun v1 m1 hg1 => ?_)
  obtain ⟨⟨y1, rfl⟩, hg1⟩ := hg1
  refine fl_Tq.stp (pw_cod lx_k502) rfl (fl_bo rfl) rfl ?_
  refine fl_Tq.stp (pw_cod lx_k503) rfl (fl_bo rfl) rfl ?_
  refine lx_callG (as_ := [at_this]) (rest := []) (pw_cod lx_k504) (pw_cll lx_l44) rfl (fl_bo rfl) rfl rfl hg1 (fun v2 m2 hg2 => ?_)
  obtain ⟨rfl, hg2⟩ := hg2
  refine fl_Tq.stp (pw_cod lx_k507) rfl (fl_bo rfl) rfl ?_
  refine fl_Tq.stp (pw_cod lx_k508) rfl (fl_bo rfl) rfl ?_
  exact kk m2 hg2
theorem ly_c7 {L : Nat} {xs : Nat → Int32} {m : fl_M} {Q : Option fl_V → fl_M → Prop} {i : Nat} (hall : ∀ c ∈ at_CM ++ at_CA, at_Valid at_XI (pw_P L xs) c) (hL : L ≤ 3072) (hi : i + 6 ≤ L) (hg : t2_Z m) (kk : ∀ m' : fl_M, t2_Z m' → fl_Tq (pw_P L xs) 0 2030 (lx_lv i) [] m' Q) : fl_Tq (pw_P L xs) 0 511 (lx_lv i) [] m Q := by
  obtain ⟨f, l⟩ := m
  refine fl_Tq.stp (pw_cod lx_k511) rfl (fl_bo rfl) rfl ?_
  refine lx_arg (i := i) (jn := 1) (pw_cod lx_k512) (pw_cod lx_k513) (pw_cod lx_k514) (pw_cod lx_k515) (pw_cod lx_k516) rfl (fl_bo rfl) hL (by omega) ?_
  refine lx_callG (as_ := [lx_x, .inl (xs (i + 1))]) (rest := []) (pw_cod lx_k517) (pw_cll lx_l45) rfl (fl_bo rfl) rfl rfl (t2_step (ar := [at_this, .inl (xs (i + 1))]) (hall _ at_c108_in) (hall _ at_c254_in) rfl rfl hg ⟨lx_kx _, lx_ki _, True.intro⟩ rfl (fun _ => ⟨at_k277 _, lx_ki _, True.intro⟩) rfl (t2_reset hg)) (fun v1 m1 hg1 => ?_)
  obtain ⟨⟨y1, rfl⟩, hg1⟩ := hg1
  refine fl_Tq.stp (pw_cod lx_k520) rfl (fl_bo rfl) rfl ?_
  refine fl_Tq.stp (pw_cod lx_k521) rfl (fl_bo rfl) rfl ?_
  refine lx_arg (i := i) (jn := 1) (pw_cod lx_k522) (pw_cod lx_k523) (pw_cod lx_k524) (pw_cod lx_k525) (pw_cod lx_k526) rfl (fl_bo rfl) hL (by omega) ?_
  refine lx_callG (as_ := [at_this, .inl (xs (i + 1))]) (rest := []) (pw_cod lx_k527) (pw_cll lx_l49) rfl (fl_bo rfl) rfl rfl hg1 (fun v2 m2 hg2 => ?_)
  obtain ⟨rfl, hg2⟩ := hg2
  refine fl_Tq.stp (pw_cod lx_k530) rfl (fl_bo rfl) rfl ?_
  refine fl_Tq.stp (pw_cod lx_k531) rfl (fl_bo rfl) rfl ?_
  exact kk m2 hg2
theorem ly_c8 {L : Nat} {xs : Nat → Int32} {m : fl_M} {Q : Option fl_V → fl_M → Prop} {i : Nat} (hall : ∀ c ∈ at_CM ++ at_CA, at_Valid at_XI (pw_P L xs) c) (hL : L ≤ 3072) (hi : i + 6 ≤ L) (hg : t2_Z m) (kk : ∀ m' : fl_M, t2_Z m' → fl_Tq (pw_P L xs) 0 2030 (lx_lv i) [] m' Q) : fl_Tq (pw_P L xs) 0 534 (lx_lv i) [] m Q := by
  obtain ⟨f, l⟩ := m
  refine fl_Tq.stp (pw_cod lx_k534) rfl (fl_bo rfl) rfl ?_
  refine lx_arg (i := i) (jn := 1) (pw_cod lx_k535) (pw_cod lx_k536) (pw_cod lx_k537) (pw_cod lx_k538) (pw_cod lx_k539) rfl (fl_bo rfl) hL (by omega) ?_
  refine lx_arg (i := i) (jn := 2) (pw_cod lx_k540) (pw_cod lx_k541) (pw_cod lx_k542) (pw_cod lx_k543) (pw_cod lx_k544) rfl (fl_bo rfl) hL (by omega) ?_
  refine lx_callG (as_ := [lx_x, .inl (xs (i + 1)), .inl (xs (i + 2))]) (rest := []) (pw_cod lx_k545) (pw_cll lx_l50) rfl (fl_bo rfl) rfl rfl (t2_step (ar := [at_this, .inl (xs (i + 1)), .inl (xs (i + 2))]) (hall _ at_c109_in) (hall _ at_c258_in) rfl rfl hg ⟨lx_kx _, lx_ki _, lx_ki _, True.intro⟩ rfl (fun _ => ⟨at_k277 _, lx_ki _, lx_ki _, True.intro⟩) rfl (t2_stuck hg)) (fun v1 m1 hg1 => ?_)
  obtain ⟨⟨y1, rfl⟩, hg1⟩ := hg1
  refine fl_Tq.stp (pw_cod lx_k548) rfl (fl_bo rfl) rfl ?_
  refine fl_Tq.stp (pw_cod lx_k549) rfl (fl_bo rfl) rfl ?_
  refine lx_arg (i := i) (jn := 1) (pw_cod lx_k550) (pw_cod lx_k551) (pw_cod lx_k552) (pw_cod lx_k553) (pw_cod lx_k554) rfl (fl_bo rfl) hL (by omega) ?_
  refine lx_arg (i := i) (jn := 2) (pw_cod lx_k555) (pw_cod lx_k556) (pw_cod lx_k557) (pw_cod lx_k558) (pw_cod lx_k559) rfl (fl_bo rfl) hL (by omega) ?_
  refine lx_callG (as_ := [at_this, .inl (xs (i + 1)), .inl (xs (i + 2))]) (rest := []) (pw_cod lx_k560) (pw_cll lx_l53) rfl (fl_bo rfl) rfl rfl hg1 (fun v2 m2 hg2 => ?_)
  obtain ⟨rfl, hg2⟩ := hg2
  refine fl_Tq.stp (pw_cod lx_k563) rfl (fl_bo rfl) rfl ?_
  refine fl_Tq.stp (pw_cod lx_k564) rfl (fl_bo rfl) rfl ?_
  exact kk m2 hg2
theorem ly_c9 {L : Nat} {xs : Nat → Int32} {m : fl_M} {Q : Option fl_V → fl_M → Prop} {i : Nat} (hall : ∀ c ∈ at_CM ++ at_CA, at_Valid at_XI (pw_P L xs) c) (hL : L ≤ 3072) (hi : i + 6 ≤ L) (hg : t2_Z m) (kk : ∀ m' : fl_M, t2_Z m' → fl_Tq (pw_P L xs) 0 2030 (lx_lv i) [] m' Q) : fl_Tq (pw_P L xs) 0 567 (lx_lv i) [] m Q := by
  obtain ⟨f, l⟩ := m
  refine fl_Tq.stp (pw_cod lx_k567) rfl (fl_bo rfl) rfl ?_
  refine lx_arg (i := i) (jn := 1) (pw_cod lx_k568) (pw_cod lx_k569) (pw_cod lx_k570) (pw_cod lx_k571) (pw_cod lx_k572) rfl (fl_bo rfl) hL (by omega) ?_
  refine lx_arg (i := i) (jn := 2) (pw_cod lx_k573) (pw_cod lx_k574) (pw_cod lx_k575) (pw_cod lx_k576) (pw_cod lx_k577) rfl (fl_bo rfl) hL (by omega) ?_
  refine lx_callG (as_ := [lx_x, .inl (xs (i + 1)), .inl (xs (i + 2))]) (rest := []) (pw_cod lx_k578) (pw_cll lx_l54) rfl (fl_bo rfl) rfl rfl (t2_step (ar := [at_this, .inl (xs (i + 1)), .inl (xs (i + 2))]) (hall _ at_c110_in) (hall _ at_c259_in) rfl rfl hg ⟨lx_kx _, lx_ki _, lx_ki _, True.intro⟩ rfl (fun _ => ⟨at_k277 _, lx_ki _, lx_ki _, True.intro⟩) rfl (t2_zone hg)) (fun v1 m1 hg1 => ?_)
  obtain ⟨⟨y1, rfl⟩, hg1⟩ := hg1
  refine fl_Tq.stp (pw_cod lx_k581) rfl (fl_bo rfl) rfl ?_
  refine fl_Tq.stp (pw_cod lx_k582) rfl (fl_bo rfl) rfl ?_
  refine lx_arg (i := i) (jn := 1) (pw_cod lx_k583) (pw_cod lx_k584) (pw_cod lx_k585) (pw_cod lx_k586) (pw_cod lx_k587) rfl (fl_bo rfl) hL (by omega) ?_
  refine lx_arg (i := i) (jn := 2) (pw_cod lx_k588) (pw_cod lx_k589) (pw_cod lx_k590) (pw_cod lx_k591) (pw_cod lx_k592) rfl (fl_bo rfl) hL (by omega) ?_
  refine lx_callG (as_ := [at_this, .inl (xs (i + 1)), .inl (xs (i + 2))]) (rest := []) (pw_cod lx_k593) (pw_cll lx_l58) rfl (fl_bo rfl) rfl rfl hg1 (fun v2 m2 hg2 => ?_)
  obtain ⟨rfl, hg2⟩ := hg2
  refine fl_Tq.stp (pw_cod lx_k596) rfl (fl_bo rfl) rfl ?_
  refine fl_Tq.stp (pw_cod lx_k597) rfl (fl_bo rfl) rfl ?_
  exact kk m2 hg2
theorem ly_c10 {L : Nat} {xs : Nat → Int32} {m : fl_M} {Q : Option fl_V → fl_M → Prop} {i : Nat} (hall : ∀ c ∈ at_CM ++ at_CA, at_Valid at_XI (pw_P L xs) c) (hL : L ≤ 3072) (hi : i + 6 ≤ L) (hg : t2_Z m) (kk : ∀ m' : fl_M, t2_Z m' → fl_Tq (pw_P L xs) 0 2030 (lx_lv i) [] m' Q) : fl_Tq (pw_P L xs) 0 600 (lx_lv i) [] m Q := by
  obtain ⟨f, l⟩ := m
  refine fl_Tq.stp (pw_cod lx_k600) rfl (fl_bo rfl) rfl ?_
  refine lx_callG (as_ := [lx_x]) (rest := []) (pw_cod lx_k601) (pw_cll lx_l59) rfl (fl_bo rfl) rfl rfl (t2_step (ar := [at_this]) (hall _ at_c111_in) (hall _ at_c255_in) rfl rfl hg ⟨lx_kx _, True.intro⟩ rfl (fun _ => ⟨at_k277 _, True.intro⟩) rfl (t2_hear hg)) (fun v1 m1 hg1 => ?_)
  obtain ⟨⟨y1, rfl⟩, hg1⟩ := hg1
  refine fl_Tq.stp (pw_cod lx_k604) rfl (fl_bo rfl) rfl ?_
  refine fl_Tq.stp (pw_cod lx_k605) rfl (fl_bo rfl) rfl ?_
  refine lx_callG (as_ := [at_this]) (rest := []) (pw_cod lx_k606) (pw_cll lx_l63) rfl (fl_bo rfl) rfl rfl hg1 (fun v2 m2 hg2 => ?_)
  obtain ⟨rfl, hg2⟩ := hg2
  refine fl_Tq.stp (pw_cod lx_k609) rfl (fl_bo rfl) rfl ?_
  refine fl_Tq.stp (pw_cod lx_k610) rfl (fl_bo rfl) rfl ?_
  exact kk m2 hg2
theorem ly_c11 {L : Nat} {xs : Nat → Int32} {m : fl_M} {Q : Option fl_V → fl_M → Prop} {i : Nat} (hall : ∀ c ∈ at_CM ++ at_CA, at_Valid at_XI (pw_P L xs) c) (hL : L ≤ 3072) (hi : i + 6 ≤ L) (hg : t2_Z m) (kk : ∀ m' : fl_M, t2_Z m' → fl_Tq (pw_P L xs) 0 2030 (lx_lv i) [] m' Q) : fl_Tq (pw_P L xs) 0 613 (lx_lv i) [] m Q := by
  obtain ⟨f, l⟩ := m
  refine fl_Tq.stp (pw_cod lx_k613) rfl (fl_bo rfl) rfl ?_
  refine lx_arg (i := i) (jn := 1) (pw_cod lx_k614) (pw_cod lx_k615) (pw_cod lx_k616) (pw_cod lx_k617) (pw_cod lx_k618) rfl (fl_bo rfl) hL (by omega) ?_
  refine lx_arg (i := i) (jn := 2) (pw_cod lx_k619) (pw_cod lx_k620) (pw_cod lx_k621) (pw_cod lx_k622) (pw_cod lx_k623) rfl (fl_bo rfl) hL (by omega) ?_
  refine lx_callG (as_ := [lx_x, .inl (xs (i + 1)), .inl (xs (i + 2))]) (rest := []) (pw_cod lx_k624) (pw_cll lx_l64) rfl (fl_bo rfl) rfl rfl (t2_step (ar := [at_this, .inl (xs (i + 1)), .inl (xs (i + 2))]) (hall _ at_c112_in) (hall _ at_c256_in) rfl rfl hg ⟨lx_kx _, lx_ki _, lx_ki _, True.intro⟩ rfl (fun _ => ⟨at_k277 _, lx_ki _, lx_ki _, True.intro⟩) rfl (t2_price hg)) (fun v1 m1 hg1 => ?_)
  obtain ⟨⟨y1, rfl⟩, hg1⟩ := hg1
  refine fl_Tq.stp (pw_cod lx_k627) rfl (fl_bo rfl) rfl ?_
  refine fl_Tq.stp (pw_cod lx_k628) rfl (fl_bo rfl) rfl ?_
  refine lx_arg (i := i) (jn := 1) (pw_cod lx_k629) (pw_cod lx_k630) (pw_cod lx_k631) (pw_cod lx_k632) (pw_cod lx_k633) rfl (fl_bo rfl) hL (by omega) ?_
  refine lx_arg (i := i) (jn := 2) (pw_cod lx_k634) (pw_cod lx_k635) (pw_cod lx_k636) (pw_cod lx_k637) (pw_cod lx_k638) rfl (fl_bo rfl) hL (by omega) ?_
  refine lx_callG (as_ := [at_this, .inl (xs (i + 1)), .inl (xs (i + 2))]) (rest := []) (pw_cod lx_k639) (pw_cll lx_l67) rfl (fl_bo rfl) rfl rfl hg1 (fun v2 m2 hg2 => ?_)
  obtain ⟨rfl, hg2⟩ := hg2
  refine fl_Tq.stp (pw_cod lx_k642) rfl (fl_bo rfl) rfl ?_
  refine fl_Tq.stp (pw_cod lx_k643) rfl (fl_bo rfl) rfl ?_
  exact kk m2 hg2
theorem ly_c12 {L : Nat} {xs : Nat → Int32} {m : fl_M} {Q : Option fl_V → fl_M → Prop} {i : Nat} (hall : ∀ c ∈ at_CM ++ at_CA, at_Valid at_XI (pw_P L xs) c) (hL : L ≤ 3072) (hi : i + 6 ≤ L) (hg : t2_Z m) (kk : ∀ m' : fl_M, t2_Z m' → fl_Tq (pw_P L xs) 0 2030 (lx_lv i) [] m' Q) : fl_Tq (pw_P L xs) 0 646 (lx_lv i) [] m Q := by
  obtain ⟨f, l⟩ := m
  refine fl_Tq.stp (pw_cod lx_k646) rfl (fl_bo rfl) rfl ?_
  refine lx_arg (i := i) (jn := 1) (pw_cod lx_k647) (pw_cod lx_k648) (pw_cod lx_k649) (pw_cod lx_k650) (pw_cod lx_k651) rfl (fl_bo rfl) hL (by omega) ?_
  refine lx_callG (as_ := [lx_x, .inl (xs (i + 1))]) (rest := []) (pw_cod lx_k652) (pw_cll lx_l68) rfl (fl_bo rfl) rfl rfl (t2_step (ar := [at_this, .inl (xs (i + 1))]) (hall _ at_c113_in) (hall _ at_c257_in) rfl rfl hg ⟨lx_kx _, lx_ki _, True.intro⟩ rfl (fun _ => ⟨at_k277 _, lx_ki _, True.intro⟩) rfl (t2_mark hg)) (fun v1 m1 hg1 => ?_)
  obtain ⟨⟨y1, rfl⟩, hg1⟩ := hg1
  refine fl_Tq.stp (pw_cod lx_k655) rfl (fl_bo rfl) rfl ?_
  refine fl_Tq.stp (pw_cod lx_k656) rfl (fl_bo rfl) rfl ?_
  refine lx_arg (i := i) (jn := 1) (pw_cod lx_k657) (pw_cod lx_k658) (pw_cod lx_k659) (pw_cod lx_k660) (pw_cod lx_k661) rfl (fl_bo rfl) hL (by omega) ?_
  refine lx_callG (as_ := [at_this, .inl (xs (i + 1))]) (rest := []) (pw_cod lx_k662) (pw_cll lx_l71) rfl (fl_bo rfl) rfl rfl hg1 (fun v2 m2 hg2 => ?_)
  obtain ⟨rfl, hg2⟩ := hg2
  refine fl_Tq.stp (pw_cod lx_k665) rfl (fl_bo rfl) rfl ?_
  refine fl_Tq.stp (pw_cod lx_k666) rfl (fl_bo rfl) rfl ?_
  exact kk m2 hg2
theorem ly_c13 {L : Nat} {xs : Nat → Int32} {m : fl_M} {Q : Option fl_V → fl_M → Prop} {i : Nat} (hall : ∀ c ∈ at_CM ++ at_CA, at_Valid at_XI (pw_P L xs) c) (hL : L ≤ 3072) (hi : i + 6 ≤ L) (hg : t2_Z m) (kk : ∀ m' : fl_M, t2_Z m' → fl_Tq (pw_P L xs) 0 2030 (lx_lv i) [] m' Q) : fl_Tq (pw_P L xs) 0 669 (lx_lv i) [] m Q := by
  obtain ⟨f, l⟩ := m
  refine fl_Tq.stp (pw_cod lx_k669) rfl (fl_bo rfl) rfl ?_
  refine lx_arg (i := i) (jn := 1) (pw_cod lx_k670) (pw_cod lx_k671) (pw_cod lx_k672) (pw_cod lx_k673) (pw_cod lx_k674) rfl (fl_bo rfl) hL (by omega) ?_
  refine lx_arg (i := i) (jn := 2) (pw_cod lx_k675) (pw_cod lx_k676) (pw_cod lx_k677) (pw_cod lx_k678) (pw_cod lx_k679) rfl (fl_bo rfl) hL (by omega) ?_
  refine lx_callG (as_ := [lx_x, .inl (xs (i + 1)), .inl (xs (i + 2))]) (rest := []) (pw_cod lx_k680) (pw_cll lx_l72) rfl (fl_bo rfl) rfl rfl (t2_step (ar := [at_this, .inl (xs (i + 1)), .inl (xs (i + 2))]) (hall _ at_c114_in) (hall _ at_c260_in) rfl rfl hg ⟨lx_kx _, lx_ki _, lx_ki _, True.intro⟩ rfl (fun _ => ⟨at_k277 _, lx_ki _, lx_ki _, True.intro⟩) rfl (t2_piece hg)) (fun v1 m1 hg1 => ?_)
  obtain ⟨⟨y1, rfl⟩, hg1⟩ := hg1
  refine fl_Tq.stp (pw_cod lx_k683) rfl (fl_bo rfl) rfl ?_
  refine fl_Tq.stp (pw_cod lx_k684) rfl (fl_bo rfl) rfl ?_
  refine lx_arg (i := i) (jn := 1) (pw_cod lx_k685) (pw_cod lx_k686) (pw_cod lx_k687) (pw_cod lx_k688) (pw_cod lx_k689) rfl (fl_bo rfl) hL (by omega) ?_
  refine lx_arg (i := i) (jn := 2) (pw_cod lx_k690) (pw_cod lx_k691) (pw_cod lx_k692) (pw_cod lx_k693) (pw_cod lx_k694) rfl (fl_bo rfl) hL (by omega) ?_
  refine lx_callG (as_ := [at_this, .inl (xs (i + 1)), .inl (xs (i + 2))]) (rest := []) (pw_cod lx_k695) (pw_cll lx_l75) rfl (fl_bo rfl) rfl rfl hg1 (fun v2 m2 hg2 => ?_)
  obtain ⟨rfl, hg2⟩ := hg2
  refine fl_Tq.stp (pw_cod lx_k698) rfl (fl_bo rfl) rfl ?_
  refine fl_Tq.stp (pw_cod lx_k699) rfl (fl_bo rfl) rfl ?_
  exact kk m2 hg2
theorem ly_c14 {L : Nat} {xs : Nat → Int32} {m : fl_M} {Q : Option fl_V → fl_M → Prop} {i : Nat} (hall : ∀ c ∈ at_CM ++ at_CA, at_Valid at_XI (pw_P L xs) c) (hL : L ≤ 3072) (hi : i + 6 ≤ L) (hg : t2_Z m) (kk : ∀ m' : fl_M, t2_Z m' → fl_Tq (pw_P L xs) 0 2030 (lx_lv i) [] m' Q) : fl_Tq (pw_P L xs) 0 702 (lx_lv i) [] m Q := by
  obtain ⟨f, l⟩ := m
  refine fl_Tq.stp (pw_cod lx_k702) rfl (fl_bo rfl) rfl ?_
  refine lx_arg (i := i) (jn := 1) (pw_cod lx_k703) (pw_cod lx_k704) (pw_cod lx_k705) (pw_cod lx_k706) (pw_cod lx_k707) rfl (fl_bo rfl) hL (by omega) ?_
  refine lx_arg (i := i) (jn := 2) (pw_cod lx_k708) (pw_cod lx_k709) (pw_cod lx_k710) (pw_cod lx_k711) (pw_cod lx_k712) rfl (fl_bo rfl) hL (by omega) ?_
  refine lx_boolV (pw_cod lx_k713) (pw_cod lx_k716) (pw_cod lx_k717) (pw_cod lx_k720) (fl_bo rfl) rfl rfl ?_
  refine lx_arg (i := i) (jn := 3) (pw_cod lx_k721) (pw_cod lx_k722) (pw_cod lx_k723) (pw_cod lx_k724) (pw_cod lx_k725) rfl (fl_bo rfl) hL (by omega) ?_
  refine lx_arg (i := i) (jn := 4) (pw_cod lx_k726) (pw_cod lx_k727) (pw_cod lx_k728) (pw_cod lx_k729) (pw_cod lx_k730) rfl (fl_bo rfl) hL (by omega) ?_
  refine lx_arg (i := i) (jn := 5) (pw_cod lx_k731) (pw_cod lx_k732) (pw_cod lx_k733) (pw_cod lx_k734) (pw_cod lx_k735) rfl (fl_bo rfl) hL (by omega) ?_
  refine lx_callG (as_ := [lx_x, .inl (xs (i + 1)), .inl (t2_b01 (xs (i + 2))), .inl (xs (i + 3)), .inl (xs (i + 4)), .inl (xs (i + 5))]) (rest := []) (pw_cod lx_k736) (pw_cll lx_l76) rfl (fl_bo rfl) rfl rfl (t2_step (ar := [at_this, .inl (xs (i + 1)), .inl (t2_b01 (xs (i + 2))), .inl (xs (i + 3)), .inl (xs (i + 4)), .inl (xs (i + 5))]) (hall _ at_c115_in) (hall _ at_c261_in) rfl rfl hg ⟨lx_kx _, lx_ki _, t2_b01_k _, lx_ki _, lx_ki _, lx_ki _, True.intro⟩ rfl (fun _ => ⟨at_k277 _, lx_ki _, t2_b01_k _, lx_ki _, lx_ki _, lx_ki _, True.intro⟩) rfl (t2_rule hg)) (fun v1 m1 hg1 => ?_)
  obtain ⟨⟨y1, rfl⟩, hg1⟩ := hg1
  refine fl_Tq.stp (pw_cod lx_k739) rfl (fl_bo rfl) rfl ?_
  refine fl_Tq.stp (pw_cod lx_k740) rfl (fl_bo rfl) rfl ?_
  refine lx_arg (i := i) (jn := 1) (pw_cod lx_k741) (pw_cod lx_k742) (pw_cod lx_k743) (pw_cod lx_k744) (pw_cod lx_k745) rfl (fl_bo rfl) hL (by omega) ?_
  refine lx_arg (i := i) (jn := 2) (pw_cod lx_k746) (pw_cod lx_k747) (pw_cod lx_k748) (pw_cod lx_k749) (pw_cod lx_k750) rfl (fl_bo rfl) hL (by omega) ?_
  refine lx_boolV (pw_cod lx_k751) (pw_cod lx_k754) (pw_cod lx_k755) (pw_cod lx_k758) (fl_bo rfl) rfl rfl ?_
  refine lx_arg (i := i) (jn := 3) (pw_cod lx_k759) (pw_cod lx_k760) (pw_cod lx_k761) (pw_cod lx_k762) (pw_cod lx_k763) rfl (fl_bo rfl) hL (by omega) ?_
  refine lx_arg (i := i) (jn := 4) (pw_cod lx_k764) (pw_cod lx_k765) (pw_cod lx_k766) (pw_cod lx_k767) (pw_cod lx_k768) rfl (fl_bo rfl) hL (by omega) ?_
  refine lx_arg (i := i) (jn := 5) (pw_cod lx_k769) (pw_cod lx_k770) (pw_cod lx_k771) (pw_cod lx_k772) (pw_cod lx_k773) rfl (fl_bo rfl) hL (by omega) ?_
  refine lx_callG (as_ := [at_this, .inl (xs (i + 1)), .inl (t2_b01 (xs (i + 2))), .inl (xs (i + 3)), .inl (xs (i + 4)), .inl (xs (i + 5))]) (rest := []) (pw_cod lx_k774) (pw_cll lx_l80) rfl (fl_bo rfl) rfl rfl hg1 (fun v2 m2 hg2 => ?_)
  obtain ⟨rfl, hg2⟩ := hg2
  refine fl_Tq.stp (pw_cod lx_k777) rfl (fl_bo rfl) rfl ?_
  refine fl_Tq.stp (pw_cod lx_k778) rfl (fl_bo rfl) rfl ?_
  exact kk m2 hg2
theorem ly_c15 {L : Nat} {xs : Nat → Int32} {m : fl_M} {Q : Option fl_V → fl_M → Prop} {i : Nat} (hall : ∀ c ∈ at_CM ++ at_CA, at_Valid at_XI (pw_P L xs) c) (hL : L ≤ 3072) (hi : i + 6 ≤ L) (hg : t2_Z m) (kk : ∀ m' : fl_M, t2_Z m' → fl_Tq (pw_P L xs) 0 2030 (lx_lv i) [] m' Q) : fl_Tq (pw_P L xs) 0 781 (lx_lv i) [] m Q := by
  obtain ⟨f, l⟩ := m
  refine fl_Tq.stp (pw_cod lx_k781) rfl (fl_bo rfl) rfl ?_
  refine lx_callG (as_ := [lx_x]) (rest := []) (pw_cod lx_k782) (pw_cll lx_l81) rfl (fl_bo rfl) rfl rfl (t2_step (ar := [at_this]) (hall _ at_c116_in) (hall _ at_c263_in) rfl rfl hg ⟨lx_kx _, True.intro⟩ rfl (fun _ => ⟨at_k277 _, True.intro⟩) rfl (t2_unrule hg)) (fun v1 m1 hg1 => ?_)
  obtain ⟨⟨y1, rfl⟩, hg1⟩ := hg1
  refine fl_Tq.stp (pw_cod lx_k785) rfl (fl_bo rfl) rfl ?_
  refine fl_Tq.stp (pw_cod lx_k786) rfl (fl_bo rfl) rfl ?_
  refine lx_callG (as_ := [at_this]) (rest := []) (pw_cod lx_k787) (pw_cll lx_l84) rfl (fl_bo rfl) rfl rfl hg1 (fun v2 m2 hg2 => ?_)
  obtain ⟨rfl, hg2⟩ := hg2
  refine fl_Tq.stp (pw_cod lx_k790) rfl (fl_bo rfl) rfl ?_
  refine fl_Tq.stp (pw_cod lx_k791) rfl (fl_bo rfl) rfl ?_
  exact kk m2 hg2
theorem ly_c16 {L : Nat} {xs : Nat → Int32} {m : fl_M} {Q : Option fl_V → fl_M → Prop} {i : Nat} (hall : ∀ c ∈ at_CM ++ at_CA, at_Valid at_XI (pw_P L xs) c) (hL : L ≤ 3072) (hi : i + 6 ≤ L) (hg : t2_Z m) (kk : ∀ m' : fl_M, t2_Z m' → fl_Tq (pw_P L xs) 0 2030 (lx_lv i) [] m' Q) : fl_Tq (pw_P L xs) 0 794 (lx_lv i) [] m Q := by
  obtain ⟨f, l⟩ := m
  refine fl_Tq.stp (pw_cod lx_k794) rfl (fl_bo rfl) rfl ?_
  refine lx_callG (as_ := [lx_x]) (rest := []) (pw_cod lx_k795) (pw_cll lx_l85) rfl (fl_bo rfl) rfl rfl (t2_step (ar := [at_this]) (hall _ at_c117_in) (hall _ at_c264_in) rfl rfl hg ⟨lx_kx _, True.intro⟩ rfl (fun _ => ⟨at_k277 _, True.intro⟩) rfl (t2_wipe hg)) (fun v1 m1 hg1 => ?_)
  obtain ⟨⟨y1, rfl⟩, hg1⟩ := hg1
  refine fl_Tq.stp (pw_cod lx_k798) rfl (fl_bo rfl) rfl ?_
  refine fl_Tq.stp (pw_cod lx_k799) rfl (fl_bo rfl) rfl ?_
  refine lx_callG (as_ := [at_this]) (rest := []) (pw_cod lx_k800) (pw_cll lx_l88) rfl (fl_bo rfl) rfl rfl hg1 (fun v2 m2 hg2 => ?_)
  obtain ⟨rfl, hg2⟩ := hg2
  refine fl_Tq.stp (pw_cod lx_k803) rfl (fl_bo rfl) rfl ?_
  refine fl_Tq.stp (pw_cod lx_k804) rfl (fl_bo rfl) rfl ?_
  exact kk m2 hg2

end

/-! 95.12.lawcase.lean.txt -/
section
/-! ===== printed by wip/gen/lawgen3.py: the law's cases ===== -/
theorem ly_c17 {L : Nat} {xs : Nat → Int32} {m : fl_M} {Q : Option fl_V → fl_M → Prop} {i : Nat} (hall : ∀ c ∈ at_CM ++ at_CA, at_Valid at_XI (pw_P L xs) c) (hL : L ≤ 3072) (hi : i + 6 ≤ L) (hg : t2_Z m) (kk : ∀ m' : fl_M, t2_Z m' → fl_Tq (pw_P L xs) 0 2030 (lx_lv i) [] m' Q) : fl_Tq (pw_P L xs) 0 807 (lx_lv i) [] m Q := by
  obtain ⟨f, l⟩ := m
  refine fl_Tq.stp (pw_cod lx_k807) rfl (fl_bo rfl) rfl ?_
  refine lx_callG (as_ := [lx_x]) (rest := []) (pw_cod lx_k808) (pw_cll lx_l89) rfl (fl_bo rfl) rfl rfl (t2_stepG (ar := [at_this]) (hall _ at_c118_in) (hall _ at_c267_in) rfl rfl hg ⟨lx_kx _, True.intro⟩ rfl (fun _ => ⟨at_k277 _, True.intro⟩) rfl (t2_drive hall hg)) (fun v1 m1 hg1 => ?_)
  obtain ⟨⟨y1, rfl⟩, hg1⟩ := hg1
  refine fl_Tq.stp (pw_cod lx_k811) rfl (fl_bo rfl) rfl ?_
  refine fl_Tq.stp (pw_cod lx_k812) rfl (fl_bo rfl) rfl ?_
  refine lx_callG (as_ := [at_this]) (rest := []) (pw_cod lx_k813) (pw_cll lx_l92) rfl (fl_bo rfl) rfl rfl hg1 (fun v2 m2 hg2 => ?_)
  obtain ⟨rfl, hg2⟩ := hg2
  refine fl_Tq.stp (pw_cod lx_k816) rfl (fl_bo rfl) rfl ?_
  refine fl_Tq.stp (pw_cod lx_k817) rfl (fl_bo rfl) rfl ?_
  exact kk m2 hg2
theorem ly_c18 {L : Nat} {xs : Nat → Int32} {m : fl_M} {Q : Option fl_V → fl_M → Prop} {i : Nat} (hall : ∀ c ∈ at_CM ++ at_CA, at_Valid at_XI (pw_P L xs) c) (hL : L ≤ 3072) (hi : i + 6 ≤ L) (hg : t2_Z m) (kk : ∀ m' : fl_M, t2_Z m' → fl_Tq (pw_P L xs) 0 2030 (lx_lv i) [] m' Q) : fl_Tq (pw_P L xs) 0 820 (lx_lv i) [] m Q := by
  obtain ⟨f, l⟩ := m
  refine fl_Tq.stp (pw_cod lx_k820) rfl (fl_bo rfl) rfl ?_
  refine lx_callG (as_ := [lx_x]) (rest := []) (pw_cod lx_k821) (pw_cll lx_l93) rfl (fl_bo rfl) rfl rfl (t2_step (ar := [at_this]) (hall _ at_c119_in) (hall _ at_c242_in) rfl rfl hg ⟨lx_kx _, True.intro⟩ rfl (fun _ => ⟨at_k277 _, True.intro⟩) rfl (t2_undo hg)) (fun v1 m1 hg1 => ?_)
  obtain ⟨⟨y1, rfl⟩, hg1⟩ := hg1
  refine fl_Tq.stp (pw_cod lx_k824) rfl (fl_bo rfl) rfl ?_
  refine fl_Tq.stp (pw_cod lx_k825) rfl (fl_bo rfl) rfl ?_
  refine lx_callG (as_ := [at_this]) (rest := []) (pw_cod lx_k826) (pw_cll lx_l96) rfl (fl_bo rfl) rfl rfl hg1 (fun v2 m2 hg2 => ?_)
  obtain ⟨rfl, hg2⟩ := hg2
  refine fl_Tq.stp (pw_cod lx_k829) rfl (fl_bo rfl) rfl ?_
  refine fl_Tq.stp (pw_cod lx_k830) rfl (fl_bo rfl) rfl ?_
  exact kk m2 hg2
theorem ly_c19 {L : Nat} {xs : Nat → Int32} {m : fl_M} {Q : Option fl_V → fl_M → Prop} {i : Nat} (hall : ∀ c ∈ at_CM ++ at_CA, at_Valid at_XI (pw_P L xs) c) (hL : L ≤ 3072) (hi : i + 6 ≤ L) (hg : t2_Z m) (kk : ∀ m' : fl_M, t2_Z m' → fl_Tq (pw_P L xs) 0 2030 (lx_lv i) [] m' Q) : fl_Tq (pw_P L xs) 0 833 (lx_lv i) [] m Q := by
  obtain ⟨f, l⟩ := m
  refine fl_Tq.stp (pw_cod lx_k833) rfl (fl_bo rfl) rfl ?_
  refine lx_arg (i := i) (jn := 1) (pw_cod lx_k834) (pw_cod lx_k835) (pw_cod lx_k836) (pw_cod lx_k837) (pw_cod lx_k838) rfl (fl_bo rfl) hL (by omega) ?_
  refine lx_callG (as_ := [lx_x, .inl (xs (i + 1))]) (rest := []) (pw_cod lx_k839) (pw_cll lx_l97) rfl (fl_bo rfl) rfl rfl (t2_qcall (hall _ at_c122_in) rfl hg ⟨lx_kx _, lx_ki _, True.intro⟩ rfl rfl rfl) (fun v1 m1 hg1 => ?_)
  obtain ⟨⟨y1, rfl⟩, hg1⟩ := hg1
  refine fl_Tq.stp (pw_cod lx_k842) rfl (fl_bo rfl) rfl ?_
  refine fl_Tq.stp (pw_cod lx_k843) rfl (fl_bo rfl) rfl ?_
  refine lx_arg (i := i) (jn := 1) (pw_cod lx_k844) (pw_cod lx_k845) (pw_cod lx_k846) (pw_cod lx_k847) (pw_cod lx_k848) rfl (fl_bo rfl) hL (by omega) ?_
  refine lx_callG (as_ := [at_this, .inl (xs (i + 1))]) (rest := []) (pw_cod lx_k849) (pw_cll lx_l100) rfl (fl_bo rfl) rfl rfl (t2_qcall (hall _ at_c268_in) rfl hg1 ⟨at_k277 _, lx_ki _, True.intro⟩ rfl rfl rfl) (fun v2 m2 hg2 => ?_)
  obtain ⟨⟨y2, rfl⟩, hg2⟩ := hg2
  refine fl_Tq.stp (pw_cod lx_k852) rfl (fl_bo rfl) rfl ?_
  refine fl_Tq.stp (pw_cod lx_k853) rfl (fl_bo rfl) rfl ?_
  exact kk m2 hg2
theorem ly_c20 {L : Nat} {xs : Nat → Int32} {m : fl_M} {Q : Option fl_V → fl_M → Prop} {i : Nat} (hall : ∀ c ∈ at_CM ++ at_CA, at_Valid at_XI (pw_P L xs) c) (hL : L ≤ 3072) (hi : i + 6 ≤ L) (hg : t2_Z m) (kk : ∀ m' : fl_M, t2_Z m' → fl_Tq (pw_P L xs) 0 2030 (lx_lv i) [] m' Q) : fl_Tq (pw_P L xs) 0 856 (lx_lv i) [] m Q := by
  obtain ⟨f, l⟩ := m
  refine fl_Tq.stp (pw_cod lx_k856) rfl (fl_bo rfl) rfl ?_
  refine lx_arg (i := i) (jn := 1) (pw_cod lx_k857) (pw_cod lx_k858) (pw_cod lx_k859) (pw_cod lx_k860) (pw_cod lx_k861) rfl (fl_bo rfl) hL (by omega) ?_
  refine lx_callG (as_ := [lx_x, .inl (xs (i + 1))]) (rest := []) (pw_cod lx_k862) (pw_cll lx_l101) rfl (fl_bo rfl) rfl rfl (t2_qcall (hall _ at_c123_in) rfl hg ⟨lx_kx _, lx_ki _, True.intro⟩ rfl rfl rfl) (fun v1 m1 hg1 => ?_)
  obtain ⟨⟨y1, rfl⟩, hg1⟩ := hg1
  refine fl_Tq.stp (pw_cod lx_k865) rfl (fl_bo rfl) rfl ?_
  refine fl_Tq.stp (pw_cod lx_k866) rfl (fl_bo rfl) rfl ?_
  refine lx_arg (i := i) (jn := 1) (pw_cod lx_k867) (pw_cod lx_k868) (pw_cod lx_k869) (pw_cod lx_k870) (pw_cod lx_k871) rfl (fl_bo rfl) hL (by omega) ?_
  refine lx_callG (as_ := [at_this, .inl (xs (i + 1))]) (rest := []) (pw_cod lx_k872) (pw_cll lx_l104) rfl (fl_bo rfl) rfl rfl (t2_qcall (hall _ at_c269_in) rfl hg1 ⟨at_k277 _, lx_ki _, True.intro⟩ rfl rfl rfl) (fun v2 m2 hg2 => ?_)
  obtain ⟨⟨y2, rfl⟩, hg2⟩ := hg2
  refine fl_Tq.stp (pw_cod lx_k875) rfl (fl_bo rfl) rfl ?_
  refine fl_Tq.stp (pw_cod lx_k876) rfl (fl_bo rfl) rfl ?_
  exact kk m2 hg2
theorem ly_c21 {L : Nat} {xs : Nat → Int32} {m : fl_M} {Q : Option fl_V → fl_M → Prop} {i : Nat} (hall : ∀ c ∈ at_CM ++ at_CA, at_Valid at_XI (pw_P L xs) c) (hL : L ≤ 3072) (hi : i + 6 ≤ L) (hg : t2_Z m) (kk : ∀ m' : fl_M, t2_Z m' → fl_Tq (pw_P L xs) 0 2030 (lx_lv i) [] m' Q) : fl_Tq (pw_P L xs) 0 879 (lx_lv i) [] m Q := by
  obtain ⟨f, l⟩ := m
  refine fl_Tq.stp (pw_cod lx_k879) rfl (fl_bo rfl) rfl ?_
  refine lx_arg (i := i) (jn := 1) (pw_cod lx_k880) (pw_cod lx_k881) (pw_cod lx_k882) (pw_cod lx_k883) (pw_cod lx_k884) rfl (fl_bo rfl) hL (by omega) ?_
  refine lx_arg (i := i) (jn := 2) (pw_cod lx_k885) (pw_cod lx_k886) (pw_cod lx_k887) (pw_cod lx_k888) (pw_cod lx_k889) rfl (fl_bo rfl) hL (by omega) ?_
  refine lx_callG (as_ := [lx_x, .inl (xs (i + 1)), .inl (xs (i + 2))]) (rest := []) (pw_cod lx_k890) (pw_cll lx_l105) rfl (fl_bo rfl) rfl rfl (t2_qcall (hall _ at_c124_in) rfl hg ⟨lx_kx _, lx_ki _, lx_ki _, True.intro⟩ rfl rfl rfl) (fun v1 m1 hg1 => ?_)
  obtain ⟨⟨y1, rfl⟩, hg1⟩ := hg1
  refine fl_Tq.stp (pw_cod lx_k893) rfl (fl_bo rfl) rfl ?_
  refine fl_Tq.stp (pw_cod lx_k894) rfl (fl_bo rfl) rfl ?_
  refine lx_arg (i := i) (jn := 1) (pw_cod lx_k895) (pw_cod lx_k896) (pw_cod lx_k897) (pw_cod lx_k898) (pw_cod lx_k899) rfl (fl_bo rfl) hL (by omega) ?_
  refine lx_arg (i := i) (jn := 2) (pw_cod lx_k900) (pw_cod lx_k901) (pw_cod lx_k902) (pw_cod lx_k903) (pw_cod lx_k904) rfl (fl_bo rfl) hL (by omega) ?_
  refine lx_callG (as_ := [at_this, .inl (xs (i + 1)), .inl (xs (i + 2))]) (rest := []) (pw_cod lx_k905) (pw_cll lx_l108) rfl (fl_bo rfl) rfl rfl (t2_qcall (hall _ at_c271_in) rfl hg1 ⟨at_k277 _, lx_ki _, lx_ki _, True.intro⟩ rfl rfl rfl) (fun v2 m2 hg2 => ?_)
  obtain ⟨⟨y2, rfl⟩, hg2⟩ := hg2
  refine fl_Tq.stp (pw_cod lx_k908) rfl (fl_bo rfl) rfl ?_
  refine fl_Tq.stp (pw_cod lx_k909) rfl (fl_bo rfl) rfl ?_
  exact kk m2 hg2
theorem ly_c22 {L : Nat} {xs : Nat → Int32} {m : fl_M} {Q : Option fl_V → fl_M → Prop} {i : Nat} (hall : ∀ c ∈ at_CM ++ at_CA, at_Valid at_XI (pw_P L xs) c) (hL : L ≤ 3072) (hi : i + 6 ≤ L) (hg : t2_Z m) (kk : ∀ m' : fl_M, t2_Z m' → fl_Tq (pw_P L xs) 0 2030 (lx_lv i) [] m' Q) : fl_Tq (pw_P L xs) 0 912 (lx_lv i) [] m Q := by
  obtain ⟨f, l⟩ := m
  refine fl_Tq.stp (pw_cod lx_k912) rfl (fl_bo rfl) rfl ?_
  refine lx_arg (i := i) (jn := 1) (pw_cod lx_k913) (pw_cod lx_k914) (pw_cod lx_k915) (pw_cod lx_k916) (pw_cod lx_k917) rfl (fl_bo rfl) hL (by omega) ?_
  refine lx_arg (i := i) (jn := 2) (pw_cod lx_k918) (pw_cod lx_k919) (pw_cod lx_k920) (pw_cod lx_k921) (pw_cod lx_k922) rfl (fl_bo rfl) hL (by omega) ?_
  refine lx_callG (as_ := [lx_x, .inl (xs (i + 1)), .inl (xs (i + 2))]) (rest := []) (pw_cod lx_k923) (pw_cll lx_l109) rfl (fl_bo rfl) rfl rfl (t2_qcall (hall _ at_c125_in) rfl hg ⟨lx_kx _, lx_ki _, lx_ki _, True.intro⟩ rfl rfl rfl) (fun v1 m1 hg1 => ?_)
  obtain ⟨⟨y1, rfl⟩, hg1⟩ := hg1
  refine fl_Tq.stp (pw_cod lx_k926) rfl (fl_bo rfl) rfl ?_
  refine fl_Tq.stp (pw_cod lx_k927) rfl (fl_bo rfl) rfl ?_
  refine lx_arg (i := i) (jn := 1) (pw_cod lx_k928) (pw_cod lx_k929) (pw_cod lx_k930) (pw_cod lx_k931) (pw_cod lx_k932) rfl (fl_bo rfl) hL (by omega) ?_
  refine lx_arg (i := i) (jn := 2) (pw_cod lx_k933) (pw_cod lx_k934) (pw_cod lx_k935) (pw_cod lx_k936) (pw_cod lx_k937) rfl (fl_bo rfl) hL (by omega) ?_
  refine lx_callG (as_ := [at_this, .inl (xs (i + 1)), .inl (xs (i + 2))]) (rest := []) (pw_cod lx_k938) (pw_cll lx_l112) rfl (fl_bo rfl) rfl rfl (t2_qcall (hall _ at_c272_in) rfl hg1 ⟨at_k277 _, lx_ki _, lx_ki _, True.intro⟩ rfl rfl rfl) (fun v2 m2 hg2 => ?_)
  obtain ⟨⟨y2, rfl⟩, hg2⟩ := hg2
  refine fl_Tq.stp (pw_cod lx_k941) rfl (fl_bo rfl) rfl ?_
  refine fl_Tq.stp (pw_cod lx_k942) rfl (fl_bo rfl) rfl ?_
  exact kk m2 hg2
theorem ly_c23 {L : Nat} {xs : Nat → Int32} {m : fl_M} {Q : Option fl_V → fl_M → Prop} {i : Nat} (hall : ∀ c ∈ at_CM ++ at_CA, at_Valid at_XI (pw_P L xs) c) (hL : L ≤ 3072) (hi : i + 6 ≤ L) (hg : t2_Z m) (kk : ∀ m' : fl_M, t2_Z m' → fl_Tq (pw_P L xs) 0 2030 (lx_lv i) [] m' Q) : fl_Tq (pw_P L xs) 0 945 (lx_lv i) [] m Q := by
  obtain ⟨f, l⟩ := m
  refine fl_Tq.stp (pw_cod lx_k945) rfl (fl_bo rfl) rfl ?_
  refine lx_arg (i := i) (jn := 1) (pw_cod lx_k946) (pw_cod lx_k947) (pw_cod lx_k948) (pw_cod lx_k949) (pw_cod lx_k950) rfl (fl_bo rfl) hL (by omega) ?_
  refine lx_arg (i := i) (jn := 2) (pw_cod lx_k951) (pw_cod lx_k952) (pw_cod lx_k953) (pw_cod lx_k954) (pw_cod lx_k955) rfl (fl_bo rfl) hL (by omega) ?_
  refine lx_callG (as_ := [lx_x, .inl (xs (i + 1)), .inl (xs (i + 2))]) (rest := []) (pw_cod lx_k956) (pw_cll lx_l113) rfl (fl_bo rfl) rfl rfl (t2_qcall (hall _ at_c126_in) rfl hg ⟨lx_kx _, lx_ki _, lx_ki _, True.intro⟩ rfl rfl rfl) (fun v1 m1 hg1 => ?_)
  obtain ⟨⟨y1, rfl⟩, hg1⟩ := hg1
  refine fl_Tq.stp (pw_cod lx_k959) rfl (fl_bo rfl) rfl ?_
  refine fl_Tq.stp (pw_cod lx_k960) rfl (fl_bo rfl) rfl ?_
  refine lx_arg (i := i) (jn := 1) (pw_cod lx_k961) (pw_cod lx_k962) (pw_cod lx_k963) (pw_cod lx_k964) (pw_cod lx_k965) rfl (fl_bo rfl) hL (by omega) ?_
  refine lx_arg (i := i) (jn := 2) (pw_cod lx_k966) (pw_cod lx_k967) (pw_cod lx_k968) (pw_cod lx_k969) (pw_cod lx_k970) rfl (fl_bo rfl) hL (by omega) ?_
  refine lx_callG (as_ := [at_this, .inl (xs (i + 1)), .inl (xs (i + 2))]) (rest := []) (pw_cod lx_k971) (pw_cll lx_l116) rfl (fl_bo rfl) rfl rfl (t2_qcall (hall _ at_c273_in) rfl hg1 ⟨at_k277 _, lx_ki _, lx_ki _, True.intro⟩ rfl rfl rfl) (fun v2 m2 hg2 => ?_)
  obtain ⟨⟨y2, rfl⟩, hg2⟩ := hg2
  refine fl_Tq.stp (pw_cod lx_k974) rfl (fl_bo rfl) rfl ?_
  refine fl_Tq.stp (pw_cod lx_k975) rfl (fl_bo rfl) rfl ?_
  exact kk m2 hg2
theorem ly_c24 {L : Nat} {xs : Nat → Int32} {m : fl_M} {Q : Option fl_V → fl_M → Prop} {i : Nat} (hall : ∀ c ∈ at_CM ++ at_CA, at_Valid at_XI (pw_P L xs) c) (hL : L ≤ 3072) (hi : i + 6 ≤ L) (hg : t2_Z m) (kk : ∀ m' : fl_M, t2_Z m' → fl_Tq (pw_P L xs) 0 2030 (lx_lv i) [] m' Q) : fl_Tq (pw_P L xs) 0 978 (lx_lv i) [] m Q := by
  obtain ⟨f, l⟩ := m
  refine fl_Tq.stp (pw_cod lx_k978) rfl (fl_bo rfl) rfl ?_
  refine lx_arg (i := i) (jn := 1) (pw_cod lx_k979) (pw_cod lx_k980) (pw_cod lx_k981) (pw_cod lx_k982) (pw_cod lx_k983) rfl (fl_bo rfl) hL (by omega) ?_
  refine lx_arg (i := i) (jn := 2) (pw_cod lx_k984) (pw_cod lx_k985) (pw_cod lx_k986) (pw_cod lx_k987) (pw_cod lx_k988) rfl (fl_bo rfl) hL (by omega) ?_
  refine lx_callG (as_ := [lx_x, .inl (xs (i + 1)), .inl (xs (i + 2))]) (rest := []) (pw_cod lx_k989) (pw_cll lx_l117) rfl (fl_bo rfl) rfl rfl (t2_qcall (hall _ at_c127_in) rfl hg ⟨lx_kx _, lx_ki _, lx_ki _, True.intro⟩ rfl rfl rfl) (fun v1 m1 hg1 => ?_)
  obtain ⟨⟨y1, rfl⟩, hg1⟩ := hg1
  refine fl_Tq.stp (pw_cod lx_k992) rfl (fl_bo rfl) rfl ?_
  refine fl_Tq.stp (pw_cod lx_k993) rfl (fl_bo rfl) rfl ?_
  refine lx_arg (i := i) (jn := 1) (pw_cod lx_k994) (pw_cod lx_k995) (pw_cod lx_k996) (pw_cod lx_k997) (pw_cod lx_k998) rfl (fl_bo rfl) hL (by omega) ?_
  refine lx_arg (i := i) (jn := 2) (pw_cod lx_k999) (pw_cod lx_k1000) (pw_cod lx_k1001) (pw_cod lx_k1002) (pw_cod lx_k1003) rfl (fl_bo rfl) hL (by omega) ?_
  refine lx_callG (as_ := [at_this, .inl (xs (i + 1)), .inl (xs (i + 2))]) (rest := []) (pw_cod lx_k1004) (pw_cll lx_l120) rfl (fl_bo rfl) rfl rfl (t2_qcall (hall _ at_c274_in) rfl hg1 ⟨at_k277 _, lx_ki _, lx_ki _, True.intro⟩ rfl rfl rfl) (fun v2 m2 hg2 => ?_)
  obtain ⟨⟨y2, rfl⟩, hg2⟩ := hg2
  refine fl_Tq.stp (pw_cod lx_k1007) rfl (fl_bo rfl) rfl ?_
  refine fl_Tq.stp (pw_cod lx_k1008) rfl (fl_bo rfl) rfl ?_
  exact kk m2 hg2
theorem ly_c25 {L : Nat} {xs : Nat → Int32} {m : fl_M} {Q : Option fl_V → fl_M → Prop} {i : Nat} (hall : ∀ c ∈ at_CM ++ at_CA, at_Valid at_XI (pw_P L xs) c) (hL : L ≤ 3072) (hi : i + 6 ≤ L) (hg : t2_Z m) (kk : ∀ m' : fl_M, t2_Z m' → fl_Tq (pw_P L xs) 0 2030 (lx_lv i) [] m' Q) : fl_Tq (pw_P L xs) 0 1011 (lx_lv i) [] m Q := by
  obtain ⟨f, l⟩ := m
  refine fl_Tq.stp (pw_cod lx_k1011) rfl (fl_bo rfl) rfl ?_
  refine lx_arg (i := i) (jn := 1) (pw_cod lx_k1012) (pw_cod lx_k1013) (pw_cod lx_k1014) (pw_cod lx_k1015) (pw_cod lx_k1016) rfl (fl_bo rfl) hL (by omega) ?_
  refine lx_arg (i := i) (jn := 2) (pw_cod lx_k1017) (pw_cod lx_k1018) (pw_cod lx_k1019) (pw_cod lx_k1020) (pw_cod lx_k1021) rfl (fl_bo rfl) hL (by omega) ?_
  refine lx_callG (as_ := [lx_x, .inl (xs (i + 1)), .inl (xs (i + 2))]) (rest := []) (pw_cod lx_k1022) (pw_cll lx_l121) rfl (fl_bo rfl) rfl rfl (t2_qcall (hall _ at_c128_in) rfl hg ⟨lx_kx _, lx_ki _, lx_ki _, True.intro⟩ rfl rfl rfl) (fun v1 m1 hg1 => ?_)
  obtain ⟨⟨y1, rfl⟩, hg1⟩ := hg1
  refine fl_Tq.stp (pw_cod lx_k1025) rfl (fl_bo rfl) rfl ?_
  refine fl_Tq.stp (pw_cod lx_k1026) rfl (fl_bo rfl) rfl ?_
  refine lx_arg (i := i) (jn := 1) (pw_cod lx_k1027) (pw_cod lx_k1028) (pw_cod lx_k1029) (pw_cod lx_k1030) (pw_cod lx_k1031) rfl (fl_bo rfl) hL (by omega) ?_
  refine lx_arg (i := i) (jn := 2) (pw_cod lx_k1032) (pw_cod lx_k1033) (pw_cod lx_k1034) (pw_cod lx_k1035) (pw_cod lx_k1036) rfl (fl_bo rfl) hL (by omega) ?_
  refine lx_callG (as_ := [at_this, .inl (xs (i + 1)), .inl (xs (i + 2))]) (rest := []) (pw_cod lx_k1037) (pw_cll lx_l124) rfl (fl_bo rfl) rfl rfl (t2_qcall (hall _ at_c275_in) rfl hg1 ⟨at_k277 _, lx_ki _, lx_ki _, True.intro⟩ rfl rfl rfl) (fun v2 m2 hg2 => ?_)
  obtain ⟨⟨y2, rfl⟩, hg2⟩ := hg2
  refine fl_Tq.stp (pw_cod lx_k1040) rfl (fl_bo rfl) rfl ?_
  refine fl_Tq.stp (pw_cod lx_k1041) rfl (fl_bo rfl) rfl ?_
  exact kk m2 hg2
theorem ly_c26 {L : Nat} {xs : Nat → Int32} {m : fl_M} {Q : Option fl_V → fl_M → Prop} {i : Nat} (hall : ∀ c ∈ at_CM ++ at_CA, at_Valid at_XI (pw_P L xs) c) (hL : L ≤ 3072) (hi : i + 6 ≤ L) (hg : t2_Z m) (kk : ∀ m' : fl_M, t2_Z m' → fl_Tq (pw_P L xs) 0 2030 (lx_lv i) [] m' Q) : fl_Tq (pw_P L xs) 0 1044 (lx_lv i) [] m Q := by
  obtain ⟨f, l⟩ := m
  refine fl_Tq.stp (pw_cod lx_k1044) rfl (fl_bo rfl) rfl ?_
  refine lx_arg (i := i) (jn := 1) (pw_cod lx_k1045) (pw_cod lx_k1046) (pw_cod lx_k1047) (pw_cod lx_k1048) (pw_cod lx_k1049) rfl (fl_bo rfl) hL (by omega) ?_
  refine lx_arg (i := i) (jn := 2) (pw_cod lx_k1050) (pw_cod lx_k1051) (pw_cod lx_k1052) (pw_cod lx_k1053) (pw_cod lx_k1054) rfl (fl_bo rfl) hL (by omega) ?_
  refine lx_callG (as_ := [lx_x, .inl (xs (i + 1)), .inl (xs (i + 2))]) (rest := []) (pw_cod lx_k1055) (pw_cll lx_l125) rfl (fl_bo rfl) rfl rfl (t2_qcall (hall _ at_c129_in) rfl hg ⟨lx_kx _, lx_ki _, lx_ki _, True.intro⟩ rfl rfl rfl) (fun v1 m1 hg1 => ?_)
  obtain ⟨⟨y1, rfl⟩, hg1⟩ := hg1
  refine fl_Tq.stp (pw_cod lx_k1058) rfl (fl_bo rfl) rfl ?_
  refine fl_Tq.stp (pw_cod lx_k1059) rfl (fl_bo rfl) rfl ?_
  refine lx_arg (i := i) (jn := 1) (pw_cod lx_k1060) (pw_cod lx_k1061) (pw_cod lx_k1062) (pw_cod lx_k1063) (pw_cod lx_k1064) rfl (fl_bo rfl) hL (by omega) ?_
  refine lx_arg (i := i) (jn := 2) (pw_cod lx_k1065) (pw_cod lx_k1066) (pw_cod lx_k1067) (pw_cod lx_k1068) (pw_cod lx_k1069) rfl (fl_bo rfl) hL (by omega) ?_
  refine lx_callG (as_ := [at_this, .inl (xs (i + 1)), .inl (xs (i + 2))]) (rest := []) (pw_cod lx_k1070) (pw_cll lx_l128) rfl (fl_bo rfl) rfl rfl (t2_qcall (hall _ at_c276_in) rfl hg1 ⟨at_k277 _, lx_ki _, lx_ki _, True.intro⟩ rfl rfl rfl) (fun v2 m2 hg2 => ?_)
  obtain ⟨⟨y2, rfl⟩, hg2⟩ := hg2
  refine fl_Tq.stp (pw_cod lx_k1073) rfl (fl_bo rfl) rfl ?_
  refine fl_Tq.stp (pw_cod lx_k1074) rfl (fl_bo rfl) rfl ?_
  exact kk m2 hg2
theorem ly_c27 {L : Nat} {xs : Nat → Int32} {m : fl_M} {Q : Option fl_V → fl_M → Prop} {i : Nat} (hall : ∀ c ∈ at_CM ++ at_CA, at_Valid at_XI (pw_P L xs) c) (hL : L ≤ 3072) (hi : i + 6 ≤ L) (hg : t2_Z m) (kk : ∀ m' : fl_M, t2_Z m' → fl_Tq (pw_P L xs) 0 2030 (lx_lv i) [] m' Q) : fl_Tq (pw_P L xs) 0 1077 (lx_lv i) [] m Q := by
  obtain ⟨f, l⟩ := m
  refine fl_Tq.stp (pw_cod lx_k1077) rfl (fl_bo rfl) rfl ?_
  refine lx_arg (i := i) (jn := 1) (pw_cod lx_k1078) (pw_cod lx_k1079) (pw_cod lx_k1080) (pw_cod lx_k1081) (pw_cod lx_k1082) rfl (fl_bo rfl) hL (by omega) ?_
  refine lx_callG (as_ := [lx_x, .inl (xs (i + 1))]) (rest := []) (pw_cod lx_k1083) (pw_cll lx_l129) rfl (fl_bo rfl) rfl rfl (t2_qcall (hall _ at_c130_in) rfl hg ⟨lx_kx _, lx_ki _, True.intro⟩ rfl rfl rfl) (fun v1 m1 hg1 => ?_)
  obtain ⟨⟨y1, rfl⟩, hg1⟩ := hg1
  refine fl_Tq.stp (pw_cod lx_k1086) rfl (fl_bo rfl) rfl ?_
  refine fl_Tq.stp (pw_cod lx_k1087) rfl (fl_bo rfl) rfl ?_
  refine lx_arg (i := i) (jn := 1) (pw_cod lx_k1088) (pw_cod lx_k1089) (pw_cod lx_k1090) (pw_cod lx_k1091) (pw_cod lx_k1092) rfl (fl_bo rfl) hL (by omega) ?_
  refine lx_callG (as_ := [at_this, .inl (xs (i + 1))]) (rest := []) (pw_cod lx_k1093) (pw_cll lx_l132) rfl (fl_bo rfl) rfl rfl (t2_qcall (hall _ at_c277_in) rfl hg1 ⟨at_k277 _, lx_ki _, True.intro⟩ rfl rfl rfl) (fun v2 m2 hg2 => ?_)
  obtain ⟨⟨y2, rfl⟩, hg2⟩ := hg2
  refine fl_Tq.stp (pw_cod lx_k1096) rfl (fl_bo rfl) rfl ?_
  refine fl_Tq.stp (pw_cod lx_k1097) rfl (fl_bo rfl) rfl ?_
  exact kk m2 hg2
theorem ly_c28 {L : Nat} {xs : Nat → Int32} {m : fl_M} {Q : Option fl_V → fl_M → Prop} {i : Nat} (hall : ∀ c ∈ at_CM ++ at_CA, at_Valid at_XI (pw_P L xs) c) (hL : L ≤ 3072) (hi : i + 6 ≤ L) (hg : t2_Z m) (kk : ∀ m' : fl_M, t2_Z m' → fl_Tq (pw_P L xs) 0 2030 (lx_lv i) [] m' Q) : fl_Tq (pw_P L xs) 0 1100 (lx_lv i) [] m Q := by
  obtain ⟨f, l⟩ := m
  refine fl_Tq.stp (pw_cod lx_k1100) rfl (fl_bo rfl) rfl ?_
  refine lx_callG (as_ := [lx_x]) (rest := []) (pw_cod lx_k1101) (pw_cll lx_l133) rfl (fl_bo rfl) rfl rfl (t2_qcall (hall _ at_c131_in) rfl hg ⟨lx_kx _, True.intro⟩ rfl rfl rfl) (fun v1 m1 hg1 => ?_)
  obtain ⟨⟨y1, rfl⟩, hg1⟩ := hg1
  refine fl_Tq.stp (pw_cod lx_k1104) rfl (fl_bo rfl) rfl ?_
  refine fl_Tq.stp (pw_cod lx_k1105) rfl (fl_bo rfl) rfl ?_
  refine lx_callG (as_ := [at_this]) (rest := []) (pw_cod lx_k1106) (pw_cll lx_l136) rfl (fl_bo rfl) rfl rfl (t2_qcall (hall _ at_c278_in) rfl hg1 ⟨at_k277 _, True.intro⟩ rfl rfl rfl) (fun v2 m2 hg2 => ?_)
  obtain ⟨⟨y2, rfl⟩, hg2⟩ := hg2
  refine fl_Tq.stp (pw_cod lx_k1109) rfl (fl_bo rfl) rfl ?_
  refine fl_Tq.stp (pw_cod lx_k1110) rfl (fl_bo rfl) rfl ?_
  exact kk m2 hg2
theorem ly_c29 {L : Nat} {xs : Nat → Int32} {m : fl_M} {Q : Option fl_V → fl_M → Prop} {i : Nat} (hall : ∀ c ∈ at_CM ++ at_CA, at_Valid at_XI (pw_P L xs) c) (hL : L ≤ 3072) (hi : i + 6 ≤ L) (hg : t2_Z m) (kk : ∀ m' : fl_M, t2_Z m' → fl_Tq (pw_P L xs) 0 2030 (lx_lv i) [] m' Q) : fl_Tq (pw_P L xs) 0 1113 (lx_lv i) [] m Q := by
  obtain ⟨f, l⟩ := m
  refine fl_Tq.stp (pw_cod lx_k1113) rfl (fl_bo rfl) rfl ?_
  refine lx_arg (i := i) (jn := 1) (pw_cod lx_k1114) (pw_cod lx_k1115) (pw_cod lx_k1116) (pw_cod lx_k1117) (pw_cod lx_k1118) rfl (fl_bo rfl) hL (by omega) ?_
  refine lx_callG (as_ := [lx_x, .inl (xs (i + 1))]) (rest := []) (pw_cod lx_k1119) (pw_cll lx_l137) rfl (fl_bo rfl) rfl rfl (t2_qcall (hall _ at_c132_in) rfl hg ⟨lx_kx _, lx_ki _, True.intro⟩ rfl rfl rfl) (fun v1 m1 hg1 => ?_)
  obtain ⟨⟨y1, rfl⟩, hg1⟩ := hg1
  refine fl_Tq.stp (pw_cod lx_k1122) rfl (fl_bo rfl) rfl ?_
  refine fl_Tq.stp (pw_cod lx_k1123) rfl (fl_bo rfl) rfl ?_
  refine lx_arg (i := i) (jn := 1) (pw_cod lx_k1124) (pw_cod lx_k1125) (pw_cod lx_k1126) (pw_cod lx_k1127) (pw_cod lx_k1128) rfl (fl_bo rfl) hL (by omega) ?_
  refine lx_callG (as_ := [at_this, .inl (xs (i + 1))]) (rest := []) (pw_cod lx_k1129) (pw_cll lx_l140) rfl (fl_bo rfl) rfl rfl (t2_qcall (hall _ at_c279_in) rfl hg1 ⟨at_k277 _, lx_ki _, True.intro⟩ rfl rfl rfl) (fun v2 m2 hg2 => ?_)
  obtain ⟨⟨y2, rfl⟩, hg2⟩ := hg2
  refine fl_Tq.stp (pw_cod lx_k1132) rfl (fl_bo rfl) rfl ?_
  refine fl_Tq.stp (pw_cod lx_k1133) rfl (fl_bo rfl) rfl ?_
  exact kk m2 hg2
theorem ly_c30 {L : Nat} {xs : Nat → Int32} {m : fl_M} {Q : Option fl_V → fl_M → Prop} {i : Nat} (hall : ∀ c ∈ at_CM ++ at_CA, at_Valid at_XI (pw_P L xs) c) (hL : L ≤ 3072) (hi : i + 6 ≤ L) (hg : t2_Z m) (kk : ∀ m' : fl_M, t2_Z m' → fl_Tq (pw_P L xs) 0 2030 (lx_lv i) [] m' Q) : fl_Tq (pw_P L xs) 0 1136 (lx_lv i) [] m Q := by
  obtain ⟨f, l⟩ := m
  refine fl_Tq.stp (pw_cod lx_k1136) rfl (fl_bo rfl) rfl ?_
  refine lx_arg (i := i) (jn := 1) (pw_cod lx_k1137) (pw_cod lx_k1138) (pw_cod lx_k1139) (pw_cod lx_k1140) (pw_cod lx_k1141) rfl (fl_bo rfl) hL (by omega) ?_
  refine lx_arg (i := i) (jn := 2) (pw_cod lx_k1142) (pw_cod lx_k1143) (pw_cod lx_k1144) (pw_cod lx_k1145) (pw_cod lx_k1146) rfl (fl_bo rfl) hL (by omega) ?_
  refine lx_callG (as_ := [lx_x, .inl (xs (i + 1)), .inl (xs (i + 2))]) (rest := []) (pw_cod lx_k1147) (pw_cll lx_l141) rfl (fl_bo rfl) rfl rfl (t2_qcall (hall _ at_c133_in) rfl hg ⟨lx_kx _, lx_ki _, lx_ki _, True.intro⟩ rfl rfl rfl) (fun v1 m1 hg1 => ?_)
  obtain ⟨⟨y1, rfl⟩, hg1⟩ := hg1
  refine fl_Tq.stp (pw_cod lx_k1150) rfl (fl_bo rfl) rfl ?_
  refine fl_Tq.stp (pw_cod lx_k1151) rfl (fl_bo rfl) rfl ?_
  refine lx_arg (i := i) (jn := 1) (pw_cod lx_k1152) (pw_cod lx_k1153) (pw_cod lx_k1154) (pw_cod lx_k1155) (pw_cod lx_k1156) rfl (fl_bo rfl) hL (by omega) ?_
  refine lx_arg (i := i) (jn := 2) (pw_cod lx_k1157) (pw_cod lx_k1158) (pw_cod lx_k1159) (pw_cod lx_k1160) (pw_cod lx_k1161) rfl (fl_bo rfl) hL (by omega) ?_
  refine lx_callG (as_ := [at_this, .inl (xs (i + 1)), .inl (xs (i + 2))]) (rest := []) (pw_cod lx_k1162) (pw_cll lx_l144) rfl (fl_bo rfl) rfl rfl (t2_qcall (hall _ at_c280_in) rfl hg1 ⟨at_k277 _, lx_ki _, lx_ki _, True.intro⟩ rfl rfl rfl) (fun v2 m2 hg2 => ?_)
  obtain ⟨⟨y2, rfl⟩, hg2⟩ := hg2
  refine fl_Tq.stp (pw_cod lx_k1165) rfl (fl_bo rfl) rfl ?_
  refine fl_Tq.stp (pw_cod lx_k1166) rfl (fl_bo rfl) rfl ?_
  exact kk m2 hg2
theorem ly_c31 {L : Nat} {xs : Nat → Int32} {m : fl_M} {Q : Option fl_V → fl_M → Prop} {i : Nat} (hall : ∀ c ∈ at_CM ++ at_CA, at_Valid at_XI (pw_P L xs) c) (hL : L ≤ 3072) (hi : i + 6 ≤ L) (hg : t2_Z m) (kk : ∀ m' : fl_M, t2_Z m' → fl_Tq (pw_P L xs) 0 2030 (lx_lv i) [] m' Q) : fl_Tq (pw_P L xs) 0 1169 (lx_lv i) [] m Q := by
  obtain ⟨f, l⟩ := m
  refine fl_Tq.stp (pw_cod lx_k1169) rfl (fl_bo rfl) rfl ?_
  refine lx_arg (i := i) (jn := 1) (pw_cod lx_k1170) (pw_cod lx_k1171) (pw_cod lx_k1172) (pw_cod lx_k1173) (pw_cod lx_k1174) rfl (fl_bo rfl) hL (by omega) ?_
  refine lx_callG (as_ := [lx_x, .inl (xs (i + 1))]) (rest := []) (pw_cod lx_k1175) (pw_cll lx_l145) rfl (fl_bo rfl) rfl rfl (t2_qcall (hall _ at_c134_in) rfl hg ⟨lx_kx _, lx_ki _, True.intro⟩ rfl rfl rfl) (fun v1 m1 hg1 => ?_)
  obtain ⟨⟨y1, rfl⟩, hg1⟩ := hg1
  refine fl_Tq.stp (pw_cod lx_k1178) rfl (fl_bo rfl) rfl ?_
  refine fl_Tq.stp (pw_cod lx_k1179) rfl (fl_bo rfl) rfl ?_
  refine lx_arg (i := i) (jn := 1) (pw_cod lx_k1180) (pw_cod lx_k1181) (pw_cod lx_k1182) (pw_cod lx_k1183) (pw_cod lx_k1184) rfl (fl_bo rfl) hL (by omega) ?_
  refine lx_callG (as_ := [at_this, .inl (xs (i + 1))]) (rest := []) (pw_cod lx_k1185) (pw_cll lx_l148) rfl (fl_bo rfl) rfl rfl (t2_qcall (hall _ at_c298_in) rfl hg1 ⟨at_k277 _, lx_ki _, True.intro⟩ rfl rfl rfl) (fun v2 m2 hg2 => ?_)
  obtain ⟨⟨y2, rfl⟩, hg2⟩ := hg2
  refine fl_Tq.stp (pw_cod lx_k1188) rfl (fl_bo rfl) rfl ?_
  refine fl_Tq.stp (pw_cod lx_k1189) rfl (fl_bo rfl) rfl ?_
  exact kk m2 hg2
theorem ly_c32 {L : Nat} {xs : Nat → Int32} {m : fl_M} {Q : Option fl_V → fl_M → Prop} {i : Nat} (hall : ∀ c ∈ at_CM ++ at_CA, at_Valid at_XI (pw_P L xs) c) (hL : L ≤ 3072) (hi : i + 6 ≤ L) (hg : t2_Z m) (kk : ∀ m' : fl_M, t2_Z m' → fl_Tq (pw_P L xs) 0 2030 (lx_lv i) [] m' Q) : fl_Tq (pw_P L xs) 0 1192 (lx_lv i) [] m Q := by
  obtain ⟨f, l⟩ := m
  refine fl_Tq.stp (pw_cod lx_k1192) rfl (fl_bo rfl) rfl ?_
  refine lx_arg (i := i) (jn := 1) (pw_cod lx_k1193) (pw_cod lx_k1194) (pw_cod lx_k1195) (pw_cod lx_k1196) (pw_cod lx_k1197) rfl (fl_bo rfl) hL (by omega) ?_
  refine lx_arg (i := i) (jn := 2) (pw_cod lx_k1198) (pw_cod lx_k1199) (pw_cod lx_k1200) (pw_cod lx_k1201) (pw_cod lx_k1202) rfl (fl_bo rfl) hL (by omega) ?_
  refine lx_arg (i := i) (jn := 3) (pw_cod lx_k1203) (pw_cod lx_k1204) (pw_cod lx_k1205) (pw_cod lx_k1206) (pw_cod lx_k1207) rfl (fl_bo rfl) hL (by omega) ?_
  refine lx_callG (as_ := [lx_x, .inl (xs (i + 1)), .inl (xs (i + 2)), .inl (xs (i + 3))]) (rest := []) (pw_cod lx_k1208) (pw_cll lx_l149) rfl (fl_bo rfl) rfl rfl (t2_qcall (hall _ at_c135_in) rfl hg ⟨lx_kx _, lx_ki _, lx_ki _, lx_ki _, True.intro⟩ rfl rfl rfl) (fun v1 m1 hg1 => ?_)
  obtain ⟨⟨y1, rfl⟩, hg1⟩ := hg1
  refine fl_Tq.stp (pw_cod lx_k1211) rfl (fl_bo rfl) rfl ?_
  refine fl_Tq.stp (pw_cod lx_k1212) rfl (fl_bo rfl) rfl ?_
  refine lx_arg (i := i) (jn := 1) (pw_cod lx_k1213) (pw_cod lx_k1214) (pw_cod lx_k1215) (pw_cod lx_k1216) (pw_cod lx_k1217) rfl (fl_bo rfl) hL (by omega) ?_
  refine lx_arg (i := i) (jn := 2) (pw_cod lx_k1218) (pw_cod lx_k1219) (pw_cod lx_k1220) (pw_cod lx_k1221) (pw_cod lx_k1222) rfl (fl_bo rfl) hL (by omega) ?_
  refine lx_arg (i := i) (jn := 3) (pw_cod lx_k1223) (pw_cod lx_k1224) (pw_cod lx_k1225) (pw_cod lx_k1226) (pw_cod lx_k1227) rfl (fl_bo rfl) hL (by omega) ?_
  refine lx_callG (as_ := [at_this, .inl (xs (i + 1)), .inl (xs (i + 2)), .inl (xs (i + 3))]) (rest := []) (pw_cod lx_k1228) (pw_cll lx_l152) rfl (fl_bo rfl) rfl rfl (t2_qcall (hall _ at_c294_in) rfl hg1 ⟨at_k277 _, lx_ki _, lx_ki _, lx_ki _, True.intro⟩ rfl rfl rfl) (fun v2 m2 hg2 => ?_)
  obtain ⟨⟨y2, rfl⟩, hg2⟩ := hg2
  refine fl_Tq.stp (pw_cod lx_k1231) rfl (fl_bo rfl) rfl ?_
  refine fl_Tq.stp (pw_cod lx_k1232) rfl (fl_bo rfl) rfl ?_
  exact kk m2 hg2
theorem ly_c33 {L : Nat} {xs : Nat → Int32} {m : fl_M} {Q : Option fl_V → fl_M → Prop} {i : Nat} (hall : ∀ c ∈ at_CM ++ at_CA, at_Valid at_XI (pw_P L xs) c) (hL : L ≤ 3072) (hi : i + 6 ≤ L) (hg : t2_Z m) (kk : ∀ m' : fl_M, t2_Z m' → fl_Tq (pw_P L xs) 0 2030 (lx_lv i) [] m' Q) : fl_Tq (pw_P L xs) 0 1235 (lx_lv i) [] m Q := by
  obtain ⟨f, l⟩ := m
  refine fl_Tq.stp (pw_cod lx_k1235) rfl (fl_bo rfl) rfl ?_
  refine lx_arg (i := i) (jn := 1) (pw_cod lx_k1236) (pw_cod lx_k1237) (pw_cod lx_k1238) (pw_cod lx_k1239) (pw_cod lx_k1240) rfl (fl_bo rfl) hL (by omega) ?_
  refine lx_callG (as_ := [lx_x, .inl (xs (i + 1))]) (rest := []) (pw_cod lx_k1241) (pw_cll lx_l153) rfl (fl_bo rfl) rfl rfl (t2_qcall (hall _ at_c136_in) rfl hg ⟨lx_kx _, lx_ki _, True.intro⟩ rfl rfl rfl) (fun v1 m1 hg1 => ?_)
  obtain ⟨⟨y1, rfl⟩, hg1⟩ := hg1
  refine fl_Tq.stp (pw_cod lx_k1244) rfl (fl_bo rfl) rfl ?_
  refine fl_Tq.stp (pw_cod lx_k1245) rfl (fl_bo rfl) rfl ?_
  refine lx_arg (i := i) (jn := 1) (pw_cod lx_k1246) (pw_cod lx_k1247) (pw_cod lx_k1248) (pw_cod lx_k1249) (pw_cod lx_k1250) rfl (fl_bo rfl) hL (by omega) ?_
  refine lx_callG (as_ := [at_this, .inl (xs (i + 1))]) (rest := []) (pw_cod lx_k1251) (pw_cll lx_l156) rfl (fl_bo rfl) rfl rfl (t2_qcall (hall _ at_c295_in) rfl hg1 ⟨at_k277 _, lx_ki _, True.intro⟩ rfl rfl rfl) (fun v2 m2 hg2 => ?_)
  obtain ⟨⟨y2, rfl⟩, hg2⟩ := hg2
  refine fl_Tq.stp (pw_cod lx_k1254) rfl (fl_bo rfl) rfl ?_
  refine fl_Tq.stp (pw_cod lx_k1255) rfl (fl_bo rfl) rfl ?_
  exact kk m2 hg2

end

/-! 95.13.lawcase.lean.txt -/
section
/-! ===== printed by wip/gen/lawgen3.py: the law's cases ===== -/
theorem ly_c34 {L : Nat} {xs : Nat → Int32} {m : fl_M} {Q : Option fl_V → fl_M → Prop} {i : Nat} (hall : ∀ c ∈ at_CM ++ at_CA, at_Valid at_XI (pw_P L xs) c) (hL : L ≤ 3072) (hi : i + 6 ≤ L) (hg : t2_Z m) (kk : ∀ m' : fl_M, t2_Z m' → fl_Tq (pw_P L xs) 0 2030 (lx_lv i) [] m' Q) : fl_Tq (pw_P L xs) 0 1258 (lx_lv i) [] m Q := by
  obtain ⟨f, l⟩ := m
  refine fl_Tq.stp (pw_cod lx_k1258) rfl (fl_bo rfl) rfl ?_
  refine lx_callG (as_ := [lx_x]) (rest := []) (pw_cod lx_k1259) (pw_cll lx_l157) rfl (fl_bo rfl) rfl rfl (t2_qcall (hall _ at_c137_in) rfl hg ⟨lx_kx _, True.intro⟩ rfl rfl rfl) (fun v1 m1 hg1 => ?_)
  obtain ⟨⟨y1, rfl⟩, hg1⟩ := hg1
  refine fl_Tq.stp (pw_cod lx_k1262) rfl (fl_bo rfl) rfl ?_
  refine fl_Tq.stp (pw_cod lx_k1263) rfl (fl_bo rfl) rfl ?_
  refine lx_callG (as_ := [at_this]) (rest := []) (pw_cod lx_k1264) (pw_cll lx_l160) rfl (fl_bo rfl) rfl rfl (t2_qcall (hall _ at_c296_in) rfl hg1 ⟨at_k277 _, True.intro⟩ rfl rfl rfl) (fun v2 m2 hg2 => ?_)
  obtain ⟨⟨y2, rfl⟩, hg2⟩ := hg2
  refine fl_Tq.stp (pw_cod lx_k1267) rfl (fl_bo rfl) rfl ?_
  refine fl_Tq.stp (pw_cod lx_k1268) rfl (fl_bo rfl) rfl ?_
  exact kk m2 hg2
theorem ly_c35 {L : Nat} {xs : Nat → Int32} {m : fl_M} {Q : Option fl_V → fl_M → Prop} {i : Nat} (hall : ∀ c ∈ at_CM ++ at_CA, at_Valid at_XI (pw_P L xs) c) (hL : L ≤ 3072) (hi : i + 6 ≤ L) (hg : t2_Z m) (kk : ∀ m' : fl_M, t2_Z m' → fl_Tq (pw_P L xs) 0 2030 (lx_lv i) [] m' Q) : fl_Tq (pw_P L xs) 0 1271 (lx_lv i) [] m Q := by
  obtain ⟨f, l⟩ := m
  refine fl_Tq.stp (pw_cod lx_k1271) rfl (fl_bo rfl) rfl ?_
  refine lx_callG (as_ := [lx_x]) (rest := []) (pw_cod lx_k1272) (pw_cll lx_l161) rfl (fl_bo rfl) rfl rfl (t2_qcall (hall _ at_c138_in) rfl hg ⟨lx_kx _, True.intro⟩ rfl rfl rfl) (fun v1 m1 hg1 => ?_)
  obtain ⟨⟨y1, rfl⟩, hg1⟩ := hg1
  refine fl_Tq.stp (pw_cod lx_k1275) rfl (fl_bo rfl) rfl ?_
  refine fl_Tq.stp (pw_cod lx_k1276) rfl (fl_bo rfl) rfl ?_
  refine lx_callG (as_ := [at_this]) (rest := []) (pw_cod lx_k1277) (pw_cll lx_l164) rfl (fl_bo rfl) rfl rfl (t2_qcall (hall _ at_c297_in) rfl hg1 ⟨at_k277 _, True.intro⟩ rfl rfl rfl) (fun v2 m2 hg2 => ?_)
  obtain ⟨⟨y2, rfl⟩, hg2⟩ := hg2
  refine fl_Tq.stp (pw_cod lx_k1280) rfl (fl_bo rfl) rfl ?_
  refine fl_Tq.stp (pw_cod lx_k1281) rfl (fl_bo rfl) rfl ?_
  exact kk m2 hg2
theorem ly_c36 {L : Nat} {xs : Nat → Int32} {m : fl_M} {Q : Option fl_V → fl_M → Prop} {i : Nat} (hall : ∀ c ∈ at_CM ++ at_CA, at_Valid at_XI (pw_P L xs) c) (hL : L ≤ 3072) (hi : i + 6 ≤ L) (hg : t2_Z m) (kk : ∀ m' : fl_M, t2_Z m' → fl_Tq (pw_P L xs) 0 2030 (lx_lv i) [] m' Q) : fl_Tq (pw_P L xs) 0 1284 (lx_lv i) [] m Q := by
  obtain ⟨f, l⟩ := m
  refine fl_Tq.stp (pw_cod lx_k1284) rfl (fl_bo rfl) rfl ?_
  refine lx_callG (as_ := [lx_x]) (rest := []) (pw_cod lx_k1285) (pw_cll lx_l165) rfl (fl_bo rfl) rfl rfl (t2_qcall (hall _ at_c139_in) rfl hg ⟨lx_kx _, True.intro⟩ rfl rfl rfl) (fun v1 m1 hg1 => ?_)
  obtain ⟨⟨y1, rfl⟩, hg1⟩ := hg1
  refine fl_Tq.stp (pw_cod lx_k1288) rfl (fl_bo rfl) rfl ?_
  refine fl_Tq.stp (pw_cod lx_k1289) rfl (fl_bo rfl) rfl ?_
  refine lx_callG (as_ := [at_this]) (rest := []) (pw_cod lx_k1290) (pw_cll lx_l168) rfl (fl_bo rfl) rfl rfl (t2_qcall (hall _ at_c300_in) rfl hg1 ⟨at_k277 _, True.intro⟩ rfl rfl rfl) (fun v2 m2 hg2 => ?_)
  obtain ⟨⟨y2, rfl⟩, hg2⟩ := hg2
  refine fl_Tq.stp (pw_cod lx_k1293) rfl (fl_bo rfl) rfl ?_
  refine fl_Tq.stp (pw_cod lx_k1294) rfl (fl_bo rfl) rfl ?_
  exact kk m2 hg2
theorem ly_c37 {L : Nat} {xs : Nat → Int32} {m : fl_M} {Q : Option fl_V → fl_M → Prop} {i : Nat} (hall : ∀ c ∈ at_CM ++ at_CA, at_Valid at_XI (pw_P L xs) c) (hL : L ≤ 3072) (hi : i + 6 ≤ L) (hg : t2_Z m) (kk : ∀ m' : fl_M, t2_Z m' → fl_Tq (pw_P L xs) 0 2030 (lx_lv i) [] m' Q) : fl_Tq (pw_P L xs) 0 1297 (lx_lv i) [] m Q := by
  obtain ⟨f, l⟩ := m
  refine fl_Tq.stp (pw_cod lx_k1297) rfl (fl_bo rfl) rfl ?_
  refine lx_arg (i := i) (jn := 1) (pw_cod lx_k1298) (pw_cod lx_k1299) (pw_cod lx_k1300) (pw_cod lx_k1301) (pw_cod lx_k1302) rfl (fl_bo rfl) hL (by omega) ?_
  refine lx_callG (as_ := [lx_x, .inl (xs (i + 1))]) (rest := []) (pw_cod lx_k1303) (pw_cll lx_l169) rfl (fl_bo rfl) rfl rfl (t2_qcall (hall _ at_c140_in) rfl hg ⟨lx_kx _, lx_ki _, True.intro⟩ rfl rfl rfl) (fun v1 m1 hg1 => ?_)
  obtain ⟨⟨y1, rfl⟩, hg1⟩ := hg1
  refine fl_Tq.stp (pw_cod lx_k1306) rfl (fl_bo rfl) rfl ?_
  refine fl_Tq.stp (pw_cod lx_k1307) rfl (fl_bo rfl) rfl ?_
  refine lx_arg (i := i) (jn := 1) (pw_cod lx_k1308) (pw_cod lx_k1309) (pw_cod lx_k1310) (pw_cod lx_k1311) (pw_cod lx_k1312) rfl (fl_bo rfl) hL (by omega) ?_
  refine lx_callG (as_ := [at_this, .inl (xs (i + 1))]) (rest := []) (pw_cod lx_k1313) (pw_cll lx_l172) rfl (fl_bo rfl) rfl rfl (t2_qcall (hall _ at_c301_in) rfl hg1 ⟨at_k277 _, lx_ki _, True.intro⟩ rfl rfl rfl) (fun v2 m2 hg2 => ?_)
  obtain ⟨⟨y2, rfl⟩, hg2⟩ := hg2
  refine fl_Tq.stp (pw_cod lx_k1316) rfl (fl_bo rfl) rfl ?_
  refine fl_Tq.stp (pw_cod lx_k1317) rfl (fl_bo rfl) rfl ?_
  exact kk m2 hg2
theorem ly_c38 {L : Nat} {xs : Nat → Int32} {m : fl_M} {Q : Option fl_V → fl_M → Prop} {i : Nat} (hall : ∀ c ∈ at_CM ++ at_CA, at_Valid at_XI (pw_P L xs) c) (hL : L ≤ 3072) (hi : i + 6 ≤ L) (hg : t2_Z m) (kk : ∀ m' : fl_M, t2_Z m' → fl_Tq (pw_P L xs) 0 2030 (lx_lv i) [] m' Q) : fl_Tq (pw_P L xs) 0 1320 (lx_lv i) [] m Q := by
  obtain ⟨f, l⟩ := m
  refine fl_Tq.stp (pw_cod lx_k1320) rfl (fl_bo rfl) rfl ?_
  refine lx_arg (i := i) (jn := 1) (pw_cod lx_k1321) (pw_cod lx_k1322) (pw_cod lx_k1323) (pw_cod lx_k1324) (pw_cod lx_k1325) rfl (fl_bo rfl) hL (by omega) ?_
  refine lx_callG (as_ := [lx_x, .inl (xs (i + 1))]) (rest := []) (pw_cod lx_k1326) (pw_cll lx_l173) rfl (fl_bo rfl) rfl rfl (t2_qcall (hall _ at_c141_in) rfl hg ⟨lx_kx _, lx_ki _, True.intro⟩ rfl rfl rfl) (fun v1 m1 hg1 => ?_)
  obtain ⟨⟨y1, rfl⟩, hg1⟩ := hg1
  refine fl_Tq.stp (pw_cod lx_k1329) rfl (fl_bo rfl) rfl ?_
  refine fl_Tq.stp (pw_cod lx_k1330) rfl (fl_bo rfl) rfl ?_
  refine lx_arg (i := i) (jn := 1) (pw_cod lx_k1331) (pw_cod lx_k1332) (pw_cod lx_k1333) (pw_cod lx_k1334) (pw_cod lx_k1335) rfl (fl_bo rfl) hL (by omega) ?_
  refine lx_callG (as_ := [at_this, .inl (xs (i + 1))]) (rest := []) (pw_cod lx_k1336) (pw_cll lx_l176) rfl (fl_bo rfl) rfl rfl (t2_qcall (hall _ at_c304_in) rfl hg1 ⟨at_k277 _, lx_ki _, True.intro⟩ rfl rfl rfl) (fun v2 m2 hg2 => ?_)
  obtain ⟨⟨y2, rfl⟩, hg2⟩ := hg2
  refine fl_Tq.stp (pw_cod lx_k1339) rfl (fl_bo rfl) rfl ?_
  refine fl_Tq.stp (pw_cod lx_k1340) rfl (fl_bo rfl) rfl ?_
  exact kk m2 hg2
theorem ly_c39 {L : Nat} {xs : Nat → Int32} {m : fl_M} {Q : Option fl_V → fl_M → Prop} {i : Nat} (hall : ∀ c ∈ at_CM ++ at_CA, at_Valid at_XI (pw_P L xs) c) (hL : L ≤ 3072) (hi : i + 6 ≤ L) (hg : t2_Z m) (kk : ∀ m' : fl_M, t2_Z m' → fl_Tq (pw_P L xs) 0 2030 (lx_lv i) [] m' Q) : fl_Tq (pw_P L xs) 0 1343 (lx_lv i) [] m Q := by
  obtain ⟨f, l⟩ := m
  refine fl_Tq.stp (pw_cod lx_k1343) rfl (fl_bo rfl) rfl ?_
  refine lx_arg (i := i) (jn := 1) (pw_cod lx_k1344) (pw_cod lx_k1345) (pw_cod lx_k1346) (pw_cod lx_k1347) (pw_cod lx_k1348) rfl (fl_bo rfl) hL (by omega) ?_
  refine lx_arg (i := i) (jn := 2) (pw_cod lx_k1349) (pw_cod lx_k1350) (pw_cod lx_k1351) (pw_cod lx_k1352) (pw_cod lx_k1353) rfl (fl_bo rfl) hL (by omega) ?_
  refine lx_arg (i := i) (jn := 3) (pw_cod lx_k1354) (pw_cod lx_k1355) (pw_cod lx_k1356) (pw_cod lx_k1357) (pw_cod lx_k1358) rfl (fl_bo rfl) hL (by omega) ?_
  refine lx_callG (as_ := [lx_x, .inl (xs (i + 1)), .inl (xs (i + 2)), .inl (xs (i + 3))]) (rest := []) (pw_cod lx_k1359) (pw_cll lx_l177) rfl (fl_bo rfl) rfl rfl (t2_qcall (hall _ at_c142_in) rfl hg ⟨lx_kx _, lx_ki _, lx_ki _, lx_ki _, True.intro⟩ rfl rfl rfl) (fun v1 m1 hg1 => ?_)
  obtain ⟨⟨y1, rfl⟩, hg1⟩ := hg1
  refine fl_Tq.stp (pw_cod lx_k1362) rfl (fl_bo rfl) rfl ?_
  refine fl_Tq.stp (pw_cod lx_k1363) rfl (fl_bo rfl) rfl ?_
  refine lx_arg (i := i) (jn := 1) (pw_cod lx_k1364) (pw_cod lx_k1365) (pw_cod lx_k1366) (pw_cod lx_k1367) (pw_cod lx_k1368) rfl (fl_bo rfl) hL (by omega) ?_
  refine lx_arg (i := i) (jn := 2) (pw_cod lx_k1369) (pw_cod lx_k1370) (pw_cod lx_k1371) (pw_cod lx_k1372) (pw_cod lx_k1373) rfl (fl_bo rfl) hL (by omega) ?_
  refine lx_arg (i := i) (jn := 3) (pw_cod lx_k1374) (pw_cod lx_k1375) (pw_cod lx_k1376) (pw_cod lx_k1377) (pw_cod lx_k1378) rfl (fl_bo rfl) hL (by omega) ?_
  refine lx_callG (as_ := [at_this, .inl (xs (i + 1)), .inl (xs (i + 2)), .inl (xs (i + 3))]) (rest := []) (pw_cod lx_k1379) (pw_cll lx_l180) rfl (fl_bo rfl) rfl rfl (t2_qcall (hall _ at_c308_in) rfl hg1 ⟨at_k277 _, lx_ki _, lx_ki _, lx_ki _, True.intro⟩ rfl rfl rfl) (fun v2 m2 hg2 => ?_)
  obtain ⟨⟨y2, rfl⟩, hg2⟩ := hg2
  refine fl_Tq.stp (pw_cod lx_k1382) rfl (fl_bo rfl) rfl ?_
  refine fl_Tq.stp (pw_cod lx_k1383) rfl (fl_bo rfl) rfl ?_
  exact kk m2 hg2
theorem ly_c40 {L : Nat} {xs : Nat → Int32} {m : fl_M} {Q : Option fl_V → fl_M → Prop} {i : Nat} (hall : ∀ c ∈ at_CM ++ at_CA, at_Valid at_XI (pw_P L xs) c) (hL : L ≤ 3072) (hi : i + 6 ≤ L) (hg : t2_Z m) (kk : ∀ m' : fl_M, t2_Z m' → fl_Tq (pw_P L xs) 0 2030 (lx_lv i) [] m' Q) : fl_Tq (pw_P L xs) 0 1386 (lx_lv i) [] m Q := by
  obtain ⟨f, l⟩ := m
  refine fl_Tq.stp (pw_cod lx_k1386) rfl (fl_bo rfl) rfl ?_
  refine lx_arg (i := i) (jn := 1) (pw_cod lx_k1387) (pw_cod lx_k1388) (pw_cod lx_k1389) (pw_cod lx_k1390) (pw_cod lx_k1391) rfl (fl_bo rfl) hL (by omega) ?_
  refine lx_arg (i := i) (jn := 2) (pw_cod lx_k1392) (pw_cod lx_k1393) (pw_cod lx_k1394) (pw_cod lx_k1395) (pw_cod lx_k1396) rfl (fl_bo rfl) hL (by omega) ?_
  refine lx_callG (as_ := [lx_x, .inl (xs (i + 1)), .inl (xs (i + 2))]) (rest := []) (pw_cod lx_k1397) (pw_cll lx_l181) rfl (fl_bo rfl) rfl rfl (t2_qcall (hall _ at_c143_in) rfl hg ⟨lx_kx _, lx_ki _, lx_ki _, True.intro⟩ rfl rfl rfl) (fun v1 m1 hg1 => ?_)
  obtain ⟨⟨y1, rfl⟩, hg1⟩ := hg1
  refine fl_Tq.stp (pw_cod lx_k1400) rfl (fl_bo rfl) rfl ?_
  refine fl_Tq.stp (pw_cod lx_k1401) rfl (fl_bo rfl) rfl ?_
  refine lx_arg (i := i) (jn := 1) (pw_cod lx_k1402) (pw_cod lx_k1403) (pw_cod lx_k1404) (pw_cod lx_k1405) (pw_cod lx_k1406) rfl (fl_bo rfl) hL (by omega) ?_
  refine lx_arg (i := i) (jn := 2) (pw_cod lx_k1407) (pw_cod lx_k1408) (pw_cod lx_k1409) (pw_cod lx_k1410) (pw_cod lx_k1411) rfl (fl_bo rfl) hL (by omega) ?_
  refine lx_callG (as_ := [at_this, .inl (xs (i + 1)), .inl (xs (i + 2))]) (rest := []) (pw_cod lx_k1412) (pw_cll lx_l184) rfl (fl_bo rfl) rfl rfl (t2_qcall (hall _ at_c309_in) rfl hg1 ⟨at_k277 _, lx_ki _, lx_ki _, True.intro⟩ rfl rfl rfl) (fun v2 m2 hg2 => ?_)
  obtain ⟨⟨y2, rfl⟩, hg2⟩ := hg2
  refine fl_Tq.stp (pw_cod lx_k1415) rfl (fl_bo rfl) rfl ?_
  refine fl_Tq.stp (pw_cod lx_k1416) rfl (fl_bo rfl) rfl ?_
  exact kk m2 hg2
theorem ly_c41 {L : Nat} {xs : Nat → Int32} {m : fl_M} {Q : Option fl_V → fl_M → Prop} {i : Nat} (hall : ∀ c ∈ at_CM ++ at_CA, at_Valid at_XI (pw_P L xs) c) (hL : L ≤ 3072) (hi : i + 6 ≤ L) (hg : t2_Z m) (kk : ∀ m' : fl_M, t2_Z m' → fl_Tq (pw_P L xs) 0 2030 (lx_lv i) [] m' Q) : fl_Tq (pw_P L xs) 0 1419 (lx_lv i) [] m Q := by
  obtain ⟨f, l⟩ := m
  refine fl_Tq.stp (pw_cod lx_k1419) rfl (fl_bo rfl) rfl ?_
  refine lx_callG (as_ := [lx_x]) (rest := []) (pw_cod lx_k1420) (pw_cll lx_l185) rfl (fl_bo rfl) rfl rfl (t2_qcall (hall _ at_c144_in) rfl hg ⟨lx_kx _, True.intro⟩ rfl rfl rfl) (fun v1 m1 hg1 => ?_)
  obtain ⟨⟨y1, rfl⟩, hg1⟩ := hg1
  refine fl_Tq.stp (pw_cod lx_k1423) rfl (fl_bo rfl) rfl ?_
  refine fl_Tq.stp (pw_cod lx_k1424) rfl (fl_bo rfl) rfl ?_
  refine lx_callG (as_ := [at_this]) (rest := []) (pw_cod lx_k1425) (pw_cll lx_l188) rfl (fl_bo rfl) rfl rfl (t2_qcall (hall _ at_c281_in) rfl hg1 ⟨at_k277 _, True.intro⟩ rfl rfl rfl) (fun v2 m2 hg2 => ?_)
  obtain ⟨⟨y2, rfl⟩, hg2⟩ := hg2
  refine fl_Tq.stp (pw_cod lx_k1428) rfl (fl_bo rfl) rfl ?_
  refine fl_Tq.stp (pw_cod lx_k1429) rfl (fl_bo rfl) rfl ?_
  exact kk m2 hg2
theorem ly_c42 {L : Nat} {xs : Nat → Int32} {m : fl_M} {Q : Option fl_V → fl_M → Prop} {i : Nat} (hall : ∀ c ∈ at_CM ++ at_CA, at_Valid at_XI (pw_P L xs) c) (hL : L ≤ 3072) (hi : i + 6 ≤ L) (hg : t2_Z m) (kk : ∀ m' : fl_M, t2_Z m' → fl_Tq (pw_P L xs) 0 2030 (lx_lv i) [] m' Q) : fl_Tq (pw_P L xs) 0 1432 (lx_lv i) [] m Q := by
  obtain ⟨f, l⟩ := m
  refine fl_Tq.stp (pw_cod lx_k1432) rfl (fl_bo rfl) rfl ?_
  refine lx_arg (i := i) (jn := 1) (pw_cod lx_k1433) (pw_cod lx_k1434) (pw_cod lx_k1435) (pw_cod lx_k1436) (pw_cod lx_k1437) rfl (fl_bo rfl) hL (by omega) ?_
  refine lx_callG (as_ := [lx_x, .inl (xs (i + 1))]) (rest := []) (pw_cod lx_k1438) (pw_cll lx_l189) rfl (fl_bo rfl) rfl rfl (t2_qcall (hall _ at_c145_in) rfl hg ⟨lx_kx _, lx_ki _, True.intro⟩ rfl rfl rfl) (fun v1 m1 hg1 => ?_)
  obtain ⟨⟨y1, rfl⟩, hg1⟩ := hg1
  refine fl_Tq.stp (pw_cod lx_k1441) rfl (fl_bo rfl) rfl ?_
  refine fl_Tq.stp (pw_cod lx_k1442) rfl (fl_bo rfl) rfl ?_
  refine lx_arg (i := i) (jn := 1) (pw_cod lx_k1443) (pw_cod lx_k1444) (pw_cod lx_k1445) (pw_cod lx_k1446) (pw_cod lx_k1447) rfl (fl_bo rfl) hL (by omega) ?_
  refine lx_callG (as_ := [at_this, .inl (xs (i + 1))]) (rest := []) (pw_cod lx_k1448) (pw_cll lx_l192) rfl (fl_bo rfl) rfl rfl (t2_qcall (hall _ at_c282_in) rfl hg1 ⟨at_k277 _, lx_ki _, True.intro⟩ rfl rfl rfl) (fun v2 m2 hg2 => ?_)
  obtain ⟨⟨y2, rfl⟩, hg2⟩ := hg2
  refine fl_Tq.stp (pw_cod lx_k1451) rfl (fl_bo rfl) rfl ?_
  refine fl_Tq.stp (pw_cod lx_k1452) rfl (fl_bo rfl) rfl ?_
  exact kk m2 hg2
theorem ly_c43 {L : Nat} {xs : Nat → Int32} {m : fl_M} {Q : Option fl_V → fl_M → Prop} {i : Nat} (hall : ∀ c ∈ at_CM ++ at_CA, at_Valid at_XI (pw_P L xs) c) (hL : L ≤ 3072) (hi : i + 6 ≤ L) (hg : t2_Z m) (kk : ∀ m' : fl_M, t2_Z m' → fl_Tq (pw_P L xs) 0 2030 (lx_lv i) [] m' Q) : fl_Tq (pw_P L xs) 0 1455 (lx_lv i) [] m Q := by
  obtain ⟨f, l⟩ := m
  refine fl_Tq.stp (pw_cod lx_k1455) rfl (fl_bo rfl) rfl ?_
  refine lx_arg (i := i) (jn := 1) (pw_cod lx_k1456) (pw_cod lx_k1457) (pw_cod lx_k1458) (pw_cod lx_k1459) (pw_cod lx_k1460) rfl (fl_bo rfl) hL (by omega) ?_
  refine lx_callG (as_ := [lx_x, .inl (xs (i + 1))]) (rest := []) (pw_cod lx_k1461) (pw_cll lx_l193) rfl (fl_bo rfl) rfl rfl (t2_qcall (hall _ at_c146_in) rfl hg ⟨lx_kx _, lx_ki _, True.intro⟩ rfl rfl rfl) (fun v1 m1 hg1 => ?_)
  obtain ⟨⟨y1, rfl⟩, hg1⟩ := hg1
  refine fl_Tq.stp (pw_cod lx_k1464) rfl (fl_bo rfl) rfl ?_
  refine fl_Tq.stp (pw_cod lx_k1465) rfl (fl_bo rfl) rfl ?_
  refine lx_arg (i := i) (jn := 1) (pw_cod lx_k1466) (pw_cod lx_k1467) (pw_cod lx_k1468) (pw_cod lx_k1469) (pw_cod lx_k1470) rfl (fl_bo rfl) hL (by omega) ?_
  refine lx_callG (as_ := [at_this, .inl (xs (i + 1))]) (rest := []) (pw_cod lx_k1471) (pw_cll lx_l196) rfl (fl_bo rfl) rfl rfl (t2_qcall (hall _ at_c283_in) rfl hg1 ⟨at_k277 _, lx_ki _, True.intro⟩ rfl rfl rfl) (fun v2 m2 hg2 => ?_)
  obtain ⟨⟨y2, rfl⟩, hg2⟩ := hg2
  refine fl_Tq.stp (pw_cod lx_k1474) rfl (fl_bo rfl) rfl ?_
  refine fl_Tq.stp (pw_cod lx_k1475) rfl (fl_bo rfl) rfl ?_
  exact kk m2 hg2
theorem ly_c44 {L : Nat} {xs : Nat → Int32} {m : fl_M} {Q : Option fl_V → fl_M → Prop} {i : Nat} (hall : ∀ c ∈ at_CM ++ at_CA, at_Valid at_XI (pw_P L xs) c) (hL : L ≤ 3072) (hi : i + 6 ≤ L) (hg : t2_Z m) (kk : ∀ m' : fl_M, t2_Z m' → fl_Tq (pw_P L xs) 0 2030 (lx_lv i) [] m' Q) : fl_Tq (pw_P L xs) 0 1478 (lx_lv i) [] m Q := by
  obtain ⟨f, l⟩ := m
  refine fl_Tq.stp (pw_cod lx_k1478) rfl (fl_bo rfl) rfl ?_
  refine lx_arg (i := i) (jn := 1) (pw_cod lx_k1479) (pw_cod lx_k1480) (pw_cod lx_k1481) (pw_cod lx_k1482) (pw_cod lx_k1483) rfl (fl_bo rfl) hL (by omega) ?_
  refine lx_callG (as_ := [lx_x, .inl (xs (i + 1))]) (rest := []) (pw_cod lx_k1484) (pw_cll lx_l197) rfl (fl_bo rfl) rfl rfl (t2_qcall (hall _ at_c147_in) rfl hg ⟨lx_kx _, lx_ki _, True.intro⟩ rfl rfl rfl) (fun v1 m1 hg1 => ?_)
  obtain ⟨⟨y1, rfl⟩, hg1⟩ := hg1
  refine fl_Tq.stp (pw_cod lx_k1487) rfl (fl_bo rfl) rfl ?_
  refine fl_Tq.stp (pw_cod lx_k1488) rfl (fl_bo rfl) rfl ?_
  refine lx_arg (i := i) (jn := 1) (pw_cod lx_k1489) (pw_cod lx_k1490) (pw_cod lx_k1491) (pw_cod lx_k1492) (pw_cod lx_k1493) rfl (fl_bo rfl) hL (by omega) ?_
  refine lx_callG (as_ := [at_this, .inl (xs (i + 1))]) (rest := []) (pw_cod lx_k1494) (pw_cll lx_l200) rfl (fl_bo rfl) rfl rfl (t2_qcall (hall _ at_c284_in) rfl hg1 ⟨at_k277 _, lx_ki _, True.intro⟩ rfl rfl rfl) (fun v2 m2 hg2 => ?_)
  obtain ⟨⟨y2, rfl⟩, hg2⟩ := hg2
  refine fl_Tq.stp (pw_cod lx_k1497) rfl (fl_bo rfl) rfl ?_
  refine fl_Tq.stp (pw_cod lx_k1498) rfl (fl_bo rfl) rfl ?_
  exact kk m2 hg2
theorem ly_c45 {L : Nat} {xs : Nat → Int32} {m : fl_M} {Q : Option fl_V → fl_M → Prop} {i : Nat} (hall : ∀ c ∈ at_CM ++ at_CA, at_Valid at_XI (pw_P L xs) c) (hL : L ≤ 3072) (hi : i + 6 ≤ L) (hg : t2_Z m) (kk : ∀ m' : fl_M, t2_Z m' → fl_Tq (pw_P L xs) 0 2030 (lx_lv i) [] m' Q) : fl_Tq (pw_P L xs) 0 1501 (lx_lv i) [] m Q := by
  obtain ⟨f, l⟩ := m
  refine fl_Tq.stp (pw_cod lx_k1501) rfl (fl_bo rfl) rfl ?_
  refine lx_arg (i := i) (jn := 1) (pw_cod lx_k1502) (pw_cod lx_k1503) (pw_cod lx_k1504) (pw_cod lx_k1505) (pw_cod lx_k1506) rfl (fl_bo rfl) hL (by omega) ?_
  refine lx_callG (as_ := [lx_x, .inl (xs (i + 1))]) (rest := []) (pw_cod lx_k1507) (pw_cll lx_l201) rfl (fl_bo rfl) rfl rfl (t2_qcall (hall _ at_c148_in) rfl hg ⟨lx_kx _, lx_ki _, True.intro⟩ rfl rfl rfl) (fun v1 m1 hg1 => ?_)
  obtain ⟨⟨y1, rfl⟩, hg1⟩ := hg1
  refine fl_Tq.stp (pw_cod lx_k1510) rfl (fl_bo rfl) rfl ?_
  refine fl_Tq.stp (pw_cod lx_k1511) rfl (fl_bo rfl) rfl ?_
  refine lx_arg (i := i) (jn := 1) (pw_cod lx_k1512) (pw_cod lx_k1513) (pw_cod lx_k1514) (pw_cod lx_k1515) (pw_cod lx_k1516) rfl (fl_bo rfl) hL (by omega) ?_
  refine lx_callG (as_ := [at_this, .inl (xs (i + 1))]) (rest := []) (pw_cod lx_k1517) (pw_cll lx_l204) rfl (fl_bo rfl) rfl rfl (t2_qcall (hall _ at_c285_in) rfl hg1 ⟨at_k277 _, lx_ki _, True.intro⟩ rfl rfl rfl) (fun v2 m2 hg2 => ?_)
  obtain ⟨⟨y2, rfl⟩, hg2⟩ := hg2
  refine fl_Tq.stp (pw_cod lx_k1520) rfl (fl_bo rfl) rfl ?_
  refine fl_Tq.stp (pw_cod lx_k1521) rfl (fl_bo rfl) rfl ?_
  exact kk m2 hg2
theorem ly_c46 {L : Nat} {xs : Nat → Int32} {m : fl_M} {Q : Option fl_V → fl_M → Prop} {i : Nat} (hall : ∀ c ∈ at_CM ++ at_CA, at_Valid at_XI (pw_P L xs) c) (hL : L ≤ 3072) (hi : i + 6 ≤ L) (hg : t2_Z m) (kk : ∀ m' : fl_M, t2_Z m' → fl_Tq (pw_P L xs) 0 2030 (lx_lv i) [] m' Q) : fl_Tq (pw_P L xs) 0 1524 (lx_lv i) [] m Q := by
  obtain ⟨f, l⟩ := m
  refine fl_Tq.stp (pw_cod lx_k1524) rfl (fl_bo rfl) rfl ?_
  refine lx_arg (i := i) (jn := 1) (pw_cod lx_k1525) (pw_cod lx_k1526) (pw_cod lx_k1527) (pw_cod lx_k1528) (pw_cod lx_k1529) rfl (fl_bo rfl) hL (by omega) ?_
  refine lx_callG (as_ := [lx_x, .inl (xs (i + 1))]) (rest := []) (pw_cod lx_k1530) (pw_cll lx_l205) rfl (fl_bo rfl) rfl rfl (t2_qcall (hall _ at_c149_in) rfl hg ⟨lx_kx _, lx_ki _, True.intro⟩ rfl rfl rfl) (fun v1 m1 hg1 => ?_)
  obtain ⟨⟨y1, rfl⟩, hg1⟩ := hg1
  refine fl_Tq.stp (pw_cod lx_k1533) rfl (fl_bo rfl) rfl ?_
  refine fl_Tq.stp (pw_cod lx_k1534) rfl (fl_bo rfl) rfl ?_
  refine lx_arg (i := i) (jn := 1) (pw_cod lx_k1535) (pw_cod lx_k1536) (pw_cod lx_k1537) (pw_cod lx_k1538) (pw_cod lx_k1539) rfl (fl_bo rfl) hL (by omega) ?_
  refine lx_callG (as_ := [at_this, .inl (xs (i + 1))]) (rest := []) (pw_cod lx_k1540) (pw_cll lx_l208) rfl (fl_bo rfl) rfl rfl (t2_qcall (hall _ at_c286_in) rfl hg1 ⟨at_k277 _, lx_ki _, True.intro⟩ rfl rfl rfl) (fun v2 m2 hg2 => ?_)
  obtain ⟨⟨y2, rfl⟩, hg2⟩ := hg2
  refine fl_Tq.stp (pw_cod lx_k1543) rfl (fl_bo rfl) rfl ?_
  refine fl_Tq.stp (pw_cod lx_k1544) rfl (fl_bo rfl) rfl ?_
  exact kk m2 hg2
theorem ly_c47 {L : Nat} {xs : Nat → Int32} {m : fl_M} {Q : Option fl_V → fl_M → Prop} {i : Nat} (hall : ∀ c ∈ at_CM ++ at_CA, at_Valid at_XI (pw_P L xs) c) (hL : L ≤ 3072) (hi : i + 6 ≤ L) (hg : t2_Z m) (kk : ∀ m' : fl_M, t2_Z m' → fl_Tq (pw_P L xs) 0 2030 (lx_lv i) [] m' Q) : fl_Tq (pw_P L xs) 0 1547 (lx_lv i) [] m Q := by
  obtain ⟨f, l⟩ := m
  refine fl_Tq.stp (pw_cod lx_k1547) rfl (fl_bo rfl) rfl ?_
  refine lx_callG (as_ := [lx_x]) (rest := []) (pw_cod lx_k1548) (pw_cll lx_l209) rfl (fl_bo rfl) rfl rfl (t2_qcall (hall _ at_c150_in) rfl hg ⟨lx_kx _, True.intro⟩ rfl rfl rfl) (fun v1 m1 hg1 => ?_)
  obtain ⟨⟨y1, rfl⟩, hg1⟩ := hg1
  refine fl_Tq.stp (pw_cod lx_k1551) rfl (fl_bo rfl) rfl ?_
  refine fl_Tq.stp (pw_cod lx_k1552) rfl (fl_bo rfl) rfl ?_
  refine lx_callG (as_ := [at_this]) (rest := []) (pw_cod lx_k1553) (pw_cll lx_l212) rfl (fl_bo rfl) rfl rfl (t2_qcall (hall _ at_c287_in) rfl hg1 ⟨at_k277 _, True.intro⟩ rfl rfl rfl) (fun v2 m2 hg2 => ?_)
  obtain ⟨⟨y2, rfl⟩, hg2⟩ := hg2
  refine fl_Tq.stp (pw_cod lx_k1556) rfl (fl_bo rfl) rfl ?_
  refine fl_Tq.stp (pw_cod lx_k1557) rfl (fl_bo rfl) rfl ?_
  exact kk m2 hg2
theorem ly_c48 {L : Nat} {xs : Nat → Int32} {m : fl_M} {Q : Option fl_V → fl_M → Prop} {i : Nat} (hall : ∀ c ∈ at_CM ++ at_CA, at_Valid at_XI (pw_P L xs) c) (hL : L ≤ 3072) (hi : i + 6 ≤ L) (hg : t2_Z m) (kk : ∀ m' : fl_M, t2_Z m' → fl_Tq (pw_P L xs) 0 2030 (lx_lv i) [] m' Q) : fl_Tq (pw_P L xs) 0 1560 (lx_lv i) [] m Q := by
  obtain ⟨f, l⟩ := m
  refine fl_Tq.stp (pw_cod lx_k1560) rfl (fl_bo rfl) rfl ?_
  refine lx_arg (i := i) (jn := 1) (pw_cod lx_k1561) (pw_cod lx_k1562) (pw_cod lx_k1563) (pw_cod lx_k1564) (pw_cod lx_k1565) rfl (fl_bo rfl) hL (by omega) ?_
  refine lx_callG (as_ := [lx_x, .inl (xs (i + 1))]) (rest := []) (pw_cod lx_k1566) (pw_cll lx_l213) rfl (fl_bo rfl) rfl rfl (t2_qcall (hall _ at_c151_in) rfl hg ⟨lx_kx _, lx_ki _, True.intro⟩ rfl rfl rfl) (fun v1 m1 hg1 => ?_)
  obtain ⟨⟨y1, rfl⟩, hg1⟩ := hg1
  refine fl_Tq.stp (pw_cod lx_k1569) rfl (fl_bo rfl) rfl ?_
  refine fl_Tq.stp (pw_cod lx_k1570) rfl (fl_bo rfl) rfl ?_
  refine lx_arg (i := i) (jn := 1) (pw_cod lx_k1571) (pw_cod lx_k1572) (pw_cod lx_k1573) (pw_cod lx_k1574) (pw_cod lx_k1575) rfl (fl_bo rfl) hL (by omega) ?_
  refine lx_callG (as_ := [at_this, .inl (xs (i + 1))]) (rest := []) (pw_cod lx_k1576) (pw_cll lx_l216) rfl (fl_bo rfl) rfl rfl (t2_qcall (hall _ at_c253_in) rfl hg1 ⟨at_k277 _, lx_ki _, True.intro⟩ rfl rfl rfl) (fun v2 m2 hg2 => ?_)
  obtain ⟨⟨y2, rfl⟩, hg2⟩ := hg2
  refine fl_Tq.stp (pw_cod lx_k1579) rfl (fl_bo rfl) rfl ?_
  refine fl_Tq.stp (pw_cod lx_k1580) rfl (fl_bo rfl) rfl ?_
  exact kk m2 hg2
theorem ly_c49 {L : Nat} {xs : Nat → Int32} {m : fl_M} {Q : Option fl_V → fl_M → Prop} {i : Nat} (hall : ∀ c ∈ at_CM ++ at_CA, at_Valid at_XI (pw_P L xs) c) (hL : L ≤ 3072) (hi : i + 6 ≤ L) (hg : t2_Z m) (kk : ∀ m' : fl_M, t2_Z m' → fl_Tq (pw_P L xs) 0 2030 (lx_lv i) [] m' Q) : fl_Tq (pw_P L xs) 0 1583 (lx_lv i) [] m Q := by
  obtain ⟨f, l⟩ := m
  refine fl_Tq.stp (pw_cod lx_k1583) rfl (fl_bo rfl) rfl ?_
  refine lx_arg (i := i) (jn := 1) (pw_cod lx_k1584) (pw_cod lx_k1585) (pw_cod lx_k1586) (pw_cod lx_k1587) (pw_cod lx_k1588) rfl (fl_bo rfl) hL (by omega) ?_
  refine lx_callG (as_ := [lx_x, .inl (xs (i + 1))]) (rest := []) (pw_cod lx_k1589) (pw_cll lx_l217) rfl (fl_bo rfl) rfl rfl (t2_qcall (hall _ at_c152_in) rfl hg ⟨lx_kx _, lx_ki _, True.intro⟩ rfl rfl rfl) (fun v1 m1 hg1 => ?_)
  obtain ⟨⟨y1, rfl⟩, hg1⟩ := hg1
  refine fl_Tq.stp (pw_cod lx_k1592) rfl (fl_bo rfl) rfl ?_
  refine fl_Tq.stp (pw_cod lx_k1593) rfl (fl_bo rfl) rfl ?_
  refine lx_arg (i := i) (jn := 1) (pw_cod lx_k1594) (pw_cod lx_k1595) (pw_cod lx_k1596) (pw_cod lx_k1597) (pw_cod lx_k1598) rfl (fl_bo rfl) hL (by omega) ?_
  refine lx_callG (as_ := [at_this, .inl (xs (i + 1))]) (rest := []) (pw_cod lx_k1599) (pw_cll lx_l220) rfl (fl_bo rfl) rfl rfl (t2_qcall (hall _ at_c288_in) rfl hg1 ⟨at_k277 _, lx_ki _, True.intro⟩ rfl rfl rfl) (fun v2 m2 hg2 => ?_)
  obtain ⟨⟨y2, rfl⟩, hg2⟩ := hg2
  refine fl_Tq.stp (pw_cod lx_k1602) rfl (fl_bo rfl) rfl ?_
  refine fl_Tq.stp (pw_cod lx_k1603) rfl (fl_bo rfl) rfl ?_
  exact kk m2 hg2
theorem ly_c50 {L : Nat} {xs : Nat → Int32} {m : fl_M} {Q : Option fl_V → fl_M → Prop} {i : Nat} (hall : ∀ c ∈ at_CM ++ at_CA, at_Valid at_XI (pw_P L xs) c) (hL : L ≤ 3072) (hi : i + 6 ≤ L) (hg : t2_Z m) (kk : ∀ m' : fl_M, t2_Z m' → fl_Tq (pw_P L xs) 0 2030 (lx_lv i) [] m' Q) : fl_Tq (pw_P L xs) 0 1606 (lx_lv i) [] m Q := by
  obtain ⟨f, l⟩ := m
  refine fl_Tq.stp (pw_cod lx_k1606) rfl (fl_bo rfl) rfl ?_
  refine lx_arg (i := i) (jn := 1) (pw_cod lx_k1607) (pw_cod lx_k1608) (pw_cod lx_k1609) (pw_cod lx_k1610) (pw_cod lx_k1611) rfl (fl_bo rfl) hL (by omega) ?_
  refine lx_arg (i := i) (jn := 2) (pw_cod lx_k1612) (pw_cod lx_k1613) (pw_cod lx_k1614) (pw_cod lx_k1615) (pw_cod lx_k1616) rfl (fl_bo rfl) hL (by omega) ?_
  refine lx_callG (as_ := [lx_x, .inl (xs (i + 1)), .inl (xs (i + 2))]) (rest := []) (pw_cod lx_k1617) (pw_cll lx_l221) rfl (fl_bo rfl) rfl rfl (t2_qcall (hall _ at_c153_in) rfl hg ⟨lx_kx _, lx_ki _, lx_ki _, True.intro⟩ rfl rfl rfl) (fun v1 m1 hg1 => ?_)
  obtain ⟨⟨y1, rfl⟩, hg1⟩ := hg1
  refine fl_Tq.stp (pw_cod lx_k1620) rfl (fl_bo rfl) rfl ?_
  refine fl_Tq.stp (pw_cod lx_k1621) rfl (fl_bo rfl) rfl ?_
  refine lx_arg (i := i) (jn := 1) (pw_cod lx_k1622) (pw_cod lx_k1623) (pw_cod lx_k1624) (pw_cod lx_k1625) (pw_cod lx_k1626) rfl (fl_bo rfl) hL (by omega) ?_
  refine lx_arg (i := i) (jn := 2) (pw_cod lx_k1627) (pw_cod lx_k1628) (pw_cod lx_k1629) (pw_cod lx_k1630) (pw_cod lx_k1631) rfl (fl_bo rfl) hL (by omega) ?_
  refine lx_callG (as_ := [at_this, .inl (xs (i + 1)), .inl (xs (i + 2))]) (rest := []) (pw_cod lx_k1632) (pw_cll lx_l224) rfl (fl_bo rfl) rfl rfl (t2_qcall (hall _ at_c289_in) rfl hg1 ⟨at_k277 _, lx_ki _, lx_ki _, True.intro⟩ rfl rfl rfl) (fun v2 m2 hg2 => ?_)
  obtain ⟨⟨y2, rfl⟩, hg2⟩ := hg2
  refine fl_Tq.stp (pw_cod lx_k1635) rfl (fl_bo rfl) rfl ?_
  refine fl_Tq.stp (pw_cod lx_k1636) rfl (fl_bo rfl) rfl ?_
  exact kk m2 hg2

end

/-! 95.14.lawcase.lean.txt -/
section
/-! ===== printed by wip/gen/lawgen3.py: the law's cases ===== -/
theorem ly_c51 {L : Nat} {xs : Nat → Int32} {m : fl_M} {Q : Option fl_V → fl_M → Prop} {i : Nat} (hall : ∀ c ∈ at_CM ++ at_CA, at_Valid at_XI (pw_P L xs) c) (hL : L ≤ 3072) (hi : i + 6 ≤ L) (hg : t2_Z m) (kk : ∀ m' : fl_M, t2_Z m' → fl_Tq (pw_P L xs) 0 2030 (lx_lv i) [] m' Q) : fl_Tq (pw_P L xs) 0 1639 (lx_lv i) [] m Q := by
  obtain ⟨f, l⟩ := m
  refine fl_Tq.stp (pw_cod lx_k1639) rfl (fl_bo rfl) rfl ?_
  refine lx_arg (i := i) (jn := 1) (pw_cod lx_k1640) (pw_cod lx_k1641) (pw_cod lx_k1642) (pw_cod lx_k1643) (pw_cod lx_k1644) rfl (fl_bo rfl) hL (by omega) ?_
  refine lx_arg (i := i) (jn := 2) (pw_cod lx_k1645) (pw_cod lx_k1646) (pw_cod lx_k1647) (pw_cod lx_k1648) (pw_cod lx_k1649) rfl (fl_bo rfl) hL (by omega) ?_
  refine lx_callG (as_ := [lx_x, .inl (xs (i + 1)), .inl (xs (i + 2))]) (rest := []) (pw_cod lx_k1650) (pw_cll lx_l225) rfl (fl_bo rfl) rfl rfl (t2_qcall (hall _ at_c154_in) rfl hg ⟨lx_kx _, lx_ki _, lx_ki _, True.intro⟩ rfl rfl rfl) (fun v1 m1 hg1 => ?_)
  obtain ⟨⟨y1, rfl⟩, hg1⟩ := hg1
  refine fl_Tq.stp (pw_cod lx_k1653) rfl (fl_bo rfl) rfl ?_
  refine fl_Tq.stp (pw_cod lx_k1654) rfl (fl_bo rfl) rfl ?_
  refine lx_arg (i := i) (jn := 1) (pw_cod lx_k1655) (pw_cod lx_k1656) (pw_cod lx_k1657) (pw_cod lx_k1658) (pw_cod lx_k1659) rfl (fl_bo rfl) hL (by omega) ?_
  refine lx_arg (i := i) (jn := 2) (pw_cod lx_k1660) (pw_cod lx_k1661) (pw_cod lx_k1662) (pw_cod lx_k1663) (pw_cod lx_k1664) rfl (fl_bo rfl) hL (by omega) ?_
  refine lx_callG (as_ := [at_this, .inl (xs (i + 1)), .inl (xs (i + 2))]) (rest := []) (pw_cod lx_k1665) (pw_cll lx_l228) rfl (fl_bo rfl) rfl rfl (t2_qcall (hall _ at_c290_in) rfl hg1 ⟨at_k277 _, lx_ki _, lx_ki _, True.intro⟩ rfl rfl rfl) (fun v2 m2 hg2 => ?_)
  obtain ⟨⟨y2, rfl⟩, hg2⟩ := hg2
  refine fl_Tq.stp (pw_cod lx_k1668) rfl (fl_bo rfl) rfl ?_
  refine fl_Tq.stp (pw_cod lx_k1669) rfl (fl_bo rfl) rfl ?_
  exact kk m2 hg2
theorem ly_c52 {L : Nat} {xs : Nat → Int32} {m : fl_M} {Q : Option fl_V → fl_M → Prop} {i : Nat} (hall : ∀ c ∈ at_CM ++ at_CA, at_Valid at_XI (pw_P L xs) c) (hL : L ≤ 3072) (hi : i + 6 ≤ L) (hg : t2_Z m) (kk : ∀ m' : fl_M, t2_Z m' → fl_Tq (pw_P L xs) 0 2030 (lx_lv i) [] m' Q) : fl_Tq (pw_P L xs) 0 1672 (lx_lv i) [] m Q := by
  obtain ⟨f, l⟩ := m
  refine fl_Tq.stp (pw_cod lx_k1672) rfl (fl_bo rfl) rfl ?_
  refine lx_arg (i := i) (jn := 1) (pw_cod lx_k1673) (pw_cod lx_k1674) (pw_cod lx_k1675) (pw_cod lx_k1676) (pw_cod lx_k1677) rfl (fl_bo rfl) hL (by omega) ?_
  refine lx_callG (as_ := [lx_x, .inl (xs (i + 1))]) (rest := []) (pw_cod lx_k1678) (pw_cll lx_l229) rfl (fl_bo rfl) rfl rfl (t2_qcall (hall _ at_c155_in) rfl hg ⟨lx_kx _, lx_ki _, True.intro⟩ rfl rfl rfl) (fun v1 m1 hg1 => ?_)
  obtain ⟨⟨y1, rfl⟩, hg1⟩ := hg1
  refine fl_Tq.stp (pw_cod lx_k1681) rfl (fl_bo rfl) rfl ?_
  refine fl_Tq.stp (pw_cod lx_k1682) rfl (fl_bo rfl) rfl ?_
  refine lx_arg (i := i) (jn := 1) (pw_cod lx_k1683) (pw_cod lx_k1684) (pw_cod lx_k1685) (pw_cod lx_k1686) (pw_cod lx_k1687) rfl (fl_bo rfl) hL (by omega) ?_
  refine lx_callG (as_ := [at_this, .inl (xs (i + 1))]) (rest := []) (pw_cod lx_k1688) (pw_cll lx_l232) rfl (fl_bo rfl) rfl rfl (t2_qcall (hall _ at_c291_in) rfl hg1 ⟨at_k277 _, lx_ki _, True.intro⟩ rfl rfl rfl) (fun v2 m2 hg2 => ?_)
  obtain ⟨⟨y2, rfl⟩, hg2⟩ := hg2
  refine fl_Tq.stp (pw_cod lx_k1691) rfl (fl_bo rfl) rfl ?_
  refine fl_Tq.stp (pw_cod lx_k1692) rfl (fl_bo rfl) rfl ?_
  exact kk m2 hg2
theorem ly_c53 {L : Nat} {xs : Nat → Int32} {m : fl_M} {Q : Option fl_V → fl_M → Prop} {i : Nat} (hall : ∀ c ∈ at_CM ++ at_CA, at_Valid at_XI (pw_P L xs) c) (hL : L ≤ 3072) (hi : i + 6 ≤ L) (hg : t2_Z m) (kk : ∀ m' : fl_M, t2_Z m' → fl_Tq (pw_P L xs) 0 2030 (lx_lv i) [] m' Q) : fl_Tq (pw_P L xs) 0 1695 (lx_lv i) [] m Q := by
  obtain ⟨f, l⟩ := m
  refine fl_Tq.stp (pw_cod lx_k1695) rfl (fl_bo rfl) rfl ?_
  refine lx_callG (as_ := [lx_x]) (rest := []) (pw_cod lx_k1696) (pw_cll lx_l233) rfl (fl_bo rfl) rfl rfl (t2_qcallJ (hall _ at_c156_in) rfl hg ⟨lx_kx _, True.intro⟩ rfl rfl rfl) (fun v1 m1 hg1 => ?_)
  obtain ⟨⟨y1, rfl⟩, hg1⟩ := hg1
  refine fl_Tq.stp (pw_cod lx_k1699) rfl (fl_bo rfl) rfl ?_
  refine fl_Tq.stp (pw_cod lx_k1700) rfl (fl_bo rfl) rfl ?_
  refine lx_callG (as_ := [at_this]) (rest := []) (pw_cod lx_k1701) (pw_cll lx_l237) rfl (fl_bo rfl) rfl rfl (t2_qcallJ (hall _ at_c292_in) rfl hg1 ⟨at_k277 _, True.intro⟩ rfl rfl rfl) (fun v2 m2 hg2 => ?_)
  obtain ⟨⟨y2, rfl⟩, hg2⟩ := hg2
  refine fl_Tq.stp (pw_cod lx_k1704) rfl (fl_bo rfl) rfl ?_
  refine fl_Tq.stp (pw_cod lx_k1705) rfl (fl_bo rfl) rfl ?_
  exact kk m2 hg2
theorem ly_c54 {L : Nat} {xs : Nat → Int32} {m : fl_M} {Q : Option fl_V → fl_M → Prop} {i : Nat} (hall : ∀ c ∈ at_CM ++ at_CA, at_Valid at_XI (pw_P L xs) c) (hL : L ≤ 3072) (hi : i + 6 ≤ L) (hg : t2_Z m) (kk : ∀ m' : fl_M, t2_Z m' → fl_Tq (pw_P L xs) 0 2030 (lx_lv i) [] m' Q) : fl_Tq (pw_P L xs) 0 1708 (lx_lv i) [] m Q := by
  obtain ⟨f, l⟩ := m
  refine fl_Tq.stp (pw_cod lx_k1708) rfl (fl_bo rfl) rfl ?_
  refine lx_callG (as_ := [lx_x]) (rest := []) (pw_cod lx_k1709) (pw_cll lx_l238) rfl (fl_bo rfl) rfl rfl (t2_qcall (hall _ at_c157_in) rfl hg ⟨lx_kx _, True.intro⟩ rfl rfl rfl) (fun v1 m1 hg1 => ?_)
  obtain ⟨⟨y1, rfl⟩, hg1⟩ := hg1
  refine fl_Tq.stp (pw_cod lx_k1712) rfl (fl_bo rfl) rfl ?_
  refine fl_Tq.stp (pw_cod lx_k1713) rfl (fl_bo rfl) rfl ?_
  refine lx_callG (as_ := [at_this]) (rest := []) (pw_cod lx_k1714) (pw_cll lx_l241) rfl (fl_bo rfl) rfl rfl (t2_qcall (hall _ at_c293_in) rfl hg1 ⟨at_k277 _, True.intro⟩ rfl rfl rfl) (fun v2 m2 hg2 => ?_)
  obtain ⟨⟨y2, rfl⟩, hg2⟩ := hg2
  refine fl_Tq.stp (pw_cod lx_k1717) rfl (fl_bo rfl) rfl ?_
  refine fl_Tq.stp (pw_cod lx_k1718) rfl (fl_bo rfl) rfl ?_
  exact kk m2 hg2
theorem ly_c55 {L : Nat} {xs : Nat → Int32} {m : fl_M} {Q : Option fl_V → fl_M → Prop} {i : Nat} (hall : ∀ c ∈ at_CM ++ at_CA, at_Valid at_XI (pw_P L xs) c) (hL : L ≤ 3072) (hi : i + 6 ≤ L) (hg : t2_Z m) (kk : ∀ m' : fl_M, t2_Z m' → fl_Tq (pw_P L xs) 0 2030 (lx_lv i) [] m' Q) : fl_Tq (pw_P L xs) 0 1721 (lx_lv i) [] m Q := by
  obtain ⟨f, l⟩ := m
  refine fl_Tq.stp (pw_cod lx_k1721) rfl (fl_bo rfl) rfl ?_
  refine lx_arg (i := i) (jn := 1) (pw_cod lx_k1722) (pw_cod lx_k1723) (pw_cod lx_k1724) (pw_cod lx_k1725) (pw_cod lx_k1726) rfl (fl_bo rfl) hL (by omega) ?_
  refine lx_arg (i := i) (jn := 2) (pw_cod lx_k1727) (pw_cod lx_k1728) (pw_cod lx_k1729) (pw_cod lx_k1730) (pw_cod lx_k1731) rfl (fl_bo rfl) hL (by omega) ?_
  refine lx_callG (as_ := [lx_x, .inl (xs (i + 1)), .inl (xs (i + 2))]) (rest := []) (pw_cod lx_k1732) (pw_cll lx_l242) rfl (fl_bo rfl) rfl rfl (t2_qcall (hall _ at_c159_in) rfl hg ⟨lx_kx _, lx_ki _, lx_ki _, True.intro⟩ rfl rfl rfl) (fun v1 m1 hg1 => ?_)
  obtain ⟨⟨y1, rfl⟩, hg1⟩ := hg1
  refine fl_Tq.stp (pw_cod lx_k1735) rfl (fl_bo rfl) rfl ?_
  refine fl_Tq.stp (pw_cod lx_k1736) rfl (fl_bo rfl) rfl ?_
  refine lx_arg (i := i) (jn := 1) (pw_cod lx_k1737) (pw_cod lx_k1738) (pw_cod lx_k1739) (pw_cod lx_k1740) (pw_cod lx_k1741) rfl (fl_bo rfl) hL (by omega) ?_
  refine lx_arg (i := i) (jn := 2) (pw_cod lx_k1742) (pw_cod lx_k1743) (pw_cod lx_k1744) (pw_cod lx_k1745) (pw_cod lx_k1746) rfl (fl_bo rfl) hL (by omega) ?_
  obtain ⟨f1, l1⟩ := m1
  refine lx_callG (as_ := [at_this, .inl (xs (i + 1)), .inl (xs (i + 2))]) (rest := []) (pw_cod lx_k1747) (pw_cll lx_l245) rfl (fl_bo rfl) rfl rfl (t2_acallR (hall _ at_c310_in) rfl hg1 ⟨at_k277 _, lx_ki _, lx_ki _, True.intro⟩ rfl rfl rfl rfl (t2_z310 hall hg1.1)) (fun v2 m2 hg2 => ?_)
  obtain ⟨⟨y2, rfl⟩, hg2⟩ := hg2
  refine fl_Tq.stp (pw_cod lx_k1750) rfl (fl_bo rfl) rfl ?_
  refine fl_Tq.stp (pw_cod lx_k1751) rfl (fl_bo rfl) rfl ?_
  exact kk m2 hg2
theorem ly_c56 {L : Nat} {xs : Nat → Int32} {m : fl_M} {Q : Option fl_V → fl_M → Prop} {i : Nat} (hall : ∀ c ∈ at_CM ++ at_CA, at_Valid at_XI (pw_P L xs) c) (hL : L ≤ 3072) (hi : i + 6 ≤ L) (hg : t2_Z m) (kk : ∀ m' : fl_M, t2_Z m' → fl_Tq (pw_P L xs) 0 2030 (lx_lv i) [] m' Q) : fl_Tq (pw_P L xs) 0 1754 (lx_lv i) [] m Q := by
  obtain ⟨f, l⟩ := m
  refine fl_Tq.stp (pw_cod lx_k1754) rfl (fl_bo rfl) rfl ?_
  refine lx_arg (i := i) (jn := 1) (pw_cod lx_k1755) (pw_cod lx_k1756) (pw_cod lx_k1757) (pw_cod lx_k1758) (pw_cod lx_k1759) rfl (fl_bo rfl) hL (by omega) ?_
  refine lx_arg (i := i) (jn := 2) (pw_cod lx_k1760) (pw_cod lx_k1761) (pw_cod lx_k1762) (pw_cod lx_k1763) (pw_cod lx_k1764) rfl (fl_bo rfl) hL (by omega) ?_
  refine lx_arg (i := i) (jn := 3) (pw_cod lx_k1765) (pw_cod lx_k1766) (pw_cod lx_k1767) (pw_cod lx_k1768) (pw_cod lx_k1769) rfl (fl_bo rfl) hL (by omega) ?_
  refine lx_callG (as_ := [lx_x, .inl (xs (i + 1)), .inl (xs (i + 2)), .inl (xs (i + 3))]) (rest := []) (pw_cod lx_k1770) (pw_cll lx_l246) rfl (fl_bo rfl) rfl rfl (t2_qcall (hall _ at_c160_in) rfl hg ⟨lx_kx _, lx_ki _, lx_ki _, lx_ki _, True.intro⟩ rfl rfl rfl) (fun v1 m1 hg1 => ?_)
  obtain ⟨⟨y1, rfl⟩, hg1⟩ := hg1
  refine fl_Tq.stp (pw_cod lx_k1773) rfl (fl_bo rfl) rfl ?_
  refine fl_Tq.stp (pw_cod lx_k1774) rfl (fl_bo rfl) rfl ?_
  refine lx_arg (i := i) (jn := 1) (pw_cod lx_k1775) (pw_cod lx_k1776) (pw_cod lx_k1777) (pw_cod lx_k1778) (pw_cod lx_k1779) rfl (fl_bo rfl) hL (by omega) ?_
  refine lx_arg (i := i) (jn := 2) (pw_cod lx_k1780) (pw_cod lx_k1781) (pw_cod lx_k1782) (pw_cod lx_k1783) (pw_cod lx_k1784) rfl (fl_bo rfl) hL (by omega) ?_
  refine lx_arg (i := i) (jn := 3) (pw_cod lx_k1785) (pw_cod lx_k1786) (pw_cod lx_k1787) (pw_cod lx_k1788) (pw_cod lx_k1789) rfl (fl_bo rfl) hL (by omega) ?_
  obtain ⟨f1, l1⟩ := m1
  refine lx_callG (as_ := [at_this, .inl (xs (i + 1)), .inl (xs (i + 2)), .inl (xs (i + 3))]) (rest := []) (pw_cod lx_k1790) (pw_cll lx_l249) rfl (fl_bo rfl) rfl rfl (t2_acallR (hall _ at_c311_in) rfl hg1 ⟨at_k277 _, lx_ki _, lx_ki _, lx_ki _, True.intro⟩ rfl rfl rfl rfl (t2_z311 hall hg1.1)) (fun v2 m2 hg2 => ?_)
  obtain ⟨⟨y2, rfl⟩, hg2⟩ := hg2
  refine fl_Tq.stp (pw_cod lx_k1793) rfl (fl_bo rfl) rfl ?_
  refine fl_Tq.stp (pw_cod lx_k1794) rfl (fl_bo rfl) rfl ?_
  exact kk m2 hg2
theorem ly_c57 {L : Nat} {xs : Nat → Int32} {m : fl_M} {Q : Option fl_V → fl_M → Prop} {i : Nat} (hall : ∀ c ∈ at_CM ++ at_CA, at_Valid at_XI (pw_P L xs) c) (hL : L ≤ 3072) (hi : i + 6 ≤ L) (hg : t2_Z m) (kk : ∀ m' : fl_M, t2_Z m' → fl_Tq (pw_P L xs) 0 2030 (lx_lv i) [] m' Q) : fl_Tq (pw_P L xs) 0 1797 (lx_lv i) [] m Q := by
  obtain ⟨f, l⟩ := m
  refine fl_Tq.stp (pw_cod lx_k1797) rfl (fl_bo rfl) rfl ?_
  refine lx_arg (i := i) (jn := 1) (pw_cod lx_k1798) (pw_cod lx_k1799) (pw_cod lx_k1800) (pw_cod lx_k1801) (pw_cod lx_k1802) rfl (fl_bo rfl) hL (by omega) ?_
  refine lx_callG (as_ := [lx_x, .inl (xs (i + 1))]) (rest := []) (pw_cod lx_k1803) (pw_cll lx_l250) rfl (fl_bo rfl) rfl rfl (t2_qcall (hall _ at_c161_in) rfl hg ⟨lx_kx _, lx_ki _, True.intro⟩ rfl rfl rfl) (fun v1 m1 hg1 => ?_)
  obtain ⟨⟨y1, rfl⟩, hg1⟩ := hg1
  refine fl_Tq.stp (pw_cod lx_k1806) rfl (fl_bo rfl) rfl ?_
  refine fl_Tq.stp (pw_cod lx_k1807) rfl (fl_bo rfl) rfl ?_
  refine lx_arg (i := i) (jn := 1) (pw_cod lx_k1808) (pw_cod lx_k1809) (pw_cod lx_k1810) (pw_cod lx_k1811) (pw_cod lx_k1812) rfl (fl_bo rfl) hL (by omega) ?_
  obtain ⟨f1, l1⟩ := m1
  refine lx_callG (as_ := [at_this, .inl (xs (i + 1))]) (rest := []) (pw_cod lx_k1813) (pw_cll lx_l253) rfl (fl_bo rfl) rfl rfl (t2_acallR (hall _ at_c312_in) rfl hg1 ⟨at_k277 _, lx_ki _, True.intro⟩ rfl rfl rfl rfl (t2_z312 hall hg1.1)) (fun v2 m2 hg2 => ?_)
  obtain ⟨⟨y2, rfl⟩, hg2⟩ := hg2
  refine fl_Tq.stp (pw_cod lx_k1816) rfl (fl_bo rfl) rfl ?_
  refine fl_Tq.stp (pw_cod lx_k1817) rfl (fl_bo rfl) rfl ?_
  exact kk m2 hg2
theorem ly_c58 {L : Nat} {xs : Nat → Int32} {m : fl_M} {Q : Option fl_V → fl_M → Prop} {i : Nat} (hall : ∀ c ∈ at_CM ++ at_CA, at_Valid at_XI (pw_P L xs) c) (hL : L ≤ 3072) (hi : i + 6 ≤ L) (hg : t2_Z m) (kk : ∀ m' : fl_M, t2_Z m' → fl_Tq (pw_P L xs) 0 2030 (lx_lv i) [] m' Q) : fl_Tq (pw_P L xs) 0 1820 (lx_lv i) [] m Q := by
  obtain ⟨f, l⟩ := m
  refine fl_Tq.stp (pw_cod lx_k1820) rfl (fl_bo rfl) rfl ?_
  refine lx_callG (as_ := [lx_x]) (rest := []) (pw_cod lx_k1821) (pw_cll lx_l254) rfl (fl_bo rfl) rfl rfl (t2_qcall (hall _ at_c162_in) rfl hg ⟨lx_kx _, True.intro⟩ rfl rfl rfl) (fun v1 m1 hg1 => ?_)
  obtain ⟨⟨y1, rfl⟩, hg1⟩ := hg1
  refine fl_Tq.stp (pw_cod lx_k1824) rfl (fl_bo rfl) rfl ?_
  refine fl_Tq.stp (pw_cod lx_k1825) rfl (fl_bo rfl) rfl ?_
  obtain ⟨f1, l1⟩ := m1
  refine lx_callG (as_ := [at_this]) (rest := []) (pw_cod lx_k1826) (pw_cll lx_l257) rfl (fl_bo rfl) rfl rfl (t2_acallR (hall _ at_c313_in) rfl hg1 ⟨at_k277 _, True.intro⟩ rfl rfl rfl rfl (t2_z313 hall hg1.1)) (fun v2 m2 hg2 => ?_)
  obtain ⟨⟨y2, rfl⟩, hg2⟩ := hg2
  refine fl_Tq.stp (pw_cod lx_k1829) rfl (fl_bo rfl) rfl ?_
  refine fl_Tq.stp (pw_cod lx_k1830) rfl (fl_bo rfl) rfl ?_
  exact kk m2 hg2
theorem ly_c59 {L : Nat} {xs : Nat → Int32} {m : fl_M} {Q : Option fl_V → fl_M → Prop} {i : Nat} (hall : ∀ c ∈ at_CM ++ at_CA, at_Valid at_XI (pw_P L xs) c) (hL : L ≤ 3072) (hi : i + 6 ≤ L) (hg : t2_Z m) (kk : ∀ m' : fl_M, t2_Z m' → fl_Tq (pw_P L xs) 0 2030 (lx_lv i) [] m' Q) : fl_Tq (pw_P L xs) 0 1833 (lx_lv i) [] m Q := by
  obtain ⟨f, l⟩ := m
  refine fl_Tq.stp (pw_cod lx_k1833) rfl (fl_bo rfl) rfl ?_
  refine lx_arg (i := i) (jn := 1) (pw_cod lx_k1834) (pw_cod lx_k1835) (pw_cod lx_k1836) (pw_cod lx_k1837) (pw_cod lx_k1838) rfl (fl_bo rfl) hL (by omega) ?_
  refine lx_callG (as_ := [lx_x, .inl (xs (i + 1))]) (rest := []) (pw_cod lx_k1839) (pw_cll lx_l258) rfl (fl_bo rfl) rfl rfl (t2_qcall (hall _ at_c163_in) rfl hg ⟨lx_kx _, lx_ki _, True.intro⟩ rfl rfl rfl) (fun v1 m1 hg1 => ?_)
  obtain ⟨⟨y1, rfl⟩, hg1⟩ := hg1
  refine fl_Tq.stp (pw_cod lx_k1842) rfl (fl_bo rfl) rfl ?_
  refine fl_Tq.stp (pw_cod lx_k1843) rfl (fl_bo rfl) rfl ?_
  refine lx_arg (i := i) (jn := 1) (pw_cod lx_k1844) (pw_cod lx_k1845) (pw_cod lx_k1846) (pw_cod lx_k1847) (pw_cod lx_k1848) rfl (fl_bo rfl) hL (by omega) ?_
  obtain ⟨f1, l1⟩ := m1
  refine lx_callG (as_ := [at_this, .inl (xs (i + 1))]) (rest := []) (pw_cod lx_k1849) (pw_cll lx_l261) rfl (fl_bo rfl) rfl rfl (t2_acallR (hall _ at_c314_in) rfl hg1 ⟨at_k277 _, lx_ki _, True.intro⟩ rfl rfl rfl rfl (t2_z314 hall hg1.1)) (fun v2 m2 hg2 => ?_)
  obtain ⟨⟨y2, rfl⟩, hg2⟩ := hg2
  refine fl_Tq.stp (pw_cod lx_k1852) rfl (fl_bo rfl) rfl ?_
  refine fl_Tq.stp (pw_cod lx_k1853) rfl (fl_bo rfl) rfl ?_
  exact kk m2 hg2
theorem ly_c60 {L : Nat} {xs : Nat → Int32} {m : fl_M} {Q : Option fl_V → fl_M → Prop} {i : Nat} (hall : ∀ c ∈ at_CM ++ at_CA, at_Valid at_XI (pw_P L xs) c) (hL : L ≤ 3072) (hi : i + 6 ≤ L) (hg : t2_Z m) (kk : ∀ m' : fl_M, t2_Z m' → fl_Tq (pw_P L xs) 0 2030 (lx_lv i) [] m' Q) : fl_Tq (pw_P L xs) 0 1856 (lx_lv i) [] m Q := by
  obtain ⟨f, l⟩ := m
  refine fl_Tq.stp (pw_cod lx_k1856) rfl (fl_bo rfl) rfl ?_
  refine lx_arg (i := i) (jn := 1) (pw_cod lx_k1857) (pw_cod lx_k1858) (pw_cod lx_k1859) (pw_cod lx_k1860) (pw_cod lx_k1861) rfl (fl_bo rfl) hL (by omega) ?_
  refine lx_arg (i := i) (jn := 2) (pw_cod lx_k1862) (pw_cod lx_k1863) (pw_cod lx_k1864) (pw_cod lx_k1865) (pw_cod lx_k1866) rfl (fl_bo rfl) hL (by omega) ?_
  refine lx_callG (as_ := [lx_x, .inl (xs (i + 1)), .inl (xs (i + 2))]) (rest := []) (pw_cod lx_k1867) (pw_cll lx_l262) rfl (fl_bo rfl) rfl rfl (t2_qcall (hall _ at_c164_in) rfl hg ⟨lx_kx _, lx_ki _, lx_ki _, True.intro⟩ rfl rfl rfl) (fun v1 m1 hg1 => ?_)
  obtain ⟨⟨y1, rfl⟩, hg1⟩ := hg1
  refine fl_Tq.stp (pw_cod lx_k1870) rfl (fl_bo rfl) rfl ?_
  refine fl_Tq.stp (pw_cod lx_k1871) rfl (fl_bo rfl) rfl ?_
  refine lx_arg (i := i) (jn := 1) (pw_cod lx_k1872) (pw_cod lx_k1873) (pw_cod lx_k1874) (pw_cod lx_k1875) (pw_cod lx_k1876) rfl (fl_bo rfl) hL (by omega) ?_
  refine lx_arg (i := i) (jn := 2) (pw_cod lx_k1877) (pw_cod lx_k1878) (pw_cod lx_k1879) (pw_cod lx_k1880) (pw_cod lx_k1881) rfl (fl_bo rfl) hL (by omega) ?_
  obtain ⟨f1, l1⟩ := m1
  refine lx_callG (as_ := [at_this, .inl (xs (i + 1)), .inl (xs (i + 2))]) (rest := []) (pw_cod lx_k1882) (pw_cll lx_l265) rfl (fl_bo rfl) rfl rfl (t2_acall (hall _ at_c316_in) rfl hg1 ⟨at_k277 _, lx_ki _, lx_ki _, True.intro⟩ rfl rfl rfl (t2_z316 hall hg1.1 hg1.2.2.2.2)) (fun v2 m2 hg2 => ?_)
  obtain ⟨⟨y2, rfl⟩, hg2⟩ := hg2
  refine fl_Tq.stp (pw_cod lx_k1885) rfl (fl_bo rfl) rfl ?_
  refine fl_Tq.stp (pw_cod lx_k1886) rfl (fl_bo rfl) rfl ?_
  exact kk m2 hg2
theorem ly_c61 {L : Nat} {xs : Nat → Int32} {m : fl_M} {Q : Option fl_V → fl_M → Prop} {i : Nat} (hall : ∀ c ∈ at_CM ++ at_CA, at_Valid at_XI (pw_P L xs) c) (hL : L ≤ 3072) (hi : i + 6 ≤ L) (hg : t2_Z m) (kk : ∀ m' : fl_M, t2_Z m' → fl_Tq (pw_P L xs) 0 2030 (lx_lv i) [] m' Q) : fl_Tq (pw_P L xs) 0 1889 (lx_lv i) [] m Q := by
  obtain ⟨f, l⟩ := m
  refine fl_Tq.stp (pw_cod lx_k1889) rfl (fl_bo rfl) rfl ?_
  refine lx_arg (i := i) (jn := 1) (pw_cod lx_k1890) (pw_cod lx_k1891) (pw_cod lx_k1892) (pw_cod lx_k1893) (pw_cod lx_k1894) rfl (fl_bo rfl) hL (by omega) ?_
  refine lx_arg (i := i) (jn := 2) (pw_cod lx_k1895) (pw_cod lx_k1896) (pw_cod lx_k1897) (pw_cod lx_k1898) (pw_cod lx_k1899) rfl (fl_bo rfl) hL (by omega) ?_
  refine lx_callG (as_ := [lx_x, .inl (xs (i + 1)), .inl (xs (i + 2))]) (rest := []) (pw_cod lx_k1900) (pw_cll lx_l266) rfl (fl_bo rfl) rfl rfl (t2_qcall (hall _ at_c165_in) rfl hg ⟨lx_kx _, lx_ki _, lx_ki _, True.intro⟩ rfl rfl rfl) (fun v1 m1 hg1 => ?_)
  obtain ⟨⟨y1, rfl⟩, hg1⟩ := hg1
  refine fl_Tq.stp (pw_cod lx_k1903) rfl (fl_bo rfl) rfl ?_
  refine fl_Tq.stp (pw_cod lx_k1904) rfl (fl_bo rfl) rfl ?_
  refine lx_arg (i := i) (jn := 1) (pw_cod lx_k1905) (pw_cod lx_k1906) (pw_cod lx_k1907) (pw_cod lx_k1908) (pw_cod lx_k1909) rfl (fl_bo rfl) hL (by omega) ?_
  refine lx_arg (i := i) (jn := 2) (pw_cod lx_k1910) (pw_cod lx_k1911) (pw_cod lx_k1912) (pw_cod lx_k1913) (pw_cod lx_k1914) rfl (fl_bo rfl) hL (by omega) ?_
  obtain ⟨f1, l1⟩ := m1
  refine lx_callG (as_ := [at_this, .inl (xs (i + 1)), .inl (xs (i + 2))]) (rest := []) (pw_cod lx_k1915) (pw_cll lx_l269) rfl (fl_bo rfl) rfl rfl (t2_acallR (hall _ at_c319_in) rfl hg1 ⟨at_k277 _, lx_ki _, lx_ki _, True.intro⟩ rfl rfl rfl rfl (t2_z319 hall hg1.1)) (fun v2 m2 hg2 => ?_)
  obtain ⟨⟨y2, rfl⟩, hg2⟩ := hg2
  refine fl_Tq.stp (pw_cod lx_k1918) rfl (fl_bo rfl) rfl ?_
  refine fl_Tq.stp (pw_cod lx_k1919) rfl (fl_bo rfl) rfl ?_
  exact kk m2 hg2
theorem ly_c62 {L : Nat} {xs : Nat → Int32} {m : fl_M} {Q : Option fl_V → fl_M → Prop} {i : Nat} (hall : ∀ c ∈ at_CM ++ at_CA, at_Valid at_XI (pw_P L xs) c) (hL : L ≤ 3072) (hi : i + 6 ≤ L) (hg : t2_Z m) (kk : ∀ m' : fl_M, t2_Z m' → fl_Tq (pw_P L xs) 0 2030 (lx_lv i) [] m' Q) : fl_Tq (pw_P L xs) 0 1922 (lx_lv i) [] m Q := by
  obtain ⟨f, l⟩ := m
  refine fl_Tq.stp (pw_cod lx_k1922) rfl (fl_bo rfl) rfl ?_
  refine lx_arg (i := i) (jn := 1) (pw_cod lx_k1923) (pw_cod lx_k1924) (pw_cod lx_k1925) (pw_cod lx_k1926) (pw_cod lx_k1927) rfl (fl_bo rfl) hL (by omega) ?_
  refine lx_callG (as_ := [lx_x, .inl (xs (i + 1))]) (rest := []) (pw_cod lx_k1928) (pw_cll lx_l270) rfl (fl_bo rfl) rfl rfl (t2_cmp hall hg) (fun v1 m1 hg1 => ?_)
  obtain ⟨⟨y1, rfl⟩, hg1⟩ := hg1
  refine fl_Tq.stp (pw_cod lx_k1931) rfl (fl_bo rfl) rfl ?_
  refine lx_arg (i := i) (jn := 1) (pw_cod lx_k1932) (pw_cod lx_k1933) (pw_cod lx_k1934) (pw_cod lx_k1935) (pw_cod lx_k1936) rfl (fl_bo rfl) hL (by omega) ?_
  refine lx_callG (as_ := [at_this, .inl (xs (i + 1))]) (rest := [.inl y1]) (pw_cod lx_k1937) (pw_cll lx_l273) rfl (fl_bo rfl) rfl rfl hg1 (fun v2 m2 hg2 => ?_)
  obtain ⟨rfl, hg2⟩ := hg2
  refine fl_Tq.jt (pw_cod lx_k1940) (fl_bo rfl) (by rw [at_c2]; exact decide_eq_true (by omega)) rfl ?_
  exact kk m2 hg2
theorem ly_c63 {L : Nat} {xs : Nat → Int32} {m : fl_M} {Q : Option fl_V → fl_M → Prop} {i : Nat} (hall : ∀ c ∈ at_CM ++ at_CA, at_Valid at_XI (pw_P L xs) c) (hL : L ≤ 3072) (hi : i + 6 ≤ L) (hg : t2_Z m) (kk : ∀ m' : fl_M, t2_Z m' → fl_Tq (pw_P L xs) 0 2030 (lx_lv i) [] m' Q) : fl_Tq (pw_P L xs) 0 1945 (lx_lv i) [] m Q := by
  obtain ⟨f, l⟩ := m
  refine fl_Tq.stp (pw_cod lx_k1945) rfl (fl_bo rfl) rfl ?_
  refine lx_arg (i := i) (jn := 1) (pw_cod lx_k1946) (pw_cod lx_k1947) (pw_cod lx_k1948) (pw_cod lx_k1949) (pw_cod lx_k1950) rfl (fl_bo rfl) hL (by omega) ?_
  refine lx_callG (as_ := [lx_x, .inl (xs (i + 1))]) (rest := []) (pw_cod lx_k1951) (pw_cll lx_l274) rfl (fl_bo rfl) rfl rfl (t2_qcall (hall _ at_c167_in) rfl hg ⟨lx_kx _, lx_ki _, True.intro⟩ rfl rfl rfl) (fun v1 m1 hg1 => ?_)
  obtain ⟨⟨y1, rfl⟩, hg1⟩ := hg1
  refine fl_Tq.stp (pw_cod lx_k1954) rfl (fl_bo rfl) rfl ?_
  refine fl_Tq.stp (pw_cod lx_k1955) rfl (fl_bo rfl) rfl ?_
  refine lx_arg (i := i) (jn := 1) (pw_cod lx_k1956) (pw_cod lx_k1957) (pw_cod lx_k1958) (pw_cod lx_k1959) (pw_cod lx_k1960) rfl (fl_bo rfl) hL (by omega) ?_
  obtain ⟨f1, l1⟩ := m1
  refine lx_callG (as_ := [at_this, .inl (xs (i + 1))]) (rest := []) (pw_cod lx_k1961) (pw_cll lx_l277) rfl (fl_bo rfl) rfl rfl (t2_acallR (hall _ at_c321_in) rfl hg1 ⟨at_k277 _, lx_ki _, True.intro⟩ rfl rfl rfl rfl (t2_z321 hall hg1.1)) (fun v2 m2 hg2 => ?_)
  obtain ⟨⟨y2, rfl⟩, hg2⟩ := hg2
  refine fl_Tq.stp (pw_cod lx_k1964) rfl (fl_bo rfl) rfl ?_
  refine fl_Tq.stp (pw_cod lx_k1965) rfl (fl_bo rfl) rfl ?_
  exact kk m2 hg2
theorem ly_c64 {L : Nat} {xs : Nat → Int32} {m : fl_M} {Q : Option fl_V → fl_M → Prop} {i : Nat} (hall : ∀ c ∈ at_CM ++ at_CA, at_Valid at_XI (pw_P L xs) c) (hL : L ≤ 3072) (hi : i + 6 ≤ L) (hg : t2_Z m) (kk : ∀ m' : fl_M, t2_Z m' → fl_Tq (pw_P L xs) 0 2030 (lx_lv i) [] m' Q) : fl_Tq (pw_P L xs) 0 1968 (lx_lv i) [] m Q := by
  obtain ⟨f, l⟩ := m
  refine fl_Tq.stp (pw_cod lx_k1968) rfl (fl_bo rfl) rfl ?_
  refine lx_arg (i := i) (jn := 1) (pw_cod lx_k1969) (pw_cod lx_k1970) (pw_cod lx_k1971) (pw_cod lx_k1972) (pw_cod lx_k1973) rfl (fl_bo rfl) hL (by omega) ?_
  refine lx_callG (as_ := [lx_x, .inl (xs (i + 1))]) (rest := []) (pw_cod lx_k1974) (pw_cll lx_l278) rfl (fl_bo rfl) rfl rfl (t2_qcall (hall _ at_c168_in) rfl hg ⟨lx_kx _, lx_ki _, True.intro⟩ rfl rfl rfl) (fun v1 m1 hg1 => ?_)
  obtain ⟨⟨y1, rfl⟩, hg1⟩ := hg1
  refine fl_Tq.stp (pw_cod lx_k1977) rfl (fl_bo rfl) rfl ?_
  refine fl_Tq.stp (pw_cod lx_k1978) rfl (fl_bo rfl) rfl ?_
  refine lx_arg (i := i) (jn := 1) (pw_cod lx_k1979) (pw_cod lx_k1980) (pw_cod lx_k1981) (pw_cod lx_k1982) (pw_cod lx_k1983) rfl (fl_bo rfl) hL (by omega) ?_
  obtain ⟨f1, l1⟩ := m1
  refine lx_callG (as_ := [at_this, .inl (xs (i + 1))]) (rest := []) (pw_cod lx_k1984) (pw_cll lx_l281) rfl (fl_bo rfl) rfl rfl (t2_acallR (hall _ at_c322_in) rfl hg1 ⟨at_k277 _, lx_ki _, True.intro⟩ rfl rfl rfl rfl (t2_z322 hall hg1.1)) (fun v2 m2 hg2 => ?_)
  obtain ⟨⟨y2, rfl⟩, hg2⟩ := hg2
  refine fl_Tq.stp (pw_cod lx_k1987) rfl (fl_bo rfl) rfl ?_
  refine fl_Tq.stp (pw_cod lx_k1988) rfl (fl_bo rfl) rfl ?_
  exact kk m2 hg2
theorem ly_c65 {L : Nat} {xs : Nat → Int32} {m : fl_M} {Q : Option fl_V → fl_M → Prop} {i : Nat} (hall : ∀ c ∈ at_CM ++ at_CA, at_Valid at_XI (pw_P L xs) c) (hL : L ≤ 3072) (hi : i + 6 ≤ L) (hg : t2_Z m) (kk : ∀ m' : fl_M, t2_Z m' → fl_Tq (pw_P L xs) 0 2030 (lx_lv i) [] m' Q) : fl_Tq (pw_P L xs) 0 1991 (lx_lv i) [] m Q := by
  obtain ⟨f, l⟩ := m
  refine fl_Tq.stp (pw_cod lx_k1991) rfl (fl_bo rfl) rfl ?_
  refine lx_callG (as_ := [lx_x]) (rest := []) (pw_cod lx_k1992) (pw_cll lx_l282) rfl (fl_bo rfl) rfl rfl (t2_step (ar := [at_this]) (hall _ at_c120_in) (hall _ at_c323_in) rfl rfl hg ⟨lx_kx _, True.intro⟩ rfl (fun _ => ⟨at_k277 _, True.intro⟩) rfl (t2_image hg)) (fun v1 m1 hg1 => ?_)
  obtain ⟨⟨y1, rfl⟩, hg1⟩ := hg1
  refine fl_Tq.stp (pw_cod lx_k1995) rfl (fl_bo rfl) rfl ?_
  refine fl_Tq.stp (pw_cod lx_k1996) rfl (fl_bo rfl) rfl ?_
  refine lx_callG (as_ := [at_this]) (rest := []) (pw_cod lx_k1997) (pw_cll lx_l285) rfl (fl_bo rfl) rfl rfl hg1 (fun v2 m2 hg2 => ?_)
  obtain ⟨rfl, hg2⟩ := hg2
  refine fl_Tq.stp (pw_cod lx_k2000) rfl (fl_bo rfl) rfl ?_
  refine fl_Tq.stp (pw_cod lx_k2001) rfl (fl_bo rfl) rfl ?_
  exact kk m2 hg2
theorem ly_c66 {L : Nat} {xs : Nat → Int32} {m : fl_M} {Q : Option fl_V → fl_M → Prop} {i : Nat} (hall : ∀ c ∈ at_CM ++ at_CA, at_Valid at_XI (pw_P L xs) c) (hL : L ≤ 3072) (hi : i + 6 ≤ L) (hg : t2_Z m) (kk : ∀ m' : fl_M, t2_Z m' → fl_Tq (pw_P L xs) 0 2030 (lx_lv i) [] m' Q) : fl_Tq (pw_P L xs) 0 2004 (lx_lv i) [] m Q := by
  obtain ⟨f, l⟩ := m
  refine fl_Tq.stp (pw_cod lx_k2004) rfl (fl_bo rfl) rfl ?_
  refine lx_callG (as_ := [lx_x]) (rest := []) (pw_cod lx_k2005) (pw_cll lx_l286) rfl (fl_bo rfl) rfl rfl (t2_step (ar := [at_this]) (hall _ at_c121_in) (hall _ at_c324_in) rfl rfl hg ⟨lx_kx _, True.intro⟩ rfl (fun _ => ⟨at_k277 _, True.intro⟩) rfl (t2_back hg)) (fun v1 m1 hg1 => ?_)
  obtain ⟨⟨y1, rfl⟩, hg1⟩ := hg1
  refine fl_Tq.stp (pw_cod lx_k2008) rfl (fl_bo rfl) rfl ?_
  refine fl_Tq.stp (pw_cod lx_k2009) rfl (fl_bo rfl) rfl ?_
  refine lx_callG (as_ := [at_this]) (rest := []) (pw_cod lx_k2010) (pw_cll lx_l289) rfl (fl_bo rfl) rfl rfl hg1 (fun v2 m2 hg2 => ?_)
  obtain ⟨rfl, hg2⟩ := hg2
  refine fl_Tq.stp (pw_cod lx_k2013) rfl (fl_bo rfl) rfl ?_
  refine fl_Tq.stp (pw_cod lx_k2014) rfl (fl_bo rfl) rfl ?_
  exact kk m2 hg2
theorem ly_c67 {L : Nat} {xs : Nat → Int32} {m : fl_M} {Q : Option fl_V → fl_M → Prop} {i : Nat} (hall : ∀ c ∈ at_CM ++ at_CA, at_Valid at_XI (pw_P L xs) c) (hL : L ≤ 3072) (hi : i + 6 ≤ L) (hg : t2_Z m) (kk : ∀ m' : fl_M, t2_Z m' → fl_Tq (pw_P L xs) 0 2030 (lx_lv i) [] m' Q) : fl_Tq (pw_P L xs) 0 2017 (lx_lv i) [] m Q := by
  obtain ⟨f, l⟩ := m
  refine fl_Tq.stp (pw_cod lx_k2017) rfl (fl_bo rfl) rfl ?_
  refine lx_callG (as_ := [lx_x]) (rest := []) (pw_cod lx_k2018) (pw_cll lx_l290) rfl (fl_bo rfl) rfl rfl (t2_qcall (hall _ at_c158_in) rfl hg ⟨lx_kx _, True.intro⟩ rfl rfl rfl) (fun v1 m1 hg1 => ?_)
  obtain ⟨⟨y1, rfl⟩, hg1⟩ := hg1
  refine fl_Tq.stp (pw_cod lx_k2021) rfl (fl_bo rfl) rfl ?_
  refine fl_Tq.stp (pw_cod lx_k2022) rfl (fl_bo rfl) rfl ?_
  refine lx_callG (as_ := [at_this]) (rest := []) (pw_cod lx_k2023) (pw_cll lx_l293) rfl (fl_bo rfl) rfl rfl (t2_qcall (hall _ at_c325_in) rfl hg1 ⟨at_k277 _, True.intro⟩ rfl rfl rfl) (fun v2 m2 hg2 => ?_)
  obtain ⟨⟨y2, rfl⟩, hg2⟩ := hg2
  refine fl_Tq.stp (pw_cod lx_k2026) rfl (fl_bo rfl) rfl ?_
  refine fl_Tq.stp (pw_cod lx_k2027) rfl (fl_bo rfl) rfl ?_
  exact kk m2 hg2

end

/-! 95.19.lawsw.lean.txt -/
section
/-! ===== printed by wip/gen/lawgen3.py: the switch ===== -/
def lx_tg : List Nat := [320, 363, 396, 429, 462, 485, 498, 511, 534, 567, 600, 613, 646, 669, 702, 781, 794, 807, 820, 833, 856, 879, 912, 945, 978, 1011, 1044, 1077, 1100, 1113, 1136, 1169, 1192, 1235, 1258, 1271, 1284, 1297, 1320, 1343, 1386, 1419, 1432, 1455, 1478, 1501, 1524, 1547, 1560, 1583, 1606, 1639, 1672, 1695, 1708, 1721, 1754, 1797, 1820, 1833, 1856, 1889, 1922, 1945, 1968, 1991, 2004, 2017]
theorem lx_swt : (List.range 68).all (fun z => am_swk (Int32.ofNat z) 0 67 #[287, 330, 363, 396, 429, 452, 465, 478, 501, 534, 567, 580, 613, 636, 669, 748, 761, 774, 787, 800, 823, 846, 879, 912, 945, 978, 1011, 1044, 1067, 1080, 1103, 1136, 1159, 1202, 1225, 1238, 1251, 1264, 1287, 1310, 1353, 1386, 1399, 1422, 1445, 1468, 1491, 1514, 1527, 1550, 1573, 1606, 1639, 1662, 1675, 1688, 1721, 1764, 1787, 1800, 1823, 1856, 1889, 1912, 1935, 1958, 1971, 1984] && decide (am_tg 33 (am_sw (Int32.ofNat z) 1997 0 67 #[287, 330, 363, 396, 429, 452, 465, 478, 501, 534, 567, 580, 613, 636, 669, 748, 761, 774, 787, 800, 823, 846, 879, 912, 945, 978, 1011, 1044, 1067, 1080, 1103, 1136, 1159, 1202, 1225, 1238, 1251, 1264, 1287, 1310, 1353, 1386, 1399, 1422, 1445, 1468, 1491, 1514, 1527, 1550, 1573, 1606, 1639, 1662, 1675, 1688, 1721, 1764, 1787, 1800, 1823, 1856, 1889, 1912, 1935, 1958, 1971, 1984]) = some (lx_tg.getD z 0))) = true := by decide +kernel
theorem ly_case {L : Nat} {xs : Nat → Int32} {m : fl_M} {Q : Option fl_V → fl_M → Prop} {i : Nat} (hall : ∀ c ∈ at_CM ++ at_CA, at_Valid at_XI (pw_P L xs) c) (hL : L ≤ 3072) (hi : i + 6 ≤ L) (hg : t2_Z m) (kk : ∀ m' : fl_M, t2_Z m' → fl_Tq (pw_P L xs) 0 2030 (lx_lv i) [] m' Q) : ∀ z : Nat, z < 68 → fl_Tq (pw_P L xs) 0 (lx_tg.getD z 0) (lx_lv i) [] m Q
  | 0, _ => ly_c0 hall hL hi hg kk
  | 1, _ => ly_c1 hall hL hi hg kk
  | 2, _ => ly_c2 hall hL hi hg kk
  | 3, _ => ly_c3 hall hL hi hg kk
  | 4, _ => ly_c4 hall hL hi hg kk
  | 5, _ => ly_c5 hall hL hi hg kk
  | 6, _ => ly_c6 hall hL hi hg kk
  | 7, _ => ly_c7 hall hL hi hg kk
  | 8, _ => ly_c8 hall hL hi hg kk
  | 9, _ => ly_c9 hall hL hi hg kk
  | 10, _ => ly_c10 hall hL hi hg kk
  | 11, _ => ly_c11 hall hL hi hg kk
  | 12, _ => ly_c12 hall hL hi hg kk
  | 13, _ => ly_c13 hall hL hi hg kk
  | 14, _ => ly_c14 hall hL hi hg kk
  | 15, _ => ly_c15 hall hL hi hg kk
  | 16, _ => ly_c16 hall hL hi hg kk
  | 17, _ => ly_c17 hall hL hi hg kk
  | 18, _ => ly_c18 hall hL hi hg kk
  | 19, _ => ly_c19 hall hL hi hg kk
  | 20, _ => ly_c20 hall hL hi hg kk
  | 21, _ => ly_c21 hall hL hi hg kk
  | 22, _ => ly_c22 hall hL hi hg kk
  | 23, _ => ly_c23 hall hL hi hg kk
  | 24, _ => ly_c24 hall hL hi hg kk
  | 25, _ => ly_c25 hall hL hi hg kk
  | 26, _ => ly_c26 hall hL hi hg kk
  | 27, _ => ly_c27 hall hL hi hg kk
  | 28, _ => ly_c28 hall hL hi hg kk
  | 29, _ => ly_c29 hall hL hi hg kk
  | 30, _ => ly_c30 hall hL hi hg kk
  | 31, _ => ly_c31 hall hL hi hg kk
  | 32, _ => ly_c32 hall hL hi hg kk
  | 33, _ => ly_c33 hall hL hi hg kk
  | 34, _ => ly_c34 hall hL hi hg kk
  | 35, _ => ly_c35 hall hL hi hg kk
  | 36, _ => ly_c36 hall hL hi hg kk
  | 37, _ => ly_c37 hall hL hi hg kk
  | 38, _ => ly_c38 hall hL hi hg kk
  | 39, _ => ly_c39 hall hL hi hg kk
  | 40, _ => ly_c40 hall hL hi hg kk
  | 41, _ => ly_c41 hall hL hi hg kk
  | 42, _ => ly_c42 hall hL hi hg kk
  | 43, _ => ly_c43 hall hL hi hg kk
  | 44, _ => ly_c44 hall hL hi hg kk
  | 45, _ => ly_c45 hall hL hi hg kk
  | 46, _ => ly_c46 hall hL hi hg kk
  | 47, _ => ly_c47 hall hL hi hg kk
  | 48, _ => ly_c48 hall hL hi hg kk
  | 49, _ => ly_c49 hall hL hi hg kk
  | 50, _ => ly_c50 hall hL hi hg kk
  | 51, _ => ly_c51 hall hL hi hg kk
  | 52, _ => ly_c52 hall hL hi hg kk
  | 53, _ => ly_c53 hall hL hi hg kk
  | 54, _ => ly_c54 hall hL hi hg kk
  | 55, _ => ly_c55 hall hL hi hg kk
  | 56, _ => ly_c56 hall hL hi hg kk
  | 57, _ => ly_c57 hall hL hi hg kk
  | 58, _ => ly_c58 hall hL hi hg kk
  | 59, _ => ly_c59 hall hL hi hg kk
  | 60, _ => ly_c60 hall hL hi hg kk
  | 61, _ => ly_c61 hall hL hi hg kk
  | 62, _ => ly_c62 hall hL hi hg kk
  | 63, _ => ly_c63 hall hL hi hg kk
  | 64, _ => ly_c64 hall hL hi hg kk
  | 65, _ => ly_c65 hall hL hi hg kk
  | 66, _ => ly_c66 hall hL hi hg kk
  | 67, _ => ly_c67 hall hL hi hg kk
  | n + 68, h => absurd h (by omega)

end

/-! 95.30.loop.lean.txt -/
section
/-! ===== the law's loop ===== -/
section LWLP
variable {L : Nat} {xs : Nat → Int32}
def lx_Q (v : Option fl_V) (m : fl_M) : Prop := v = some (.inl 1) ∧ m.2.2 ≤ 40
theorem lx_and (x : Int32) : 0 ≤ (x &&& (Int8.ofInt 127).toInt32).toInt ∧ (x &&& (Int8.ofInt 127).toInt32).toInt ≤ 127 := by
  have e : (x &&& (Int8.ofInt 127).toInt32).toInt = ((x.toUInt32 &&& 127).toNat : Int) := by
    have h : ∀ u : UInt32, (Int32.ofUInt32 (u &&& 127)).toInt = ((u &&& 127).toNat : Int) := by
      intro u
      have hu : (u &&& 127).toNat ≤ 127 := by
        rw [UInt32.toNat_and]
        exact Nat.and_le_right
      show (Int32.ofUInt32 (u &&& 127)).toBitVec.toInt = _
      rw [BitVec.toInt_eq_toNat_cond]
      have : (Int32.ofUInt32 (u &&& 127)).toBitVec.toNat = (u &&& 127).toNat := rfl
      rw [this, if_pos (by omega)]
    exact h x.toUInt32
  have hu : (x.toUInt32 &&& 127).toNat ≤ 127 := by
    rw [UInt32.toNat_and]
    exact Nat.and_le_right
  omega
theorem ly_loop (hall : ∀ c ∈ at_CM ++ at_CA, at_Valid at_XI (pw_P L xs) c) (hL : L ≤ 3072) : ∀ (d i : Nat) (m : fl_M), L ≤ i + d → i ≤ L + 6 → t2_Z m → fl_Tq (pw_P L xs) 0 18 (lx_lv i) [] m lx_Q := by
  have e6 : (Int8.ofInt 6).toInt32.toInt = 6 := by decide +kernel
  have eL := at_ofN (k := L) (by omega)
  have e7 : (Int32.ofNat L - (Int8.ofInt 6).toInt32).toInt = (L : Int) - 6 := by rw [at_sub32] <;> rw [eL, e6] <;> omega
  have fin : ∀ (i : Nat) (m : fl_M), t2_Z m → fl_Tq (pw_P L xs) 0 2036 (lx_lv i) [] m lx_Q := by
    intro i m hg
    refine fl_Tq.stp (pw_cod lx_k2036) rfl (fl_bo rfl) rfl ?_
    exact fl_Tq.ret (pw_cod lx_k2037) rfl rfl ⟨rfl, hg.1.2.2.h40⟩
  intro d
  induction d with
  | zero =>
    intro i m hd hi hg
    have ei := at_ofN (k := i) (by omega)
    refine fl_Tq.stp rfl rfl (fl_bo rfl) rfl ?_
    refine fl_Tq.stp rfl rfl (fl_bo rfl) rfl ?_
    refine fl_Tq.stp rfl rfl (fl_bo rfl) rfl ?_
    refine fl_Tq.stp rfl rfl (fl_bo rfl) rfl ?_
    refine fl_Tq.stp rfl rfl (fl_bo rfl) rfl ?_
    refine fl_Tq.jt rfl (fl_bo rfl) ?_ rfl ?_
    · rw [at_c2, ei, e7]
      exact decide_eq_true (by omega)
    exact fin i m hg
  | succ d ih =>
    intro i m hd hi hg
    have ei := at_ofN (k := i) (by omega)
    refine fl_Tq.stp rfl rfl (fl_bo rfl) rfl ?_
    refine fl_Tq.stp rfl rfl (fl_bo rfl) rfl ?_
    refine fl_Tq.stp rfl rfl (fl_bo rfl) rfl ?_
    refine fl_Tq.stp rfl rfl (fl_bo rfl) rfl ?_
    refine fl_Tq.stp rfl rfl (fl_bo rfl) rfl ?_
    by_cases hgo : L < i + 6
    · refine fl_Tq.jt rfl (fl_bo rfl) ?_ rfl ?_
      · rw [at_c2, ei, e7]
        exact decide_eq_true (by omega)
      exact fin i m hg
    refine fl_Tq.jf rfl (fl_bo rfl) ?_ rfl ?_
    · rw [at_c2, ei, e7]
      exact decide_eq_false (by omega)
    have back : ∀ m' : fl_M, t2_Z m' → fl_Tq (pw_P L xs) 0 2030 (lx_lv i) [] m' lx_Q := by
      intro m' hg'
      refine fl_Tq.stp (pw_cod lx_k2030) rfl (fl_bo rfl) rfl ?_
      refine fl_Tq.stp (pw_cod lx_k2033) rfl (fl_bo rfl) rfl ?_
      have := ih (i + 6) m' (by omega) (by omega) hg'
      have e : Int32.ofNat i + Int32.ofInt 6 = Int32.ofNat (i + 6) := by
        have e1 : (Int32.ofInt 6).toInt = 6 := rfl
        refine Int32.toInt.inj ?_
        rw [at_add32 (by omega) (by omega), ei, e1, at_ofN (by omega)]
        omega
      unfold lx_lv at this
      rw [← e] at this
      exact this
    refine fl_Tq.stp rfl rfl (fl_bo rfl) rfl ?_
    refine fl_Tq.stp rfl rfl (fl_bo rfl) rfl ?_
    refine fl_Tq.tld (n := L) (f := xs) (k := i) rfl (fl_bo rfl) rfl ei (by omega) ?_
    refine fl_Tq.stp rfl rfl (fl_bo rfl) rfl ?_
    refine fl_Tq.stp rfl rfl (fl_bo rfl) rfl ?_
    have hx := lx_and (xs i)
    generalize hxg : xs i &&& (Int8.ofInt 127).toInt32 = x at hx
    obtain ⟨z, hz⟩ : ∃ z : Nat, x.toInt = z := ⟨x.toInt.toNat, by omega⟩
    have hxz : x = Int32.ofNat z := Int32.toInt.inj (by rw [at_ofN (by omega)]; exact hz)
    by_cases hz2 : z < 68
    · have h1 := List.all_eq_true.mp lx_swt z (List.mem_range.mpr hz2)
      simp only [Bool.and_eq_true, decide_eq_true_eq] at h1
      obtain ⟨s1, s2⟩ := h1
      refine fl_Tq.stp (pc' := lx_tg.getD z 0) (lv' := lx_lv i) (st' := []) (m' := m) rfl rfl (fl_bo rfl) ?_ (ly_case hall hL (by omega) hg back z hz2)
      show (bif am_swk (xs i &&& (Int8.ofInt 127).toInt32) 0 67 _ then fl_go 33 (am_sw (xs i &&& (Int8.ofInt 127).toInt32) 1997 0 67 _) (lx_lv i) [] m else none) = _
      rw [hxg, hxz, s1]
      show fl_go 33 _ (lx_lv i) [] m = _
      unfold fl_go
      rw [s2]
    · refine fl_Tq.stp (pc' := 2030) (lv' := lx_lv i) (st' := []) (m' := m) rfl rfl (fl_bo rfl) ?_ (back m hg)
      show (bif am_swk (xs i &&& (Int8.ofInt 127).toInt32) 0 67 _ then fl_go 33 (am_sw (xs i &&& (Int8.ofInt 127).toInt32) 1997 0 67 _) (lx_lv i) [] m else none) = _
      rw [hxg]
      have h1 : x.toInt < 0 ∨ 67 < x.toInt := by omega
      unfold am_swk am_sw
      rw [decide_eq_true h1, if_pos h1]
      rfl
/-- THE LAW'S RUN -/
theorem ly_run (hall : ∀ c ∈ at_CM ++ at_CA, at_Valid at_XI (pw_P L xs) c) (hL : L ≤ 3072) : pw_Run L xs := by
  refine pw_Run_of (am_To.mono (at_boot (Q := lx_Q) ?_) ?_)
  · refine fl_Tq.stp rfl rfl (fl_bo rfl) rfl ?_
    refine fl_Tq.stp rfl rfl (fl_bo rfl) rfl ?_
    refine fl_Tq.stp rfl rfl (fl_bo rfl) rfl ?_
    exact ly_loop hall hL L 0 at_m0 (by omega) (by omega) t2_Z0
  · rintro v M ⟨v', m', rfl, rfl, rfl, h⟩
    refine ⟨rfl, ?_, ?_⟩
    · show (fl_H m').1.length ≤ 600000
      unfold fl_H fl_N
      simp
      omega
    · show fl_S m'.2.2 ≤ 7302250
      unfold fl_S
      omega
end LWLP

end

/-! 95.60.law.lean.txt -/
section
/-- THE LAW COMES TO ITS END WITH 1 -/
theorem pw_law (L : Nat) (xs : Nat → Int32) (hL : L ≤ 3072) : pw_Run L xs := by
  exact ly_run at_hall hL
/-- THE LAW, from its entry -/
theorem whole_start {p : Program} {e : Env} {s : State} {m : MethodId} {below : List Frame} {meth : Method} {c : Code} (l : Launch) (hflags : l.flags = flags0) {b L : Nat} {xs : Nat → Int32} (hL : L ≤ 3072) (C0 : lw_At p s m meth c b L xs) : W p l e room_1 s m #[Value.ref b] below meth c s.heap [] 0 0 (lw_Z below #[Value.ref b] s) (entryFrame m ([Value.ref b] : List Value).toArray 4) := pw_start l (pw_law L xs hL) C0

end
