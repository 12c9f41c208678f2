/-! ===== block 0: a second of the class, run ===== -/
section C0RUN
variable {fc fr f g : t2_F} {C n : Nat} {c x : Int32}
theorem t2_wf_I {g : t2_F → Option t2_F} {I : t2_F → Prop} (hI : ∀ f f' : t2_F, I f → g f = some f' → I f') : ∀ (n : Nat) (f : t2_F), I f → I (t2_wf g n f) := by
  intro n
  induction n with
  | zero => intro f h; exact h
  | succ n ih =>
    intro f h
    unfold t2_wf
    cases e : g f with
    | none => exact h
    | some f' => exact ih f' (hI f f' h e)
theorem c0_follow_p32 {i : Nat} (ht : 1 ≤ (f (19 + 4 * i) 2).toInt ∧ (f (19 + 4 * i) 2).toInt ≤ 32) (hv : t2_p32 (f (20 + 4 * i))) (hx : t2_pt x) : t2_p32 (c0_follow_m f i x (20 + 4 * i)) := by
  have c32 : (32 : Int32).toInt = 32 := by decide +kernel
  have c1 : (1 : Int32).toInt = 1 := by decide +kernel
  have cc : ∀ F : t2_F, (1 ≤ (F (19 + 4 * i) 2).toInt ∧ (F (19 + 4 * i) 2).toInt ≤ 32) ∧ t2_p32 (F (20 + 4 * i)) → t2_p32 (c0_cc_m F i (20 + 4 * i)) := fun F hF => by
    unfold c0_cc_m
    refine (t2_wf_I (g := fun f => c0_cc_g0 f i) (I := fun F => (1 ≤ (F (19 + 4 * i) 2).toInt ∧ (F (19 + 4 * i) 2).toInt ≤ 32) ∧ t2_p32 (F (20 + 4 * i))) (fun a b h e => ?_) 32 F hF).2
    have d := c0_cc_dec (by omega) h.2 e
    exact ⟨⟨d.1.2.1, by omega⟩, d.2 h.1.2⟩
  unfold c0_follow_m
  split
  · exact hv
  · split
    · exact hv
    · split
      · refine cc _ ⟨?_, c0_uadd_hv hv hx⟩
        unfold c0_uadd_m
        split
        · rename_i h
          rw [fl_row_self, upd_self]
          have e1 : ((f (19 + 4 * i) 2) - (1 : Int32)).toInt = (f (19 + 4 * i) 2).toInt - 1 := by rw [at_sub32 (by omega) (by omega), c1]
          rw [at_add32 (by omega) (by omega), e1, c1]
          omega
        · rename_i h
          rw [fl_row_self, upd_self, at_add32 (by omega) (by omega), c1]
          omega
      · refine cc _ ⟨?_, ?_⟩
        · rw [fl_row_ne (by omega)]
          exact ht
        · rw [fl_row_self]
          exact hv.upd hx
/-- what lies in the class's rows beside the relation -/
def c0_J (f : t2_F) : Prop := (∀ i : Nat, i < 16 → t2_p32 (f (20 + 4 * i))) ∧ ∀ k : Nat, k < 8 → 0 ≤ (f 9 ((k * 5) + 3)).toInt ∧ (f 9 ((k * 5) + 3)).toInt ≤ 29
theorem c0_J.congr (h : c0_J f) (e : ∀ p : Nat, (p = 9 ∨ (19 < p ∧ p < 82 ∧ ∀ C : Nat, p ≠ 18 + 4 * C)) → g p = f p) : c0_J g :=
  ⟨fun i hi => by rw [e _ (Or.inr ⟨by omega, by omega, fun C => by omega⟩)]; exact h.1 i hi, fun k hk => by rw [e _ (Or.inl rfl)]; exact h.2 k hk⟩
theorem c0_sKeep_J (hc : 0 ≤ (f 1 5).toInt ∧ (f 1 5).toInt ≤ 16) (hkt : ∀ i : Nat, (i : Int) < (f 1 5).toInt → (1 ≤ (f (19 + 4 * i) 2).toInt ∧ (f (19 + 4 * i) 2).toInt ≤ 32) ∧ t2_p32 (f (20 + 4 * i)) ∧ t2_pt (f (18 + 4 * i) 3)) (hj : c0_J f) : c0_J (c0_sKeep_m f) := by
  have fr : ∀ (k p : Nat), p ≠ 16 → p ≠ 17 → (p < 18 ∨ 18 + 4 * k ≤ p) → c0_sKeep_f25 f k p = f p := fun k p h16 h17 hp => by
    rw [c0_sKeep_f25_fr (k := k) (fun j hj => by omega) (fun j hj => by omega) (fun j hj => by omega) (fun j hj => by omega), c0_tadd_fr h17 h16]
  refine ⟨fun i hi => ?_, fun k hk => ?_⟩
  · by_cases hn : (i : Int) < (f 1 5).toInt
    · obtain ⟨k1, k2, k3⟩ := hkt i hn
      have at_ : ∀ k : Nat, i < k → c0_sKeep_f25 f k (20 + 4 * i) = c0_sKeep_b25_m (c0_sKeep_f25 f i) i (20 + 4 * i) := by
        intro k
        induction k with
        | zero => intro h; exact absurd h (Nat.not_lt_zero _)
        | succ k ih =>
          intro h
          by_cases e : i = k
          · subst e
            rfl
          · exact (c0_sKeep_b25_fr (f := c0_sKeep_f25 f k) (k := k) (by omega) (by omega) (by omega) (by omega)).trans (ih (by omega))
      unfold c0_sKeep_m
      rw [at_ _ (by omega)]
      unfold c0_sKeep_b25_m c0_keepTrack_m
      have r18 := fr i (18 + 4 * i) (by omega) (by omega) (by omega)
      have r19 := fr i (19 + 4 * i) (by omega) (by omega) (by omega)
      have r20 := fr i (20 + 4 * i) (by omega) (by omega) (by omega)
      refine c0_follow_p32 ?_ ?_ ?_
      · rw [fl_row_ne (by omega), r19]
        exact k1
      · rw [fl_row_ne (by omega), r20]
        exact k2
      · rw [r18]
        exact k3
    · unfold c0_sKeep_m
      rw [fr _ _ (by omega) (by omega) (by omega)]
      exact hj.1 i hi
  · unfold c0_sKeep_m
    rw [fr _ _ (by decide) (by decide) (by omega)]
    exact hj.2 k hk
theorem c0_I.hc (h : c0_I fc fr) : 0 ≤ (fc 1 5).toInt ∧ (fc 1 5).toInt ≤ 16 := by have := h.cnt; omega
theorem c0_IM.hc (h : c0_IM fc fr) : 0 ≤ (fc 1 5).toInt ∧ (fc 1 5).toInt ≤ 16 := by have := h.cnt; omega
theorem c0_IK.hc (h : c0_IK fc fr) : 0 ≤ (fc 1 5).toInt ∧ (fc 1 5).toInt ≤ 16 := by
  obtain ⟨⟨⟨h5, -⟩, -⟩, -, -, -, -, ⟨-, -, h2, -⟩, -⟩ := h
  rw [h5]
  exact h2
theorem c0_I.hk (h : c0_I fc fr) : ∀ i : Nat, (i : Int) < (fc 1 5).toInt → t2_cap (fc (18 + 4 * i) 0) := fun i hi => by
  have cn := h.cnt
  have k := h.cell (C := i) (by omega)
  rw [k.1.1.1.1]
  exact k.2.1.1
/-- the rows that (2) and (4) leave -/
theorem c0_I.curP (h : c0_I fc fr) : ∀ p : Nat, p ≠ 1 → (∀ C : Nat, p ≠ 18 + 4 * C) → c0_letCurrent_m fc p = fc p := by
  obtain ⟨⟨⟨g5, g6, g7, g8⟩, -⟩, rs, gx, cl, ok⟩ := id h
  have hm0 : t2_lo 4 ≤ (fr 280 38).toInt ∧ (fr 280 38).toInt ≤ t2_hi 4 := ok.s (k := 4) (by decide)
  have l4 : t2_lo 4 = 1 := by decide
  have h4 : t2_hi 4 = 99999 := by decide
  obtain ⟨-, -, -, k4, -⟩ := c0_cur_eq h.rl g7 gx.1.1 ok.2.2.1 (by omega)
  exact fun p hp hC => funext (fun k => k4 p k (fun q => absurd q hp) (fun C c q => absurd q (hC C)))
theorem c0_I.balP (h : c0_I fc fr) : ∀ p : Nat, p ≠ 1 → (∀ C : Nat, p ≠ 18 + 4 * C) → c0_balance_m fc p = fc p := by
  have hh := h
  obtain ⟨⟨⟨g5, g6, g7, g8⟩, ⟨g9, g10, g11, g12⟩, g13, g14, g15, g16⟩, rs, gx, cl, ok⟩ := h
  have cn := hh.cnt
  generalize hnn : (fr 280 2).toInt.toNat = n at *
  have hM : (fc 1 5).toInt.toNat = n := by omega
  have oc : ∀ C : Nat, C < n → t2_OC (fr 280) C := fun C hC => (hh.cell (by omega)).2
  have rc : ∀ C : Nat, C < n → c0_Rc fc fr C := fun C hC => (hh.cell (by omega)).1.1
  have rb : c0_RB fc fr n := ⟨rs, fun C hC => ⟨rc C hC, by rw [(rc C hC).1.1]; exact (oc C hC).1.1, (oc C hC).1⟩, g14, g15, g11, g13, g16⟩
  have b13 : t2_lo 13 ≤ (fr 280 47).toInt ∧ (fr 280 47).toInt ≤ t2_hi 13 := ok.s (k := 13) (by decide)
  have q13 : t2_lo 13 = 0 ∧ t2_hi 13 = 16 := by decide
  have hl : fc 10 3 = fr 280 6 := gx.2.1.1.1
  obtain ⟨P, -, -, -⟩ := c0_balance_o hM hnn cn.2.1 rb hl g6 (by omega)
  exact fun p hp hC => P p hp (fun C _ => hC C)
/-- all that a second goes through -/
theorem c0_I.chain (h : c0_I fc fr) (ht : (fr 280 7).toInt < 9999) :
    c0_I (c0_s1 fc) (r_t1 fr) ∧ c0_I (c0_moveBus_m (c0_s1 fc)) (r_goBus_m (r_t1 fr)) ∧ c0_I (c0_letCurrent_m (c0_moveBus_m (c0_s1 fc))) (r_goCurrent_m (r_goBus_m (r_t1 fr))) ∧
    c0_I (c0_passCells_m (c0_letCurrent_m (c0_moveBus_m (c0_s1 fc)))) (r_goCells_m (r_goCurrent_m (r_goBus_m (r_t1 fr)))) ∧ c0_I (c0_balance_m (c0_passCells_m (c0_letCurrent_m (c0_moveBus_m (c0_s1 fc))))) (r_goBalance_m (r_goCells_m (r_goCurrent_m (r_goBus_m (r_t1 fr))))) ∧
    c0_I (c0_s5 (c0_balance_m (c0_passCells_m (c0_letCurrent_m (c0_moveBus_m (c0_s1 fc)))))) (r_t5 (r_goBalance_m (r_goCells_m (r_goCurrent_m (r_goBus_m (r_t1 fr)))))) ∧ c0_IM (c0_u6 fc) (r_v6 fr) ∧
    (∃ slow : Bool, c0_so fc = (if slow = true then (32 : Int32) else (0 : Int32)) ∧ r_v6 fr 277 4 = if slow = true then 1 else 0) ∧
    (c0_IM (c0_s8 (c0_s7 (c0_so fc) (c0_u6 fc))) (r_goFaults_m (r_v6 fr)) ∧ c0_sec_v fc = r_sec_v fr) ∧ c0_IK (c0_sKeep_m (c0_s8 (c0_s7 (c0_so fc) (c0_u6 fc)))) (r_goKept_m (r_goFaults_m (r_v6 fr))) ∧
    c0_I (c0_sec_m fc) (r_sec_m fr) := by
  have c0 : (0 : Int32).toInt = 0 := rfl
  have c1 : (1 : Int32).toInt = 1 := by decide +kernel
  obtain ⟨i1, t1⟩ := h.s1 ht
  obtain ⟨i2, sv, s01, -⟩ := i1.bus
  obtain ⟨i3, w3⟩ := i2.cur
  have o1 : ∀ w : Nat, w ≠ 7 → r_t1 fr 280 w = fr 280 w := fun w hw => by unfold r_t1; rw [fl_row_self, upd_ne hw]
  have o2 : ∀ w : Nat, w ≠ 3 → w ≠ 4 → r_goBus_m (r_t1 fr) 280 w = r_t1 fr 280 w := fun w h3 h4 => by rw [r_goBus_w2, if_neg h4, if_neg h3]
  have i4 := i3.cells (fun C hC => by
    have e7 : r_goCurrent_m (r_goBus_m (r_t1 fr)) 280 7 = r_t1 fr 280 7 := by rw [w3 7 (by decide) (fun D _ => by omega), o2 7 (by decide) (by decide)]
    have e5 : r_goCurrent_m (r_goBus_m (r_t1 fr)) 280 (444 + 61 * C + 5) = fr 280 (444 + 61 * C + 5) := by rw [w3 _ (by omega) (fun D _ => by omega), o2 _ (by omega) (by omega), o1 _ (by omega)]
    have e2 : r_goCurrent_m (r_goBus_m (r_t1 fr)) 280 2 = fr 280 2 := by rw [w3 2 (by decide) (fun D _ => by omega), o2 2 (by decide) (by decide), o1 2 (by decide)]
    rw [e2] at hC
    have t := (h.cell hC).2.2.2.2.1.2
    rw [e5, e7, t1]
    omega)
  have i6 := i4.bal.s5.meas
  have f277 : r_v6 fr 277 4 = r_goBus_m (r_t1 fr) 277 4 := by
    unfold r_v6
    rw [r_goTaper_fr (by decide), r_goMeasure_fr (by decide)]
    unfold r_t5
    rw [fl_row_ne (by decide), r_balance_277 (by decide), r_goCells_fr (by decide), r_goCurrent_fr (by decide)]
  have hsl : r_v6 fr 277 4 = if (decide (r_goBus_m (r_t1 fr) 277 4 = 1)) = true then 1 else 0 := by
    rw [f277]
    rcases s01 with e | e
    · rw [e]
      decide
    · rw [e]
      decide
  have hso : c0_so fc = if (decide (r_goBus_m (r_t1 fr) 277 4 = 1)) = true then (32 : Int32) else (0 : Int32) := by
    unfold c0_so
    rw [sv]
    rcases s01 with e | e
    · rw [e]
      decide
    · rw [e]
      decide
  obtain ⟨i8, v8⟩ := i6.flt hso hsl
  exact ⟨i1, i2, i3, i4, i4.bal, i4.bal.s5, i6, ⟨_, hso, hsl⟩, ⟨i8, v8⟩, i8.kept, i8.kept.rules.s9⟩
/-- what the class's rows are behind (6), and behind (7) -/
theorem c0_u6_p (h : c0_I fc fr) (ht : (fr 280 7).toInt < 9999) {p : Nat} (h1 : p ≠ 1) (h4 : p ≠ 4) (hC : ∀ C : Nat, p ≠ 18 + 4 * C) : c0_u6 fc p = fc p := by
  obtain ⟨i1, i2, i3, i4, i5, i6, -⟩ := h.chain ht
  unfold c0_u6
  rw [(c0_measure_o (n := (c0_s5 (c0_balance_m (c0_passCells_m (c0_letCurrent_m (c0_moveBus_m (c0_s1 fc))))) 1 5).toInt.toNat) rfl).1 p h1 h4 (fun C _ => hC C)]
  have e5 : ∀ f : t2_F, c0_s5 f p = f p := fun f => fl_row_ne h1
  rw [e5, i4.balP p h1 hC, c0_cells_p (Or.inr (fun C _ => hC C)) (by have := i3.hc; omega), i2.curP p h1 hC, c0_moveBus_fr h1]
  exact fl_row_ne h1
theorem c0_s8_p {so : Int32} {p : Nat} (h1 : p ≠ 1) (h7 : p < 10 ∨ 15 ≤ p) : c0_s8 (c0_s7 so f) p = f p := by
  have P7 : c0_s7 so f p = f p := by
    unfold c0_s7
    rw [c0_latch_fr (by omega) (by omega) (by omega) (by omega), c0_faultsOfPack_fr (by omega), c0_faultsOfCells_fr (by omega)]
  unfold c0_s8
  split
  · exact P7
  · rw [fl_row_ne h1, P7]
theorem c0_kt (h : c0_IM f fr) (hj : c0_J f) : ∀ i : Nat, (i : Int) < (f 1 5).toInt → (1 ≤ (f (19 + 4 * i) 2).toInt ∧ (f (19 + 4 * i) 2).toInt ≤ 32) ∧ t2_p32 (f (20 + 4 * i)) ∧ t2_pt (f (18 + 4 * i) 3) := fun i hi => by
  have cn := h.cnt
  obtain ⟨⟨ra, -, -, -, ti⟩, oc⟩ := h.cell (C := i) (by omega)
  refine ⟨by rw [ti.1]; exact ti.2.2.2.1, hj.1 i (by omega), ?_⟩
  have pb := t2_ckp oc.1
  have e : f (18 + 4 * i) 3 = ((((1000 : Int64) * (fr 280 (444 + 61 * i + 1)).toInt64) / ((3600 : Int32) * (fr 280 (444 + 61 * i + 0))).toInt64).toInt32) := ra.2.1.1
  rw [e]
  exact ⟨pb.1, by omega⟩
theorem c0_J.u6 (h : c0_I fc fr) (ht : (fr 280 7).toInt < 9999) (hj : c0_J fc) : c0_J (c0_s8 (c0_s7 (c0_so fc) (c0_u6 fc))) := hj.congr (fun p hp => by rw [c0_s8_p (by omega) (by omega), c0_u6_p h ht (by omega) (by omega) (fun C => by rcases hp with e | ⟨-, -, e⟩; omega; exact e C)])
theorem c0_J.sec (h : c0_I fc fr) (ht : (fr 280 7).toInt < 9999) (hj : c0_J fc) : c0_J (c0_sec_m fc) := by
  obtain ⟨-, -, -, -, -, -, -, -, ⟨i8, -⟩, -, -⟩ := h.chain ht
  have j8 := hj.u6 h ht
  have jk := c0_sKeep_J i8.hc (c0_kt i8 j8) j8
  unfold c0_sec_m c0_s9
  exact jk.congr (fun p hp => by rw [fl_row_ne (by omega), c0_obeyRules_fr (by omega)])
/-- A SECOND OF THE CLASS, RUN -/
theorem c0_sec_q {L : Nat} {xs : Nat → Int32} {l : t2_L} {Q : Option fl_V → fl_M → Prop} (h : c0_I fc fr) (ht : (fr 280 7).toInt < 9999) (hj : c0_J fc) (k : Q (some (.inl (c0_sec_v fc))) (c0_sec_m fc, l)) : fl_Tq (pw_P L xs) 57 0 (fl_args (am_mxl (pw_P L xs) 57) [.inr (.inr (.inl (1, 1)))]) [] (fc, l) Q := by
  obtain ⟨i1, i2, i3, i4, i5, i6, im, -, ⟨i8, -⟩, ik, -⟩ := h.chain ht
  have j8 := hj.u6 h ht
  have jk := c0_sKeep_J i8.hc (c0_kt i8 j8) j8
  have b13 := i4.2.2.2.2.s (k := 13) (by decide)
  have q13 : t2_lo 13 = 0 ∧ t2_hi 13 = 16 := by decide
  have s13 : c0_passCells_m (c0_letCurrent_m (c0_moveBus_m (c0_s1 fc))) 4 13 = _ := i4.2.1 13 (by decide)
  have tm : c0_faultsOfPack_m (c0_faultsOfCells_m (c0_u6 fc)) 1 6 = c0_u6 fc 1 6 := by rw [c0_faultsOfPack_fr (by decide), c0_faultsOfCells_fr (by decide)]
  show fl_Tq (pw_P L xs) 57 0 [some (.inr (.inr (.inl (1, 1)))), none, none] [] (fc, l) Q
  refine c0_pA ?_
  refine c0_pB (f := c0_s1 fc) i1.hc ?_
  refine c0_pC1 (so := c0_so fc) i2.hc (by rw [i2.2.2.1.1.2.1.1]; exact i2.2.2.2.2.2.2.2.1.1) ?_
  refine c0_pC2 i3.hc i3.hk ?_
  refine c0_pC3 i4.hc i4.hk (by rw [s13]; omega) ?_
  refine c0_pD ?_
  refine c0_pE (f := c0_s5 (c0_balance_m (c0_passCells_m (c0_letCurrent_m (c0_moveBus_m (c0_s1 fc)))))) i6.hc ?_
  refine c0_pF (f := c0_u6 fc) im.hc (by rw [c0_faultsOfCells_fr (by decide)]; exact im.hc) ?_ ?_
  · rw [c0_faultsOfPack_fr (by decide), c0_faultsOfCells_fr (by decide)]
    obtain ⟨-, -, ⟨-, ⟨-, -, -, bk⟩, -⟩, -⟩ := im
    exact ⟨bk.1, bk.2.1, by rw [bk.2.2.1]; exact bk.2.2.2.1⟩
  · rw [tm]
    have K : fl_Tq (pw_P L xs) 57 111 [some (.inr (.inr (.inl (1, 1)))), some (.inl (c0_so fc)), some (.inl (c0_sec_v fc))] [] (c0_s8 (c0_s7 (c0_so fc) (c0_u6 fc)), l) Q := by
      refine c0_pH1 i8.hc (c0_kt i8 j8) ?_ ?_
      · obtain ⟨-, -, ⟨-, -, tr, -⟩, -⟩ := i8
        exact ⟨tr.1, tr.2.1, by rw [tr.2.2.1]; exact tr.2.2.2.1⟩
      · refine c0_pH2 ik.hc (by rw [ik.2.2.1.1.2.2.1.1]; exact ik.2.2.1.1.2.2.1.2.1) jk.2 ?_
        exact c0_pI k
    refine c0_pG (f := c0_s7 (c0_so fc) (c0_u6 fc)) (fun e => ?_) (fun e => ?_)
    · have e8 : c0_s8 (c0_s7 (c0_so fc) (c0_u6 fc)) = c0_s7 (c0_so fc) (c0_u6 fc) := if_pos e
      rw [e8] at K
      exact K
    · have e8 : c0_s8 (c0_s7 (c0_so fc) (c0_u6 fc)) = fl_row (c0_s7 (c0_so fc) (c0_u6 fc)) 1 (upd ((c0_s7 (c0_so fc) (c0_u6 fc)) 1) 7 (0 : Int32)) := if_neg e
      rw [e8] at K
      exact K
theorem t2_RS.same (h : t2_RS f) (e : g 279 = f 279) : t2_RS g := fun j => by rw [e]; exact h j
theorem c0_I.rhu (h : c0_I fc fr) : (0 ≤ (fr 280 2).toInt ∧ (fr 280 2).toInt ≤ 16) ∧ ∀ C : Nat, (C : Int) < (fr 280 2).toInt → t2_ck fr C := ⟨h.2.2.2.2.2.1.2.2.1, fun C hC => (h.2.2.2.2.2.2.2.2.2.2.2 C hC).1⟩
theorem c0_IM.rhu (h : c0_IM fc fr) : (0 ≤ (fr 280 2).toInt ∧ (fr 280 2).toInt ≤ 16) ∧ ∀ C : Nat, (C : Int) < (fr 280 2).toInt → t2_ck fr C := ⟨h.2.2.2.2.2.1.2.2.1, fun C hC => (h.2.2.2.2.2.2.2.2.2.2.2 C hC).1⟩
theorem c0_IK.rhu (h : c0_IK fc fr) : (0 ≤ (fr 280 2).toInt ∧ (fr 280 2).toInt ≤ 16) ∧ ∀ C : Nat, (C : Int) < (fr 280 2).toInt → t2_ck fr C := ⟨h.2.2.2.2.2.1.2.2.1, fun C hC => (h.2.2.2.2.2.2.2.2.2.2.2 C hC).1⟩
noncomputable def r_w6 (f : t2_F) : t2_F := r_goMeasure_m (r_t5 (r_goBalance_m (r_goCells_m (r_goCurrent_m (r_goBus_m (r_t1 f))))))
theorem r_v6_w : r_v6 f = r_goTaper_m (r_w6 f) := rfl
/-- the reference's other rows -/
theorem r_v6_p {p : Nat} (h280 : p ≠ 280) (h277 : p ≠ 277) (h282 : p ≠ 282) : r_v6 f p = f p := by
  unfold r_v6
  rw [r_goTaper_fr h280, r_goMeasure_fr h280]
  unfold r_t5
  rw [fl_row_ne h280, r_goBalance_fr h277 h282 h280, r_goCells_fr h280, r_goCurrent_fr h280, r_goBus_fr h277 h280]
  exact fl_row_ne h280
theorem r_sec_p {p : Nat} (h280 : p ≠ 280) (h277 : p ≠ 277) (h282 : p ≠ 282) : r_sec_m f p = f p := by
  unfold r_sec_m
  rw [r_goRules_fr h280]
  unfold r_goKept_m
  rw [r_goKept_f117_fr (k := (r_goFaults_m (r_v6 f) 280 2).toInt.toNat) h280, fl_row_ne h280, r_goKept_m9_fr h280, r_goFaults_fr h280, r_v6_p h280 h277 h282]
theorem r_kept_p {p : Nat} (h280 : p ≠ 280) : r_goKept_m f p = f p := by
  unfold r_goKept_m
  rw [r_goKept_f117_fr (k := (f 280 2).toInt.toNat) h280, fl_row_ne h280, r_goKept_m9_fr h280]
/-- the reference's place 277 in a second -/
theorem c0_I.p277 (h : c0_I fc fr) (ht : (fr 280 7).toInt < 9999) {j : Nat} (h4 : j ≠ 4) (h6 : j ≠ 6) : r_w6 fr 277 j = fr 277 j ∧ r_v6 fr 277 j = fr 277 j ∧ r_sec_m fr 277 j = fr 277 j := by
  obtain ⟨i1, -⟩ := h.s1 ht
  obtain ⟨-, -, -, sl⟩ := i1.bus
  have e6 : r_w6 fr 277 j = fr 277 j := by
    unfold r_w6
    rw [r_goMeasure_fr (by decide)]
    unfold r_t5
    rw [fl_row_ne (by decide), r_balance_277 h6, r_goCells_fr (by decide), r_goCurrent_fr (by decide), sl j h4]
    unfold r_t1
    rw [fl_row_ne (by decide)]
  have e7 : r_v6 fr 277 j = fr 277 j := by
    rw [r_v6_w, r_goTaper_fr (by decide), e6]
  refine ⟨e6, e7, ?_⟩
  unfold r_sec_m
  rw [r_goRules_fr (by decide), r_kept_p (by decide), r_goFaults_fr (by decide), e7]
/-- A SECOND OF THE REFERENCE, RUN -/
theorem c0_rsec_q {L : Nat} {xs : Nat → Int32} {l : t2_L} {Q : Option fl_V → fl_M → Prop} (h : c0_I fc fr) (ht : (fr 280 7).toInt < 9999) (hr : t2_RS fr) (hp : fr 277 7 = 0) (k : Q (some (.inl (r_sec_v fr))) (r_sec_m fr, l)) : fl_Tq (pw_P L xs) 237 0 (fl_args (am_mxl (pw_P L xs) 237) [.inr (.inr (.inl (76, 277)))]) [] (fr, l) Q := by
  have c0 : (0 : Int32).toInt = 0 := rfl
  obtain ⟨i1, i2, i3, i4, i5, i6, im, ⟨slow, -, hsl⟩, ⟨i8, -⟩, ik, -⟩ := h.chain ht
  obtain ⟨p6, p7, ps⟩ := h.p277 ht (j := 7) (by decide) (by decide)
  have b24 := i3.2.2.2.2.s (k := 24) (by decide)
  have q24 : t2_lo 24 = 0 ∧ t2_hi 24 = 9999 ∧ t2_lo 13 = 0 ∧ t2_hi 13 = 16 := by decide
  have b13 := i4.2.2.2.2.s (k := 13) (by decide)
  have R1 : t2_RS (r_t1 fr) := hr.same (fl_row_ne (by decide))
  have R2 : t2_RS (r_goBus_m (r_t1 fr)) := R1.same (r_goBus_fr (by decide) (by decide))
  have R3 : t2_RS (r_goCurrent_m (r_goBus_m (r_t1 fr))) := R2.same (r_goCurrent_fr (by decide))
  have R6 : t2_RS (r_t5 (r_goBalance_m (r_goCells_m (r_goCurrent_m (r_goBus_m (r_t1 fr)))))) := R3.same (by unfold r_t5; rw [fl_row_ne (by decide), r_goBalance_fr (by decide) (by decide) (by decide), r_goCells_fr (by decide)])
  have RW : t2_RS (r_w6 fr) := R6.same (r_goMeasure_fr (by decide))
  have R7 : t2_RS (r_v6 fr) := RW.same (by rw [r_v6_w, r_goTaper_fr (by decide)])
  have R8 : t2_RS (r_goFaults_m (r_v6 fr)) := R7.same (r_goFaults_fr (by decide))
  have R9 : t2_RS (r_goKept_m (r_goFaults_m (r_v6 fr))) := R8.same (r_kept_p (by decide))
  have W6 : ∀ w : Nat, (w = 2 ∨ ∃ C : Nat, w = 444 + 61 * C + 0 ∨ w = 444 + 61 * C + 1) → r_w6 fr 280 w = r_t5 (r_goBalance_m (r_goCells_m (r_goCurrent_m (r_goBus_m (r_t1 fr))))) 280 w := fun w hw => by
    unfold r_w6
    rcases hw with e | ⟨C, e | e⟩
    · rw [e, r_meas_mid (by decide), r_mid_lo (by decide) (by decide) (by decide)]
    · rw [e, r_meas_mid (by omega), r_mid_s (by omega)]
    · rw [e, r_meas_mid (by omega), r_mid_s (by omega)]
  have u6 := i6.rhu
  show fl_Tq (pw_P L xs) 237 0 [some (.inr (.inr (.inl (76, 277)))), none] [] (fr, l) Q
  refine r_pA ?_
  refine r_pB1 (f := r_t1 fr) i1.rhu.1 R1 i1.rhu.2 ?_
  refine r_pB2 i2.rhu.1 R2 i2.rhu.2 i2.2.2.2.2.2.2.2.1.1 ?_
  refine r_pB3 i3.rhu.1 ?_ ?_
  · have b : t2_lo 24 ≤ (r_goCurrent_m (r_goBus_m (r_t1 fr)) 280 58).toInt ∧ (r_goCurrent_m (r_goBus_m (r_t1 fr)) 280 58).toInt ≤ t2_hi 24 := b24
    have c36 : (3600 : Int32).toInt = 3600 := by decide +kernel
    rw [at_mul32] <;> rw [c36] <;> omega
  · refine r_pB4 i4.rhu.1 i4.rhu.2 ?_ ?_
    · have b : t2_lo 13 ≤ (r_goCells_m (r_goCurrent_m (r_goBus_m (r_t1 fr))) 280 47).toInt ∧ (r_goCells_m (r_goCurrent_m (r_goBus_m (r_t1 fr))) 280 47).toInt ≤ t2_hi 13 := b13
      omega
    · refine r_pC ?_
      refine r_pD (f := r_t5 (r_goBalance_m (r_goCells_m (r_goCurrent_m (r_goBus_m (r_t1 fr)))))) u6.1 R6 u6.2 (fun C hC => (i6.2.2.2.2.2.2.2.2.2.2.2 C hC).2.2.2.2.2.2.1) ?_
      refine r_pE (f := r_w6 fr) (by rw [W6 2 (Or.inl rfl)]; exact u6.1) RW (fun C hC => ?_) (by rw [p6, hp]; exact c0) ?_
      · rw [W6 2 (Or.inl rfl)] at hC
        have ck := u6.2 C hC
        unfold t2_ck
        rw [W6 (444 + 61 * C + 0) (Or.inr ⟨C, Or.inl rfl⟩), W6 (444 + 61 * C + 1) (Or.inr ⟨C, Or.inr rfl⟩)]
        exact ck
      · refine r_pF (f := r_v6 fr) im.rhu.1 R7 im.rhu.2 ?_ im.2.2.2.2.2.2.2.2.2.2.1.2.1 ?_
        · rw [hsl]
          cases slow
          · exact Or.inl rfl
          · exact Or.inr rfl
        · refine r_pG (mo := r_sec_v fr) i8.rhu.1 R8 i8.rhu.2 i8.2.2.2.2.2.2.2.2.2.2.1.2.2 (fun C hC => ?_) ?_
          · have a := (i8.2.2.2.2.2.2.2.2.2.2.2 C hC).2.2.2.2.2.2.2
            exact ⟨a.1, a.2.1⟩
          · refine r_pH ik.rhu.1 R9 ik.rhu.2 ik.2.2.2.2.2.2.2.2.1.1 ik.2.2.2.2.2.2.2.2.1.2.1 ?_ ?_
            · rw [r_kept_p (by decide), r_goFaults_fr (by decide), p7, hp]
              exact c0
            · exact r_pI k
end C0RUN
