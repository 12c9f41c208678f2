/-! ===== block 0: a setting; a drive ===== -/
section C0DRV
variable {fc fr f g : t2_F} {C n : Nat} {c x v : Int32}
noncomputable def c0_set (f : t2_F) (k : Nat) (v : Int32) : t2_F := fl_row f 4 (upd (f 4) k v)
noncomputable def r_set (f : t2_F) (k : Nat) (v : Int32) : t2_F := fl_row f 280 (upd (f 280) (34 + k) v)
theorem c0_I.set (h : c0_I fc fr) {k : Nat} (hk : k < 30) (hv : t2_lo k ≤ v.toInt ∧ v.toInt ≤ t2_hi k) : c0_I (c0_set fc k v) (r_set fr k v) := by
  obtain ⟨⟨⟨g5, g6, g7, g8⟩, ⟨g9, g10, g11, g12⟩, g13, g14, g15, g16⟩, rs, gx, cl, ok⟩ := h
  have P : ∀ p : Nat, p ≠ 4 → c0_set fc k v p = fc p := fun p hp => fl_row_ne hp
  have W : ∀ w : Nat, (w < 34 ∨ 64 ≤ w) → r_set fr k v 280 w = fr 280 w := fun w hw => by unfold r_set; rw [fl_row_self, upd_ne (by omega)]
  have P1 : c0_set fc k v 1 = fc 1 := P _ (by decide)
  refine ⟨⟨⟨?_, ?_, ?_, ?_⟩, ⟨?_, ?_, ?_, ?_⟩, ?_, ?_, ?_, ?_⟩, fun j hj => ?_, gx.congr ok.2.2.2.2.2.1.1.2 (fun p hp => P p (by omega)) (fun w hw => W w (by omega)), fun C hC => ?_, ?_⟩
  · rw [P1, W 2 (by decide), g5]
  · rw [P1, W 7 (by decide), g6]
  · rw [P1, W 3 (by decide), g7]
  · rw [P1, W 4 (by decide), g8]
  · rw [P1, W 5 (by decide), g9]
  · rw [P1, W 14 (by decide), g10]
  · rw [P1, W 8 (by decide), g11]
  · rw [P1, W 9 (by decide), g12]
  · rw [P1, W 10 (by decide), g13]
  · rw [P1, W 11 (by decide), g14]
  · rw [P1, W 12 (by decide), g15]
  · rw [P1, W 13 (by decide), g16]
  · unfold c0_set r_set
    rw [fl_row_self, fl_row_self]
    by_cases e : j = k
    · subst e
      rw [upd_self, upd_self]
    · rw [upd_ne e, upd_ne (by omega)]
      exact rs j hj
  · rw [W 2 (by decide)] at hC
    exact ⟨(cl C hC).1.congr (P _ (by omega)) (fun k hk => W _ (by omega)), (cl C hC).2.congr (fun j _ _ => by rw [P _ (by omega)]) (fun p hp => P p (by omega)) (fun w hw => W _ (by omega))⟩
  · refine ok.upd (fun w hw => W w (by omega)) (fun j hj => ?_) (by rw [W 5 (by decide)]; exact ok.2.1.1) (by rw [W 4 (by decide)]; exact ok.2.1.2.1) (by rw [W 7 (by decide)]; exact ok.2.1.2.2.2) (by rw [W 16 (by decide), W 20 (by decide), W 21 (by decide)]; exact ok.2.2.2.2.2.2.1) (fun C hC => ?_)
    · unfold r_set
      rw [fl_row_self]
      by_cases e : j = k
      · subst e
        rw [upd_self]
        exact hv
      · rw [upd_ne (by omega)]
        exact ok.s hj
    · exact (ok.2.2.2.2.2.2.2 C hC).congr (fun w hw => W _ (by omega)) (by rw [W 7 (by decide)]; exact Int.le_refl _)
/-- the words that no second touches -/
theorem c0_I.sec_w (h : c0_I fc fr) (ht : (fr 280 7).toInt < 9999) {w : Nat} (hw : (17 ≤ w ∧ w < 20) ∨ (64 ≤ w ∧ w < 167)) : r_sec_m fr 280 w = fr 280 w := by
  obtain ⟨i1, i2, i3, i4, i5, i6, im, -, ⟨i8, -⟩, ik, -⟩ := h.chain ht
  have ok8 := i8.2.2.2.2
  have okk := ik.2.2.2.2
  unfold r_sec_m
  rw [r_goRules_w okk.2.2.2.2.1.1 okk.2.2.2.2.1.2.1 (by omega)]
  have e1 : r_goKept_m (r_goFaults_m (r_v6 fr)) 280 w = r_goFaults_m (r_v6 fr) 280 w := by
    unfold r_goKept_m
    exact r_goKept_f117_w ok8.2.1.2.2.1 (fun C hC => (ok8.2.2.2.2.2.2.2 C hC).1) ok8.2.2.2.2.2.2.1.2.2 (fun C hC => ⟨(ok8.2.2.2.2.2.2.2 C hC).2.2.2.2.2.2.2.1, (ok8.2.2.2.2.2.2.2 C hC).2.2.2.2.2.2.2.2.1⟩) (Nat.le_refl _) (Or.inl (by omega)) (by omega)
  rw [e1, r_goFaults_w im.2.2.2.2.2.2.2.2.2.2.1.2.1 (by omega), r_v6_w, r_goTaper_w (by omega)]
  unfold r_w6
  rw [r_meas_mid (by omega), r_mid_lo (by omega) (by omega) (by omega)]
  unfold r_t5
  rw [fl_row_self, upd_ne (by omega), r_goBalance_w (by omega), r_cells_lo (by omega), i2.cur.2 w (by omega) (fun C _ => by omega), r_goBus_w2, if_neg (by omega), if_neg (by omega)]
  unfold r_t1
  rw [fl_row_self, upd_ne (by omega)]
theorem c0_I.run_w (h : c0_I fc fr) (hj : c0_J fc) (hr : t2_RS fr) (hp : fr 277 7 = 0) {w : Nat} (hw : (17 ≤ w ∧ w < 20) ∨ (64 ≤ w ∧ w < 167)) : ∀ k : Nat, (fr 280 7).toInt + k ≤ 9999 → r_runN fr k 280 w = fr 280 w := by
  intro k
  induction k with
  | zero => intro _; rfl
  | succ k ih =>
    intro hk
    obtain ⟨⟨a, -⟩, t, -⟩ := h.run hj hr hp (0 : Int32) k (by omega)
    show r_sec_m (r_runN fr k) 280 w = _
    rw [a.sec_w (by omega) hw, ih (by omega)]
/-- how many seconds a piece takes -/
noncomputable def r_pn (f : t2_F) (j : Nat) : Nat := (min (f 280 (119 + 2 * j + 1)).toInt (9999 - (f 280 7).toInt)).toNat
noncomputable def c0_pn (f : t2_F) (j : Nat) : Int32 := t2_min_v (f 8 ((j * 2) + 1)) ((9999 : Int32) - (f 1 6))
/-- a drive, j pieces of it -/
noncomputable def c0_drv (f : t2_F) : Nat → t2_F × Int32
  | 0 => (f, (0 : Int32))
  | j + 1 => (c0_runN (c0_set (c0_drv f j).1 20 ((c0_drv f j).1 8 (j * 2))) (c0_pn (c0_drv f j).1 j).toInt.toNat, c0_runV (c0_set (c0_drv f j).1 20 ((c0_drv f j).1 8 (j * 2))) (c0_drv f j).2 (c0_pn (c0_drv f j).1 j).toInt.toNat)
noncomputable def r_drv (f : t2_F) : Nat → t2_F × Int32
  | 0 => (f, (0 : Int32))
  | j + 1 => (r_runN (r_set (r_drv f j).1 20 ((r_drv f j).1 280 (119 + 2 * j))) (r_pn (r_drv f j).1 j), r_runV (r_set (r_drv f j).1 20 ((r_drv f j).1 280 (119 + 2 * j))) (r_drv f j).2 (r_pn (r_drv f j).1 j))
def c0_K (fc fr : t2_F) : Prop := c0_I fc fr ∧ c0_J fc ∧ t2_RS fr ∧ fr 277 7 = 0
theorem c0_K.set (h : c0_K fc fr) {k : Nat} (hk : k < 30) (hv : t2_lo k ≤ v.toInt ∧ v.toInt ≤ t2_hi k) : c0_K (c0_set fc k v) (r_set fr k v) := by
  obtain ⟨a, b, d, e⟩ := h
  refine ⟨a.set hk hv, b.congr (fun p hp => fl_row_ne (by omega)), d.same (fl_row_ne (by decide)), ?_⟩
  unfold r_set
  rw [fl_row_ne (by decide)]
  exact e
theorem c0_K.pn (h : c0_K fc fr) {j : Nat} (hj : (j : Int) < (fr 280 19).toInt) : (c0_pn fc j).toInt.toNat = r_pn fr j ∧ 0 ≤ (c0_pn fc j).toInt ∧ (fr 280 7).toInt + r_pn fr j ≤ 9999 ∧ fc 8 (j * 2) = fr 280 (119 + 2 * j) ∧ (-99999 ≤ (fr 280 (119 + 2 * j)).toInt ∧ (fr 280 (119 + 2 * j)).toInt ≤ 99999) ∧ (1 ≤ (fr 280 (119 + 2 * j + 1)).toInt ∧ (fr 280 (119 + 2 * j + 1)).toInt ≤ 99) := by
  obtain ⟨⟨⟨⟨g5, g6, -⟩, -⟩, -, ⟨⟨-, -, -, -, -, gp⟩, -⟩, -, ok⟩, -⟩ := h
  have b := ok.2.2.2.2.2.1.2 j hj
  have t := ok.2.1.2.2.2
  have e8 : fc 8 ((j * 2) + 1) = fr 280 (119 + 2 * j + 1) := by
    rw [gp (j * 2 + 1) (by omega)]
    congr 1
    omega
  have e80 : fc 8 (j * 2) = fr 280 (119 + 2 * j) := by
    rw [gp (j * 2) (by omega)]
    congr 1
    omega
  have c9 : (9999 : Int32).toInt = 9999 := by decide +kernel
  have s : ((9999 : Int32) - fr 280 7).toInt = 9999 - (fr 280 7).toInt := by rw [at_sub32 (by omega) (by omega), c9]
  have m : (c0_pn fc j).toInt = min (fr 280 (119 + 2 * j + 1)).toInt (9999 - (fr 280 7).toInt) := by
    unfold c0_pn
    rw [t2_min_i, e8, g6, s]
  unfold r_pn
  rw [m]
  refine ⟨rfl, by omega, by omega, e80, b.1, b.2⟩
theorem c0_K.run (h : c0_K fc fr) (v : Int32) {k : Nat} (hk : (fr 280 7).toInt + k ≤ 9999) : c0_K (c0_runN fc k) (r_runN fr k) ∧ (r_runN fr k 280 7).toInt = (fr 280 7).toInt + k ∧ c0_runV fc v k = r_runV fr v k := h.1.run h.2.1 h.2.2.1 h.2.2.2 v k hk
theorem c0_K.drv (h : c0_K fc fr) : ∀ j : Nat, (j : Int) ≤ (fr 280 19).toInt → c0_K (c0_drv fc j).1 (r_drv fr j).1 ∧ (r_drv fr j).1 280 19 = fr 280 19 ∧ (c0_drv fc j).2 = (r_drv fr j).2 := by
  have q20 : t2_lo 20 = -99999 ∧ t2_hi 20 = 99999 := by decide
  intro j
  induction j with
  | zero => intro _; exact ⟨h, rfl, rfl⟩
  | succ j ih =>
    intro hj
    obtain ⟨a, b, d⟩ := ih (by omega)
    obtain ⟨p1, p2, p3, p4, p5, p6⟩ := a.pn (j := j) (by rw [b]; omega)
    have s := a.set (k := 20) (v := (r_drv fr j).1 280 (119 + 2 * j)) (by decide) (by omega)
    have t7 : r_set (r_drv fr j).1 20 ((r_drv fr j).1 280 (119 + 2 * j)) 280 7 = (r_drv fr j).1 280 7 := by unfold r_set; rw [fl_row_self, upd_ne (by decide)]
    obtain ⟨r1, r2, r3⟩ := s.run (r_drv fr j).2 (k := r_pn (r_drv fr j).1 j) (by rw [t7]; omega)
    refine ⟨?_, ?_, ?_⟩
    · show c0_K (c0_runN (c0_set (c0_drv fc j).1 20 ((c0_drv fc j).1 8 (j * 2))) (c0_pn (c0_drv fc j).1 j).toInt.toNat) (r_runN (r_set (r_drv fr j).1 20 ((r_drv fr j).1 280 (119 + 2 * j))) (r_pn (r_drv fr j).1 j))
      rw [p1, p4]
      exact r1
    · show r_runN (r_set (r_drv fr j).1 20 ((r_drv fr j).1 280 (119 + 2 * j))) (r_pn (r_drv fr j).1 j) 280 19 = _
      rw [s.1.run_w s.2.1 s.2.2.1 s.2.2.2 (Or.inl (by decide)) _ (by rw [t7]; omega)]
      unfold r_set
      rw [fl_row_self, upd_ne (by decide), b]
    · show c0_runV (c0_set (c0_drv fc j).1 20 ((c0_drv fc j).1 8 (j * 2))) (c0_drv fc j).2 (c0_pn (c0_drv fc j).1 j).toInt.toNat = r_runV (r_set (r_drv fr j).1 20 ((r_drv fr j).1 280 (119 + 2 * j))) (r_drv fr j).2 (r_pn (r_drv fr j).1 j)
      rw [p1, p4, d]
      exact r3
/-- passDrive -/
theorem c0_passDrive_q {L : Nat} {xs : Nat → Int32} {l : t2_L} {Q : Option fl_V → fl_M → Prop} (h : c0_K fc fr) (k : Q (some (.inl (c0_drv fc (fr 280 19).toInt.toNat).2)) ((c0_drv fc (fr 280 19).toInt.toNat).1, l)) : fl_Tq (pw_P L xs) 56 0 (fl_args (am_mxl (pw_P L xs) 56) [.inr (.inr (.inl (1, 1)))]) [] (fc, l) Q := by
  have n19 := h.1.2.2.2.2.2.2.2.2.2.1.1
  have q20 : t2_lo 20 = -99999 ∧ t2_hi 20 = 99999 := by decide
  have cnt : ∀ j : Nat, (j : Int) ≤ (fr 280 19).toInt → ((c0_drv fc j).1 3 7).toInt = (((fr 280 19).toInt.toNat : Nat) : Int) := fun j hj => by
    obtain ⟨a, b, -⟩ := h.drv j hj
    rw [a.1.2.2.1.1.2.2.2.2.1, b]
    omega
  refine c0_drA ?_
  refine t2_for (n := (fr 280 19).toInt.toNat) (S := fun j => fl_Tq (pw_P L xs) 56 4 [some (.inr (.inr (.inl (1, 1)))), some (.inl (c0_drv fc j).2), some (.inl (Int32.ofNat j)), none, none] [] ((c0_drv fc j).1, l) Q) (fun j hj hS => ?_) ?_
  · obtain ⟨a, b, -⟩ := h.drv j (by omega)
    obtain ⟨p1, p2, p3, p4, p5, p6⟩ := a.pn (j := j) (by rw [b]; omega)
    have s := a.set (k := 20) (v := (r_drv fr j).1 280 (119 + 2 * j)) (by decide) (by omega)
    have t7 : r_set (r_drv fr j).1 20 ((r_drv fr j).1 280 (119 + 2 * j)) 280 7 = (r_drv fr j).1 280 7 := by unfold r_set; rw [fl_row_self, upd_ne (by decide)]
    rw [← p4] at s
    refine c0_drB (by omega) (t2_lk hj (cnt j (by omega))) ?_
    refine t2_for (n := (c0_pn (c0_drv fc j).1 j).toInt.toNat) (S := fun i => fl_Tq (pw_P L xs) 56 64 [some (.inr (.inr (.inl (1, 1)))), some (.inl (c0_runV (c0_set (c0_drv fc j).1 20 ((c0_drv fc j).1 8 (j * 2))) (c0_drv fc j).2 i)), some (.inl (Int32.ofNat j)), some (.inl (c0_pn (c0_drv fc j).1 j)), some (.inl (Int32.ofNat i))] [] (c0_runN (c0_set (c0_drv fc j).1 20 ((c0_drv fc j).1 8 (j * 2))) i, l) Q) (fun i hi hS2 => ?_) ?_
    · obtain ⟨r1, r2, -⟩ := s.run (0 : Int32) (k := i) (by rw [p4, t7]; omega)
      rw [p4, t7] at r2
      refine c0_drC r1.1 (by rw [p4]; omega) r1.2.1 (t2_lk hi (by omega)) ?_
      rw [t2_k1]
      exact hS2
    · refine c0_drD (t2_ln (by omega)) ?_
      rw [t2_k1]
      exact fl_Tq.fg hS ⟨rfl, rfl, rfl, True.intro⟩
  · exact c0_drE (t2_ln (cnt _ (by omega))) k
/-- driveNow -/
theorem c0_driveNow_q {L : Nat} {xs : Nat → Int32} {l : t2_L} {Q : Option fl_V → fl_M → Prop} (h : c0_K fc fr) (k : Q (some (.inl (r_drv fr (fr 280 19).toInt.toNat).2)) ((r_drv fr (fr 280 19).toInt.toNat).1, l)) : fl_Tq (pw_P L xs) 266 0 (fl_args (am_mxl (pw_P L xs) 266) [.inr (.inr (.inl (76, 277)))]) [] (fr, l) Q := by
  have n19 := h.1.2.2.2.2.2.2.2.2.2.1.1
  have c9 : (9999 : Int32).toInt = 9999 := by decide +kernel
  have q20 : t2_lo 20 = -99999 ∧ t2_hi 20 = 99999 := by decide
  have cnt : ∀ j : Nat, (j : Int) ≤ (fr 280 19).toInt → ((r_drv fr j).1 280 19).toInt = (((fr 280 19).toInt.toNat : Nat) : Int) := fun j hj => by
    obtain ⟨-, b, -⟩ := h.drv j hj
    rw [b]
    omega
  refine r_drA ?_
  refine t2_for (n := (fr 280 19).toInt.toNat) (S := fun j => fl_Tq (pw_P L xs) 266 4 [some (.inr (.inr (.inl (76, 277)))), some (.inl (r_drv fr j).2), some (.inl (Int32.ofNat j)), none] [] ((r_drv fr j).1, l) Q) (fun j hj hS => ?_) ?_
  · obtain ⟨a, b, -⟩ := h.drv j (by omega)
    obtain ⟨p1, p2, p3, p4, p5, p6⟩ := a.pn (j := j) (by rw [b]; omega)
    have s := a.set (k := 20) (v := (r_drv fr j).1 280 (119 + 2 * j)) (by decide) (by omega)
    have t7 : ∀ w : Nat, w ≠ 54 → r_set (r_drv fr j).1 20 ((r_drv fr j).1 280 (119 + 2 * j)) 280 w = (r_drv fr j).1 280 w := fun w hw => by unfold r_set; rw [fl_row_self, upd_ne (by omega)]
    have W : ∀ i : Nat, i ≤ r_pn (r_drv fr j).1 j → r_runN (r_set (r_drv fr j).1 20 ((r_drv fr j).1 280 (119 + 2 * j))) i 280 ((119 + 2 * j) + 1) = (r_drv fr j).1 280 (119 + 2 * j + 1) := fun i hi => by
      rw [s.1.run_w s.2.1 s.2.2.1 s.2.2.2 (w := (119 + 2 * j) + 1) (Or.inr (by omega)) i (by rw [t7 7 (by decide)]; omega), t7 _ (by omega)]
    have pe : (r_pn (r_drv fr j).1 j : Int) = min ((r_drv fr j).1 280 (119 + 2 * j + 1)).toInt (9999 - ((r_drv fr j).1 280 7).toInt) := by
      have tb := a.1.2.2.2.2.2.1.2.2.2
      unfold r_pn
      omega
    refine r_drB (by omega) (t2_lk hj (cnt j (by omega))) ?_
    refine t2_for (n := r_pn (r_drv fr j).1 j) (S := fun i => fl_Tq (pw_P L xs) 266 35 [some (.inr (.inr (.inl (76, 277)))), some (.inl (r_runV (r_set (r_drv fr j).1 20 ((r_drv fr j).1 280 (119 + 2 * j))) (r_drv fr j).2 i)), some (.inl (Int32.ofNat j)), some (.inl (Int32.ofNat i))] [] (r_runN (r_set (r_drv fr j).1 20 ((r_drv fr j).1 280 (119 + 2 * j))) i, l) Q) (fun i hi hS2 => ?_) ?_
    · obtain ⟨r1, r2, -⟩ := s.run (0 : Int32) (k := i) (by rw [t7 7 (by decide)]; omega)
      rw [t7 7 (by decide)] at r2
      have ei : (Int32.ofNat i).toInt = i := at_ofN (by omega)
      refine r_drC (f := r_runN (r_set (r_drv fr j).1 20 ((r_drv fr j).1 280 (119 + 2 * j))) i) (by omega) r1.1 (by omega) r1.2.2.1 r1.2.2.2 (by rw [W i (by omega)]; omega) (by omega) ?_
      rw [t2_k1]
      exact hS2
    · obtain ⟨-, r2, -⟩ := s.run (0 : Int32) (k := r_pn (r_drv fr j).1 j) (by rw [t7 7 (by decide)]; omega)
      rw [t7 7 (by decide)] at r2
      have ei : (Int32.ofNat (r_pn (r_drv fr j).1 j)).toInt = (r_pn (r_drv fr j).1 j : Nat) := at_ofN (by omega)
      have hS' := fl_Tq.fg (lv' := [some (.inr (.inr (.inl (76, 277)))), some (.inl (r_drv fr (j + 1)).2), some (.inl (Int32.ofNat (j + 1))), some (.inl (Int32.ofNat (r_pn (r_drv fr j).1 j)))]) hS ⟨rfl, rfl, rfl, True.intro⟩
      rw [← t2_k1] at hS'
      by_cases e : (Int32.ofNat (r_pn (r_drv fr j).1 j)).toInt < ((r_drv fr j).1 280 (119 + 2 * j + 1)).toInt
      · exact r_drD2 (f := r_runN (r_set (r_drv fr j).1 20 ((r_drv fr j).1 280 (119 + 2 * j))) (r_pn (r_drv fr j).1 j)) (by omega) (by rw [W _ (Nat.le_refl _)]; exact e) (by omega) hS'
      · exact r_drD (f := r_runN (r_set (r_drv fr j).1 20 ((r_drv fr j).1 280 (119 + 2 * j))) (r_pn (r_drv fr j).1 j)) (by omega) (by rw [W _ (Nat.le_refl _)]; exact e) hS'
  · exact r_drE (t2_ln (cnt _ (by omega))) k
end C0DRV
