theorem bs_24_0_q {L : Nat} {xs : Nat → Int32} {f : t2_F} {l : t2_L} {Q : Option fl_V → fl_M → Prop} {p q : Nat} (A : t2_blk l.2 p 24) (B : t2_blk l.2 q 0) (hpq : p + 90 ≤ q ∨ q + 90 ≤ p) (hn : 0 ≤ (f q 5).toInt ∧ (f q 5).toInt ≤ 16) (hz : ∀ j : Nat, (j : Int) < (f q 5).toInt → f (q + 17 + 4 * j) 10 = 0 ∨ f (q + 17 + 4 * j) 10 = 1) (hw : f (q + 9) 6 = 0 ∨ f (q + 9) 6 = 1) (k : Q none (bs_m f p q, l)) : fl_Tq (pw_P L xs) 33 0 (fl_args (am_mxl (pw_P L xs) 33) [.inr (.inr (.inl (25, p))), .inr (.inr (.inl (1, q)))]) [] (f, l) Q := by
  refine bs_A_24_0 A B hpq ?_
  refine t2_for (n := (f q 5).toInt.toNat) (S := fun j => fl_Tq (pw_P L xs) 33 2 [some (.inr (.inr (.inl (25, p)))), some (.inr (.inr (.inl (1, q)))), some (.inl (Int32.ofNat j))] [] (bs_cells f p q j, l) Q) (fun j hj hS => ?_) ?_
  · have hj16 : j < 16 := by omega
    have e : bs_cells f p q j q = f q := bs_cells_fr (by omega)
    refine bs_B_24_0 A B hpq hj16 (by rw [e]; exact t2_lk hj (by omega)) (by rw [bs_cells_fr (by omega)]; exact hz j (by omega)) ?_
    rw [t2_k1]
    exact hS
  · have e : bs_cells f p q (f q 5).toInt.toNat q = f q := bs_cells_fr (by omega)
    refine bs_C_24_0 A B hpq (by rw [e]; exact t2_ln (by omega)) ?_
    refine t2_for (n := 3) (S := fun j => fl_Tq (pw_P L xs) 33 33 [some (.inr (.inr (.inl (25, p)))), some (.inr (.inr (.inl (1, q)))), some (.inl (Int32.ofNat j))] [] (bs_marks (bs_cells f p q (f q 5).toInt.toNat) p q j, l) Q) (fun j hj hS => ?_) ?_
    · refine bs_D_24_0 A B hpq hj (t2_lk hj (by decide +kernel)) ?_
      rw [t2_k1]
      exact hS
    · refine bs_E_24_0 A B hpq (t2_ln (by decide +kernel)) ?_ ?_
      · rw [bc_watch_z_e (by omega), bc_told_fr (by omega), bs_marks_fr (by omega), bs_cells_fr (by omega)]
        exact hw
      · exact bs_F_24_0 A B hpq k
theorem bs_0_24_q {L : Nat} {xs : Nat → Int32} {f : t2_F} {l : t2_L} {Q : Option fl_V → fl_M → Prop} {p q : Nat} (A : t2_blk l.2 p 0) (B : t2_blk l.2 q 24) (hpq : p + 90 ≤ q ∨ q + 90 ≤ p) (hn : 0 ≤ (f q 5).toInt ∧ (f q 5).toInt ≤ 16) (hz : ∀ j : Nat, (j : Int) < (f q 5).toInt → f (q + 17 + 4 * j) 10 = 0 ∨ f (q + 17 + 4 * j) 10 = 1) (hw : f (q + 9) 6 = 0 ∨ f (q + 9) 6 = 1) (k : Q none (bs_m f p q, l)) : fl_Tq (pw_P L xs) 33 0 (fl_args (am_mxl (pw_P L xs) 33) [.inr (.inr (.inl (1, p))), .inr (.inr (.inl (25, q)))]) [] (f, l) Q := by
  refine bs_A_0_24 A B hpq ?_
  refine t2_for (n := (f q 5).toInt.toNat) (S := fun j => fl_Tq (pw_P L xs) 33 2 [some (.inr (.inr (.inl (1, p)))), some (.inr (.inr (.inl (25, q)))), some (.inl (Int32.ofNat j))] [] (bs_cells f p q j, l) Q) (fun j hj hS => ?_) ?_
  · have hj16 : j < 16 := by omega
    have e : bs_cells f p q j q = f q := bs_cells_fr (by omega)
    refine bs_B_0_24 A B hpq hj16 (by rw [e]; exact t2_lk hj (by omega)) (by rw [bs_cells_fr (by omega)]; exact hz j (by omega)) ?_
    rw [t2_k1]
    exact hS
  · have e : bs_cells f p q (f q 5).toInt.toNat q = f q := bs_cells_fr (by omega)
    refine bs_C_0_24 A B hpq (by rw [e]; exact t2_ln (by omega)) ?_
    refine t2_for (n := 3) (S := fun j => fl_Tq (pw_P L xs) 33 33 [some (.inr (.inr (.inl (1, p)))), some (.inr (.inr (.inl (25, q)))), some (.inl (Int32.ofNat j))] [] (bs_marks (bs_cells f p q (f q 5).toInt.toNat) p q j, l) Q) (fun j hj hS => ?_) ?_
    · refine bs_D_0_24 A B hpq hj (t2_lk hj (by decide +kernel)) ?_
      rw [t2_k1]
      exact hS
    · refine bs_E_0_24 A B hpq (t2_ln (by decide +kernel)) ?_ ?_
      · rw [bc_watch_z_e (by omega), bc_told_fr (by omega), bs_marks_fr (by omega), bs_cells_fr (by omega)]
        exact hw
      · exact bs_F_0_24 A B hpq k
theorem bs_48_0_q {L : Nat} {xs : Nat → Int32} {f : t2_F} {l : t2_L} {Q : Option fl_V → fl_M → Prop} {p q : Nat} (A : t2_blk l.2 p 48) (B : t2_blk l.2 q 0) (hpq : p + 90 ≤ q ∨ q + 90 ≤ p) (hn : 0 ≤ (f q 5).toInt ∧ (f q 5).toInt ≤ 16) (hz : ∀ j : Nat, (j : Int) < (f q 5).toInt → f (q + 17 + 4 * j) 10 = 0 ∨ f (q + 17 + 4 * j) 10 = 1) (hw : f (q + 9) 6 = 0 ∨ f (q + 9) 6 = 1) (k : Q none (bs_m f p q, l)) : fl_Tq (pw_P L xs) 33 0 (fl_args (am_mxl (pw_P L xs) 33) [.inr (.inr (.inl (49, p))), .inr (.inr (.inl (1, q)))]) [] (f, l) Q := by
  refine bs_A_48_0 A B hpq ?_
  refine t2_for (n := (f q 5).toInt.toNat) (S := fun j => fl_Tq (pw_P L xs) 33 2 [some (.inr (.inr (.inl (49, p)))), some (.inr (.inr (.inl (1, q)))), some (.inl (Int32.ofNat j))] [] (bs_cells f p q j, l) Q) (fun j hj hS => ?_) ?_
  · have hj16 : j < 16 := by omega
    have e : bs_cells f p q j q = f q := bs_cells_fr (by omega)
    refine bs_B_48_0 A B hpq hj16 (by rw [e]; exact t2_lk hj (by omega)) (by rw [bs_cells_fr (by omega)]; exact hz j (by omega)) ?_
    rw [t2_k1]
    exact hS
  · have e : bs_cells f p q (f q 5).toInt.toNat q = f q := bs_cells_fr (by omega)
    refine bs_C_48_0 A B hpq (by rw [e]; exact t2_ln (by omega)) ?_
    refine t2_for (n := 3) (S := fun j => fl_Tq (pw_P L xs) 33 33 [some (.inr (.inr (.inl (49, p)))), some (.inr (.inr (.inl (1, q)))), some (.inl (Int32.ofNat j))] [] (bs_marks (bs_cells f p q (f q 5).toInt.toNat) p q j, l) Q) (fun j hj hS => ?_) ?_
    · refine bs_D_48_0 A B hpq hj (t2_lk hj (by decide +kernel)) ?_
      rw [t2_k1]
      exact hS
    · refine bs_E_48_0 A B hpq (t2_ln (by decide +kernel)) ?_ ?_
      · rw [bc_watch_z_e (by omega), bc_told_fr (by omega), bs_marks_fr (by omega), bs_cells_fr (by omega)]
        exact hw
      · exact bs_F_48_0 A B hpq k
theorem bs_24_24_q {L : Nat} {xs : Nat → Int32} {f : t2_F} {l : t2_L} {Q : Option fl_V → fl_M → Prop} {p q : Nat} (A : t2_blk l.2 p 24) (B : t2_blk l.2 q 24) (hpq : p + 90 ≤ q ∨ q + 90 ≤ p) (hn : 0 ≤ (f q 5).toInt ∧ (f q 5).toInt ≤ 16) (hz : ∀ j : Nat, (j : Int) < (f q 5).toInt → f (q + 17 + 4 * j) 10 = 0 ∨ f (q + 17 + 4 * j) 10 = 1) (hw : f (q + 9) 6 = 0 ∨ f (q + 9) 6 = 1) (k : Q none (bs_m f p q, l)) : fl_Tq (pw_P L xs) 33 0 (fl_args (am_mxl (pw_P L xs) 33) [.inr (.inr (.inl (25, p))), .inr (.inr (.inl (25, q)))]) [] (f, l) Q := by
  refine bs_A_24_24 A B hpq ?_
  refine t2_for (n := (f q 5).toInt.toNat) (S := fun j => fl_Tq (pw_P L xs) 33 2 [some (.inr (.inr (.inl (25, p)))), some (.inr (.inr (.inl (25, q)))), some (.inl (Int32.ofNat j))] [] (bs_cells f p q j, l) Q) (fun j hj hS => ?_) ?_
  · have hj16 : j < 16 := by omega
    have e : bs_cells f p q j q = f q := bs_cells_fr (by omega)
    refine bs_B_24_24 A B hpq hj16 (by rw [e]; exact t2_lk hj (by omega)) (by rw [bs_cells_fr (by omega)]; exact hz j (by omega)) ?_
    rw [t2_k1]
    exact hS
  · have e : bs_cells f p q (f q 5).toInt.toNat q = f q := bs_cells_fr (by omega)
    refine bs_C_24_24 A B hpq (by rw [e]; exact t2_ln (by omega)) ?_
    refine t2_for (n := 3) (S := fun j => fl_Tq (pw_P L xs) 33 33 [some (.inr (.inr (.inl (25, p)))), some (.inr (.inr (.inl (25, q)))), some (.inl (Int32.ofNat j))] [] (bs_marks (bs_cells f p q (f q 5).toInt.toNat) p q j, l) Q) (fun j hj hS => ?_) ?_
    · refine bs_D_24_24 A B hpq hj (t2_lk hj (by decide +kernel)) ?_
      rw [t2_k1]
      exact hS
    · refine bs_E_24_24 A B hpq (t2_ln (by decide +kernel)) ?_ ?_
      · rw [bc_watch_z_e (by omega), bc_told_fr (by omega), bs_marks_fr (by omega), bs_cells_fr (by omega)]
        exact hw
      · exact bs_F_24_24 A B hpq k
