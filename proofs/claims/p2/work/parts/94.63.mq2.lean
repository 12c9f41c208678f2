/-! ===== reset, set, zone, piece, rule ===== -/
section T2MQ2
variable {L : Nat} {xs : Nat → Int32} {f fc F : t2_F} {l l' : t2_L} {Q : Option fl_V → fl_M → Prop} {a b c d e : Int32}
/-- mayReset, of the reference, is the class's couldReset -/
theorem r_may_q (h : c0_I fc F) (k : Q (some (.inl (c0_couldReset_v fc a))) (F, l')) : fl_Tq (pw_P L xs) 253 0 (fl_args (am_mxl (pw_P L xs) 253) [.inr (.inr (.inl (76, 277))), .inl a]) [] (F, l') Q := by
  have c0 : (0 : Int32).toInt = 0 := rfl
  have c10 : (10 : Int32).toInt = 10 := by decide +kernel
  have e3 : fc 1 7 = F 280 3 := h.1.1.2.2.1
  have e7 : fc 1 6 = F 280 7 := h.1.1.2.1
  have e6 : fc 10 3 = F 280 6 := h.2.2.1.2.1.1.1
  have e21 : fc 4 21 = F 280 55 := h.2.1 21 (by decide)
  unfold c0_couldReset_v at k
  show fl_Tq (pw_P L xs) 253 0 [some (.inr (.inr (.inl (76, 277)))), some (.inl a)] [] (F, l') Q
  by_cases ha : 0 ≤ a.toInt ∧ a.toInt ≤ 10
  · obtain ⟨A, hA⟩ : ∃ A : Nat, a.toInt = A := ⟨a.toInt.toNat, by omega⟩
    have hA1 : A < 11 := by omega
    have ea : a = Int32.ofNat A := Int32.toInt.inj (by rw [at_ofN (by omega)]; exact hA)
    have ew : ¬ ((t2_within_v a (0 : Int32) (10 : Int32)).toInt = 0) := by rw [t2_w0, c0, c10]; omega
    have er : fc 11 a.toInt.toNat = F 280 (23 + A) := by
      rw [show a.toInt.toNat = A by omega]
      exact h.2.2.1.2.1.2.1 A hA1
    have eb : ((fc 10 3) &&& ((1 : Int32) <<< (a &&& 31))).toInt = 0 ↔ (r_has_v (F 280 6) a).toInt = 0 := by
      rw [ea, e6, t2_anb (by omega), t2_has0 (by omega)]
    rw [if_neg ew] at k
    refine y_reset_A0 (fun h1 => absurd h1 ew) (fun _ h2 => ?_) (fun _ h2 => ?_)
    · rw [if_pos (eb.mpr h2)] at k
      exact k
    · rw [if_neg (fun h => h2 (eb.mp h))] at k
      refine y_reset_A1 hA hA1 (fun h3 h4 => ?_) (fun h3 h4 => ?_) (fun h3 => ?_)
      · rw [if_pos (by rw [e3]; exact h3), if_pos (by rw [e7, er, e21]; exact h4)] at k
        exact k
      · rw [if_pos (by rw [e3]; exact h3), if_neg (by rw [e7, er, e21]; exact h4)] at k
        exact k
      · rw [if_neg (by rw [e3]; exact h3)] at k
        exact k
  · have ew : (t2_within_v a (0 : Int32) (10 : Int32)).toInt = 0 := by rw [t2_w0, c0, c10]; exact ha
    rw [if_pos ew] at k
    exact y_reset_A0 (fun _ => k) (fun h => absurd ew h) (fun h => absurd ew h)
/-- reset -/
theorem t2_reset (Z : t2_Z (f, l)) : fl_Tq (pw_P L xs) 108 0 (fl_args (am_mxl (pw_P L xs) 108) [lx_x, .inl a]) [] (f, l) (t2_Mid L xs 254 [at_this, .inl a]) := by
  have I : c0_I f f := Z.2.1
  show fl_Tq (pw_P L xs) 108 0 [some (.inr (.inr (.inl (0, 0)))), some (.inl a)] [] (f, l) _
  refine x_reset_A (fun h1 => ?_) (fun h1 => ?_)
  · refine ⟨Z.U, ⟨_, rfl⟩, ?_⟩
    show fl_Tq (pw_P L xs) 254 0 [some (.inr (.inr (.inl (76, 277)))), some (.inl a)] [] (f, l) _
    refine fl_Tq.stp rfl rfl (fl_bo rfl) rfl ?_
    refine fl_Tq.stp rfl rfl (fl_bo rfl) rfl ?_
    refine fl_Tq.cal rfl rfl (fl_bo rfl) rfl ?_
    refine r_may_q I ?_
    exact y_reset_A2 (fun _ => ⟨rfl, Z.2, Z.U⟩) (fun h => absurd h1 h)
  refine fl_Tq.cal rfl rfl (fl_bo rfl) rfl ?_
  refine t2_ckeep Z (fun g l' C => ?_)
  refine x_reset_B ?_
  have hF : ∀ p : Nat, 91 ≤ p → fl_row g 10 (upd (g 10) 3 ((g 10 3) &&& (((1 : Int32) <<< (a &&& 31)) ^^^ (-1 : Int32)))) p = g p := fun p hp => fl_row_ne (by omega)
  have F280 := C.F280 hF
  refine ⟨fun p hp i => by show fl_row g 10 _ p i = _; rw [fl_row_ne (by have : fl_N l'.2 ≤ p := hp; unfold fl_N at this; omega)]; exact C.U Z.U p hp i, ⟨_, rfl⟩, ?_⟩
  generalize hFF : fl_row g 10 (upd (g 10) 3 ((g 10 3) &&& (((1 : Int32) <<< (a &&& 31)) ^^^ (-1 : Int32)))) = F at *
  show fl_Tq (pw_P L xs) 254 0 [some (.inr (.inr (.inl (76, 277)))), some (.inl a)] [] _ _
  refine fl_Tq.stp rfl rfl (fl_bo rfl) rfl ?_
  refine fl_Tq.stp rfl rfl (fl_bo rfl) rfl ?_
  refine fl_Tq.cal rfl rfl (fl_bo rfl) rfl ?_
  refine r_may_q (fc := f) (I.ext (fun p _ _ => rfl) (fun w _ _ => by rw [F280])) ?_
  refine y_reset_A2 (fun h => absurd h h1) (fun _ => ?_)
  refine fl_Tq.cal rfl rfl (fl_bo rfl) rfl ?_
  refine Z.rkeep F280 (fun G hG K => ?_)
  refine y_reset_B ?_
  have I0 := Z.I0 C F280 K
  have e6 : g 10 3 = G 280 6 := I0.2.2.1.2.1.1.1
  have J := I0.latched (v := (g 10 3) &&& (((1 : Int32) <<< (a &&& 31)) ^^^ (-1 : Int32)))
  rw [hFF, e6] at J
  have fin := Z.fin C hF K hG (H := fl_row G 280 (upd (G 280) 6 ((G 280 6) &&& (((1 : Int32) <<< (a &&& 31)) ^^^ (-1 : Int32))))) (fun p hp => fl_row_ne (by omega)) (by rw [fl_row_ne (by decide)]) (fun w hw => by rw [fl_row_self, upd_ne (by omega)]) J
  exact ⟨rfl, fin.1, fin.2⟩
/-- set -/
theorem t2_set (Z : t2_Z (f, l)) : fl_Tq (pw_P L xs) 104 0 (fl_args (am_mxl (pw_P L xs) 104) [lx_x, .inl a, .inl b]) [] (f, l) (t2_Mid L xs 247 [at_this, .inl a, .inl b]) := by
  have c0 : (0 : Int32).toInt = 0 := rfl
  have c1 : (1 : Int32).toInt = 1 := by decide +kernel
  have B : ∀ j, f 278 j = (at_i0 278).getD j 0 := fun j => Z.1.2.2.2.2.2.2.2.2.2 278 j (Or.inl rfl)
  show fl_Tq (pw_P L xs) 104 0 [some (.inr (.inr (.inl (0, 0)))), some (.inl a), some (.inl b)] [] (f, l) _
  refine x_set_A ?_
  refine fl_Tq.cal rfl rfl (fl_bo rfl) rfl ?_
  refine at_x174 (fun z hz => ?_)
  refine x_set_A2 (fun h1 => ?_) (fun h1 => ?_)
  · have hn : ¬ at_sb a b := by
      rcases hz with ⟨rfl, -⟩ | ⟨-, h⟩
      · rw [c1] at h1; omega
      · exact h
    refine ⟨Z.U, ⟨_, rfl⟩, ?_⟩
    show fl_Tq (pw_P L xs) 247 0 [some (.inr (.inr (.inl (76, 277)))), some (.inl a), some (.inl b)] [] (f, l) _
    refine y_set_A ?_
    refine fl_Tq.cal rfl rfl (fl_bo rfl) rfl ?_
    refine at_m246 B (fun z2 hz2 => ?_)
    refine y_set_A2 (fun _ => ⟨rfl, Z.2, Z.U⟩) (fun h => ?_)
    rcases hz2 with ⟨-, h2⟩ | ⟨rfl, -⟩
    · exact absurd h2 hn
    · exact absurd c0 h
  · have hs : at_sb a b := by
      rcases hz with ⟨-, h⟩ | ⟨rfl, -⟩
      · exact h
      · exact absurd c0 h1
    obtain ⟨hA, hA1, hv⟩ := t2_sbk hs
    refine fl_Tq.cal rfl rfl (fl_bo rfl) rfl ?_
    refine t2_ckeep Z (fun g l' C => ?_)
    refine x_set_B hA hA1 ?_
    have hF : ∀ p : Nat, 91 ≤ p → fl_row g 4 (upd (g 4) a.toInt.toNat b) p = g p := fun p hp => fl_row_ne (by omega)
    have F280 := C.F280 hF
    refine ⟨fun p hp i => by show fl_row g 4 _ p i = _; rw [fl_row_ne (by have : fl_N l'.2 ≤ p := hp; unfold fl_N at this; omega)]; exact C.U Z.U p hp i, ⟨_, rfl⟩, ?_⟩
    show fl_Tq (pw_P L xs) 247 0 [some (.inr (.inr (.inl (76, 277)))), some (.inl a), some (.inl b)] [] _ _
    refine y_set_A ?_
    refine fl_Tq.cal rfl rfl (fl_bo rfl) rfl ?_
    refine at_m246 (fun j => by show fl_row g 4 (upd (g 4) a.toInt.toNat b) 278 j = _; rw [hF 278 (by decide), C.now (by decide) (by decide) (by decide)]; exact B j) (fun z2 hz2 => ?_)
    refine y_set_A2 (fun h => ?_) (fun _ => ?_)
    · rcases hz2 with ⟨rfl, -⟩ | ⟨-, h2⟩
      · rw [c1] at h; omega
      · exact absurd hs h2
    refine fl_Tq.cal rfl rfl (fl_bo rfl) rfl ?_
    refine Z.rkeep F280 (fun G hG K => ?_)
    refine y_set_B hA hA1 ?_
    have I0 := Z.I0 C F280 K
    have fin := Z.fin C hF K hG (H := fl_row G 280 (upd (G 280) (34 + a.toInt.toNat) b)) (fun p hp => fl_row_ne (by omega)) (by rw [fl_row_ne (by decide)]) (fun w hw => by rw [fl_row_self, upd_ne (by omega)]) (I0.set hA1 hv)
    exact ⟨rfl, fin.1, fin.2⟩
/-- piece -/
theorem t2_piece (Z : t2_Z (f, l)) : fl_Tq (pw_P L xs) 114 0 (fl_args (am_mxl (pw_P L xs) 114) [lx_x, .inl a, .inl b]) [] (f, l) (t2_Mid L xs 260 [at_this, .inl a, .inl b]) := by
  have I : c0_I f f := Z.2.1
  have c0 : (0 : Int32).toInt = 0 := rfl
  have c1 : (1 : Int32).toInt = 1 := by decide +kernel
  have c20 : (20 : Int32).toInt = 20 := by decide +kernel
  have c24 : (24 : Int32).toInt = 24 := by decide +kernel
  have c99 : (99 : Int32).toInt = 99 := by decide +kernel
  have c9 : (99999 : Int32).toInt = 99999 := by decide +kernel
  have cm9 : (-99999 : Int32).toInt = -99999 := by decide +kernel
  have e7 : f 3 7 = f 280 19 := I.2.2.1.1.2.2.2.2.1
  have n19 := I.2.2.2.2.2.2.2.2.2.1.1
  have q20 : t2_lo 20 = -99999 ∧ t2_hi 20 = 99999 := by decide
  have sb : at_sb (20 : Int32) a ↔ -99999 ≤ a.toInt ∧ a.toInt ≤ 99999 := by
    have b1 := t2_bnd ⟨20, by decide⟩
    dsimp only at b1
    unfold at_sb
    rw [c20, show (20 : Int).toNat = 20 by rfl, b1.1, b1.2, q20.1, q20.2]
    omega
  show fl_Tq (pw_P L xs) 114 0 [some (.inr (.inr (.inl (0, 0)))), some (.inl a), some (.inl b)] [] (f, l) _
  have no : ¬ ((-99999 ≤ a.toInt ∧ a.toInt ≤ 99999) ∧ (1 ≤ b.toInt ∧ b.toInt ≤ 99) ∧ (f 280 19).toInt < 24) → t2_Mid L xs 260 [at_this, .inl a, .inl b] (some (.inl (-1 : Int32))) (f, l) := fun hn => by
    refine ⟨Z.U, ⟨_, rfl⟩, ?_⟩
    show fl_Tq (pw_P L xs) 260 0 [some (.inr (.inr (.inl (76, 277)))), some (.inl a), some (.inl b)] [] (f, l) _
    refine y_piece_A (fun h1 => ⟨rfl, Z.2, Z.U⟩) (fun h1 h2 => ⟨rfl, Z.2, Z.U⟩) (fun h1 h2 h3 => ⟨rfl, Z.2, Z.U⟩) (fun h1 h2 h3 => ?_)
    rw [r_i0, cm9, c9] at h1
    rw [r_i0, c1, c99] at h2
    rw [c24] at h3
    omega
  refine x_piece_A ?_
  refine fl_Tq.cal rfl rfl (fl_bo rfl) rfl ?_
  refine at_x174 (fun z hz => ?_)
  have hz' : (¬ z.toInt = 0) ↔ -99999 ≤ a.toInt ∧ a.toInt ≤ 99999 := by
    rcases hz with ⟨rfl, h⟩ | ⟨rfl, h⟩
    · rw [c1]
      exact ⟨fun _ => sb.mp h, fun _ => by decide⟩
    · exact ⟨fun h2 => absurd c0 h2, fun h2 => absurd (sb.mpr h2) h⟩
  have ebp : (c0_bearsPiece_v f).toInt = 0 ↔ ¬ (f 280 19).toInt < 24 := by
    unfold c0_bearsPiece_v
    rw [e7, c24]
    split
    · rw [c1]; omega
    · rw [c0]; omega
  refine x_piece_A2 (fun h1 => no (fun h => absurd h1 (hz'.mpr h.1))) (fun _ h2 => no (by rw [t2_w0, c1, c99] at h2; omega)) (fun _ _ h3 => no (fun h => ebp.mp h3 h.2.2)) (fun h1 h2 h3 => ?_)
  have ha := hz'.mp h1
  rw [t2_w0, c1, c99, Classical.not_not] at h2
  have h19 : (f 280 19).toInt < 24 := Classical.not_not.mp (fun h => h3 (ebp.mpr h))
  refine fl_Tq.cal rfl rfl (fl_bo rfl) rfl ?_
  refine t2_ckeep Z (fun g l' C => ?_)
  have g37 : g 3 7 = f 280 19 := by rw [C.now (by decide) (by decide) (by decide)]; exact e7
  refine x_piece_B (by rw [g37]; omega) ?_
  have hF : ∀ p : Nat, 91 ≤ p → c0_addPiece_m g a b p = g p := fun p hp => c0_addPiece_fr (by omega) (by omega)
  have F280 := C.F280 hF
  refine ⟨fun p hp i => by show c0_addPiece_m g a b p i = _; rw [hF p (by have : fl_N l'.2 ≤ p := hp; unfold fl_N at this; omega)]; exact C.U Z.U p hp i, ⟨_, rfl⟩, ?_⟩
  show fl_Tq (pw_P L xs) 260 0 [some (.inr (.inr (.inl (76, 277)))), some (.inl a), some (.inl b)] [] _ _
  refine y_piece_A (fun h => ?_) (fun _ h => ?_) (fun _ _ h => ?_) (fun _ _ _ => ?_)
  · rw [r_i0, cm9, c9] at h
    omega
  · rw [r_i0, c1, c99] at h
    omega
  · rw [F280, c24] at h
    omega
  refine fl_Tq.cal rfl rfl (fl_bo rfl) rfl ?_
  refine Z.rkeep F280 (fun G hG K => ?_)
  have I0 := Z.I0 C F280 K
  have G19 : G 280 19 = f 280 19 := by rw [← g37]; exact I0.2.2.1.1.2.2.2.2.1.symm
  refine y_piece_B (by rw [G19]; omega) ?_
  have J := I0.piece (n := (G 280 19).toInt.toNat) (a := a) (b := b) (by rw [G19]; omega) (by rw [G19]; omega) ha h2
  have fin := Z.fin C hF K hG (H := fl_row G 280 (upd (upd (upd (G 280) (119 + (2 * ((G 280 19).toInt.toNat))) a) ((119 + (2 * ((G 280 19).toInt.toNat))) + 1) b) 19 ((G 280 19) + (1 : Int32)))) (fun p hp => fl_row_ne (by omega)) (by rw [fl_row_ne (by decide)]) (fun w hw => by rw [fl_row_self, upd_ne (by omega), upd_ne (by rw [G19]; omega), upd_ne (by rw [G19]; omega)]) J.1
  exact ⟨by unfold c0_addPiece_v; rw [J.2], fin.1, fin.2⟩
/-- zone -/
theorem t2_zone (Z : t2_Z (f, l)) : fl_Tq (pw_P L xs) 110 0 (fl_args (am_mxl (pw_P L xs) 110) [lx_x, .inl a, .inl b]) [] (f, l) (t2_Mid L xs 259 [at_this, .inl a, .inl b]) := by
  have I : c0_I f f := Z.2.1
  have c0 : (0 : Int32).toInt = 0 := rfl
  have c1 : (1 : Int32).toInt = 1 := by decide +kernel
  have c6 : (6 : Int32).toInt = 6 := by decide +kernel
  have cm4 : (-400 : Int32).toInt = -400 := by decide +kernel
  have c12 : (1200 : Int32).toInt = 1200 := by decide +kernel
  have c9 : (99999 : Int32).toInt = 99999 := by decide +kernel
  have e6 : f 3 6 = f 280 17 := I.2.2.1.1.2.1.1
  have n17 := I.2.2.2.2.2.2.2.1.1
  have z2 : ∀ k : Nat, k < 12 → f 7 k = f 280 (67 + k) := I.2.2.1.1.2.1.2.1
  have ej : (x_zone_A_j10_0 a b).toInt = 0 ↔ ¬ ((-400 ≤ a.toInt ∧ a.toInt ≤ 1200) ∧ 0 ≤ b.toInt ∧ b.toInt ≤ 99999) := by
    unfold x_zone_A_j10_0
    split
    · rename_i h
      rw [t2_w0, cm4, c12] at h
      rw [c0]; omega
    · rename_i h
      rw [t2_w0, cm4, c12] at h
      split
      · rename_i h2
        rw [t2_w0, c0, c9] at h2
        rw [c0]; omega
      · rename_i h2
        rw [t2_w0, c0, c9] at h2
        rw [c1]; omega
  have eb : (c0_bearsZone_v f a).toInt = 0 ↔ ¬ ((f 280 17).toInt < 6 ∧ (0 < (f 280 17).toInt → (f 280 ((67 + (2 * ((f 280 17).toInt.toNat))) - 2)).toInt < a.toInt)) := by
    unfold c0_bearsZone_v
    rw [e6, c6]
    by_cases h1 : (f 280 17).toInt < 6
    · rw [if_pos h1]
      by_cases h2 : (f 280 17).toInt = 0
      · rw [if_pos h2, c1]
        omega
      · have ez : f 7 (2 * (f 280 17).toInt.toNat - 2) = f 280 ((67 + (2 * ((f 280 17).toInt.toNat))) - 2) := by
          rw [z2 _ (by omega), show 67 + (2 * (f 280 17).toInt.toNat - 2) = 67 + 2 * (f 280 17).toInt.toNat - 2 by omega]
        rw [if_neg h2, ez]
        split
        · rw [c1]; omega
        · rw [c0]; omega
    · rw [if_neg h1, c0]
      omega
  show fl_Tq (pw_P L xs) 110 0 [some (.inr (.inr (.inl (0, 0)))), some (.inl a), some (.inl b), none] [] (f, l) _
  have no : ¬ (((-400 ≤ a.toInt ∧ a.toInt ≤ 1200) ∧ 0 ≤ b.toInt ∧ b.toInt ≤ 99999) ∧ (f 280 17).toInt < 6 ∧ (0 < (f 280 17).toInt → (f 280 ((67 + (2 * ((f 280 17).toInt.toNat))) - 2)).toInt < a.toInt)) → t2_Mid L xs 259 [at_this, .inl a, .inl b] (some (.inl (-1 : Int32))) (f, l) := fun hn => by
    refine ⟨Z.U, ⟨_, rfl⟩, ?_⟩
    show fl_Tq (pw_P L xs) 259 0 [some (.inr (.inr (.inl (76, 277)))), some (.inl a), some (.inl b)] [] (f, l) _
    refine y_zone_A (fun h1 => ⟨rfl, Z.2, Z.U⟩) (fun h1 h2 => ⟨rfl, Z.2, Z.U⟩) (fun h1 h2 h3 => ⟨rfl, Z.2, Z.U⟩) (fun h1 h2 h3 => ?_)
    rw [r_i0, cm4, c12] at h1
    rw [r_i0, c0, c9] at h2
    rw [c6] at h3
    refine y_zone_A1 (fun h4 => y_zone_A2 n17 h4 (fun h5 => ?_) (fun h5 => ⟨rfl, Z.2, Z.U⟩)) (fun h4 => ?_)
    · exact absurd (by omega) hn
    · exact absurd (by omega) hn
  refine x_zone_A (by rw [e6]; exact n17) (fun h1 => no (fun h => ej.mp h1 h.1)) (fun _ h2 => no (fun h => eb.mp h2 h.2)) (fun h1 h2 => ?_)
  have g1 := Classical.not_not.mp (fun h => h1 (ej.mpr h))
  have g2 := Classical.not_not.mp (fun h => h2 (eb.mpr h))
  refine fl_Tq.cal rfl rfl (fl_bo rfl) rfl ?_
  refine t2_ckeep Z (fun g l' C => ?_)
  have g36 : g 3 6 = f 280 17 := by rw [C.now (by decide) (by decide) (by decide)]; exact e6
  refine fl_Tq.fg (x_zone_B (by rw [g36]; omega) ?_) ⟨rfl, rfl, rfl, True.intro⟩
  have hF : ∀ p : Nat, 91 ≤ p → c0_addZone_m g a b p = g p := fun p hp => c0_addZone_fr (by omega) (by omega)
  have F280 := C.F280 hF
  refine ⟨fun p hp i => by show c0_addZone_m g a b p i = _; rw [hF p (by have : fl_N l'.2 ≤ p := hp; unfold fl_N at this; omega)]; exact C.U Z.U p hp i, ⟨_, rfl⟩, ?_⟩
  show fl_Tq (pw_P L xs) 259 0 [some (.inr (.inr (.inl (76, 277)))), some (.inl a), some (.inl b)] [] _ _
  generalize hFF : c0_addZone_m g a b = F at *
  have go : fl_Tq (pw_P L xs) 259 72 [some (.inr (.inr (.inl (76, 277)))), some (.inl a), some (.inl b)] [] (F, l') (fun v2 m2 => v2 = some (.inl (c0_addZone_v g a b)) ∧ t2_W m2.1 m2.1 m2.2.2 ∧ t2_U m2) := by
    refine y_zone_A3 ?_
    refine fl_Tq.cal rfl rfl (fl_bo rfl) rfl ?_
    refine Z.rkeep F280 (fun G hG K => ?_)
    have I0 := Z.I0 C F280 K
    have G17 : G 280 17 = f 280 17 := by rw [← g36]; exact I0.2.2.1.1.2.1.1.symm
    refine y_zone_B (by rw [G17]; omega) ?_
    have J := I0.zone (n := (G 280 17).toInt.toNat) (a := a) (b := b) (by rw [G17]; omega) (by rw [G17]; omega) g1.2.1
    rw [hFF] at J
    have fin := Z.fin C hF K hG (H := fl_row G 280 (upd (upd (upd (G 280) (67 + (2 * ((G 280 17).toInt.toNat))) a) ((67 + (2 * ((G 280 17).toInt.toNat))) + 1) b) 17 ((G 280 17) + (1 : Int32)))) (fun p hp => fl_row_ne (by omega)) (by rw [fl_row_ne (by decide)]) (fun w hw => by rw [fl_row_self, upd_ne (by omega), upd_ne (by rw [G17]; omega), upd_ne (by rw [G17]; omega)]) J.1
    exact ⟨by unfold c0_addZone_v; rw [J.2], fin.1, fin.2⟩
  refine y_zone_A (fun h => ?_) (fun _ h => ?_) (fun _ _ h => ?_) (fun _ _ _ => ?_)
  · rw [r_i0, cm4, c12] at h
    omega
  · rw [r_i0, c0, c9] at h
    omega
  · rw [F280, c6] at h
    omega
  refine y_zone_A1 (fun h4 => y_zone_A2 (by rw [F280]; exact n17) h4 (fun _ => go) (fun h5 => ?_)) (fun _ => go)
  rw [F280] at h4 h5
  exact absurd (g2.2 h4) h5
/-- rule -/
theorem t2_rule (Z : t2_Z (f, l)) : fl_Tq (pw_P L xs) 115 0 (fl_args (am_mxl (pw_P L xs) 115) [lx_x, .inl a, .inl b, .inl c, .inl d, .inl e]) [] (f, l) (t2_Mid L xs 261 [at_this, .inl a, .inl b, .inl c, .inl d, .inl e]) := by
  have I : c0_I f f := Z.2.1
  have c0 : (0 : Int32).toInt = 0 := rfl
  have c1 : (1 : Int32).toInt = 1 := by decide +kernel
  have c8 : (8 : Int32).toInt = 8 := by decide +kernel
  have c13 : (13 : Int32).toInt = 13 := by decide +kernel
  have B : ∀ j, f 278 j = (at_i0 278).getD j 0 := fun j => Z.1.2.2.2.2.2.2.2.2.2 278 j (Or.inl rfl)
  have e8 : f 3 8 = f 280 18 := I.2.2.1.1.2.2.1.1
  have n18 := I.2.2.2.2.2.2.2.2.1.1
  show fl_Tq (pw_P L xs) 115 0 [some (.inr (.inr (.inl (0, 0)))), some (.inl a), some (.inl b), some (.inl c), some (.inl d), some (.inl e)] [] (f, l) _
  have no : ¬ ((0 ≤ a.toInt ∧ a.toInt ≤ 13) ∧ at_sb d e ∧ (f 280 18).toInt < 8) → t2_Mid L xs 261 [at_this, .inl a, .inl b, .inl c, .inl d, .inl e] (some (.inl (-1 : Int32))) (f, l) := fun hn => by
    refine ⟨Z.U, ⟨_, rfl⟩, ?_⟩
    show fl_Tq (pw_P L xs) 261 0 [some (.inr (.inr (.inl (76, 277)))), some (.inl a), some (.inl b), some (.inl c), some (.inl d), some (.inl e), none] [] (f, l) _
    refine y_rule_A (fun h1 => ⟨rfl, Z.2, Z.U⟩) (fun h1 => ?_)
    refine fl_Tq.cal rfl rfl (fl_bo rfl) rfl ?_
    refine at_m246 B (fun z hz => ?_)
    refine y_rule_A2 (fun h2 => ⟨rfl, Z.2, Z.U⟩) (fun h2 h3 => ⟨rfl, Z.2, Z.U⟩) (fun h2 h3 => ?_)
    rw [r_i0, c0, c13, Classical.not_not] at h1
    rw [c8] at h3
    rcases hz with ⟨-, h⟩ | ⟨rfl, -⟩
    · exact absurd ⟨h1, h, by omega⟩ hn
    · exact absurd c0 h2
  have ebr : (c0_bearsRule_v f).toInt = 0 ↔ ¬ (f 280 18).toInt < 8 := by
    unfold c0_bearsRule_v
    rw [e8, c8]
    split
    · rw [c1]; omega
    · rw [c0]; omega
  refine x_rule_A (fun h1 => no (by rw [t2_w0, c0, c13] at h1; exact fun h => h1 h.1)) (fun h1 => ?_)
  rw [t2_w0, c0, c13, Classical.not_not] at h1
  refine fl_Tq.cal rfl rfl (fl_bo rfl) rfl ?_
  refine at_x174 (fun z hz => ?_)
  refine x_rule_A2 (fun h2 => no (fun h => ?_)) (fun _ h3 => no (fun h => ebr.mp h3 h.2.2)) (fun h2 h3 => ?_)
  · rcases hz with ⟨rfl, -⟩ | ⟨-, h3⟩
    · rw [c1] at h2; omega
    · exact h3 h.2.1
  have hs : at_sb d e := by
    rcases hz with ⟨-, h⟩ | ⟨rfl, -⟩
    · exact h
    · exact absurd c0 h2
  have h18 : (f 280 18).toInt < 8 := Classical.not_not.mp (fun h => h3 (ebr.mpr h))
  obtain ⟨hA, hA1, hv⟩ := t2_sbk hs
  refine fl_Tq.cal rfl rfl (fl_bo rfl) rfl ?_
  refine t2_ckeep Z (fun g l' C => ?_)
  have g38 : g 3 8 = f 280 18 := by rw [C.now (by decide) (by decide) (by decide)]; exact e8
  refine x_rule_B (by rw [g38]; omega) ?_
  generalize hbb : (if b.toInt = 0 then (0 : Int32) else (1 : Int32)) = bb
  have hF : ∀ p : Nat, 91 ≤ p → c0_addRule_m g a bb c d e p = g p := fun p hp => c0_addRule_fr (by omega) (by omega)
  have F280 := C.F280 hF
  refine ⟨fun p hp i => by show c0_addRule_m g a bb c d e p i = _; rw [hF p (by have : fl_N l'.2 ≤ p := hp; unfold fl_N at this; omega)]; exact C.U Z.U p hp i, ⟨_, rfl⟩, ?_⟩
  show fl_Tq (pw_P L xs) 261 0 [some (.inr (.inr (.inl (76, 277)))), some (.inl a), some (.inl b), some (.inl c), some (.inl d), some (.inl e), none] [] _ _
  refine y_rule_A (fun h => ?_) (fun _ => ?_)
  · rw [r_i0, c0, c13] at h
    omega
  refine fl_Tq.cal rfl rfl (fl_bo rfl) rfl ?_
  refine at_m246 (fun j => by show c0_addRule_m g a bb c d e 278 j = _; rw [hF 278 (by decide), C.now (by decide) (by decide) (by decide)]; exact B j) (fun z2 hz2 => ?_)
  refine y_rule_A2 (fun h => ?_) (fun _ h => ?_) (fun _ _ => ?_)
  · rcases hz2 with ⟨rfl, -⟩ | ⟨-, h2⟩
    · rw [c1] at h; omega
    · exact absurd hs h2
  · rw [F280, c8] at h
    omega
  refine fl_Tq.cal rfl rfl (fl_bo rfl) rfl ?_
  refine Z.rkeep F280 (fun G hG K => ?_)
  have I0 := Z.I0 C F280 K
  have G18 : G 280 18 = f 280 18 := by rw [← g38]; exact I0.2.2.1.1.2.2.1.1.symm
  refine y_rule_B (by rw [G18]; omega) ?_
  rw [hbb]
  have J := I0.rule (n := (G 280 18).toInt.toNat) (a := a) (b := bb) (c := c) (d := d) (e := e) (by rw [G18]; omega) (by rw [G18]; omega) (by omega) hv
  have fin := Z.fin C hF K hG (H := fl_row G 280 (upd (upd (upd (upd (upd (upd (G 280) (79 + (5 * ((G 280 18).toInt.toNat))) a) ((79 + (5 * ((G 280 18).toInt.toNat))) + 1) bb) ((79 + (5 * ((G 280 18).toInt.toNat))) + 2) c) ((79 + (5 * ((G 280 18).toInt.toNat))) + 3) d) ((79 + (5 * ((G 280 18).toInt.toNat))) + 4) e) 18 ((G 280 18) + (1 : Int32)))) (fun p hp => fl_row_ne (by omega)) (by rw [fl_row_ne (by decide)]) (fun w hw => by rw [G18, fl_row_self, upd_ne (by omega), upd_ne (by omega), upd_ne (by omega), upd_ne (by omega), upd_ne (by omega), upd_ne (by omega)]) J.1
  exact ⟨by unfold c0_addRule_v; rw [J.2], fin.1, fin.2⟩
end T2MQ2
