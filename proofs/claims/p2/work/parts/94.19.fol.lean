/-! ===== block 0: turns followed; what a cell keeps; the trace ===== -/
section C0FOL
variable {fc fr f g F G A B : t2_F} {C n k : Nat} {c x y z : Int32}
theorem c0_follow_eq (h : c0_TI A B C) (hx : x = r_partOf_v B c C) (hp : 0 ≤ x.toInt ∧ x.toInt ≤ 1000) : c0_TI (c0_follow_m A C x) (r_goTurn_m B c C) C := by
  obtain ⟨e2, et, ec, ha⟩ := id h
  obtain ⟨h1, h2, h3, h5⟩ := id ha
  have c32 : (32 : Int32).toInt = 32 := by decide +kernel
  have c2 : (2 : Int32).toInt = 2 := by decide +kernel
  have c1 : (1 : Int32).toInt = 1 := by decide +kernel
  have c0 : (0 : Int32).toInt = 0 := rfl
  generalize hnn : (B 280 (444 + 61 * C + 10)).toInt.toNat = n
  have en : (B 280 (444 + 61 * C + 10)).toInt = (n : Int) := by omega
  have tl := et (n - 1) (by omega)
  unfold c0_follow_m r_goTurn_m
  rw [e2, hnn, tl, ← hx, if_neg (show ¬ (B 280 (444 + 61 * C + 10)).toInt = 0 by omega)]
  by_cases q : x.toInt = (B 280 (444 + 61 * C + (17 + (n - 1)))).toInt
  · rw [if_pos q, if_pos q]
    exact h
  · rw [if_neg q, if_neg q]
    have gj : c0_goesOn_v A C x = r_goTurn_j33_0 B c C := by
      unfold c0_goesOn_v r_goTurn_j33_0 c0_goesOn_j34_0 c0_goesOn_j44_0 r_goTurn_j52_0 r_goTurn_j70_0
      rw [e2, hnn, tl, ← hx]
      by_cases l : n < 2
      · rw [if_pos (by omega), if_neg (by omega)]
      · have t2 := et (n - 2) (by omega)
        have n1 := h3 (n - 2) (by omega)
        rw [show n - 2 + 1 = n - 1 by omega] at n1
        unfold r_tI at n1
        rw [if_neg (show ¬ (B 280 (444 + 61 * C + 10)).toInt < (2 : Int32).toInt by omega), if_pos (show (1 : Int32).toInt < (B 280 (444 + 61 * C + 10)).toInt by omega), t2, if_neg (show ¬ (B 280 (444 + 61 * C + (17 + (n - 1)))).toInt = (B 280 (444 + 61 * C + (17 + (n - 2)))).toInt from fun r => n1 r.symm)]
        by_cases u : (B 280 (444 + 61 * C + (17 + (n - 2)))).toInt < (B 280 (444 + 61 * C + (17 + (n - 1)))).toInt
        · by_cases v : (B 280 (444 + 61 * C + (17 + (n - 1)))).toInt < x.toInt
          · rw [if_pos u, if_pos v]
          · rw [if_pos u, if_neg v, if_neg (by omega), if_neg (by omega)]
        · by_cases v : (B 280 (444 + 61 * C + (17 + (n - 1)))).toInt < x.toInt
          · rw [if_neg u, if_pos v, if_neg (by omega), if_neg (by omega)]
          · rw [if_neg u, if_neg v]
    have gd : (2 ≤ n ∧ (r_tI B C (n - 2) < r_tI B C (n - 1) ↔ r_tI B C (n - 1) < x.toInt)) ↔ ¬ (r_goTurn_j33_0 B c C).toInt = 0 := by
      unfold r_goTurn_j33_0 r_goTurn_j52_0 r_goTurn_j70_0 r_tI
      rw [hnn, ← hx]
      by_cases l : n < 2
      · rw [if_neg (by omega)]
        exact ⟨fun r => absurd r.1 (by omega), fun r => absurd c0 r⟩
      · have n1 := h3 (n - 2) (by omega)
        rw [show n - 2 + 1 = n - 1 by omega] at n1
        unfold r_tI at n1
        rw [if_pos (show (1 : Int32).toInt < (B 280 (444 + 61 * C + 10)).toInt by omega), if_neg (show ¬ (B 280 (444 + 61 * C + (17 + (n - 1)))).toInt = (B 280 (444 + 61 * C + (17 + (n - 2)))).toInt from fun r => n1 r.symm)]
        by_cases u : (B 280 (444 + 61 * C + (17 + (n - 2)))).toInt < (B 280 (444 + 61 * C + (17 + (n - 1)))).toInt
        · by_cases v : (B 280 (444 + 61 * C + (17 + (n - 1)))).toInt < x.toInt
          · rw [if_pos u, if_pos v, if_pos rfl]
            exact ⟨fun _ => by omega, fun _ => ⟨by omega, fun _ => v, fun _ => u⟩⟩
          · rw [if_pos u, if_neg v, if_neg (by omega)]
            exact ⟨fun r => absurd (r.2.mp u) v, fun r => absurd c0 r⟩
        · by_cases v : (B 280 (444 + 61 * C + (17 + (n - 1)))).toInt < x.toInt
          · rw [if_neg u, if_pos v, if_neg (by omega)]
            exact ⟨fun r => absurd (r.2.mpr v) u, fun r => absurd c0 r⟩
          · rw [if_neg u, if_neg v, if_pos rfl]
            exact ⟨fun _ => by omega, fun _ => ⟨by omega, fun r => absurd r u, fun r => absurd r v⟩⟩
    have qI : x.toInt ≠ r_tI B C (n - 1) := q
    have ex1 : 444 + 61 * C + ((17 + n) - 1) = 444 + 61 * C + (17 + (n - 1)) := by omega
    rw [gj]
    by_cases d : (r_goTurn_j33_0 B c C).toInt = 0
    · rw [if_pos d, if_pos d]
      have nd : 2 ≤ n → ¬ (r_tI B C (n - 2) < r_tI B C (n - 1) ↔ r_tI B C (n - 1) < x.toInt) := fun l r => (gd.mp ⟨l, r⟩) d
      unfold c0_uadd_m
      rw [e2, hnn]
      by_cases f32 : (B 280 (444 + 61 * C + 10)).toInt = (32 : Int32).toInt
      · rw [if_pos f32, if_pos f32]
        have n32 : n = 32 := by omega
        subst n32
        refine c0_count_eq (c := c) 32 _ _ ?_
        have dt := r_dropTurnN_t (f := B) (c := c) (C := C) (X := 0)
        have da := r_dropTurnN_at (f := B) (c := c) (C := C) (X := 0) (n := 32) en (by decide) (by decide) (by decide)
        have dv : r_tv (r_dropTurnN_m B c C 0) C := r_dropTurnN_tv h1 (by decide) h2
        have i10 : ((B 280 (444 + 61 * C + 10)) - (1 : Int32) + (1 : Int32)).toInt = 32 := by
          rw [at_add32] <;> rw [at_sub32] <;> omega
        have tt : ∀ j : Nat, j < 32 → (fl_row (r_dropTurnN_m B c C 0) 280 (upd (upd ((r_dropTurnN_m B c C 0) 280) (444 + 61 * C + (17 + (32 - 1))) x) (444 + 61 * C + 10) (((B 280 (444 + 61 * C + 10)) - (1 : Int32)) + (1 : Int32)))) 280 (444 + 61 * C + (17 + j)) = if j = 31 then x else B 280 (444 + 61 * C + (17 + (j + 1))) := fun j hj => by
          rw [fl_row_self, upd_ne (by omega)]
          by_cases e : j = 31
          · rw [e, if_pos rfl, upd_self]
          · rw [if_neg e, upd_ne (by omega), da j hj, if_neg (by omega), if_pos (by omega)]
        refine ⟨?_, fun i hi => ?_, fun k hk => ?_, ?_⟩
        · rw [fl_row_self, upd_self, fl_row_self, upd_self]
        · rw [fl_row_self, upd_self, i10] at hi
          rw [tt i (by omega), fl_row_ne (by omega), fl_row_self]
          by_cases e : i = 31
          · rw [e, if_pos rfl, upd_self]
          · rw [if_neg e, upd_ne (by omega)]
            show (if 0 ≤ i ∧ i < 0 + 31 then A (20 + 4 * C) (1 + (i - 0)) else A (20 + 4 * C) i) = _
            rw [if_pos (by omega), show 1 + (i - 0) = i + 1 by omega]
            exact et (i + 1) (by omega)
        · rw [fl_row_ne (by omega), fl_row_ne (by omega), fl_row_ne (by omega), fl_row_ne (by omega), fl_row_self, upd_ne (by omega), upd_ne (by omega), r_dropTurnN_w h1 (by decide) (by omega)]
          exact ec k hk
        · refine r_alt_drop (x := x) ha en ?_ tt (r_tv2 dv hp) qI (nd (by decide))
          rw [fl_row_self, upd_self, i10]
      · rw [if_neg f32, if_neg f32]
        have n32 : n < 32 := by omega
        refine c0_count_eq (c := c) 32 _ _ ?_
        have i10 : ((B 280 (444 + 61 * C + 10)) + (1 : Int32)).toInt = (n : Int) + 1 := by rw [at_add32] <;> omega
        have tt : ∀ j : Nat, j < n + 1 → (fl_row B 280 (upd (upd (B 280) (444 + 61 * C + (17 + n)) x) (444 + 61 * C + 10) ((B 280 (444 + 61 * C + 10)) + (1 : Int32)))) 280 (444 + 61 * C + (17 + j)) = if j = n then x else B 280 (444 + 61 * C + (17 + j)) := fun j hj => by
          rw [fl_row_self, upd_ne (by omega)]
          by_cases e : j = n
          · rw [e, if_pos rfl, upd_self]
          · rw [if_neg e, upd_ne (by omega)]
        refine ⟨?_, fun i hi => ?_, fun k hk => ?_, ?_⟩
        · rw [fl_row_self, upd_self, fl_row_self, upd_self]
        · rw [fl_row_self, upd_self, i10] at hi
          rw [tt i (by omega), fl_row_ne (by omega), fl_row_self]
          by_cases e : i = n
          · rw [e, if_pos rfl, upd_self]
          · rw [if_neg e, upd_ne e]
            exact et i (by omega)
        · rw [fl_row_ne (by omega), fl_row_ne (by omega), fl_row_self, upd_ne (by omega), upd_ne (by omega)]
          exact ec k hk
        · refine r_alt_add (x := x) ha en ?_ n32 tt (r_tv2 h2 hp) qI nd
          rw [fl_row_self, upd_self, i10]
    · rw [if_neg d, if_neg d]
      have dd := gd.mpr d
      refine c0_count_eq (c := c) 32 _ _ ?_
      rw [ex1]
      have tt : ∀ j : Nat, j < n → (fl_row B 280 (upd (B 280) (444 + 61 * C + (17 + (n - 1))) x)) 280 (444 + 61 * C + (17 + j)) = if j = n - 1 then x else B 280 (444 + 61 * C + (17 + j)) := fun j hj => by
        rw [fl_row_self]
        by_cases e : j = n - 1
        · rw [e, if_pos rfl, upd_self]
        · rw [if_neg e, upd_ne (by omega)]
      have e10 : (fl_row B 280 (upd (B 280) (444 + 61 * C + (17 + (n - 1))) x)) 280 (444 + 61 * C + 10) = B 280 (444 + 61 * C + 10) := by rw [fl_row_self, upd_ne (by omega)]
      refine ⟨?_, fun i hi => ?_, fun k hk => ?_, ?_⟩
      · rw [e10, fl_row_ne (by omega)]
        exact e2
      · rw [e10] at hi
        rw [tt i (by omega), fl_row_self]
        by_cases e : i = n - 1
        · rw [e, if_pos rfl, upd_self]
        · rw [if_neg e, upd_ne e]
          exact et i hi
      · rw [fl_row_ne (by omega), fl_row_self, upd_ne (by omega)]
        exact ec k hk
      · exact r_alt_on (x := x) ha en dd.1 e10 tt (r_tvg h2 hp) qI dd.2
theorem c0_TI.congr {fc' fr' : t2_F} (h : c0_TI fc fr C) (e1 : fc' (19 + 4 * C) = fc (19 + 4 * C)) (e2 : fc' (20 + 4 * C) = fc (20 + 4 * C)) (e3 : fc' (21 + 4 * C) = fc (21 + 4 * C)) (e : ∀ w : Nat, 10 ≤ w → w < 60 → w ≠ 11 → w ≠ 12 → w ≠ 13 → w ≠ 14 → w ≠ 15 → w ≠ 16 → fr' 280 (444 + 61 * C + w) = fr 280 (444 + 61 * C + w)) : c0_TI fc' fr' C := by
  obtain ⟨h1, h2, h3, h4⟩ := h
  have b := h4.1
  refine ⟨?_, fun i hi => ?_, fun k hk => ?_, h4.congr (fun w hw => e w (by omega) (by omega) (by omega) (by omega) (by omega) (by omega) (by omega) (by omega))⟩
  · rw [e1, e 10 (by decide) (by decide) (by decide) (by decide) (by decide) (by decide) (by decide) (by decide)]
    exact h1
  · rw [e 10 (by decide) (by decide) (by decide) (by decide) (by decide) (by decide) (by decide) (by decide)] at hi
    rw [e2, e (17 + i) (by omega) (by omega) (by omega) (by omega) (by omega) (by omega) (by omega) (by omega)]
    exact h2 i hi
  · rw [e3, e (49 + k) (by omega) (by omega) (by omega) (by omega) (by omega) (by omega) (by omega) (by omega)]
    exact h3 k hk
end C0FOL
