/-! ===== block 0: the mutators' words, one at a time ===== -/
section C0MUT
variable {fc fr : t2_F} {v : Int32} {k : Nat}
/-- STATE -/
theorem c0_I.state (h : c0_I fc fr) : c0_I (fl_row fc 1 (upd (fc 1) 7 v)) (fl_row fr 280 (upd (fr 280) 3 v)) := by
  obtain ⟨⟨⟨g5, g6, g7, g8⟩, ⟨g9, g10, g11, g12⟩, g13, g14, g15, g16⟩, rs, gx, cl, ok⟩ := h
  generalize hF : fl_row fc 1 (upd (fc 1) 7 v) = F
  generalize hG : fl_row fr 280 (upd (fr 280) 3 v) = G
  have P : ∀ p : Nat, p ≠ 1 → F p = fc p := fun p hp => by rw [← hF, fl_row_ne hp]
  have Q : ∀ j : Nat, j ≠ 7 → F 1 j = fc 1 j := fun j hj => by rw [← hF, fl_row_self, upd_ne hj]
  have W : ∀ w : Nat, w ≠ 3 → G 280 w = fr 280 w := fun w hw => by rw [← hG, fl_row_self, upd_ne hw]
  refine ⟨⟨⟨?_, ?_, ?_, ?_⟩, ⟨?_, ?_, ?_, ?_⟩, ?_, ?_, ?_, ?_⟩, rs.congr (P _ (by decide)) (fun k hk => W _ (by omega)), gx.congr ok.2.2.2.2.2.1.1.2 (fun p hp => P p (by omega)) (fun w hw => W w (by omega)), fun C hC => ?_, ?_⟩
  · rw [Q 5 (by decide), W 2 (by decide), g5]
  · rw [Q 6 (by decide), W 7 (by decide), g6]
  · rw [← hF, ← hG, fl_row_self, upd_self, fl_row_self, upd_self]
  · rw [Q 8 (by decide), W 4 (by decide), g8]
  · rw [Q 9 (by decide), W 5 (by decide), g9]
  · rw [Q 10 (by decide), W 14 (by decide), g10]
  · rw [Q 11 (by decide), W 8 (by decide), g11]
  · rw [Q 12 (by decide), W 9 (by decide), g12]
  · rw [Q 13 (by decide), W 10 (by decide), g13]
  · rw [Q 14 (by decide), W 11 (by decide), g14]
  · rw [Q 15 (by decide), W 12 (by decide), g15]
  · rw [Q 16 (by decide), W 13 (by decide), g16]
  · rw [W 2 (by decide)] at hC
    exact ⟨(cl C hC).1.congr (P _ (by omega)) (fun k hk => W _ (by omega)), (cl C hC).2.congr (fun j _ _ => by rw [P _ (by omega)]) (fun p hp => P p (by omega)) (fun w hw => W _ (by omega))⟩
  · refine ok.upd (fun w hw => W w (by omega)) (fun k hk => by rw [W _ (by omega)]; exact ok.s hk) (by rw [W 5 (by decide)]; exact ok.2.1.1) (by rw [W 4 (by decide)]; exact ok.2.1.2.1) (by rw [W 7 (by decide)]; exact ok.2.1.2.2.2) (by rw [W 16 (by decide), W 20 (by decide), W 21 (by decide)]; exact ok.2.2.2.2.2.2.1) (fun C hC => ?_)
    exact (ok.2.2.2.2.2.2.2 C hC).congr (fun w hw => W _ (by omega)) (by rw [W 7 (by decide)]; exact Int.le_refl _)
/-- CURRENT, by open -/
theorem c0_I.current (h : c0_I fc fr) (hv : -99999 ≤ v.toInt ∧ v.toInt ≤ 99999) : c0_I (fl_row fc 1 (upd (fc 1) 9 v)) (fl_row fr 280 (upd (fr 280) 5 v)) := by
  obtain ⟨⟨⟨g5, g6, g7, g8⟩, ⟨g9, g10, g11, g12⟩, g13, g14, g15, g16⟩, rs, gx, cl, ok⟩ := h
  generalize hF : fl_row fc 1 (upd (fc 1) 9 v) = F
  generalize hG : fl_row fr 280 (upd (fr 280) 5 v) = G
  have P : ∀ p : Nat, p ≠ 1 → F p = fc p := fun p hp => by rw [← hF, fl_row_ne hp]
  have Q : ∀ j : Nat, j ≠ 9 → F 1 j = fc 1 j := fun j hj => by rw [← hF, fl_row_self, upd_ne hj]
  have W : ∀ w : Nat, w ≠ 5 → G 280 w = fr 280 w := fun w hw => by rw [← hG, fl_row_self, upd_ne hw]
  refine ⟨⟨⟨?_, ?_, ?_, ?_⟩, ⟨?_, ?_, ?_, ?_⟩, ?_, ?_, ?_, ?_⟩, rs.congr (P _ (by decide)) (fun k hk => W _ (by omega)), gx.congr ok.2.2.2.2.2.1.1.2 (fun p hp => P p (by omega)) (fun w hw => W w (by omega)), fun C hC => ?_, ?_⟩
  · rw [Q 5 (by decide), W 2 (by decide), g5]
  · rw [Q 6 (by decide), W 7 (by decide), g6]
  · rw [Q 7 (by decide), W 3 (by decide), g7]
  · rw [Q 8 (by decide), W 4 (by decide), g8]
  · rw [← hF, ← hG, fl_row_self, upd_self, fl_row_self, upd_self]
  · rw [Q 10 (by decide), W 14 (by decide), g10]
  · rw [Q 11 (by decide), W 8 (by decide), g11]
  · rw [Q 12 (by decide), W 9 (by decide), g12]
  · rw [Q 13 (by decide), W 10 (by decide), g13]
  · rw [Q 14 (by decide), W 11 (by decide), g14]
  · rw [Q 15 (by decide), W 12 (by decide), g15]
  · rw [Q 16 (by decide), W 13 (by decide), g16]
  · rw [W 2 (by decide)] at hC
    exact ⟨(cl C hC).1.congr (P _ (by omega)) (fun k hk => W _ (by omega)), (cl C hC).2.congr (fun j _ _ => by rw [P _ (by omega)]) (fun p hp => P p (by omega)) (fun w hw => W _ (by omega))⟩
  · refine ok.upd (fun w hw => W w (by omega)) (fun k hk => by rw [W _ (by omega)]; exact ok.s hk) (by rw [← hG, fl_row_self, upd_self]; exact hv) (by rw [W 4 (by decide)]; exact ok.2.1.2.1) (by rw [W 7 (by decide)]; exact ok.2.1.2.2.2) (by rw [W 16 (by decide), W 20 (by decide), W 21 (by decide)]; exact ok.2.2.2.2.2.2.1) (fun C hC => ?_)
    exact (ok.2.2.2.2.2.2.2 C hC).congr (fun w hw => W _ (by omega)) (by rw [W 7 (by decide)]; exact Int.le_refl _)
/-- what is told, the watch, the marks: all else stays -/
theorem c0_I.gx {F G : t2_F} (h : c0_I fc fr) (P : ∀ p : Nat, (p = 1 ∨ p = 4 ∨ (18 ≤ p ∧ p < 82)) → F p = fc p) (W : ∀ w : Nat, ((2 ≤ w ∧ w ≤ 5) ∨ (7 ≤ w ∧ w ≤ 14) ∨ (34 ≤ w ∧ w < 64) ∨ 444 ≤ w) → G 280 w = fr 280 w) (gx' : c0_GX F G) (ok' : t2_OK (G 280)) : c0_I F G := by
  have cn := h.cnt
  obtain ⟨⟨⟨g5, g6, g7, g8⟩, ⟨g9, g10, g11, g12⟩, g13, g14, g15, g16⟩, rs, gx, cl, ok⟩ := h
  have P1 : F 1 = fc 1 := P _ (Or.inl rfl)
  refine ⟨⟨⟨?_, ?_, ?_, ?_⟩, ⟨?_, ?_, ?_, ?_⟩, ?_, ?_, ?_, ?_⟩, rs.congr (P _ (Or.inr (Or.inl rfl))) (fun k hk => W _ (by omega)), gx', fun C hC => ?_, ok'⟩
  · rw [P1, W 2 (by decide), g5]
  · rw [P1, W 7 (by decide), g6]
  · rw [P1, W 3 (by decide), g7]
  · rw [P1, W 4 (by decide), g8]
  · rw [P1, W 5 (by decide), g9]
  · rw [P1, W 14 (by decide), g10]
  · rw [P1, W 8 (by decide), g11]
  · rw [P1, W 9 (by decide), g12]
  · rw [P1, W 10 (by decide), g13]
  · rw [P1, W 11 (by decide), g14]
  · rw [P1, W 12 (by decide), g15]
  · rw [P1, W 13 (by decide), g16]
  · rw [W 2 (by decide)] at hC
    exact ⟨(cl C hC).1.congr (P _ (by omega)) (fun k hk => W _ (by omega)), (cl C hC).2.congr (fun j _ _ => by rw [P _ (by omega)]) (fun p hp => P p (by omega)) (fun w hw => W _ (by omega))⟩
/-- PRICE -/
theorem c0_I.price (h : c0_I fc fr) (hk : k < 24) : c0_I (fl_row fc 6 (upd (fc 6) k v)) (fl_row fr 280 (upd (fr 280) (315 + k) v)) := by
  have hh := h
  obtain ⟨-, -, ⟨⟨rk, rz, rr, pr, pc, pw⟩, gw, tr, gm⟩, cl, ok⟩ := h
  have P : ∀ p : Nat, p ≠ 6 → (fl_row fc 6 (upd (fc 6) k v)) p = fc p := fun p hp => fl_row_ne hp
  have W : ∀ w : Nat, w ≠ 315 + k → (fl_row fr 280 (upd (fr 280) (315 + k) v)) 280 w = fr 280 w := fun w hw => by rw [fl_row_self, upd_ne hw]
  refine hh.gx (fun p hp => P p (by omega)) (fun w hw => W w (by omega)) ⟨⟨rk.congr (P _ (by decide)) (fun k hk => W _ (by omega)), rz.congr (P _ (by decide)) (P _ (by decide)) (W _ (by omega)) (fun k hk => W _ (by omega)), ?_, fun j hj => ?_, ?_, fun j hj => ?_⟩, gw.congr (P _ (by decide)) (P _ (by decide)) (P _ (by decide)) (P _ (by decide)) (P _ (by decide)) (fun w hw => W w (by omega)), tr.congr (P _ (by decide)) (P _ (by decide)) (fun w hw => W w (by omega)), gm.congr (fun p hp => P p (by omega)) (fun w hw => W w (by omega))⟩ ?_
  · obtain ⟨a, b, d⟩ := rr
    unfold c0_Rr
    rw [P _ (by decide), P _ (by decide), W 18 (by omega)]
    exact ⟨a, b, fun j hj => by rw [W _ (by omega)]; exact d j hj⟩
  · by_cases e : j = k
    · subst e
      rw [fl_row_self, upd_self, fl_row_self, upd_self]
    · rw [fl_row_self, upd_ne e, W _ (by omega)]
      exact pr j hj
  · rw [P _ (by decide), W 19 (by omega)]
    exact pc
  · have n19 := ok.2.2.2.2.2.1.1
    rw [W 19 (by omega)] at hj
    rw [P _ (by decide), W _ (by omega)]
    exact pw j hj
  · refine ok.upd (fun w hw => W w (by omega)) (fun k hk => by rw [W _ (by omega)]; exact ok.s hk) (by rw [W 5 (by omega)]; exact ok.2.1.1) (by rw [W 4 (by omega)]; exact ok.2.1.2.1) (by rw [W 7 (by omega)]; exact ok.2.1.2.2.2) (by rw [W 16 (by omega), W 20 (by omega), W 21 (by omega)]; exact ok.2.2.2.2.2.2.1) (fun C hC => ?_)
    exact (ok.2.2.2.2.2.2.2 C hC).congr (fun w hw => W _ (by omega)) (by rw [W 7 (by omega)]; exact Int.le_refl _)
/-- FAULTS, by reset -/
theorem c0_I.latched (h : c0_I fc fr) : c0_I (fl_row fc 10 (upd (fc 10) 3 v)) (fl_row fr 280 (upd (fr 280) 6 v)) := by
  have hh := h
  obtain ⟨-, -, ⟨gt, ⟨⟨w3, w4, w5, w6⟩, wh, wc, bk⟩, tr, gm⟩, cl, ok⟩ := h
  have P : ∀ p : Nat, p ≠ 10 → (fl_row fc 10 (upd (fc 10) 3 v)) p = fc p := fun p hp => fl_row_ne hp
  have W : ∀ w : Nat, w ≠ 6 → (fl_row fr 280 (upd (fr 280) 6 v)) 280 w = fr 280 w := fun w hw => by rw [fl_row_self, upd_ne hw]
  refine hh.gx (fun p hp => P p (by omega)) (fun w hw => W w (by omega)) ⟨gt.congr ok.2.2.2.2.2.1.1.2 (P _ (by decide)) (P _ (by decide)) (P _ (by decide)) (P _ (by decide)) (P _ (by decide)) (P _ (by decide)) (fun w hw => W w (by omega)), ⟨⟨?_, ?_, ?_, ?_⟩, fun j hj => by rw [P _ (by decide), W _ (by omega)]; exact wh j hj, fun j hj => by rw [P _ (by decide), W _ (by omega)]; exact wc j hj, bk.congr (P _ (by decide)) (P _ (by decide)) (fun w hw => W w (by omega))⟩, tr.congr (P _ (by decide)) (P _ (by decide)) (fun w hw => W w (by omega)), gm.congr (fun p hp => P p (by omega)) (fun w hw => W w (by omega))⟩ ?_
  · rw [fl_row_self, upd_self, fl_row_self, upd_self]
  · rw [fl_row_self, upd_ne (by decide), W 22 (by decide)]
    exact w4
  · rw [fl_row_self, upd_ne (by decide), W 15 (by decide)]
    exact w5
  · rw [fl_row_self, upd_ne (by decide), W 16 (by decide)]
    exact w6
  · refine ok.upd (fun w hw => W w (by omega)) (fun k hk => by rw [W _ (by omega)]; exact ok.s hk) (by rw [W 5 (by omega)]; exact ok.2.1.1) (by rw [W 4 (by omega)]; exact ok.2.1.2.1) (by rw [W 7 (by omega)]; exact ok.2.1.2.2.2) (by rw [W 16 (by omega), W 20 (by omega), W 21 (by omega)]; exact ok.2.2.2.2.2.2.1) (fun C hC => ?_)
    exact (ok.2.2.2.2.2.2.2 C hC).congr (fun w hw => W _ (by omega)) (by rw [W 7 (by omega)]; exact Int.le_refl _)
/-- silence, by hear -/
theorem c0_I.silence (h : c0_I fc fr) : c0_I (fl_row fc 10 (upd (fc 10) 4 v)) (fl_row fr 280 (upd (fr 280) 22 v)) := by
  have hh := h
  obtain ⟨-, -, ⟨gt, ⟨⟨w3, w4, w5, w6⟩, wh, wc, bk⟩, tr, gm⟩, cl, ok⟩ := h
  have P : ∀ p : Nat, p ≠ 10 → (fl_row fc 10 (upd (fc 10) 4 v)) p = fc p := fun p hp => fl_row_ne hp
  have W : ∀ w : Nat, w ≠ 22 → (fl_row fr 280 (upd (fr 280) 22 v)) 280 w = fr 280 w := fun w hw => by rw [fl_row_self, upd_ne hw]
  refine hh.gx (fun p hp => P p (by omega)) (fun w hw => W w (by omega)) ⟨gt.congr ok.2.2.2.2.2.1.1.2 (P _ (by decide)) (P _ (by decide)) (P _ (by decide)) (P _ (by decide)) (P _ (by decide)) (P _ (by decide)) (fun w hw => W w (by omega)), ⟨⟨?_, ?_, ?_, ?_⟩, fun j hj => by rw [P _ (by decide), W _ (by omega)]; exact wh j hj, fun j hj => by rw [P _ (by decide), W _ (by omega)]; exact wc j hj, bk.congr (P _ (by decide)) (P _ (by decide)) (fun w hw => W w (by omega))⟩, tr.congr (P _ (by decide)) (P _ (by decide)) (fun w hw => W w (by omega)), gm.congr (fun p hp => P p (by omega)) (fun w hw => W w (by omega))⟩ ?_
  · rw [fl_row_self, upd_ne (by decide), W 6 (by decide)]
    exact w3
  · rw [fl_row_self, upd_self, fl_row_self, upd_self]
  · rw [fl_row_self, upd_ne (by decide), W 15 (by decide)]
    exact w5
  · rw [fl_row_self, upd_ne (by decide), W 16 (by decide)]
    exact w6
  · refine ok.upd (fun w hw => W w (by omega)) (fun k hk => by rw [W _ (by omega)]; exact ok.s hk) (by rw [W 5 (by omega)]; exact ok.2.1.1) (by rw [W 4 (by omega)]; exact ok.2.1.2.1) (by rw [W 7 (by omega)]; exact ok.2.1.2.2.2) (by rw [W 16 (by omega), W 20 (by omega), W 21 (by omega)]; exact ok.2.2.2.2.2.2.1) (fun C hC => ?_)
    exact (ok.2.2.2.2.2.2.2 C hC).congr (fun w hw => W _ (by omega)) (by rw [W 7 (by omega)]; exact Int.le_refl _)
end C0MUT
