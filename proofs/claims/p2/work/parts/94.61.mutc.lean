/-! ===== a cell's words change: pure ===== -/
section C0MUTC
variable {fc fr F G : t2_F} {v a b c : Int32} {C A : Nat}
/-- one cell is another one, all else stays -/
theorem c0_I.cellC (h : c0_I fc fr) (hC : (C : Int) < (fr 280 2).toInt) (P : ∀ p : Nat, 1 ≤ p → p < 91 → p ≠ 18 + 4 * C → F p = fc p) (W : ∀ w : Nat, 2 ≤ w → w < 1420 → (w < 444 + 61 * C ∨ 444 + 61 * C + 61 ≤ w) → G 280 w = fr 280 w) (rc : c0_Rc F G C ∧ c0_GC F G C) (oc : t2_OC (G 280) C) : c0_I F G := by
  obtain ⟨⟨⟨g5, g6, g7, g8⟩, ⟨g9, g10, g11, g12⟩, g13, g14, g15, g16⟩, rs, ⟨gt, gw, tr, gm⟩, cl, ok⟩ := h
  have n16 := ok.2.1.2.2.1
  have P1 : F 1 = fc 1 := P 1 (by decide) (by decide) (by omega)
  have W0 : ∀ w : Nat, 2 ≤ w → w < 444 → G 280 w = fr 280 w := fun w h1 h2 => W w h1 (by omega) (by omega)
  refine ⟨⟨⟨?_, ?_, ?_, ?_⟩, ⟨?_, ?_, ?_, ?_⟩, ?_, ?_, ?_, ?_⟩, rs.congr (P _ (by decide) (by decide) (by omega)) (fun k hk => W0 _ (by omega) (by omega)), ⟨gt.congr ok.2.2.2.2.2.1.1.2 (P _ (by decide) (by decide) (by omega)) (P _ (by decide) (by decide) (by omega)) (P _ (by decide) (by decide) (by omega)) (P _ (by decide) (by decide) (by omega)) (P _ (by decide) (by decide) (by omega)) (P _ (by decide) (by decide) (by omega)) (fun w hw => W0 w (by omega) (by omega)), gw.congr (P _ (by decide) (by decide) (by omega)) (P _ (by decide) (by decide) (by omega)) (P _ (by decide) (by decide) (by omega)) (P _ (by decide) (by decide) (by omega)) (P _ (by decide) (by decide) (by omega)) (fun w hw => W0 w (by omega) (by omega)), tr.congr (P _ (by decide) (by decide) (by omega)) (P _ (by decide) (by decide) (by omega)) (fun w hw => W0 w (by omega) (by omega)), gm.congr (fun p hp => P p (by omega) (by omega) (by omega)) (fun w hw => W0 w (by omega) (by omega))⟩, fun D hD => ?_, ?_⟩
  · rw [P1, W0 2 (by decide) (by decide), g5]
  · rw [P1, W0 7 (by decide) (by decide), g6]
  · rw [P1, W0 3 (by decide) (by decide), g7]
  · rw [P1, W0 4 (by decide) (by decide), g8]
  · rw [P1, W0 5 (by decide) (by decide), g9]
  · rw [P1, W0 14 (by decide) (by decide), g10]
  · rw [P1, W0 8 (by decide) (by decide), g11]
  · rw [P1, W0 9 (by decide) (by decide), g12]
  · rw [P1, W0 10 (by decide) (by decide), g13]
  · rw [P1, W0 11 (by decide) (by decide), g14]
  · rw [P1, W0 12 (by decide) (by decide), g15]
  · rw [P1, W0 13 (by decide) (by decide), g16]
  · by_cases e : D = C
    · subst e
      exact rc
    · rw [W0 2 (by decide) (by decide)] at hD
      exact ⟨(cl D hD).1.congr (P _ (by omega) (by omega) (by omega)) (fun k hk => W _ (by omega) (by omega) (by omega)), (cl D hD).2.congr (fun j _ _ => by rw [P _ (by omega) (by omega) (by omega)]) (fun p hp => P p (by omega) (by omega) (by omega)) (fun w hw => W _ (by omega) (by omega) (by omega))⟩
  · refine ok.upd (fun w hw => W0 w (by omega) (by omega)) (fun k hk => by rw [W0 _ (by omega) (by omega)]; exact ok.s hk) (by rw [W0 5 (by decide) (by decide)]; exact ok.2.1.1) (by rw [W0 4 (by decide) (by decide)]; exact ok.2.1.2.1) (by rw [W0 7 (by decide) (by decide)]; exact ok.2.1.2.2.2) (by rw [W0 16 (by decide) (by decide), W0 20 (by decide) (by decide), W0 21 (by decide) (by decide)]; exact ok.2.2.2.2.2.2.1) (fun D hD => ?_)
    by_cases e : D = C
    · subst e
      exact oc
    · exact (ok.2.2.2.2.2.2.2 D hD).congr (fun w hw => W _ (by omega) (by omega) (by omega)) (by rw [W0 7 (by decide) (by decide)]; exact Int.le_refl _)
theorem c0_I.warm (h : c0_I fc fr) (hC : (C : Int) < (fr 280 2).toInt) : c0_I (fl_row fc (18 + 4 * C) (upd (fc (18 + 4 * C)) 6 v)) (fl_row fr 280 (upd (fr 280) (444 + 61 * C + 3) v)) := by
  obtain ⟨⟨ra, rb, ⟨r5, r6, r7⟩, r8, r9, r18⟩, gc⟩ := h.2.2.2.1 C hC
  have oc := h.2.2.2.2.2.2.2.2.2.2.2 C hC
  generalize hF : fl_row fc (18 + 4 * C) (upd (fc (18 + 4 * C)) 6 v) = F
  generalize hG : fl_row fr 280 (upd (fr 280) (444 + 61 * C + 3) v) = G
  have P : ∀ p : Nat, p ≠ 18 + 4 * C → F p = fc p := fun p hp => by rw [← hF, fl_row_ne hp]
  have Q : ∀ j : Nat, j ≠ 6 → F (18 + 4 * C) j = fc (18 + 4 * C) j := fun j hj => by rw [← hF, fl_row_self, upd_ne hj]
  have W : ∀ w : Nat, w ≠ 444 + 61 * C + 3 → G 280 w = fr 280 w := fun w hw => by rw [← hG, fl_row_self, upd_ne hw]
  have ep : r_partOf_v G 0 C = r_partOf_v fr 0 C := by
    unfold r_partOf_v
    rw [W _ (by omega), W _ (by omega)]
  refine h.cellC hC (fun p _ _ hp => P p hp) (fun w _ _ hw => W w (by omega)) ⟨⟨⟨?_, ?_, ?_⟩, ⟨?_, ?_⟩, ⟨?_, ?_, ?_⟩, ?_, ?_, ?_⟩, gc.congr (fun j _ _ => Q j (by omega)) (fun p hp => P p (by omega)) (fun w hw => W _ (by omega))⟩ (oc.congr (fun w hw => W _ (by omega)) (by rw [W 7 (by omega)]; exact Int.le_refl _))
  · rw [Q 0 (by decide), W _ (by omega)]; exact ra.1
  · rw [Q 1 (by decide), W _ (by omega)]; exact ra.2.1
  · rw [Q 2 (by decide), W _ (by omega)]; exact ra.2.2
  · rw [Q 3 (by decide), ep]; exact rb.1
  · rw [Q 4 (by decide), ep]; exact rb.2
  · rw [Q 5 (by decide), W _ (by omega)]; exact r5
  · rw [← hF, ← hG, fl_row_self, fl_row_self, upd_self, upd_self]
  · rw [Q 7 (by decide), W _ (by omega)]; exact r7
  · rw [Q 8 (by decide), W _ (by omega)]; exact r8
  · rw [Q 9 (by decide), W _ (by omega)]; exact r9
  · rw [Q 18 (by decide), W _ (by omega)]; exact r18
theorem c0_I.charge (h : c0_I fc fr) (hC : (C : Int) < (fr 280 2).toInt) (hv : 0 ≤ v.toInt ∧ v.toInt ≤ 3600 * (fr 280 (444 + 61 * C + 0)).toInt) : c0_I (c0_putCharge_m fc C v) (fl_row fr 280 (upd (fr 280) (444 + 61 * C + 1) v)) := by
  obtain ⟨rc, gc⟩ := h.2.2.2.1 C hC
  have oc := h.2.2.2.2.2.2.2.2.2.2.2 C hC
  have cap : t2_cap (fr 280 (444 + 61 * C + 0)) := oc.1.1
  have c36 : (3600 : Int32).toInt = 3600 := by decide +kernel
  have e0 : fc (18 + 4 * C) 0 = fr 280 (444 + 61 * C + 0) := rc.1.1
  have hcap : 100 ≤ (fr 280 (444 + 61 * C + 0)).toInt ∧ (fr 280 (444 + 61 * C + 0)).toInt ≤ 9999 := cap
  have em : (fc (18 + 4 * C) 0 * (3600 : Int32)).toInt = (fr 280 (444 + 61 * C + 0)).toInt * 3600 := by rw [e0, at_mul32 (by rw [c36]; omega) (by rw [c36]; omega), c36]
  have eh : t2_heldTo_v v (0 : Int32) (fc (18 + 4 * C) 0 * (3600 : Int32)) = v := t2_held_id hv.1 (by omega)
  generalize hF : c0_putCharge_m fc C v = F
  generalize hG : fl_row fr 280 (upd (fr 280) (444 + 61 * C + 1) v) = G
  have P : ∀ p : Nat, p ≠ 18 + 4 * C → F p = fc p := fun p hp => by rw [← hF]; unfold c0_putCharge_m; rw [fl_row_ne hp]
  have Q : ∀ j : Nat, j ≠ 2 → j ≠ 3 → j ≠ 4 → F (18 + 4 * C) j = fc (18 + 4 * C) j := fun j h2 h3 h4 => by rw [← hF]; unfold c0_putCharge_m; rw [fl_row_self, upd_ne h4, upd_ne h3, upd_ne h2]
  have q2 : F (18 + 4 * C) 2 = v := by rw [← hF]; unfold c0_putCharge_m; rw [fl_row_self, upd_ne (by decide), upd_ne (by decide), upd_self, eh]
  have q3 : F (18 + 4 * C) 3 = t2_partOf_v v (fc (18 + 4 * C) 0 * (3600 : Int32)) := by rw [← hF]; unfold c0_putCharge_m; rw [fl_row_self, upd_ne (by decide), upd_self, eh]
  have q4 : F (18 + 4 * C) 4 = t2_rb (F (18 + 4 * C) 3) := by rw [q3, ← hF]; unfold c0_putCharge_m; rw [fl_row_self, upd_self, eh]
  have W : ∀ w : Nat, w ≠ 444 + 61 * C + 1 → G 280 w = fr 280 w := fun w hw => by rw [← hG, fl_row_self, upd_ne hw]
  have w1 : G 280 (444 + 61 * C + 1) = v := by rw [← hG, fl_row_self, upd_self]
  have new := c0_Rc_new (F := F) (G := G) rc (by rw [e0]; exact cap) (by rw [q2, w1]) (by rw [q3, q2]) q4 (by rw [Q 8 (by decide) (by decide) (by decide), W _ (by omega)]; exact rc.2.2.2.1) (fun j h2 h3 h4 _ => Q j h2 h3 h4) (fun w _ h1 _ => W _ (by omega))
  refine h.cellC hC (fun p _ _ hp => P p hp) (fun w _ _ hw => W w (by omega)) ⟨new.1, gc.congr (fun j _ _ => Q j (by omega) (by omega) (by omega)) (fun p hp => P p (by omega)) (fun w hw => W _ (by omega))⟩ ?_
  obtain ⟨⟨o1, o2⟩, o3, o4, o5, o6, o7, o8, o9⟩ := oc
  refine ⟨⟨by rw [W _ (by omega)]; exact o1, by rw [w1, W _ (by omega)]; exact hv⟩, by rw [W _ (by omega)]; exact o3, by rw [W _ (by omega), W _ (by omega)]; exact o4, by rw [W _ (by omega), W 7 (by omega)]; exact o5, by rw [W _ (by omega)]; exact o6, by rw [W _ (by omega)]; exact o7, by rw [W _ (by omega)]; exact o8, o9.congr (fun w hw => W _ (by omega))⟩
/-- a MARK is laid -/
theorem c0_I.mark (h : c0_I fc fr) (hA : A < 3) (P : ∀ p : Nat, 1 ≤ p → p < 91 → (p < 82 + 3 * A ∨ 85 + 3 * A ≤ p) → F p = fc p) (W : ∀ w : Nat, 2 ≤ w → (w < 339 + 35 * A ∨ 339 + 35 * A + 35 ≤ w) → G 280 w = fr 280 w)
    (f2 : F (82 + 3 * A) 2 = fc 1 5) (f3 : F (82 + 3 * A) 3 = fc 1 6) (f4 : ∀ j : Nat, (j : Int) < (fc 1 5).toInt → F (83 + 3 * A) j = fc (18 + 4 * j) 3) (f5 : ∀ j : Nat, (j : Int) < (fc 1 5).toInt → F (84 + 3 * A) j = fc (18 + 4 * j) 9)
    (g0 : G 280 (339 + 35 * A) = 1) (g1 : G 280 (339 + 35 * A + 1) = fr 280 7) (g2 : G 280 (339 + 35 * A + 2) = fr 280 2) (g3 : ∀ j : Nat, (j : Int) < (fr 280 2).toInt → G 280 (339 + 35 * A + 3 + j) = r_partOf_v fr (Int32.ofNat j) j) (g4 : ∀ j : Nat, (j : Int) < (fr 280 2).toInt → G 280 (339 + 35 * A + 19 + j) = fr 280 (444 + 61 * j + 5)) : c0_I F G := by
  have hh := h
  obtain ⟨⟨⟨s5, s6, -⟩, -⟩, -, ⟨gt, gw, tr, gm⟩, cl, ok⟩ := h
  have n16 := ok.2.1.2.2.1
  refine hh.gx (fun p hp => P p (by omega) (by omega) (by omega)) (fun w hw => W w (by omega) (by omega)) ⟨gt.congr ok.2.2.2.2.2.1.1.2 (P _ (by decide) (by decide) (by omega)) (P _ (by decide) (by decide) (by omega)) (P _ (by decide) (by decide) (by omega)) (P _ (by decide) (by decide) (by omega)) (P _ (by decide) (by decide) (by omega)) (P _ (by decide) (by decide) (by omega)) (fun w hw => W w (by omega) (by omega)), gw.congr (P _ (by decide) (by decide) (by omega)) (P _ (by decide) (by decide) (by omega)) (P _ (by decide) (by decide) (by omega)) (P _ (by decide) (by decide) (by omega)) (P _ (by decide) (by decide) (by omega)) (fun w hw => W w (by omega) (by omega)), tr.congr (P _ (by decide) (by decide) (by omega)) (P _ (by decide) (by decide) (by omega)) (fun w hw => W w (by omega) (by omega)), fun m hm => ?_⟩ ?_
  · by_cases e : m = A
    · subst e
      refine ⟨by rw [f2, g2, s5], by rw [g2]; exact n16, fun _ => ⟨g0, by rw [f3, g1, s6]⟩, fun c hc => ?_⟩
      rw [g2] at hc
      have rc := (cl c hc).1
      rw [f4 c (by rw [s5]; exact hc), f5 c (by rw [s5]; exact hc), g3 c hc, g4 c hc]
      exact ⟨rc.2.1.1, rc.2.2.2.2.1⟩
    · obtain ⟨h1, h2, h3, h4⟩ := gm m hm
      rw [P (82 + 3 * m) (by omega) (by omega) (by omega), P (83 + 3 * m) (by omega) (by omega) (by omega), P (84 + 3 * m) (by omega) (by omega) (by omega), W (339 + 35 * m + 2) (by omega) (by omega), W (339 + 35 * m) (by omega) (by omega), W (339 + 35 * m + 1) (by omega) (by omega)]
      exact ⟨h1, h2, h3, fun c hc => by rw [W _ (by omega) (by omega), W _ (by omega) (by omega)]; exact h4 c hc⟩
  · refine ok.upd (fun w hw => W w (by omega) (by omega)) (fun k hk => by rw [W _ (by omega) (by omega)]; exact ok.s hk) (by rw [W 5 (by omega) (by omega)]; exact ok.2.1.1) (by rw [W 4 (by omega) (by omega)]; exact ok.2.1.2.1) (by rw [W 7 (by omega) (by omega)]; exact ok.2.1.2.2.2) (by rw [W 16 (by omega) (by omega), W 20 (by omega) (by omega), W 21 (by omega) (by omega)]; exact ok.2.2.2.2.2.2.1) (fun C hC => ?_)
    exact (ok.2.2.2.2.2.2.2 C hC).congr (fun w hw => W _ (by omega) (by omega)) (by rw [W 7 (by omega) (by omega)]; exact Int.le_refl _)
/-- a new cell's words -/
def t2_nc (a c amb ch pt : Int32) (w : Nat) : Int32 := if w = 0 then a else if w = 1 then ch else if w = 2 then c else if w = 3 then amb else if w = 4 then ch else if w = 6 then a else if w = 7 then (-2000000000 : Int32) else if w = 8 then (2000000000 : Int32) else if w = 10 then (1 : Int32) else if w = 11 then (-1000000 : Int32) else if w = 12 then (-1 : Int32) else if w = 16 then (-1 : Int32) else if w = 17 then pt else 0
/-- a CELL more -/
theorem c0_I.cell1 {ch pt : Int32} (h : c0_I fc fr) (hn : (fr 280 2).toInt = (C : Int)) (h16 : C < 16) (ha : t2_cap a) (hc : 0 ≤ c.toInt ∧ c.toInt ≤ 99) (hch : 0 ≤ ch.toInt ∧ ch.toInt ≤ 3600 * a.toInt) (hpt : pt = t2_partOf_v ch (a * (3600 : Int32)))
    (P : ∀ p : Nat, 1 ≤ p → p < 91 → p ≠ 1 → (p < 18 + 4 * C ∨ 22 + 4 * C ≤ p) → F p = fc p) (P1 : ∀ j : Nat, j ≠ 5 → F 1 j = fc 1 j) (P15 : F 1 5 = fc 1 5 + (1 : Int32))
    (q1 : F (18 + 4 * C) 0 = a ∧ F (18 + 4 * C) 1 = a ∧ F (18 + 4 * C) 5 = c ∧ F (18 + 4 * C) 6 = fc 4 6) (q2 : F (18 + 4 * C) 2 = ch ∧ F (18 + 4 * C) 3 = pt ∧ F (18 + 4 * C) 4 = t2_rb pt ∧ F (18 + 4 * C) 8 = ch) (q3 : F (18 + 4 * C) 7 = 0 ∧ F (18 + 4 * C) 9 = 0 ∧ F (18 + 4 * C) 10 = 0) (q4 : F (18 + 4 * C) 14 = (-1000000 : Int32) ∧ F (18 + 4 * C) 15 = (-1 : Int32) ∧ F (18 + 4 * C) 16 = 0 ∧ F (18 + 4 * C) 17 = (-1 : Int32) ∧ F (18 + 4 * C) 18 = 0)
    (q5 : F (19 + 4 * C) 2 = (1 : Int32) ∧ F (20 + 4 * C) 0 = pt ∧ ∀ j : Nat, j < 11 → F (21 + 4 * C) j = 0)
    (W : ∀ w : Nat, 3 ≤ w → (w < 444 + 61 * C ∨ 444 + 61 * C + 61 ≤ w) → G 280 w = fr 280 w) (W2 : G 280 2 = fr 280 2 + (1 : Int32)) (W3 : ∀ w : Nat, w < 61 → G 280 (444 + 61 * C + w) = t2_nc a c (fr 280 40) ch pt w) : c0_I F G := by
  obtain ⟨⟨⟨g5, g6, g7, g8⟩, ⟨g9, g10, g11, g12⟩, g13, g14, g15, g16⟩, rs, ⟨gt, gw, tr, gm⟩, cl, ok⟩ := h
  have c1 : (1 : Int32).toInt = 1 := by decide +kernel
  have c0 : (0 : Int32).toInt = 0 := rfl
  have cm1 : (-1 : Int32).toInt = -1 := by decide +kernel
  have e2 : (G 280 2).toInt = C + 1 := by rw [W2, at_add32 (by omega) (by omega)]; omega
  have hcap : 100 ≤ a.toInt ∧ a.toInt ≤ 9999 := ha
  have c36 : (3600 : Int32).toInt = 3600 := by decide +kernel
  have em : (a * (3600 : Int32)).toInt = a.toInt * 3600 := by rw [at_mul32 (by rw [c36]; omega) (by rw [c36]; omega), c36]
  have hpt2 : 0 ≤ pt.toInt ∧ pt.toInt ≤ 1000 := by
    have := t2_partOf_b (c := ch) (x := a * (3600 : Int32)) hch.1 (by omega)
    rw [hpt]
    exact this.2
  have w0 : G 280 (444 + 61 * C + 0) = a := (W3 0 (by decide)).trans rfl
  have w1 : G 280 (444 + 61 * C + 1) = ch := (W3 1 (by decide)).trans rfl
  have w2 : G 280 (444 + 61 * C + 2) = c := (W3 2 (by decide)).trans rfl
  have w3 : G 280 (444 + 61 * C + 3) = fr 280 40 := (W3 3 (by decide)).trans rfl
  have w4 : G 280 (444 + 61 * C + 4) = ch := (W3 4 (by decide)).trans rfl
  have w5 : G 280 (444 + 61 * C + 5) = 0 := (W3 5 (by decide)).trans rfl
  have w6 : G 280 (444 + 61 * C + 6) = a := (W3 6 (by decide)).trans rfl
  have w7 : G 280 (444 + 61 * C + 7) = (-2000000000 : Int32) := (W3 7 (by decide)).trans rfl
  have w8 : G 280 (444 + 61 * C + 8) = (2000000000 : Int32) := (W3 8 (by decide)).trans rfl
  have w9 : G 280 (444 + 61 * C + 9) = 0 := (W3 9 (by decide)).trans rfl
  have w10 : G 280 (444 + 61 * C + 10) = (1 : Int32) := (W3 10 (by decide)).trans rfl
  have w11 : G 280 (444 + 61 * C + 11) = (-1000000 : Int32) := (W3 11 (by decide)).trans rfl
  have w12 : G 280 (444 + 61 * C + 12) = (-1 : Int32) := (W3 12 (by decide)).trans rfl
  have w13 : G 280 (444 + 61 * C + 13) = 0 := (W3 13 (by decide)).trans rfl
  have w15 : G 280 (444 + 61 * C + 15) = 0 := (W3 15 (by decide)).trans rfl
  have w16 : G 280 (444 + 61 * C + 16) = (-1 : Int32) := (W3 16 (by decide)).trans rfl
  have w17 : G 280 (444 + 61 * C + 17) = pt := (W3 17 (by decide)).trans rfl
  have wz : ∀ w : Nat, 18 ≤ w → w < 61 → G 280 (444 + 61 * C + w) = 0 := fun w h1 h2 => by
    rw [W3 w h2]
    unfold t2_nc
    simp (disch := omega) only [if_neg]
  have epr : r_partOf_v G 0 C = pt := by
    unfold r_partOf_v
    rw [w0, w1, t2_partAt_eq ha, hpt]
  have al : r_alt G C := by
    refine ⟨by rw [w10, c1]; omega, fun k hk => ?_, fun i hi => ?_, fun i hi => ?_⟩
    · by_cases e : k = 0
      · subst e
        rw [show 444 + 61 * C + (17 + 0) = 444 + 61 * C + 17 by omega, w17]
        exact hpt2
      · rw [wz _ (by omega) (by omega), c0]
        omega
    · rw [w10, c1] at hi
      omega
    · rw [w10, c1] at hi
      omega
  refine ⟨⟨⟨?_, ?_, ?_, ?_⟩, ⟨?_, ?_, ?_, ?_⟩, ?_, ?_, ?_, ?_⟩, rs.congr (P _ (by decide) (by decide) (by decide) (by omega)) (fun k hk => W _ (by omega) (by omega)), ⟨gt.congr ok.2.2.2.2.2.1.1.2 (P _ (by decide) (by decide) (by decide) (by omega)) (P _ (by decide) (by decide) (by decide) (by omega)) (P _ (by decide) (by decide) (by decide) (by omega)) (P _ (by decide) (by decide) (by decide) (by omega)) (P _ (by decide) (by decide) (by decide) (by omega)) (P _ (by decide) (by decide) (by decide) (by omega)) (fun w hw => W w (by omega) (by omega)), gw.congr (P _ (by decide) (by decide) (by decide) (by omega)) (P _ (by decide) (by decide) (by decide) (by omega)) (P _ (by decide) (by decide) (by decide) (by omega)) (P _ (by decide) (by decide) (by decide) (by omega)) (P _ (by decide) (by decide) (by decide) (by omega)) (fun w hw => W w (by omega) (by omega)), tr.congr (P _ (by decide) (by decide) (by decide) (by omega)) (P _ (by decide) (by decide) (by decide) (by omega)) (fun w hw => W w (by omega) (by omega)), gm.congr (fun p hp => P p (by omega) (by omega) (by omega) (by omega)) (fun w hw => W w (by omega) (by omega))⟩, fun D hD => ?_, ?_⟩
  · rw [P15, W2, g5]
  · rw [P1 6 (by decide), W 7 (by decide) (by omega), g6]
  · rw [P1 7 (by decide), W 3 (by decide) (by omega), g7]
  · rw [P1 8 (by decide), W 4 (by decide) (by omega), g8]
  · rw [P1 9 (by decide), W 5 (by decide) (by omega), g9]
  · rw [P1 10 (by decide), W 14 (by decide) (by omega), g10]
  · rw [P1 11 (by decide), W 8 (by decide) (by omega), g11]
  · rw [P1 12 (by decide), W 9 (by decide) (by omega), g12]
  · rw [P1 13 (by decide), W 10 (by decide) (by omega), g13]
  · rw [P1 14 (by decide), W 11 (by decide) (by omega), g14]
  · rw [P1 15 (by decide), W 12 (by decide) (by omega), g15]
  · rw [P1 16 (by decide), W 13 (by decide) (by omega), g16]
  · rw [e2] at hD
    by_cases e : D = C
    · subst e
      refine ⟨⟨⟨by rw [w0]; exact q1.1, by rw [w6]; exact q1.2.1, by rw [w1]; exact q2.1⟩, ⟨by rw [epr]; exact q2.2.1, by rw [epr]; exact q2.2.2.1⟩, ⟨by rw [w2]; exact q1.2.2.1, by rw [w3, q1.2.2.2]; exact rs 6 (by decide), by rw [w9]; exact q3.1⟩, by rw [w4]; exact q2.2.2.2, by rw [w5]; exact q3.2.1, by rw [wz 60 (by decide) (by decide)]; exact q4.2.2.2.2⟩, ⟨by rw [w11]; exact q4.1, by rw [w12]; exact q4.2.1, by rw [w13]; exact q4.2.2.1, by rw [w16]; exact q4.2.2.2.1⟩, ⟨by rw [w15]; exact q3.2.2, fun q => absurd (w15.symm.trans q) (by decide)⟩, Or.inl ⟨q3.2.2, w7, w8⟩, by rw [w10]; exact q5.1, fun i hi => ?_, fun k hk => ?_, al⟩
      · rw [w10, c1] at hi
        have : i = 0 := by omega
        subst this
        rw [show 444 + 61 * D + (17 + 0) = 444 + 61 * D + 17 by omega, w17]
        exact q5.2.1
      · rw [wz _ (by omega) (by omega)]
        exact q5.2.2 k hk
    · have hD' : (D : Int) < (fr 280 2).toInt := by omega
      exact ⟨(cl D hD').1.congr (P _ (by omega) (by omega) (by omega) (by omega)) (fun k hk => W _ (by omega) (by omega)), (cl D hD').2.congr (fun j _ _ => by rw [P _ (by omega) (by omega) (by omega) (by omega)]) (fun p hp => P p (by omega) (by omega) (by omega) (by omega)) (fun w hw => W _ (by omega) (by omega))⟩
  · obtain ⟨o1, o2, o3, o4, o5, o6, o7, o8⟩ := ok
    refine ⟨fun k hk => by rw [W _ (by omega) (by omega)]; exact o1 k hk, ⟨by rw [W 5 (by decide) (by omega)]; exact o2.1, by rw [W 4 (by decide) (by omega)]; exact o2.2.1, by rw [e2]; omega, by rw [W 7 (by decide) (by omega)]; exact o2.2.2.2⟩, fun k hk => by rw [W _ (by omega) (by omega)]; exact o3 k hk, ?_, ?_, ?_, ?_, fun D hD => ?_⟩
    · rw [W 17 (by decide) (by omega)]
      exact ⟨o4.1, fun k hk => by rw [W _ (by omega) (by omega)]; exact o4.2 k hk⟩
    · rw [W 18 (by decide) (by omega)]
      exact ⟨o5.1, fun j hj => by rw [W _ (by omega) (by omega)]; exact o5.2.1 j hj, fun j hj => by rw [W _ (by omega) (by omega), W _ (by omega) (by omega)]; exact o5.2.2 j hj⟩
    · rw [W 19 (by decide) (by omega)]
      exact ⟨o6.1, fun j hj => by rw [W _ (by omega) (by omega), W _ (by omega) (by omega)]; exact o6.2 j hj⟩
    · rw [W 16 (by decide) (by omega), W 20 (by decide) (by omega), W 21 (by decide) (by omega)]
      exact o7
    · rw [e2] at hD
      by_cases e : D = C
      · subst e
        have t0 := o2.2.2.2.1
        refine ⟨⟨by rw [w0]; exact ha, by rw [w1, w0]; exact hch⟩, by rw [w2]; exact hc, by rw [w4, w0]; exact hch, by rw [w5, W 7 (by decide) (by omega), c0]; omega, by rw [w9, c0]; omega, Or.inl w15, by rw [w16, cm1]; omega, ?_⟩
        exact al
      · exact (o8 D (by omega)).congr (fun w hw => W _ (by omega) (by omega)) (by rw [W 7 (by decide) (by omega)]; exact Int.le_refl _)
end C0MUTC
