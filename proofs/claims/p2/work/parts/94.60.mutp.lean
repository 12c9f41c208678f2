/-! ===== what is told changes: pure ===== -/
section C0MUTP
variable {fc fr : t2_F} {v a b c d e : Int32} {k n C : Nat}
/-- all but what is told stays -/
theorem c0_I.gt {F G : t2_F} (h : c0_I fc fr) (P : ∀ p : Nat, 1 ≤ p → p < 91 → p ≠ 3 → (p < 5 ∨ 9 < p) → F p = fc p) (W : ∀ w : Nat, ((2 ≤ w ∧ w < 17) ∨ (20 ≤ w ∧ w < 64) ∨ (167 ≤ w ∧ w < 315) ∨ 339 ≤ w) → G 280 w = fr 280 w) (gt' : c0_GT F G) (o3 : ∀ k : Nat, k < 3 → t2_how (G 280 (64 + k))) (o4 : (0 ≤ (G 280 17).toInt ∧ (G 280 17).toInt ≤ 6) ∧ ∀ k : Nat, k < 6 → 0 ≤ (G 280 (67 + 2 * k + 1)).toInt)
    (o5 : (0 ≤ (G 280 18).toInt ∧ (G 280 18).toInt ≤ 8) ∧ (∀ k : Nat, k < 8 → 0 ≤ (G 280 ((79 + (5 * k)) + 3)).toInt ∧ (G 280 ((79 + (5 * k)) + 3)).toInt ≤ 29) ∧ ∀ k : Nat, (k : Int) < (G 280 18).toInt → t2_lo (G 280 ((79 + (5 * k)) + 3)).toInt.toNat ≤ (G 280 ((79 + (5 * k)) + 4)).toInt ∧ (G 280 ((79 + (5 * k)) + 4)).toInt ≤ t2_hi (G 280 ((79 + (5 * k)) + 3)).toInt.toNat)
    (o6 : (0 ≤ (G 280 19).toInt ∧ (G 280 19).toInt ≤ 24) ∧ ∀ k : Nat, (k : Int) < (G 280 19).toInt → (-99999 ≤ (G 280 (119 + 2 * k)).toInt ∧ (G 280 (119 + 2 * k)).toInt ≤ 99999) ∧ (1 ≤ (G 280 (119 + 2 * k + 1)).toInt ∧ (G 280 (119 + 2 * k + 1)).toInt ≤ 99)) : c0_I F G := by
  have hh := h
  obtain ⟨-, -, ⟨gt, gw, tr, gm⟩, cl, ok⟩ := h
  refine hh.gx (fun p hp => P p (by omega) (by omega) (by omega) (by omega)) (fun w hw => W w (by omega)) ⟨gt', gw.congr (P _ (by decide) (by decide) (by decide) (by decide)) (P _ (by decide) (by decide) (by decide) (by decide)) (P _ (by decide) (by decide) (by decide) (by decide)) (P _ (by decide) (by decide) (by decide) (by decide)) (P _ (by decide) (by decide) (by decide) (by decide)) (fun w hw => W w (by omega)), tr.congr (P _ (by decide) (by decide) (by decide) (by decide)) (P _ (by decide) (by decide) (by decide) (by decide)) (fun w hw => W w (by omega)), gm.congr (fun p hp => P p (by omega) (by omega) (by omega) (by omega)) (fun w hw => W w (by omega))⟩ ⟨fun k hk => by rw [W _ (by omega)]; exact ok.s hk, ?_, o3, o4, o5, o6, ?_, fun C hC => ?_⟩
  · rw [W 5 (by decide), W 4 (by decide), W 2 (by decide), W 7 (by decide)]
    exact ok.2.1
  · rw [W 16 (by decide), W 20 (by decide), W 21 (by decide)]
    exact ok.2.2.2.2.2.2.1
  · rw [W 2 (by decide)] at hC
    exact (ok.2.2.2.2.2.2.2 C hC).congr (fun w hw => W _ (by omega)) (by rw [W 7 (by decide)]; exact Int.le_refl _)
theorem c0_I.stuck (h : c0_I fc fr) (hk : k < 3) (hv : t2_how v) : c0_I (fl_row fc 5 (upd (fc 5) k v)) (fl_row fr 280 (upd (fr 280) (64 + k) v)) := by
  have hh := h
  obtain ⟨-, -, ⟨⟨rk, rz, rr, pr, pc, pw⟩, -⟩, -, ok⟩ := h
  have n19 := ok.2.2.2.2.2.1.1
  generalize hF : fl_row fc 5 (upd (fc 5) k v) = F
  generalize hG : fl_row fr 280 (upd (fr 280) (64 + k) v) = G
  have P : ∀ p : Nat, p ≠ 5 → F p = fc p := fun p hp => by rw [← hF, fl_row_ne hp]
  have W : ∀ w : Nat, w ≠ 64 + k → G 280 w = fr 280 w := fun w hw => by rw [← hG, fl_row_self, upd_ne hw]
  have e5 : F 5 = upd (fc 5) k v := by rw [← hF, fl_row_self]
  have ek : G 280 (64 + k) = v := by rw [← hG, fl_row_self, upd_self]
  refine hh.gt (fun p _ _ _ _ => P p (by omega)) (fun w hw => W w (by omega)) ⟨fun j hj => ?_, rz.congr (P _ (by decide)) (P _ (by decide)) (W _ (by omega)) (fun k hk => W _ (by omega)), ?_, fun j hj => by rw [P 6 (by decide), W _ (by omega)]; exact pr j hj, by rw [P 3 (by decide), W 19 (by omega)]; exact pc, fun j hj => ?_⟩ (fun j hj => ?_) ?_ ?_ ?_
  · rw [e5]
    by_cases e : j = k
    · subst e
      rw [upd_self, ek]
    · rw [upd_ne e, W _ (by omega)]
      exact rk j hj
  · obtain ⟨a, b, d⟩ := rr
    unfold c0_Rr
    rw [P 3 (by decide), P 9 (by decide), W 18 (by omega)]
    exact ⟨a, b, fun j hj => by rw [W _ (by omega)]; exact d j hj⟩
  · rw [W 19 (by omega)] at hj
    rw [P 8 (by decide), W _ (by omega)]
    exact pw j hj
  · by_cases e : j = k
    · subst e
      rw [ek]
      exact hv
    · rw [W _ (by omega)]
      exact ok.2.2.1 j hj
  · rw [W 17 (by omega)]
    exact ⟨ok.2.2.2.1.1, fun j hj => by rw [W _ (by omega)]; exact ok.2.2.2.1.2 j hj⟩
  · rw [W 18 (by omega)]
    exact ⟨ok.2.2.2.2.1.1, fun j hj => by rw [W _ (by omega)]; exact ok.2.2.2.2.1.2.1 j hj, fun j hj => by rw [W _ (by omega), W _ (by omega)]; exact ok.2.2.2.2.1.2.2 j hj⟩
  · rw [W 19 (by omega)]
    exact ⟨ok.2.2.2.2.2.1.1, fun j hj => by rw [W _ (by omega), W _ (by omega)]; exact ok.2.2.2.2.2.1.2 j hj⟩
/-- a ZONE more -/
theorem c0_I.zone (h : c0_I fc fr) (hn : (fr 280 17).toInt = n) (h6 : n < 6) (hb : 0 ≤ b.toInt) : c0_I (c0_addZone_m fc a b) (fl_row fr 280 (upd (upd (upd (fr 280) (67 + 2 * n) a) (67 + 2 * n + 1) b) 17 (fr 280 17 + (1 : Int32)))) ∧ fc 3 6 = fr 280 17 := by
  have hh := h
  obtain ⟨-, -, ⟨⟨rk, ⟨z1, z2, z3⟩, rr, pr, pc, pw⟩, -⟩, -, ok⟩ := h
  refine ⟨?_, z1⟩
  have c1 : (1 : Int32).toInt = 1 := by decide +kernel
  have n19 := ok.2.2.2.2.2.1.1
  have n36 : (fc 3 6).toInt.toNat = n := by rw [z1]; omega
  have e1 : (fr 280 17 + (1 : Int32)).toInt = n + 1 := by rw [at_add32 (by omega) (by omega)]; omega
  generalize hF : c0_addZone_m fc a b = F
  generalize hG : fl_row fr 280 (upd (upd (upd (fr 280) (67 + 2 * n) a) (67 + 2 * n + 1) b) 17 (fr 280 17 + (1 : Int32))) = G
  have P : ∀ p : Nat, p ≠ 7 → p ≠ 3 → F p = fc p := fun p h7 h3 => by rw [← hF]; exact c0_addZone_fr h7 h3
  have F3 : F 3 = upd (fc 3) 6 (fc 3 6 + (1 : Int32)) := by rw [← hF]; unfold c0_addZone_m; rw [fl_row_self]
  have F7 : F 7 = upd (upd (fc 7) (n * 2) a) (n * 2 + 1) b := by rw [← hF]; unfold c0_addZone_m; rw [fl_row_ne (by decide), fl_row_self, n36]
  have W : ∀ w : Nat, w ≠ 17 → w ≠ 67 + 2 * n → w ≠ 67 + 2 * n + 1 → G 280 w = fr 280 w := fun w h1 h2 h3 => by rw [← hG, fl_row_self, upd_ne h1, upd_ne h3, upd_ne h2]
  have w17 : G 280 17 = fr 280 17 + (1 : Int32) := by rw [← hG, fl_row_self, upd_self]
  have wa : G 280 (67 + 2 * n) = a := by rw [← hG, fl_row_self, upd_ne (by omega), upd_ne (by omega), upd_self]
  have wb : G 280 (67 + 2 * n + 1) = b := by rw [← hG, fl_row_self, upd_ne (by omega), upd_self]
  have zb : ∀ j : Nat, j < 6 → 0 ≤ (G 280 (67 + 2 * j + 1)).toInt := fun j hj => by
    by_cases e : j = n
    · subst e
      rw [wb]
      exact hb
    · rw [W _ (by omega) (by omega) (by omega)]
      exact z3 j hj
  refine hh.gt (fun p _ _ h3 h5 => P p (by omega) h3) (fun w hw => W w (by omega) (by omega) (by omega)) ⟨fun j hj => by rw [P 5 (by decide) (by decide), W _ (by omega) (by omega) (by omega)]; exact rk j hj, ⟨?_, fun j hj => ?_, zb⟩, ?_, fun j hj => by rw [P 6 (by decide) (by decide), W _ (by omega) (by omega) (by omega)]; exact pr j hj, by rw [F3, upd_ne (by decide), W 19 (by omega) (by omega) (by omega)]; exact pc, fun j hj => ?_⟩ (fun j hj => by rw [W _ (by omega) (by omega) (by omega)]; exact ok.2.2.1 j hj) ⟨by rw [w17, e1]; omega, zb⟩ ?_ ?_
  · rw [F3, upd_self, w17, z1]
  · rw [F7]
    by_cases e : j = n * 2 + 1
    · subst e
      rw [upd_self, show 67 + (n * 2 + 1) = 67 + 2 * n + 1 by omega, wb]
    · rw [upd_ne e]
      by_cases e2 : j = n * 2
      · subst e2
        rw [upd_self, show 67 + n * 2 = 67 + 2 * n by omega, wa]
      · rw [upd_ne e2, W _ (by omega) (by omega) (by omega)]
        exact z2 j hj
  · obtain ⟨a1, b1, d1⟩ := rr
    unfold c0_Rr
    rw [F3, upd_ne (by decide), P 9 (by decide) (by decide), W 18 (by omega) (by omega) (by omega)]
    exact ⟨a1, b1, fun j hj => by rw [W _ (by omega) (by omega) (by omega)]; exact d1 j hj⟩
  · rw [W 19 (by omega) (by omega) (by omega)] at hj
    rw [P 8 (by decide) (by decide), W _ (by omega) (by omega) (by omega)]
    exact pw j hj
  · rw [W 18 (by omega) (by omega) (by omega)]
    exact ⟨ok.2.2.2.2.1.1, fun j hj => by rw [W _ (by omega) (by omega) (by omega)]; exact ok.2.2.2.2.1.2.1 j hj, fun j hj => by rw [W _ (by omega) (by omega) (by omega), W _ (by omega) (by omega) (by omega)]; exact ok.2.2.2.2.1.2.2 j hj⟩
  · rw [W 19 (by omega) (by omega) (by omega)]
    exact ⟨ok.2.2.2.2.2.1.1, fun j hj => by rw [W _ (by omega) (by omega) (by omega), W _ (by omega) (by omega) (by omega)]; exact ok.2.2.2.2.2.1.2 j hj⟩
/-- a PIECE more -/
theorem c0_I.piece (h : c0_I fc fr) (hn : (fr 280 19).toInt = n) (h24 : n < 24) (ha : -99999 ≤ a.toInt ∧ a.toInt ≤ 99999) (hb : 1 ≤ b.toInt ∧ b.toInt ≤ 99) : c0_I (c0_addPiece_m fc a b) (fl_row fr 280 (upd (upd (upd (fr 280) (119 + 2 * n) a) (119 + 2 * n + 1) b) 19 (fr 280 19 + (1 : Int32)))) ∧ fc 3 7 = fr 280 19 := by
  have hh := h
  obtain ⟨-, -, ⟨⟨rk, rz, rr, pr, pc, pw⟩, -⟩, -, ok⟩ := h
  refine ⟨?_, pc⟩
  have n18 := ok.2.2.2.2.1.1
  have c1 : (1 : Int32).toInt = 1 := by decide +kernel
  have n37 : (fc 3 7).toInt.toNat = n := by rw [pc]; omega
  have e1 : (fr 280 19 + (1 : Int32)).toInt = n + 1 := by rw [at_add32 (by omega) (by omega)]; omega
  generalize hF : c0_addPiece_m fc a b = F
  generalize hG : fl_row fr 280 (upd (upd (upd (fr 280) (119 + 2 * n) a) (119 + 2 * n + 1) b) 19 (fr 280 19 + (1 : Int32))) = G
  have P : ∀ p : Nat, p ≠ 8 → p ≠ 3 → F p = fc p := fun p h7 h3 => by rw [← hF]; exact c0_addPiece_fr h7 h3
  have F3 : F 3 = upd (fc 3) 7 (fc 3 7 + (1 : Int32)) := by rw [← hF]; unfold c0_addPiece_m; rw [fl_row_self]
  have F8 : F 8 = upd (upd (fc 8) (n * 2) a) (n * 2 + 1) b := by rw [← hF]; unfold c0_addPiece_m; rw [fl_row_ne (by decide), fl_row_self, n37]
  have W : ∀ w : Nat, w ≠ 19 → w ≠ 119 + 2 * n → w ≠ 119 + 2 * n + 1 → G 280 w = fr 280 w := fun w h1 h2 h3 => by rw [← hG, fl_row_self, upd_ne h1, upd_ne h3, upd_ne h2]
  have w19 : G 280 19 = fr 280 19 + (1 : Int32) := by rw [← hG, fl_row_self, upd_self]
  have wa : G 280 (119 + 2 * n) = a := by rw [← hG, fl_row_self, upd_ne (by omega), upd_ne (by omega), upd_self]
  have wb : G 280 (119 + 2 * n + 1) = b := by rw [← hG, fl_row_self, upd_ne (by omega), upd_self]
  refine hh.gt (fun p _ _ h3 h5 => P p (by omega) h3) (fun w hw => W w (by omega) (by omega) (by omega)) ⟨fun j hj => by rw [P 5 (by decide) (by decide), W _ (by omega) (by omega) (by omega)]; exact rk j hj, ?_, ?_, fun j hj => by rw [P 6 (by decide) (by decide), W _ (by omega) (by omega) (by omega)]; exact pr j hj, by rw [F3, upd_self, w19, pc], fun j hj => ?_⟩ (fun j hj => by rw [W _ (by omega) (by omega) (by omega)]; exact ok.2.2.1 j hj) ?_ ?_ ⟨by rw [w19, e1]; omega, fun j hj => ?_⟩
  · obtain ⟨z1, z2, z3⟩ := rz
    unfold c0_Rz
    rw [F3, upd_ne (by decide), P 7 (by decide) (by decide), W 17 (by omega) (by omega) (by omega)]
    exact ⟨z1, fun j hj => by rw [W _ (by omega) (by omega) (by omega)]; exact z2 j hj, fun j hj => by rw [W _ (by omega) (by omega) (by omega)]; exact z3 j hj⟩
  · obtain ⟨a1, b1, d1⟩ := rr
    unfold c0_Rr
    rw [F3, upd_ne (by decide), P 9 (by decide) (by decide), W 18 (by omega) (by omega) (by omega)]
    exact ⟨a1, b1, fun j hj => by rw [W _ (by omega) (by omega) (by omega)]; exact d1 j hj⟩
  · rw [w19, e1] at hj
    rw [F8]
    by_cases e : j = n * 2 + 1
    · subst e
      rw [upd_self, show 119 + (n * 2 + 1) = 119 + 2 * n + 1 by omega, wb]
    · rw [upd_ne e]
      by_cases e2 : j = n * 2
      · subst e2
        rw [upd_self, show 119 + n * 2 = 119 + 2 * n by omega, wa]
      · rw [upd_ne e2, W _ (by omega) (by omega) (by omega)]
        exact pw j (by omega)
  · rw [W 17 (by omega) (by omega) (by omega)]
    exact ⟨ok.2.2.2.1.1, fun j hj => by rw [W _ (by omega) (by omega) (by omega)]; exact ok.2.2.2.1.2 j hj⟩
  · rw [W 18 (by omega) (by omega) (by omega)]
    exact ⟨ok.2.2.2.2.1.1, fun j hj => by rw [W _ (by omega) (by omega) (by omega)]; exact ok.2.2.2.2.1.2.1 j hj, fun j hj => by rw [W _ (by omega) (by omega) (by omega), W _ (by omega) (by omega) (by omega)]; exact ok.2.2.2.2.1.2.2 j hj⟩
  · rw [w19, e1] at hj
    by_cases e : j = n
    · subst e
      rw [wa, wb]
      exact ⟨ha, hb⟩
    · rw [W _ (by omega) (by omega) (by omega), W _ (by omega) (by omega) (by omega)]
      exact ok.2.2.2.2.2.1.2 j (by omega)
/-- a RULE more -/
theorem c0_I.rule (h : c0_I fc fr) (hn : (fr 280 18).toInt = n) (h8 : n < 8) (hd : 0 ≤ d.toInt ∧ d.toInt ≤ 29) (he : t2_lo d.toInt.toNat ≤ e.toInt ∧ e.toInt ≤ t2_hi d.toInt.toNat) : c0_I (c0_addRule_m fc a b c d e) (fl_row fr 280 (upd (upd (upd (upd (upd (upd (fr 280) (79 + 5 * n) a) (79 + 5 * n + 1) b) (79 + 5 * n + 2) c) (79 + 5 * n + 3) d) (79 + 5 * n + 4) e) 18 (fr 280 18 + (1 : Int32)))) ∧ fc 3 8 = fr 280 18 := by
  have hh := h
  obtain ⟨-, -, ⟨⟨rk, rz, ⟨u1, u2, u3⟩, pr, pc, pw⟩, -⟩, -, ok⟩ := h
  refine ⟨?_, u1⟩
  have c1 : (1 : Int32).toInt = 1 := by decide +kernel
  have n19 := ok.2.2.2.2.2.1.1
  have n38 : (fc 3 8).toInt.toNat = n := by rw [u1]; omega
  have e1 : (fr 280 18 + (1 : Int32)).toInt = n + 1 := by rw [at_add32 (by omega) (by omega)]; omega
  generalize hF : c0_addRule_m fc a b c d e = F
  generalize hG : fl_row fr 280 (upd (upd (upd (upd (upd (upd (fr 280) (79 + 5 * n) a) (79 + 5 * n + 1) b) (79 + 5 * n + 2) c) (79 + 5 * n + 3) d) (79 + 5 * n + 4) e) 18 (fr 280 18 + (1 : Int32))) = G
  have P : ∀ p : Nat, p ≠ 9 → p ≠ 3 → F p = fc p := fun p h7 h3 => by rw [← hF]; exact c0_addRule_fr h7 h3
  have F3 : F 3 = upd (fc 3) 8 (fc 3 8 + (1 : Int32)) := by rw [← hF]; unfold c0_addRule_m; rw [fl_row_self]
  have F9 : F 9 = upd (upd (upd (upd (upd (fc 9) (n * 5) a) (n * 5 + 1) b) (n * 5 + 2) c) (n * 5 + 3) d) (n * 5 + 4) e := by rw [← hF]; unfold c0_addRule_m; rw [fl_row_ne (by decide), fl_row_self, n38]
  have W : ∀ w : Nat, w ≠ 18 → (w < 79 + 5 * n ∨ 79 + 5 * n + 5 ≤ w) → G 280 w = fr 280 w := fun w h1 h2 => by rw [← hG, fl_row_self, upd_ne h1, upd_ne (by omega), upd_ne (by omega), upd_ne (by omega), upd_ne (by omega), upd_ne (by omega)]
  have w18 : G 280 18 = fr 280 18 + (1 : Int32) := by rw [← hG, fl_row_self, upd_self]
  have w0 : G 280 (79 + 5 * n) = a := by rw [← hG, fl_row_self, upd_ne (by omega), upd_ne (by omega), upd_ne (by omega), upd_ne (by omega), upd_ne (by omega), upd_self]
  have w1 : G 280 (79 + 5 * n + 1) = b := by rw [← hG, fl_row_self, upd_ne (by omega), upd_ne (by omega), upd_ne (by omega), upd_ne (by omega), upd_self]
  have w2 : G 280 (79 + 5 * n + 2) = c := by rw [← hG, fl_row_self, upd_ne (by omega), upd_ne (by omega), upd_ne (by omega), upd_self]
  have w3 : G 280 (79 + 5 * n + 3) = d := by rw [← hG, fl_row_self, upd_ne (by omega), upd_ne (by omega), upd_self]
  have w4 : G 280 (79 + 5 * n + 4) = e := by rw [← hG, fl_row_self, upd_ne (by omega), upd_self]
  refine hh.gt (fun p _ _ h3 h5 => P p (by omega) h3) (fun w hw => W w (by omega) (by omega)) ⟨fun j hj => by rw [P 5 (by decide) (by decide), W _ (by omega) (by omega)]; exact rk j hj, ?_, ⟨by rw [F3, upd_self, w18, u1], by rw [w18, e1]; omega, fun j hj => ?_⟩, fun j hj => by rw [P 6 (by decide) (by decide), W _ (by omega) (by omega)]; exact pr j hj, by rw [F3, upd_ne (by decide), W 19 (by omega) (by omega)]; exact pc, fun j hj => ?_⟩ (fun j hj => by rw [W _ (by omega) (by omega)]; exact ok.2.2.1 j hj) ?_ ⟨by rw [w18, e1]; omega, fun j hj => ?_, fun j hj => ?_⟩ ?_
  · obtain ⟨z1, z2, z3⟩ := rz
    unfold c0_Rz
    rw [F3, upd_ne (by decide), P 7 (by decide) (by decide), W 17 (by omega) (by omega)]
    exact ⟨z1, fun j hj => by rw [W _ (by omega) (by omega)]; exact z2 j hj, fun j hj => by rw [W _ (by omega) (by omega)]; exact z3 j hj⟩
  · rw [w18, e1] at hj
    rw [F9]
    by_cases h4 : j = n * 5 + 4
    · subst h4
      rw [upd_self, show 79 + (n * 5 + 4) = 79 + 5 * n + 4 by omega, w4]
    rw [upd_ne h4]
    by_cases h3 : j = n * 5 + 3
    · subst h3
      rw [upd_self, show 79 + (n * 5 + 3) = 79 + 5 * n + 3 by omega, w3]
    rw [upd_ne h3]
    by_cases h2 : j = n * 5 + 2
    · subst h2
      rw [upd_self, show 79 + (n * 5 + 2) = 79 + 5 * n + 2 by omega, w2]
    rw [upd_ne h2]
    by_cases h1 : j = n * 5 + 1
    · subst h1
      rw [upd_self, show 79 + (n * 5 + 1) = 79 + 5 * n + 1 by omega, w1]
    rw [upd_ne h1]
    by_cases h0 : j = n * 5
    · subst h0
      rw [upd_self, show 79 + n * 5 = 79 + 5 * n by omega, w0]
    rw [upd_ne h0, W _ (by omega) (by omega)]
    exact u3 j (by omega)
  · rw [W 19 (by omega) (by omega)] at hj
    rw [P 8 (by decide) (by decide), W _ (by omega) (by omega)]
    exact pw j hj
  · rw [W 17 (by omega) (by omega)]
    exact ⟨ok.2.2.2.1.1, fun j hj => by rw [W _ (by omega) (by omega)]; exact ok.2.2.2.1.2 j hj⟩
  · by_cases q : j = n
    · subst q
      rw [w3]
      exact hd
    · rw [W _ (by omega) (by omega)]
      exact ok.2.2.2.2.1.2.1 j hj
  · rw [w18, e1] at hj
    by_cases q : j = n
    · subst q
      rw [w3, w4]
      exact he
    · rw [W _ (by omega) (by omega), W _ (by omega) (by omega)]
      exact ok.2.2.2.2.1.2.2 j (by omega)
  · rw [W 19 (by omega) (by omega)]
    exact ⟨ok.2.2.2.2.2.1.1, fun j hj => by rw [W _ (by omega) (by omega), W _ (by omega) (by omega)]; exact ok.2.2.2.2.2.1.2 j hj⟩
/-- no RULES; the reference's row is cleared -/
theorem c0_I.unrule {G : t2_F} (h : c0_I fc fr) (W : ∀ w : Nat, w ≠ 18 → (w < 79 ∨ 119 ≤ w) → G 280 w = fr 280 w) (w18 : G 280 18 = 0) (wr : ∀ w : Nat, 79 ≤ w → w < 119 → G 280 w = 0) : c0_I (fl_row fc 3 (upd (fc 3) 8 (0 : Int32))) G ∧ fc 3 8 = fr 280 18 := by
  have hh := h
  obtain ⟨-, -, ⟨⟨rk, rz, ⟨u1, u2, u3⟩, pr, pc, pw⟩, -⟩, -, ok⟩ := h
  refine ⟨?_, u1⟩
  have c0 : (0 : Int32).toInt = 0 := rfl
  have n19 := ok.2.2.2.2.2.1.1
  generalize hF : fl_row fc 3 (upd (fc 3) 8 (0 : Int32)) = F
  have P : ∀ p : Nat, p ≠ 3 → F p = fc p := fun p h3 => by rw [← hF, fl_row_ne h3]
  have F3 : F 3 = upd (fc 3) 8 (0 : Int32) := by rw [← hF, fl_row_self]
  refine hh.gt (fun p _ _ h3 h5 => P p h3) (fun w hw => W w (by omega) (by omega)) ⟨fun j hj => by rw [P 5 (by decide), W _ (by omega) (by omega)]; exact rk j hj, ?_, ⟨by rw [F3, upd_self, w18], by rw [w18, c0]; omega, fun j hj => by rw [w18, c0] at hj; omega⟩, fun j hj => by rw [P 6 (by decide), W _ (by omega) (by omega)]; exact pr j hj, by rw [F3, upd_ne (by decide), W 19 (by omega) (by omega)]; exact pc, fun j hj => ?_⟩ (fun j hj => by rw [W _ (by omega) (by omega)]; exact ok.2.2.1 j hj) ?_ ⟨by rw [w18, c0]; omega, fun j hj => by rw [wr _ (by omega) (by omega), c0]; omega, fun j hj => by rw [w18, c0] at hj; omega⟩ ?_
  · obtain ⟨z1, z2, z3⟩ := rz
    unfold c0_Rz
    rw [F3, upd_ne (by decide), P 7 (by decide), W 17 (by omega) (by omega)]
    exact ⟨z1, fun j hj => by rw [W _ (by omega) (by omega)]; exact z2 j hj, fun j hj => by rw [W _ (by omega) (by omega)]; exact z3 j hj⟩
  · rw [W 19 (by omega) (by omega)] at hj
    rw [P 8 (by decide), W _ (by omega) (by omega)]
    exact pw j hj
  · rw [W 17 (by omega) (by omega)]
    exact ⟨ok.2.2.2.1.1, fun j hj => by rw [W _ (by omega) (by omega)]; exact ok.2.2.2.1.2 j hj⟩
  · rw [W 19 (by omega) (by omega)]
    exact ⟨ok.2.2.2.2.2.1.1, fun j hj => by rw [W _ (by omega) (by omega), W _ (by omega) (by omega)]; exact ok.2.2.2.2.2.1.2 j hj⟩
/-- no PIECES -/
theorem c0_I.wipe {G : t2_F} (h : c0_I fc fr) (W : ∀ w : Nat, w ≠ 19 → (w < 119 ∨ 167 ≤ w) → G 280 w = fr 280 w) (w19 : G 280 19 = 0) : c0_I (fl_row fc 3 (upd (fc 3) 7 (0 : Int32))) G ∧ fc 3 7 = fr 280 19 := by
  have hh := h
  obtain ⟨-, -, ⟨⟨rk, rz, rr, pr, pc, pw⟩, -⟩, -, ok⟩ := h
  refine ⟨?_, pc⟩
  have n18 := ok.2.2.2.2.1.1
  have c0 : (0 : Int32).toInt = 0 := rfl
  generalize hF : fl_row fc 3 (upd (fc 3) 7 (0 : Int32)) = F
  have P : ∀ p : Nat, p ≠ 3 → F p = fc p := fun p h3 => by rw [← hF, fl_row_ne h3]
  have F3 : F 3 = upd (fc 3) 7 (0 : Int32) := by rw [← hF, fl_row_self]
  refine hh.gt (fun p _ _ h3 h5 => P p h3) (fun w hw => W w (by omega) (by omega)) ⟨fun j hj => by rw [P 5 (by decide), W _ (by omega) (by omega)]; exact rk j hj, ?_, ?_, fun j hj => by rw [P 6 (by decide), W _ (by omega) (by omega)]; exact pr j hj, by rw [F3, upd_self, w19], fun j hj => by rw [w19, c0] at hj; omega⟩ (fun j hj => by rw [W _ (by omega) (by omega)]; exact ok.2.2.1 j hj) ?_ ?_ ⟨by rw [w19, c0]; omega, fun j hj => by rw [w19, c0] at hj; omega⟩
  · obtain ⟨z1, z2, z3⟩ := rz
    unfold c0_Rz
    rw [F3, upd_ne (by decide), P 7 (by decide), W 17 (by omega) (by omega)]
    exact ⟨z1, fun j hj => by rw [W _ (by omega) (by omega)]; exact z2 j hj, fun j hj => by rw [W _ (by omega) (by omega)]; exact z3 j hj⟩
  · obtain ⟨a1, b1, d1⟩ := rr
    unfold c0_Rr
    rw [F3, upd_ne (by decide), P 9 (by decide), W 18 (by omega) (by omega)]
    exact ⟨a1, b1, fun j hj => by rw [W _ (by omega) (by omega)]; exact d1 j hj⟩
  · rw [W 17 (by omega) (by omega)]
    exact ⟨ok.2.2.2.1.1, fun j hj => by rw [W _ (by omega) (by omega)]; exact ok.2.2.2.1.2 j hj⟩
  · rw [W 18 (by omega) (by omega)]
    exact ⟨ok.2.2.2.2.1.1, fun j hj => by rw [W _ (by omega) (by omega)]; exact ok.2.2.2.2.1.2.1 j hj, fun j hj => by rw [W _ (by omega) (by omega), W _ (by omega) (by omega)]; exact ok.2.2.2.2.1.2.2 j hj⟩
end C0MUTP
