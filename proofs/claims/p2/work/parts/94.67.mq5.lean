/-! ===== cell ===== -/
section T2MQ5
variable {L : Nat} {xs : Nat → Int32} {f g F G : t2_F} {l l' : t2_L} {Q : Option fl_V → fl_M → Prop} {a b c e : Int32} {A n : Nat}
theorem y_clr_w {B N : Nat} (w : Nat) : y_clr f B N 280 w = if B ≤ w ∧ w < B + N then 0 else f 280 w := by
  unfold y_clr
  rw [fl_row_self]
/-- the reference's cell, behind its keep -/
theorem r_cell_q {ch pt : Int32} (hA : (G 280 2).toInt = (A : Int)) (hA1 : A < 16) (ha : t2_cap a) (hb : 0 ≤ b.toInt ∧ b.toInt ≤ 1000) (hch : ch = t2_heldTo_v (t2_chargeBy_v b a) (0 : Int32) (a * (3600 : Int32))) (hpt : pt = t2_partOf_v ch (a * (3600 : Int32)))
    (k : ∀ H : t2_F, (∀ p : Nat, p ≠ 280 → H p = G p) → (∀ w : Nat, w ≠ 2 → (w < 444 + 61 * A ∨ 444 + 61 * A + 61 ≤ w) → H 280 w = G 280 w) → H 280 2 = G 280 2 + (1 : Int32) → (∀ w : Nat, w < 61 → H 280 (444 + 61 * A + w) = t2_nc a c (G 280 40) ch pt w) → (0 ≤ ch.toInt ∧ ch.toInt ≤ 3600 * a.toInt) → Q (some (.inl (G 280 2))) (H, l)) :
    fl_Tq (pw_P L xs) 243 50 [some (.inr (.inr (.inl (76, 277)))), some (.inl a), some (.inl b), some (.inl c), none, none] [] (G, l) Q := by
  have c61 : (61 : Int32).toInt = (61 : Nat) := by decide +kernel
  have c36 : (3600 : Int32).toInt = 3600 := by decide +kernel
  have hcap : 100 ≤ a.toInt ∧ a.toInt ≤ 9999 := ha
  have em : (a * (3600 : Int32)).toInt = a.toInt * 3600 := by rw [at_mul32 (by rw [c36]; omega) (by rw [c36]; omega), c36]
  obtain ⟨q1, q2, q3, q4⟩ := t2_chg hb ha
  have ech : ch = t2_chargeBy_v b a := by rw [hch]; exact t2_held_id q2 (by omega)
  have cb : 0 ≤ ch.toInt ∧ ch.toInt ≤ 3600 * a.toInt := by rw [ech]; exact ⟨q2, q3⟩
  have eC : ∀ M : t2_F, M 280 (444 + 61 * A + 0) = a → r_chargeAt_v M (G 280 2) A b = ch := fun M hM => by
    unfold r_chargeAt_v
    rw [hM, ech]
    exact q4
  refine y_cell_B ?_
  generalize hG1 : fl_row G 280 (upd (G 280) 2 ((G 280 2) + (1 : Int32))) = G1
  have loop := t2_for (n := 61) (S := fun j => fl_Tq (pw_P L xs) 243 71 [some (.inr (.inr (.inl (76, 277)))), some (.inl a), some (.inl b), some (.inl c), some (.inl (G 280 2)), some (.inl (Int32.ofNat j))] [] (y_clr G1 (444 + 61 * A) j, l) Q) (fun j hj hS => ?_) ?_
  · rw [y_clr_0] at loop
    exact loop
  · refine y_cell_C hA hA1 hj (t2_lk hj c61) ?_
    rw [t2_k1, y_clr_s]
    exact hS
  · refine y_cell_D hA hA1 (t2_ln c61) ?_
    have yw : ∀ w : Nat, y_clr G1 (444 + 61 * A) 61 280 w = if 444 + 61 * A ≤ w ∧ w < 444 + 61 * A + 61 then 0 else G1 280 w := y_clr_w
    have yp : ∀ p : Nat, p ≠ 280 → y_clr G1 (444 + 61 * A) 61 p = G p := fun p hp => by unfold y_clr; rw [fl_row_ne hp, ← hG1, fl_row_ne hp]
    generalize y_clr G1 (444 + 61 * A) 61 = Y at yw yp ⊢
    generalize hH1 : fl_row Y 280 (upd (upd (upd (Y 280) (444 + 61 * A + 0) a) (444 + 61 * A + 6) a) (444 + 61 * A + 2) c) = H1
    have h1w : ∀ w : Nat, H1 280 w = if w = 444 + 61 * A + 2 then c else if w = 444 + 61 * A + 6 then a else if w = 444 + 61 * A + 0 then a else Y 280 w := fun w => by
      rw [← hH1, fl_row_self]
      unfold upd
      rfl
    have h1p : ∀ p : Nat, p ≠ 280 → H1 p = G p := fun p hp => by rw [← hH1, fl_row_ne hp, yp p hp]
    clear hH1
    have h10 : H1 280 (444 + 61 * A + 0) = a := by rw [h1w, if_neg (by omega), if_neg (by omega), if_pos rfl]
    have h40 : H1 280 40 = G 280 40 := by rw [h1w, if_neg (by omega), if_neg (by omega), if_neg (by omega), yw, if_neg (by omega), ← hG1, fl_row_self, upd_ne (by decide)]
    refine y_cell_E hA hA1 ?_
    rw [eC (fl_row H1 280 (upd (H1 280) (444 + 61 * A + 3) (H1 280 40))) (by rw [fl_row_self, upd_ne (by omega)]; exact h10), eC (fl_row H1 280 (upd (upd (H1 280) (444 + 61 * A + 3) (H1 280 40)) (444 + 61 * A + 1) ch)) (by rw [fl_row_self, upd_ne (by omega), upd_ne (by omega)]; exact h10), h40]
    generalize hH2 : fl_row H1 280 (upd (upd (upd (upd (upd (upd (upd (upd (upd (H1 280) (444 + 61 * A + 3) (G 280 40)) (444 + 61 * A + 1) ch) (444 + 61 * A + 4) ch) (444 + 61 * A + 7) (-2000000000 : Int32)) (444 + 61 * A + 8) (2000000000 : Int32)) (444 + 61 * A + 11) (-1000000 : Int32)) (444 + 61 * A + 12) (-1 : Int32)) (444 + 61 * A + 16) (-1 : Int32)) (444 + 61 * A + 10) (1 : Int32)) = H2
    have h2w : ∀ w : Nat, H2 280 w = if w = 444 + 61 * A + 10 then (1 : Int32) else if w = 444 + 61 * A + 16 then (-1 : Int32) else if w = 444 + 61 * A + 12 then (-1 : Int32) else if w = 444 + 61 * A + 11 then (-1000000 : Int32) else if w = 444 + 61 * A + 8 then (2000000000 : Int32) else if w = 444 + 61 * A + 7 then (-2000000000 : Int32) else if w = 444 + 61 * A + 4 then ch else if w = 444 + 61 * A + 1 then ch else if w = 444 + 61 * A + 3 then G 280 40 else H1 280 w := fun w => by
      rw [← hH2, fl_row_self]
      unfold upd
      rfl
    have h2p : ∀ p : Nat, p ≠ 280 → H2 p = G p := fun p hp => by rw [← hH2, fl_row_ne hp, h1p p hp]
    clear hH2
    have h20 : H2 280 (444 + 61 * A + 0) = a := by rw [h2w]; simp (disch := omega) only [if_neg]; exact h10
    have h21 : H2 280 (444 + 61 * A + 1) = ch := by rw [h2w]; simp (disch := omega) only [if_neg, if_true]
    have ep : r_partOf_v H2 (G 280 2) A = pt := by
      unfold r_partOf_v
      rw [h20, h21, t2_partAt_eq ha, hpt]
    refine fl_Tq.cal rfl rfl (fl_bo rfl) rfl ?_
    refine r_partOf_q (c := G 280 2) (C := A) hA hA1 ⟨by rw [h20]; exact ha, by rw [h21]; exact cb.1, by rw [h20, h21]; exact cb.2⟩ ?_
    rw [ep]
    refine y_cell_F hA hA1 ?_
    refine k _ (fun p hp => by rw [fl_row_ne hp, h2p p hp]) (fun w h2 hw => ?_) ?_ (fun w hw => ?_) cb
    · rw [fl_row_self, upd_ne (by omega), h2w]
      simp (disch := omega) only [if_neg]
      rw [h1w]
      simp (disch := omega) only [if_neg]
      rw [yw, if_neg (by omega), ← hG1, fl_row_self, upd_ne h2]
    · rw [fl_row_self, upd_ne (by omega), h2w]
      simp (disch := omega) only [if_neg]
      rw [h1w]
      simp (disch := omega) only [if_neg]
      rw [yw, if_neg (by omega), ← hG1, fl_row_self, upd_self]
    · rw [fl_row_self]
      by_cases e17 : w = 17
      · subst e17
        rw [upd_self]
        rfl
      rw [upd_ne (by omega), h2w]
      have e1 : H1 280 (444 + 61 * A + w) = if w = 2 then c else if w = 6 then a else if w = 0 then a else 0 := by
        rw [h1w]
        by_cases w2 : w = 2
        · subst w2
          rw [if_pos rfl, if_pos rfl]
        rw [if_neg (by omega), if_neg w2]
        by_cases w6 : w = 6
        · subst w6
          rw [if_pos rfl, if_pos rfl]
        rw [if_neg (by omega), if_neg w6]
        by_cases w0 : w = 0
        · subst w0
          rw [if_pos rfl, if_pos rfl]
        rw [if_neg (by omega), if_neg w0, yw, if_pos (by omega)]
      rw [e1]
      unfold t2_nc
      have : w = 0 ∨ w = 1 ∨ w = 2 ∨ w = 3 ∨ w = 4 ∨ w = 5 ∨ w = 6 ∨ w = 7 ∨ w = 8 ∨ w = 9 ∨ w = 10 ∨ w = 11 ∨ w = 12 ∨ w = 13 ∨ w = 14 ∨ w = 15 ∨ w = 16 ∨ 18 ≤ w := by omega
      rcases this with h | h | h | h | h | h | h | h | h | h | h | h | h | h | h | h | h | h
      case inr.inr.inr.inr.inr.inr.inr.inr.inr.inr.inr.inr.inr.inr.inr.inr.inr =>
        simp (disch := omega) only [if_neg]
      all_goals
        subst h
        simp (disch := omega) only [if_neg, if_true]
/-- cell -/
theorem t2_cell (Z : t2_Z (f, l)) : fl_Tq (pw_P L xs) 101 0 (fl_args (am_mxl (pw_P L xs) 101) [lx_x, .inl a, .inl b, .inl c]) [] (f, l) (t2_Mid L xs 243 [at_this, .inl a, .inl b, .inl c]) := by
  have I : c0_I f f := Z.2.1
  have e5 : f 1 5 = f 280 2 := I.1.1.1
  have n16 := I.2.2.2.2.2.1.2.2.1
  have c0 : (0 : Int32).toInt = 0 := rfl
  have c1 : (1 : Int32).toInt = 1 := by decide +kernel
  have c16 : (16 : Int32).toInt = 16 := by decide +kernel
  have c100 : (100 : Int32).toInt = 100 := by decide +kernel
  have c9 : (9999 : Int32).toInt = 9999 := by decide +kernel
  have ck : (1000 : Int32).toInt = 1000 := by decide +kernel
  have c99 : (99 : Int32).toInt = 99 := by decide +kernel
  have ej : (x_cell_A_j9_0 a b c).toInt = 0 ↔ ¬ ((100 ≤ a.toInt ∧ a.toInt ≤ 9999) ∧ (0 ≤ b.toInt ∧ b.toInt ≤ 1000) ∧ 0 ≤ c.toInt ∧ c.toInt ≤ 99) := by
    unfold x_cell_A_j9_0
    split
    · rename_i h
      rw [t2_w0, c100, c9] at h
      rw [c0]; omega
    · rename_i h
      rw [t2_w0, c100, c9] at h
      split
      · rename_i h2
        rw [t2_w0, c0, ck] at h2
        rw [c0]; omega
      · rename_i h2
        rw [t2_w0, c0, ck] at h2
        split
        · rename_i h3
          rw [t2_w0, c0, c99] at h3
          rw [c0]; omega
        · rename_i h3
          rw [t2_w0, c0, c99] at h3
          rw [c1]; omega
  show fl_Tq (pw_P L xs) 101 0 [some (.inr (.inr (.inl (0, 0)))), some (.inl a), some (.inl b), some (.inl c), none] [] (f, l) _
  have no : ¬ (((100 ≤ a.toInt ∧ a.toInt ≤ 9999) ∧ (0 ≤ b.toInt ∧ b.toInt ≤ 1000) ∧ 0 ≤ c.toInt ∧ c.toInt ≤ 99) ∧ (f 280 2).toInt < 16) → t2_Mid L xs 243 [at_this, .inl a, .inl b, .inl c] (some (.inl (-1 : Int32))) (f, l) := fun hn => by
    refine ⟨Z.U, ⟨_, rfl⟩, ?_⟩
    show fl_Tq (pw_P L xs) 243 0 [some (.inr (.inr (.inl (76, 277)))), some (.inl a), some (.inl b), some (.inl c), none, none] [] (f, l) _
    refine y_cell_A (fun h1 => ⟨rfl, Z.2, Z.U⟩) (fun h1 h2 => ⟨rfl, Z.2, Z.U⟩) (fun h1 h2 h3 => ⟨rfl, Z.2, Z.U⟩) (fun h1 h2 h3 h4 => ⟨rfl, Z.2, Z.U⟩) (fun h1 h2 h3 h4 => ?_)
    rw [r_i0, c100, c9] at h1
    rw [r_i0, c0, ck] at h2
    rw [r_i0, c0, c99] at h3
    rw [c16] at h4
    omega
  refine x_cell_A (fun h1 => no (fun h => ej.mp h1 h.1)) (fun h1 h2 => ?_) (fun h1 h2 => no (fun h => h2 (by rw [e5, c16]; exact h.2)))
  have g1 := Classical.not_not.mp (fun h => h1 (ej.mpr h))
  rw [e5, c16] at h2
  obtain ⟨A, hA⟩ : ∃ A : Nat, (f 280 2).toInt = A := ⟨(f 280 2).toInt.toNat, by omega⟩
  have hA1 : A < 16 := by omega
  refine fl_Tq.cal rfl rfl (fl_bo rfl) rfl ?_
  refine t2_ckeep Z (fun g l' C => ?_)
  refine fl_Tq.fg (x_cell_B ?_) ⟨rfl, rfl, rfl, rfl, True.intro⟩
  refine fl_Tq.cal rfl rfl (fl_bo rfl) rfl ?_
  have g15 : g 1 5 = f 280 2 := by rw [C.now (by decide) (by decide) (by decide)]; exact e5
  refine t2_add_q (A := A) rfl rfl (by rw [g15]; exact hA) hA1 g1.1 (fun F P P1 P15 r1 r2 r3 r4 r5 => ?_)
  refine fl_Tq.ret rfl rfl rfl ?_
  have hF : ∀ p : Nat, 91 ≤ p → F p = g p := fun p hp => P p (by omega) (by omega)
  have F280 := C.F280 hF
  refine ⟨fun p hp i => by show F p i = _; rw [hF p (by have : fl_N l'.2 ≤ p := hp; unfold fl_N at this; omega)]; exact C.U Z.U p hp i, ⟨_, rfl⟩, ?_⟩
  show fl_Tq (pw_P L xs) 243 0 [some (.inr (.inr (.inl (76, 277)))), some (.inl a), some (.inl b), some (.inl c), none, none] [] _ _
  refine y_cell_A (fun h => ?_) (fun _ h => ?_) (fun _ _ h => ?_) (fun _ _ _ h => ?_) (fun _ _ _ _ => ?_)
  · rw [r_i0, c100, c9] at h
    omega
  · rw [r_i0, c0, ck] at h
    omega
  · rw [r_i0, c0, c99] at h
    omega
  · rw [F280, c16] at h
    omega
  refine fl_Tq.cal rfl rfl (fl_bo rfl) rfl ?_
  refine Z.rkeep F280 (fun G hG K => ?_)
  have I0 := Z.I0 C F280 K
  have G2 : G 280 2 = f 280 2 := by rw [← I0.1.1.1]; exact g15
  refine r_cell_q (A := A) (by rw [G2]; exact hA) hA1 g1.1 g1.2.1 rfl rfl (fun H hH W W2 W3 cb => ?_)
  have J := I0.cell1 (F := F) (G := H) (by rw [G2]; exact hA) hA1 g1.1 g1.2.2 cb rfl (fun p _ _ h1 h2 => P p h1 h2) P1 P15 r1 r2 r3 r4 r5 (fun w h1 h2 => W w (by omega) h2) W2 W3
  have fin := Z.fin C hF K hG (H := H) (fun p hp => hH p (by omega)) (by rw [hH 277 (by decide)]) (fun w hw => W w (by omega) (by omega)) J
  refine ⟨?_, fin.1, fin.2⟩
  rw [G2, g15]
  have e : (f 280 2 + (1 : Int32)) - (1 : Int32) = f 280 2 := Int32.toInt.inj (by
    have h := at_add32 (x := f 280 2) (y := (1 : Int32)) (by omega) (by omega)
    rw [at_sub32 (by omega) (by omega), h]
    omega)
  rw [e]
end T2MQ5
