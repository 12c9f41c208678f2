/-! ===== the same words: the same relation ===== -/
section C0SAME
variable {f g F G fc fr : t2_F} {p q r w n j : Nat}
/-- two blocks whose words are the same, cells up to n -/
def t2_same (F G : t2_F) (n : Nat) : Prop :=
  (∀ w : Nat, 5 ≤ w → w ≤ 16 → F 0 w = G 0 w) ∧
  ((F 2 6 = G 2 6 ∧ F 2 7 = G 2 7 ∧ F 2 8 = G 2 8) ∧ (∀ w : Nat, w < 30 → F 3 w = G 3 w) ∧ (∀ w : Nat, w < 3 → F 4 w = G 4 w) ∧ (∀ w : Nat, w < 24 → F 5 w = G 5 w) ∧ (∀ w : Nat, w < 12 → F 6 w = G 6 w) ∧ (∀ w : Nat, w < 48 → F 7 w = G 7 w) ∧ ∀ w : Nat, w < 40 → F 8 w = G 8 w) ∧
  ((F 9 3 = G 9 3 ∧ F 9 4 = G 9 4 ∧ F 9 5 = G 9 5 ∧ F 9 6 = G 9 6) ∧ (∀ w : Nat, w < 11 → F 10 w = G 10 w) ∧ (∀ w : Nat, w < 4 → F 11 w = G 11 w) ∧ (F 12 2 = G 12 2 ∧ F 12 3 = G 12 3) ∧ ∀ w : Nat, w < 72 → F 13 w = G 13 w) ∧
  ((F 15 2 = G 15 2 ∧ F 15 3 = G 15 3) ∧ ∀ w : Nat, w < 96 → F 16 w = G 16 w) ∧
  (∀ j : Nat, j < n → (∀ w : Nat, w < 19 → F (17 + 4 * j) w = G (17 + 4 * j) w) ∧ F (17 + 4 * j + 1) 2 = G (17 + 4 * j + 1) 2 ∧ (∀ w : Nat, w < 32 → F (17 + 4 * j + 2) w = G (17 + 4 * j + 2) w) ∧ ∀ w : Nat, w < 11 → F (17 + 4 * j + 3) w = G (17 + 4 * j + 3) w) ∧
  ∀ j : Nat, j < 3 → (F (81 + 3 * j) 2 = G (81 + 3 * j) 2 ∧ F (81 + 3 * j) 3 = G (81 + 3 * j) 3) ∧ (∀ w : Nat, w < 16 → F (81 + 3 * j + 1) w = G (81 + 3 * j + 1) w) ∧ ∀ w : Nat, w < 16 → F (81 + 3 * j + 2) w = G (81 + 3 * j + 2) w
theorem t2_same.src {H : t2_F} (h : t2_same F G n) (R : ∀ o : Nat, o < 90 → G o = H o) (hn : n ≤ 16) : t2_same F H n := by
  obtain ⟨s1, ⟨⟨s26, s27, s28⟩, s3, s4, s5, s6, s7, s8⟩, ⟨⟨s93, s94, s95, s96⟩, s10, s11, ⟨s122, s123⟩, s13⟩, ⟨⟨s152, s153⟩, s16⟩, sc, sm⟩ := h
  rw [R 0 (by decide)] at s1
  rw [R 2 (by decide)] at s26 s27 s28
  rw [R 3 (by decide)] at s3
  rw [R 4 (by decide)] at s4
  rw [R 5 (by decide)] at s5
  rw [R 6 (by decide)] at s6
  rw [R 7 (by decide)] at s7
  rw [R 8 (by decide)] at s8
  rw [R 9 (by decide)] at s93 s94 s95 s96
  rw [R 10 (by decide)] at s10
  rw [R 11 (by decide)] at s11
  rw [R 12 (by decide)] at s122 s123
  rw [R 13 (by decide)] at s13
  rw [R 15 (by decide)] at s152 s153
  rw [R 16 (by decide)] at s16
  refine ⟨s1, ⟨⟨s26, s27, s28⟩, s3, s4, s5, s6, s7, s8⟩, ⟨⟨s93, s94, s95, s96⟩, s10, s11, ⟨s122, s123⟩, s13⟩, ⟨⟨s152, s153⟩, s16⟩, fun j hj => ?_, fun j hj => ?_⟩
  · have k := sc j hj
    rw [R (17 + 4 * j) (by omega), R (17 + 4 * j + 1) (by omega), R (17 + 4 * j + 2) (by omega), R (17 + 4 * j + 3) (by omega)] at k
    exact k
  · have k := sm j hj
    rw [R (81 + 3 * j) (by omega), R (81 + 3 * j + 1) (by omega), R (81 + 3 * j + 2) (by omega)] at k
    exact k
/-- State.become: the dest's block is the source's -/
theorem bs_same (hpq : p + 90 ≤ q ∨ q + 90 ≤ p) (hn : 0 ≤ (f q 5).toInt ∧ (f q 5).toInt ≤ 16) : t2_same (fun o => bs_m f p q (p + o)) (fun o => f (q + o)) (f q 5).toInt.toNat ∧ bs_m f p q (p + 12) 0 = f (p + 12) 0 ∧ bs_m f p q (p + 15) 0 = f (p + 15) 0 := by
  generalize hN : (f q 5).toInt.toNat = n
  have h16 : n ≤ 16 := by omega
  -- the source stays
  have C : ∀ r : Nat, q ≤ r → r < q + 90 → bs_cells f p q n r = f r := fun r h1 h2 => bs_cells_fr (by omega)
  have M : ∀ r : Nat, q ≤ r → r < q + 90 → bs_marks (bs_cells f p q n) p q 3 r = f r := fun r h1 h2 => by rw [bs_marks_fr (by omega), C r h1 h2]
  have ML : ∀ r : Nat, p ≤ r → r < p + 17 → bs_marks (bs_cells f p q n) p q 3 r = f r := fun r h1 h2 => by rw [bs_marks_fr (by omega), bs_cells_fr (by omega)]
  have E : ∀ r : Nat, r ≠ p → bs_m f p q r = bs_told (bs_marks (bs_cells f p q n) p q 3) p q r := fun r hr => by
    unfold bs_m bs_end
    rw [hN, fl_row_ne hr]
  generalize hX : bs_marks (bs_cells f p q n) p q 3 = X at M ML E
  obtain ⟨⟨t6, t7, t8⟩, t1, t2, t3, t4, t5, t66⟩ := bc_told_w (f := X) (p := p + 2) (q := q + 2) (by omega)
  obtain ⟨⟨w3, w4, w5, w6⟩, w1, w2, ⟨b0, b2, b3⟩, b4⟩ := bc_watch_w (f := bc_told_m X (p + 2) (q + 2)) (p := p + 9) (q := q + 9) (by omega)
  obtain ⟨⟨r0, r2, r3⟩, r4⟩ := bc_trace_w (f := bc_watch_m (bc_told_m X (p + 2) (q + 2)) (p + 9) (q + 9)) (p := p + 15) (q := q + 15) (by omega)
  have T1 : ∀ r : Nat, (r < p + 15 ∨ p + 17 ≤ r) → bs_told X p q r = bc_watch_m (bc_told_m X (p + 2) (q + 2)) (p + 9) (q + 9) r := fun r hr => by
    unfold bs_told
    rw [bc_trace_fr (by omega)]
  have T2 : ∀ r : Nat, (r < p + 9 ∨ p + 14 ≤ r) → bc_watch_m (bc_told_m X (p + 2) (q + 2)) (p + 9) (q + 9) r = bc_told_m X (p + 2) (q + 2) r := fun r hr => bc_watch_fr (by omega)
  have T3 : ∀ r : Nat, (r < p + 2 ∨ p + 9 ≤ r) → bc_told_m X (p + 2) (q + 2) r = X r := fun r hr => bc_told_fr (by omega)
  refine ⟨⟨fun w h5 h16' => ?_, ⟨⟨?_, ?_, ?_⟩, fun w hw => ?_, fun w hw => ?_, fun w hw => ?_, fun w hw => ?_, fun w hw => ?_, fun w hw => ?_⟩, ⟨⟨?_, ?_, ?_, ?_⟩, fun w hw => ?_, fun w hw => ?_, ⟨?_, ?_⟩, fun w hw => ?_⟩, ⟨⟨?_, ?_⟩, fun w hw => ?_⟩, fun j hj => ?_, fun j hj => ?_⟩, ?_, ?_⟩
  · show bs_m f p q (p + 0) w = f (q + 0) w
    unfold bs_m
    rw [hN, hX]
    unfold bs_end
    have e : ∀ k : Nat, bs_told X p q q k = f q k := fun k => by rw [bs_told_fr (by omega), M q (by omega) (by omega)]
    rw [show p + 0 = p by omega, show q + 0 = q by omega, fl_row_self]
    have : w = 5 ∨ w = 6 ∨ w = 7 ∨ w = 8 ∨ w = 9 ∨ w = 10 ∨ w = 11 ∨ w = 12 ∨ w = 13 ∨ w = 14 ∨ w = 15 ∨ w = 16 := by omega
    rcases this with h | h | h | h | h | h | h | h | h | h | h | h <;> subst h <;> simp (disch := omega) only [upd_self, upd_ne, e]
  · show bs_m f p q (p + 2) 6 = f (q + 2) 6
    rw [E _ (by omega), T1 _ (by omega), T2 _ (by omega), t6, M _ (by omega) (by omega)]
  · show bs_m f p q (p + 2) 7 = f (q + 2) 7
    rw [E _ (by omega), T1 _ (by omega), T2 _ (by omega), t7, M _ (by omega) (by omega)]
  · show bs_m f p q (p + 2) 8 = f (q + 2) 8
    rw [E _ (by omega), T1 _ (by omega), T2 _ (by omega), t8, M _ (by omega) (by omega)]
  · show bs_m f p q (p + 3) w = f (q + 3) w
    rw [E _ (by omega), T1 _ (by omega), T2 _ (by omega), show p + 3 = p + 2 + 1 by omega, t1 w hw, M _ (by omega) (by omega)]
  · show bs_m f p q (p + 4) w = f (q + 4) w
    rw [E _ (by omega), T1 _ (by omega), T2 _ (by omega), show p + 4 = p + 2 + 2 by omega, t2 w hw, M _ (by omega) (by omega)]
  · show bs_m f p q (p + 5) w = f (q + 5) w
    rw [E _ (by omega), T1 _ (by omega), T2 _ (by omega), show p + 5 = p + 2 + 3 by omega, t3 w hw, M _ (by omega) (by omega)]
  · show bs_m f p q (p + 6) w = f (q + 6) w
    rw [E _ (by omega), T1 _ (by omega), T2 _ (by omega), show p + 6 = p + 2 + 4 by omega, t4 w hw, M _ (by omega) (by omega)]
  · show bs_m f p q (p + 7) w = f (q + 7) w
    rw [E _ (by omega), T1 _ (by omega), T2 _ (by omega), show p + 7 = p + 2 + 5 by omega, t5 w hw, M _ (by omega) (by omega)]
  · show bs_m f p q (p + 8) w = f (q + 8) w
    rw [E _ (by omega), T1 _ (by omega), T2 _ (by omega), show p + 8 = p + 2 + 6 by omega, t66 w hw, M _ (by omega) (by omega)]
  · show bs_m f p q (p + 9) 3 = f (q + 9) 3
    rw [E _ (by omega), T1 _ (by omega), w3, T3 _ (by omega), M _ (by omega) (by omega)]
  · show bs_m f p q (p + 9) 4 = f (q + 9) 4
    rw [E _ (by omega), T1 _ (by omega), w4, T3 _ (by omega), M _ (by omega) (by omega)]
  · show bs_m f p q (p + 9) 5 = f (q + 9) 5
    rw [E _ (by omega), T1 _ (by omega), w5, T3 _ (by omega), M _ (by omega) (by omega)]
  · show bs_m f p q (p + 9) 6 = f (q + 9) 6
    rw [E _ (by omega), T1 _ (by omega), w6, T3 _ (by omega), M _ (by omega) (by omega)]
  · show bs_m f p q (p + 10) w = f (q + 10) w
    rw [E _ (by omega), T1 _ (by omega), show p + 10 = p + 9 + 1 by omega, w1 w hw, T3 _ (by omega), M _ (by omega) (by omega)]
  · show bs_m f p q (p + 11) w = f (q + 11) w
    rw [E _ (by omega), T1 _ (by omega), show p + 11 = p + 9 + 2 by omega, w2 w hw, T3 _ (by omega), M _ (by omega) (by omega)]
  · show bs_m f p q (p + 12) 2 = f (q + 12) 2
    rw [E _ (by omega), T1 _ (by omega), show p + 12 = p + 9 + 3 by omega, b2, T3 _ (by omega), M _ (by omega) (by omega)]
  · show bs_m f p q (p + 12) 3 = f (q + 12) 3
    rw [E _ (by omega), T1 _ (by omega), show p + 12 = p + 9 + 3 by omega, b3, T3 _ (by omega), M _ (by omega) (by omega)]
  · show bs_m f p q (p + 13) w = f (q + 13) w
    rw [E _ (by omega), T1 _ (by omega), show p + 13 = p + 9 + 4 by omega, b4 w hw, T3 _ (by omega), M _ (by omega) (by omega)]
  · show bs_m f p q (p + 15) 2 = f (q + 15) 2
    rw [E _ (by omega)]
    unfold bs_told
    rw [r2, T2 _ (by omega), T3 _ (by omega), M _ (by omega) (by omega)]
  · show bs_m f p q (p + 15) 3 = f (q + 15) 3
    rw [E _ (by omega)]
    unfold bs_told
    rw [r3, T2 _ (by omega), T3 _ (by omega), M _ (by omega) (by omega)]
  · show bs_m f p q (p + 16) w = f (q + 16) w
    rw [E _ (by omega)]
    unfold bs_told
    rw [show p + 16 = p + 15 + 1 by omega, r4 w hw, T2 _ (by omega), T3 _ (by omega), M _ (by omega) (by omega)]
  · obtain ⟨c1, c2, c3, c4⟩ := bs_cells_w (f := f) (p := p) (q := q) (j := j) hpq h16 hj
    have K : ∀ r : Nat, p + 17 + 4 * j ≤ r → r < p + 17 + 4 * j + 4 → bs_m f p q r = bs_cells f p q n r := fun r h1 h2 => by
      rw [E r (by omega), bs_told_fr (by omega), ← hX, bs_marks_fr (by omega)]
    refine ⟨fun w hw => ?_, ?_, fun w hw => ?_, fun w hw => ?_⟩
    · show bs_m f p q (p + (17 + 4 * j)) w = f (q + (17 + 4 * j)) w
      rw [K _ (by omega) (by omega), show p + (17 + 4 * j) = p + 17 + 4 * j by omega, c1 w hw, show q + (17 + 4 * j) = q + 17 + 4 * j by omega]
    · show bs_m f p q (p + (17 + 4 * j + 1)) 2 = f (q + (17 + 4 * j + 1)) 2
      rw [K _ (by omega) (by omega), show p + (17 + 4 * j + 1) = p + 17 + 4 * j + 1 by omega, c2, show q + (17 + 4 * j + 1) = q + 17 + 4 * j + 1 by omega]
    · show bs_m f p q (p + (17 + 4 * j + 2)) w = f (q + (17 + 4 * j + 2)) w
      rw [K _ (by omega) (by omega), show p + (17 + 4 * j + 2) = p + 17 + 4 * j + 2 by omega, c3 w hw, show q + (17 + 4 * j + 2) = q + 17 + 4 * j + 2 by omega]
    · show bs_m f p q (p + (17 + 4 * j + 3)) w = f (q + (17 + 4 * j + 3)) w
      rw [K _ (by omega) (by omega), show p + (17 + 4 * j + 3) = p + 17 + 4 * j + 3 by omega, c4 w hw, show q + (17 + 4 * j + 3) = q + 17 + 4 * j + 3 by omega]
  · obtain ⟨⟨c1, c2⟩, c3, c4⟩ := bs_marks_w (f := bs_cells f p q n) (p := p) (q := q) (j := j) hpq (Nat.le_refl 3) hj
    have K : ∀ r : Nat, p + 81 ≤ r → bs_m f p q r = bs_marks (bs_cells f p q n) p q 3 r := fun r h1 => by
      rw [E r (by omega), bs_told_fr (by omega), ← hX]
    refine ⟨⟨?_, ?_⟩, fun w hw => ?_, fun w hw => ?_⟩
    · show bs_m f p q (p + (81 + 3 * j)) 2 = f (q + (81 + 3 * j)) 2
      rw [K _ (by omega), show p + (81 + 3 * j) = p + 81 + 3 * j by omega, c1, C _ (by omega) (by omega), show q + (81 + 3 * j) = q + 81 + 3 * j by omega]
    · show bs_m f p q (p + (81 + 3 * j)) 3 = f (q + (81 + 3 * j)) 3
      rw [K _ (by omega), show p + (81 + 3 * j) = p + 81 + 3 * j by omega, c2, C _ (by omega) (by omega), show q + (81 + 3 * j) = q + 81 + 3 * j by omega]
    · show bs_m f p q (p + (81 + 3 * j + 1)) w = f (q + (81 + 3 * j + 1)) w
      rw [K _ (by omega), show p + (81 + 3 * j + 1) = p + 81 + 3 * j + 1 by omega, c3 w hw, C _ (by omega) (by omega), show q + (81 + 3 * j + 1) = q + 81 + 3 * j + 1 by omega]
    · show bs_m f p q (p + (81 + 3 * j + 2)) w = f (q + (81 + 3 * j + 2)) w
      rw [K _ (by omega), show p + (81 + 3 * j + 2) = p + 81 + 3 * j + 2 by omega, c4 w hw, C _ (by omega) (by omega), show q + (81 + 3 * j + 2) = q + 81 + 3 * j + 2 by omega]
  · rw [E _ (by omega), T1 _ (by omega), show p + 12 = p + 9 + 3 by omega, b0, T3 _ (by omega), ML _ (by omega) (by omega)]
  · rw [E _ (by omega)]
    unfold bs_told
    rw [r0, T2 _ (by omega), T3 _ (by omega), ML _ (by omega) (by omega)]
end C0SAME
