/-! ===== block 0: (4) of a second ===== -/
section C0BAL
variable {fc fr F G : t2_F} {C n : Nat}
def c0_RB (fc fr : t2_F) (n : Nat) : Prop := c0_Rs fc fr ∧ (∀ C : Nat, C < n → c0_Rc fc fr C ∧ t2_cap (fc (18 + 4 * C) 0) ∧ t2_ck fr C) ∧ fc 1 14 = fr 280 11 ∧ fc 1 15 = fr 280 12 ∧ fc 1 11 = fr 280 8 ∧ fc 1 13 = fr 280 10 ∧ fc 1 16 = fr 280 13
theorem c0_ck_held {v x : Int32} (hx : t2_cap x) (h0 : G 280 (444 + 61 * C + 0) = x) (h1 : G 280 (444 + 61 * C + 1) = r_held_v v (0 : Int32) ((3600 : Int32) * x)) : t2_ck G C := by
  have hf := t2_full_r hx
  have e0 : (0 : Int32).toInt = 0 := rfl
  have b : (0 : Int32).toInt ≤ (r_held_v v (0 : Int32) ((3600 : Int32) * x)).toInt ∧ (r_held_v v (0 : Int32) ((3600 : Int32) * x)).toInt ≤ ((3600 : Int32) * x).toInt := t2_heldTo_b (v := v) (lo := (0 : Int32)) (hi := (3600 : Int32) * x) (by have := hx.1; omega)
  unfold t2_ck
  rw [h0, h1]
  exact ⟨hx, by omega, by omega⟩
theorem c0_ck_congr (h : t2_ck fr C) (e0 : G 280 (444 + 61 * C + 0) = fr 280 (444 + 61 * C + 0)) (e1 : G 280 (444 + 61 * C + 1) = fr 280 (444 + 61 * C + 1)) : t2_ck G C := by
  unfold t2_ck
  rw [e0, e1]
  exact h
theorem c0_RB.congrG (h : c0_RB fc fr n) (e : G 280 = fr 280) : c0_RB fc G n := by
  obtain ⟨hs, hc, e14, e15, e11, e13, e16⟩ := h
  refine ⟨hs.congr rfl (fun k _ => by rw [e]), fun C hC => ⟨(hc C hC).1.congr rfl (fun k _ => by rw [e]), (hc C hC).2.1, c0_ck_congr (hc C hC).2.2 (by rw [e]) (by rw [e])⟩, ?_, ?_, ?_, ?_, ?_⟩ <;> rw [e] <;> assumption
theorem c0_sh_eq {A B : Nat} {cA cB : Int32} (hA : A < n) (hB : B < n) (hAB : A ≠ B) (h : c0_RB fc fr n) (hG : G 280 = r_sh fr cA cB A B 280) : c0_RB (c0_sh fc A B) G n := by
  obtain ⟨hs, hc, e14, e15, e11, e13, e16⟩ := h
  have rA := (hc A hA).1
  have rB := (hc B hB).1
  have capA := (hc A hA).2.1
  have capB := (hc B hB).2.1
  have s15 : fc 4 15 = fr 280 49 := hs 15 (by omega)
  have s16 : fc 4 16 = fr 280 50 := hs 16 (by omega)
  have a0 := rA.1.1
  have a2 := rA.1.2.2
  have a8 := rA.2.2.2.1
  have b0 := rB.1.1
  have b2 := rB.1.2.2
  have b8 := rB.2.2.2.1
  have ho : r_lesser_v (fr 280 49) (fr 280 (444 + 61 * A + 1)) = t2_min_v (fc 4 15) (fc (18 + 4 * A) 2) := by rw [t2_les, s15, a2]
  have hi : r_lesser_v (t2_min_v (fc 4 15) (fc (18 + 4 * A) 2) * (fr 280 50) / (100 : Int32)) (((3600 : Int32) * (fr 280 (444 + 61 * B + 0))) - (fr 280 (444 + 61 * B + 1))) = t2_min_v (((t2_min_v (fc 4 15) (fc (18 + 4 * A) 2)) * (fc 4 16)) / (100 : Int32)) (((fc (18 + 4 * B) 0) * (3600 : Int32)) - (fc (18 + 4 * B) 2)) := by rw [t2_les, s16, b0, b2, t2_m32 (3600 : Int32)]
  obtain ⟨⟨g1, g2⟩, ⟨g3, g4⟩, go, g11, g12⟩ := r_sh_w (f := fr) (cA := cA) (cB := cB) hAB ho hi
  obtain ⟨⟨wA2, wA3, wA4, wA8, wAo⟩, ⟨wB2, wB3, wB4, wB8, wBo⟩, wp, wo, w14, w15⟩ := c0_sh_w (f := fc) hAB
  refine ⟨fun k hk => ?_, fun C hC => ?_, ?_, ?_, ?_, ?_, ?_⟩
  · rw [wp 4 (by decide) (by omega) (by omega), hG, go (34 + k) (by omega) (by omega) (by omega) (by omega) (by omega) (by omega)]
    exact hs k hk
  · by_cases eA : C = A
    · subst eA
      have k := c0_Rc_new (F := c0_sh fc C B) (G := G) rA capA (by rw [wA2, hG, g1, ← a2, ← a0, t2_m32 (3600 : Int32), Int32.sub_eq_add_neg]; rfl) wA3 wA4 (by rw [wA8, hG, g2, ← a8, ← a0, t2_m32 (3600 : Int32), Int32.sub_eq_add_neg]; rfl) wAo (fun w hw h1 h4 => by rw [hG]; exact go _ (by omega) (by omega) (by omega) (by omega) (by omega) (by omega))
      exact ⟨k.1, k.2, c0_ck_held (hc C hC).2.2.1 (by rw [hG]; exact go _ (by omega) (by omega) (by omega) (by omega) (by omega) (by omega)) (by rw [hG]; exact g1)⟩
    · by_cases eB : C = B
      · subst eB
        have k := c0_Rc_new (F := c0_sh fc A C) (G := G) rB capB (by rw [wB2, hG, g3, ← b2, ← b0, t2_m32 (3600 : Int32)]; rfl) wB3 wB4 (by rw [wB8, hG, g4, ← b8, ← b0, t2_m32 (3600 : Int32)]; rfl) wBo (fun w hw h1 h4 => by rw [hG]; exact go _ (by omega) (by omega) (by omega) (by omega) (by omega) (by omega))
        exact ⟨k.1, k.2, c0_ck_held (hc C hC).2.2.1 (by rw [hG]; exact go _ (by omega) (by omega) (by omega) (by omega) (by omega) (by omega)) (by rw [hG]; exact g3)⟩
      · have ep := wp (18 + 4 * C) (by omega) (by omega) (by omega)
        have eg : ∀ k : Nat, k < 61 → G 280 (444 + 61 * C + k) = fr 280 (444 + 61 * C + k) := fun k hk => by rw [hG]; exact go _ (by omega) (by omega) (by omega) (by omega) (by omega) (by omega)
        exact ⟨(hc C hC).1.congr ep eg, by rw [ep]; exact (hc C hC).2.1, c0_ck_congr (hc C hC).2.2 (eg 0 (by decide)) (eg 1 (by decide))⟩
  · rw [w14, hG, g11, e14]
  · rw [w15, hG, g12, e15]
  · rw [wo 11 (by decide) (by decide), hG, go 8 (by omega) (by omega) (by omega) (by omega) (by omega) (by omega), e11]
  · rw [wo 13 (by decide) (by decide), hG, go 10 (by omega) (by omega) (by omega) (by omega) (by omega) (by omega), e13]
  · rw [wo 16 (by decide) (by decide), hG, go 13 (by omega) (by omega) (by omega) (by omega) (by omega) (by omega), e16]
theorem c0_shuttle_eq {i : Nat} (hi : i + 1 < n) (h : c0_RB fc fr n) : c0_RB (c0_shuttle_m fc i) (r_shuttle_m fr (Int32.ofNat i) i) n := by
  have hs14 : fc 4 14 = fr 280 48 := h.1 14 (by omega)
  have pi : fc (18 + 4 * i) 3 = r_partOf_v fr (Int32.ofNat i) i := (h.2.1 i (by omega)).1.2.1.1
  have pj : fc (18 + 4 * (i + 1)) 3 = r_partOf_v fr (Int32.ofNat i + (1 : Int32)) (i + 1) := (h.2.1 (i + 1) hi).1.2.1.1
  have bi : 0 ≤ (r_partOf_v fr (Int32.ofNat i) i).toInt ∧ (r_partOf_v fr (Int32.ofNat i) i).toInt ≤ 1000 := t2_ckp (h.2.1 i (by omega)).2.2
  have bj : 0 ≤ (r_partOf_v fr (Int32.ofNat i + (1 : Int32)) (i + 1)).toInt ∧ (r_partOf_v fr (Int32.ofNat i + (1 : Int32)) (i + 1)).toInt ≤ 1000 := t2_ckp (h.2.1 (i + 1) hi).2.2
  have hG := r_shuttle_sh (f := fr) (c := Int32.ofNat i) (C := i)
  rw [c0_shuttle_sh, hs14, pi, pj]
  have hd : (r_partOf_v fr (Int32.ofNat i) i - r_partOf_v fr (Int32.ofNat i + (1 : Int32)) (i + 1)).toInt = (r_partOf_v fr (Int32.ofNat i) i).toInt - (r_partOf_v fr (Int32.ofNat i + (1 : Int32)) (i + 1)).toInt := at_sub32 (by omega) (by omega)
  by_cases h1 : (fr 280 48).toInt < (r_size_v (r_partOf_v fr (Int32.ofNat i) i - r_partOf_v fr (Int32.ofNat i + (1 : Int32)) (i + 1))).toInt
  · rw [if_pos h1] at hG
    have h1' : (fr 280 48).toInt < (t2_abs_v (r_partOf_v fr (Int32.ofNat i) i - r_partOf_v fr (Int32.ofNat i + (1 : Int32)) (i + 1))).toInt := h1
    rw [if_pos h1']
    by_cases h2 : 0 < (r_partOf_v fr (Int32.ofNat i) i - r_partOf_v fr (Int32.ofNat i + (1 : Int32)) (i + 1)).toInt
    · rw [if_pos h2] at hG
      rw [if_pos (by omega)]
      exact c0_sh_eq (by omega) hi (by omega) h hG
    · rw [if_neg h2] at hG
      rw [if_neg (by omega)]
      exact c0_sh_eq hi (by omega) (by omega) h hG
  · rw [if_neg h1] at hG
    have h1' : ¬ (fr 280 48).toInt < (t2_abs_v (r_partOf_v fr (Int32.ofNat i) i - r_partOf_v fr (Int32.ofNat i + (1 : Int32)) (i + 1))).toInt := h1
    rw [if_neg h1']
    exact h.congrG hG
theorem c0_given {b : Int32} (hc : (fc 1 5).toInt.toNat = n) (hn : n ≤ 16) (F0 : c0_shuntCells_f95 fc 0 = fl_row fc 1 (upd (fc 1) 16 b)) : c0_GI fc (c0_shuntCells_m fc) b n n := by
  have gi : ∀ k : Nat, k ≤ n → c0_GI fc (c0_shuntCells_f95 fc k) b n k := by
    intro k
    induction k with
    | zero =>
      intro _
      rw [F0]
      refine ⟨fun C h => ⟨fun q => absurd q.1 (Nat.not_lt_zero C), fun _ => fl_row_ne (by omega)⟩, ?_, ?_, ?_, fun j j1 j2 j3 => ?_, fl_row_ne (by decide)⟩
      · rw [fl_row_self, upd_ne (by decide), t2_sb_z, Int32.add_zero]
      · rw [fl_row_self, upd_ne (by decide), t2_sb_z, Int32.add_zero]
      · rw [fl_row_self, upd_self]
      · rw [fl_row_self, upd_ne j3]
    | succ k ih =>
      intro hk
      unfold c0_shuntCells_f95
      exact c0_GI_step hn (by omega) (ih (by omega))
  have m : c0_shuntCells_m fc = c0_shuntCells_f95 fc n := by
    unfold c0_shuntCells_m
    rw [hc]
  rw [m]
  exact gi n (Nat.le_refl n)
theorem c0_chosen0 {b : Int32} (hj : c0_shuntCells_j13_0 fc = r_shuntAll_j24_0 fr) (hl : c0_leastPart_v fc = r_leastPart_v fr) (s14 : fc 4 14 = fr 280 48) (wf : t2_wf (fun f' => c0_shuntCells_g49 f' (c0_shuntCells_j13_0 fc) (r_leastPart_v fr + fr 280 48)) (r_shuntAll_j24_0 fr).toInt.toNat fc = fl_row fc 1 (upd (fc 1) 16 b)) : c0_shuntCells_f95 fc 0 = fl_row fc 1 (upd (fc 1) 16 b) := by
  unfold c0_shuntCells_f95
  rw [← wf, ← hj, hl, s14]
theorem c0_shunt_two (hc : (fc 1 5).toInt.toNat = n) (hg : (fr 280 2).toInt.toNat = n) (hn : n ≤ 16) (h : c0_RB fc fr n) (h16 : fc 1 16 = 0) (ho : 0 ≤ (fr 280 47).toInt ∧ (fr 280 47).toInt ≤ 16) : r_SI fr (r_shuntAll_m fr) n ∧ c0_GI fc (c0_shuntCells_m fc) (r_shuntAll_m fr 280 13) n n := by
  obtain ⟨hs, hC, e14, e15, e11, e13, e16⟩ := h
  have s2 : fc 4 2 = fr 280 36 := hs 2 (by omega)
  have s12 : fc 4 12 = fr 280 46 := hs 12 (by omega)
  have s13 : fc 4 13 = fr 280 47 := hs 13 (by omega)
  have s14 : fc 4 14 = fr 280 48 := hs 14 (by omega)
  have hj : c0_shuntCells_j13_0 fc = r_shuntAll_j24_0 fr := by
    unfold c0_shuntCells_j13_0 r_shuntAll_j24_0
    rw [e11, s2, s13]
  have hl : c0_leastPart_v fc = r_leastPart_v fr := by
    unfold c0_leastPart_v r_leastPart_v
    rw [hc, hg]
    exact c0_least_eq (fun C h => (hC C h).1)
  obtain ⟨si, wf⟩ := c0_chosen (X := (r_shuntAll_j24_0 fr).toInt.toNat) (above := r_leastPart_v fr + fr 280 48) (a := c0_shuntCells_j13_0 fc) (fc := fc) (g0 := fr) hc hn hg (fun C h => (hC C h).1.2.1.1) h16 (e16.symm.trans h16) (Eq.refl _) (Eq.refl _) ho
  exact ⟨si, c0_given hc hn (c0_chosen0 hj hl s14 wf)⟩
theorem c0_shunt_eq (hc : (fc 1 5).toInt.toNat = n) (hg : (fr 280 2).toInt.toNat = n) (hn : n ≤ 16) (h : c0_RB fc fr n) (h16 : fc 1 16 = 0) (ho : 0 ≤ (fr 280 47).toInt ∧ (fr 280 47).toInt ≤ 16) : c0_RB (c0_shuntCells_m fc) (r_shuntAll_m fr) n := by
  obtain ⟨hs, hC, e14, e15, e11, e13, e16⟩ := h
  have s12 : fc 4 12 = fr 280 46 := hs 12 (by omega)
  obtain ⟨si, gi⟩ := c0_shunt_two hc hg hn ⟨hs, hC, e14, e15, e11, e13, e16⟩ h16 ho
  generalize hb : r_shuntAll_m fr 280 13 = b at gi
  obtain ⟨q1, q2, q3, q4, q5, q6⟩ := gi
  obtain ⟨-, p2, p3, p4, p5⟩ := si
  rw [hb] at p2 p4 p5
  refine ⟨fun k hk => ?_, fun C h => ?_, ?_, ?_, ?_, ?_, ?_⟩
  · rw [q6, p3 (34 + k) (by omega) (by omega) (by omega) (fun D hD => ⟨by omega, by omega⟩)]
    exact hs k hk
  · have rC := (hC C h).1
    have capC := (hC C h).2.1
    have go : ∀ w : Nat, w < 61 → w ≠ 1 → w ≠ 4 → r_shuntAll_m fr 280 (444 + 61 * C + w) = fr 280 (444 + 61 * C + w) := fun w hw h1 h4 => p3 _ (by omega) (by omega) (by omega) (fun D hD => ⟨by omega, by omega⟩)
    by_cases hbt : t2_bt b C = true
    · obtain ⟨x2, x3, x4, x8, xo⟩ := (q1 C h).1 ⟨h, hbt⟩
      obtain ⟨y1, y4⟩ := (p2 C h).1 hbt
      have k := c0_Rc_new (F := c0_shuntCells_m fc) (G := r_shuntAll_m fr) rC capC (by rw [x2, y1, ← rC.1.2.2, ← rC.1.1, t2_les, s12, t2_m32 (3600 : Int32)]; rfl) x3 x4 (by rw [x8, y4, ← rC.2.2.2.1, ← rC.1.1, s12, t2_m32 (3600 : Int32)]; rfl) xo go
      exact ⟨k.1, k.2, c0_ck_held (hC C h).2.2.1 (go 0 (by decide) (by decide) (by decide)) y1⟩
    · have x := (q1 C h).2 (fun q => hbt q.2)
      obtain ⟨y1, y4⟩ := (p2 C h).2 (by cases e : t2_bt b C with | true => exact absurd e hbt | false => rfl)
      have eg : ∀ k : Nat, k < 61 → r_shuntAll_m fr 280 (444 + 61 * C + k) = fr 280 (444 + 61 * C + k) := fun k hk => by
        by_cases k1 : k = 1
        · rw [k1]; exact y1
        · by_cases k4 : k = 4
          · rw [k4]; exact y4
          · exact go k hk k1 k4
      exact ⟨rC.congr x eg, by rw [x]; exact capC, c0_ck_congr (hC C h).2.2 (eg 0 (by decide)) (eg 1 (by decide))⟩
  · rw [q5 14 (by decide) (by decide) (by decide), p3 11 (by decide) (by decide) (by decide) (fun D hD => ⟨by omega, by omega⟩), e14]
  · rw [q5 15 (by decide) (by decide) (by decide), p3 12 (by decide) (by decide) (by decide) (fun D hD => ⟨by omega, by omega⟩), e15]
  · rw [q3, p4, e11]
  · have ev : ∀ k : Nat, k ≤ n → t2_sb b (fun C => t2_min_v (fc 4 12) (fc (18 + 4 * C) 2)) k = t2_sb b (fun C => r_lesser_v (fr 280 46) (fr 280 (444 + 61 * C + 1))) k := by
      intro k
      induction k with
      | zero => intro _; rw [t2_sb_z, t2_sb_z]
      | succ k ih =>
        intro hk
        unfold t2_sb
        rw [ih (by omega), t2_les, s12, (hC k (by omega)).1.1.2.2]
    rw [q2, p5, e13, ev n (Nat.le_refl n)]
  · rw [q4, hb]
theorem c0_balance_eq (hc : (fc 1 5).toInt.toNat = n) (hg : (fr 280 2).toInt.toNat = n) (hn : n ≤ 16) (h : c0_RB fc fr n) (hl : fc 10 3 = fr 280 6) (ht : fc 1 6 = fr 280 7) (ho : 0 ≤ (fr 280 47).toInt ∧ (fr 280 47).toInt ≤ 16) : c0_RB (c0_balance_m fc) (r_goBalance_m fr) n := by
  have c1 : (1 : Int32).toInt = 1 := by decide +kernel
  have c2 : (2 : Int32).toInt = 2 := by decide +kernel
  have s11 : fc 4 11 = fr 280 45 := h.1 11 (by omega)
  have hz : c0_RB (fl_row fc 1 (upd (fc 1) 16 (0 : Int32))) (fl_row (fl_row fr 280 (upd (fr 280) 13 (0 : Int32))) 277 (upd (fr 277) 6 (0 : Int32))) n := by
    obtain ⟨hs, hC, e14, e15, e11, e13, e16⟩ := h
    have g : ∀ w : Nat, w ≠ 13 → (fl_row (fl_row fr 280 (upd (fr 280) 13 (0 : Int32))) 277 (upd (fr 277) 6 (0 : Int32))) 280 w = fr 280 w := fun w hw => by rw [fl_row_ne (by decide), fl_row_self, upd_ne hw]
    refine ⟨hs.congr (fl_row_ne (by decide)) (fun k hk => g _ (by omega)), fun C hC' => ⟨(hC C hC').1.congr (fl_row_ne (by omega)) (fun k hk => g _ (by omega)), by rw [fl_row_ne (by omega)]; exact (hC C hC').2.1, c0_ck_congr (hC C hC').2.2 (g _ (by omega)) (g _ (by omega))⟩, ?_, ?_, ?_, ?_, ?_⟩
    · rw [g 11 (by decide), fl_row_self, upd_ne (by decide), e14]
    · rw [g 12 (by decide), fl_row_self, upd_ne (by decide), e15]
    · rw [g 8 (by decide), fl_row_self, upd_ne (by decide), e11]
    · rw [g 10 (by decide), fl_row_self, upd_ne (by decide), e13]
    · rw [fl_row_self, upd_self, fl_row_ne (by decide), fl_row_self, upd_self]
  unfold c0_balance_m r_goBalance_m
  rw [hl, s11]
  by_cases h6 : (fr 280 6).toInt = 0
  · rw [if_pos h6, if_pos h6]
    by_cases m1 : (fr 280 45).toInt = (1 : Int32).toInt
    · rw [if_pos m1, if_neg (show ¬ (fr 280 45).toInt = (2 : Int32).toInt by omega), if_pos m1]
      refine c0_shunt_eq ?_ ?_ hn hz ?_ ?_
      · rw [fl_row_self, upd_ne (by decide)]
        exact hc
      · rw [fl_row_ne (by decide), fl_row_self, upd_ne (by decide)]
        exact hg
      · rw [fl_row_self, upd_self]
      · rw [fl_row_ne (by decide), fl_row_self, upd_ne (by decide)]
        exact ho
    · rw [if_neg m1]
      by_cases m2 : (fr 280 45).toInt = (2 : Int32).toInt
      · rw [if_pos m2, if_pos m2]
        have ej : c0_balance_j58_0 fc = r_goBalance_j48_0 fr := by
          unfold c0_balance_j58_0 r_goBalance_j48_0
          rw [ht]
        have loop : ∀ k : Nat, k ≤ (n - (r_goBalance_j48_0 fr).toInt.toNat) / 2 → c0_RB (c0_balance_f67 fc k) (r_goBalance_f57 fr k) n := by
          intro k
          induction k with
          | zero =>
            intro _
            show c0_RB (fl_row fc 1 (upd (fc 1) 16 (0 : Int32))) (if (fr 280 45).toInt = (1 : Int32).toInt then _ else _) n
            rw [if_neg m1]
            exact hz
          | succ k ih =>
            intro hk
            show c0_RB (c0_shuttle_m (c0_balance_f67 fc k) ((c0_balance_j58_0 fc).toInt.toNat + 2 * k)) (r_shuttle_m (r_goBalance_f57 fr k) (Int32.ofNat ((r_goBalance_j48_0 fr).toInt.toNat + 2 * k)) ((r_goBalance_j48_0 fr).toInt.toNat + 2 * k)) n
            rw [ej]
            exact c0_shuttle_eq (by omega) (ih (by omega))
        rw [hc, hg, ej]
        exact loop _ (Nat.le_refl _)
      · rw [if_neg m2, if_neg m2, if_neg m1]
        exact hz
  · rw [if_neg h6, if_neg h6]
    exact hz
end C0BAL
