/-! ===== block 0: (2) of a second, the current ===== -/
section C0CUR
variable {fc fr fc' fr' : t2_F} {C : Nat} {c x : Int32}
theorem c0_Rc.congr (h : c0_Rc fc fr C) (e : fc' (18 + 4 * C) = fc (18 + 4 * C)) (e2 : ∀ k : Nat, k < 61 → fr' 280 (444 + 61 * C + k) = fr 280 (444 + 61 * C + k)) : c0_Rc fc' fr' C := by
  unfold c0_Rc r_partOf_v at *
  rw [e, e2 0 (by omega), e2 1 (by omega), e2 2 (by omega), e2 3 (by omega), e2 4 (by omega), e2 5 (by omega), e2 6 (by omega), e2 9 (by omega), e2 60 (by omega)]
  exact h
theorem c0_Rs.congr (h : c0_Rs fc fr) (e : fc' 4 = fc 4) (e2 : ∀ k : Nat, k < 30 → fr' 280 (34 + k) = fr 280 (34 + k)) : c0_Rs fc' fr' := fun k hk => by rw [e, e2 k hk]; exact h k hk
theorem c0_Rk.congr (h : c0_Rk fc fr) (e : fc' 5 = fc 5) (e2 : ∀ k : Nat, k < 3 → fr' 280 (64 + k) = fr 280 (64 + k)) : c0_Rk fc' fr' := fun k hk => by rw [e, e2 k hk]; exact h k hk
theorem c0_Rz.congr (h : c0_Rz fc fr) (e : fc' 3 = fc 3) (e7 : fc' 7 = fc 7) (e0 : fr' 280 17 = fr 280 17) (e2 : ∀ k : Nat, k < 12 → fr' 280 (67 + k) = fr 280 (67 + k)) : c0_Rz fc' fr' := by
  obtain ⟨h1, h2, h3⟩ := h
  refine ⟨by rw [e, e0]; exact h1, fun k hk => by rw [e7, e2 k hk]; exact h2 k hk, fun k hk => ?_⟩
  have := e2 (2 * k + 1) (by omega)
  rw [show 67 + 2 * k + 1 = 67 + (2 * k + 1) by omega, this]
  exact h3 k hk
/-- what limits are reckoned from -/
def c0_RL (fc fr : t2_F) (n : Nat) : Prop := (n ≤ 16 ∧ (fc 1 5).toInt = n ∧ (fr 280 2).toInt = n) ∧ c0_Rs fc fr ∧ c0_Rz fc fr ∧ (0 ≤ (fr 280 17).toInt ∧ (fr 280 17).toInt ≤ 6) ∧ ∀ C : Nat, C < n → c0_Rc fc fr C
theorem c0_RL.congr {n : Nat} (h : c0_RL fc fr n) (e1 : fc' 1 5 = fc 1 5) (ep : ∀ p : Nat, p ≠ 1 → fc' p = fc p) (er : ∀ j : Nat, j ≠ 5 → fr' 280 j = fr 280 j) : c0_RL fc' fr' n := by
  obtain ⟨⟨h1, h2, h3⟩, h4, h5, h6, h7⟩ := h
  refine ⟨⟨h1, by rw [e1]; exact h2, by rw [er 2 (by omega)]; exact h3⟩, h4.congr (ep _ (by decide)) (fun k hk => er _ (by omega)), h5.congr (ep _ (by decide)) (ep _ (by decide)) (er _ (by omega)) (fun k hk => er _ (by omega)), by rw [er 17 (by omega)]; exact h6, fun C hC => (h7 C hC).congr (ep _ (by omega)) (fun k hk => er _ (by omega))⟩
theorem c0_RL.own {n : Nat} (h : c0_RL fc fr n) : ∀ C : Nat, C < n → ∀ c : Int32, c0_ownLimit_v fc C x = r_limitBy_v fr c C x := fun C hC c => c0_own_eq (h.2.2.2.2 C hC) h.2.1 h.2.2.1 h.2.2.2.1
theorem c0_RL.worst {n : Nat} (h : c0_RL fc fr n) : c0_worstCell_v fc x = r_tightest_v fr x ∧ ((n = 0 ∧ r_tightest_v fr x = (-1 : Int32)) ∨ ∃ j : Nat, j < n ∧ r_tightest_v fr x = Int32.ofNat j ∧ (c0_worstCell_a8 fc x n).2 = c0_ownLimit_v fc j x) := by
  have := c0_worst_eq (fc := fc) (fr := fr) (x := x) h.1.1 h.own
  unfold c0_worstCell_v r_tightest_v
  rw [h.1.2.1, h.1.2.2, Int.toNat_natCast]
  exact this
theorem c0_RL.limit {n : Nat} (h : c0_RL fc fr n) : c0_limitOf_v fc x = r_limitOf_v fr x := by
  have m1 : (-1 : Int32).toInt = -1 := by decide +kernel
  have hl := c0_limit_eq (fc := fc) (fr := fr) (x := x) h.1.1 h.own
  have hw := h.worst (x := x)
  have s4 : fc 4 4 = fr 280 38 := h.2.1 4 (by omega)
  have er : r_limitOf_v fr x = r_limitOf_a8 fr x n := by
    unfold r_limitOf_v
    rw [h.1.2.2, Int.toNat_natCast]
  rw [er, hl]
  unfold c0_limitOf_v c0_limitOf_j18_0
  rw [hw.1, s4]
  rcases hw.2 with ⟨h0, e⟩ | ⟨j, hj, e, e2⟩
  · rw [if_pos h0, e, if_pos rfl]
  · have ej : (Int32.ofNat j).toInt = j := at_ofN (by have := h.1.1; omega)
    have hjn : (Int32.ofNat j).toInt.toNat = j := by omega
    have hne : ¬ (Int32.ofNat j).toInt = (-1 : Int32).toInt := by omega
    rw [if_neg (show ¬ n = 0 by omega), e, if_neg hne, hjn, e2]
theorem c0_RL.lim_nn {n : Nat} (h : c0_RL fc fr n) (hm : 0 ≤ (fr 280 38).toInt ∧ (fr 280 38).toInt ≤ 99999) : 0 ≤ (r_limitOf_v fr x).toInt ∧ (r_limitOf_v fr x).toInt ≤ 99999 := by
  have hl := c0_limit_eq (fc := fc) (fr := fr) (x := x) h.1.1 h.own
  have er : r_limitOf_v fr x = r_limitOf_a8 fr x n := by
    unfold r_limitOf_v
    rw [h.1.2.2, Int.toNat_natCast]
  rw [er, hl]
  split
  · omega
  · rename_i hn
    have hw := h.worst (x := x)
    rw [t2_min_i]
    rcases hw.2 with ⟨h0, e⟩ | ⟨j, hj, e, e2⟩
    · omega
    · rw [e2]
      have := c0_own_nn (fc := fc) (C := j) (x := x)
      omega
/-- the two limits hold a request alike -/
theorem t2_held_eq {r l0 l1 : Int32} (h0 : 0 ≤ l0.toInt ∧ l0.toInt ≤ 99999) (h1 : 0 ≤ l1.toInt ∧ l1.toInt ≤ 99999) : (r.toInt < 0 → t2_heldTo_v r (-l1) l1 = r_held_v r (-l1) l0) ∧ (¬ r.toInt < 0 → t2_heldTo_v r (-l0) l0 = r_held_v r (-l1) l0) := by
  have n0 : (-l0).toInt = -l0.toInt := by rw [Int32.toInt_neg]; exact Int.bmod_eq_of_le (by omega) (by omega)
  have n1 : (-l1).toInt = -l1.toInt := by rw [Int32.toInt_neg]; exact Int.bmod_eq_of_le (by omega) (by omega)
  unfold t2_heldTo_v r_held_v
  refine ⟨fun hr => ?_, fun hr => ?_⟩
  · by_cases h : r.toInt < (-l1).toInt
    · rw [if_pos h, if_pos h]
    · rw [if_neg h, if_neg h, if_neg (by omega), if_neg (by omega)]
  · rw [if_neg (show ¬ r.toInt < (-l0).toInt by omega), if_neg (show ¬ r.toInt < (-l1).toInt by omega)]
theorem c0_cur_fc {n : Nat} (h : c0_RL fc fr n) (hst : fc 1 7 = fr 280 3) (hk : c0_Rk fc fr) (hw : ∀ k : Nat, k < 3 → t2_how (fr 280 (64 + k))) (hm : 0 ≤ (fr 280 38).toInt ∧ (fr 280 38).toInt ≤ 99999) :
    r_isLive_v (fl_row fr 280 (upd (fr 280) 5 (r_goCurrent_j9_0 fr))) = r_isLive_v fr ∧
    c0_letCurrent_m fc = (if (r_isLive_v fr).toInt = 0 then fl_row fc 1 (upd (fc 1) 9 (r_goCurrent_j9_0 fr)) else if (r_goCurrent_j9_0 fr).toInt = (fr 280 54).toInt then fl_row fc 1 (upd (fc 1) 9 (r_goCurrent_j9_0 fr)) else c0_countHeldBack_m (fl_row fc 1 (upd (fc 1) 9 (r_goCurrent_j9_0 fr))) (if (fr 280 54).toInt < 0 then (1 : Int32) else (0 : Int32))) := by
  have s20 : fc 4 20 = fr 280 54 := h.2.1 20 (by omega)
  have r5 : ∀ z : Int32, ∀ j : Nat, j ≠ 5 → (fl_row fr 280 (upd (fr 280) 5 z)) 280 j = fr 280 j := fun z j hj => by rw [fl_row_self, upd_ne hj]
  have h1 : c0_RL (fl_row fc 1 (upd (fc 1) 9 (0 : Int32))) fr n := h.congr (by rw [fl_row_self, upd_ne (by decide : 5 ≠ 9)]) (fun p hp => fl_row_ne hp) (fun j _ => rfl)
  have k1 : c0_Rk (fl_row fc 1 (upd (fc 1) 9 (0 : Int32))) fr := hk.congr (fl_row_ne (by decide)) (fun k _ => rfl)
  have l1 : c0_areActual_v (fl_row fc 1 (upd (fc 1) 9 (0 : Int32))) (5 : Int32) = r_isLive_v fr := c0_live_eq (by rw [fl_row_self, upd_ne (by decide : 7 ≠ 9)]; exact hst) k1 hw
  have l2 : ∀ z : Int32, r_isLive_v (fl_row fr 280 (upd (fr 280) 5 z)) = r_isLive_v fr := fun z => by
    have : c0_areActual_v fc (5 : Int32) = r_isLive_v (fl_row fr 280 (upd (fr 280) 5 z)) := c0_live_eq (by rw [r5 z 3 (by omega)]; exact hst) (hk.congr rfl (fun k hk => r5 z _ (by omega))) (fun k hk => by rw [r5 z _ (by omega)]; exact hw k hk)
    rw [← this]
    exact c0_live_eq hst hk hw
  refine ⟨l2 _, ?_⟩
  have ll : ∀ x : Int32, c0_limitOf_v (fl_row fc 1 (upd (fc 1) 9 (0 : Int32))) x = r_limitOf_v fr x := fun x => h1.limit
  unfold c0_letCurrent_m
  simp only [l1, ll, s20]
  have hj : c0_letCurrent_j26_0 fc = if (fr 280 54).toInt < 0 then (1 : Int32) else (0 : Int32) := by
    unfold c0_letCurrent_j26_0
    rw [s20]
  rw [hj]
  have e9 : r_goCurrent_j9_0 fr = if (r_isLive_v fr).toInt = 0 then (0 : Int32) else r_held_v (fr 280 54) (-(r_limitOf_v fr (1 : Int32))) (r_limitOf_v fr (0 : Int32)) := rfl
  by_cases hl : (r_isLive_v fr).toInt = 0
  · rw [if_pos hl, if_pos hl, e9, if_pos hl]
  · rw [if_neg hl, if_neg hl]
    rw [if_neg hl] at e9
    have hh := t2_held_eq (r := fr 280 54) (h.lim_nn (x := (0 : Int32)) hm) (h.lim_nn (x := (1 : Int32)) hm)
    by_cases hr : (fr 280 54).toInt < 0
    · simp only [if_pos hr, hh.1 hr, ← e9]
    · simp only [if_neg hr, hh.2 hr, ← e9]
/-- the cell that holds back: what both write -/
theorem c0_back_eq {n : Nat} (h : c0_RL fc fr n) (x : Int32) : (∀ C : Nat, C < n → c0_countHeldBack_m fc x (18 + 4 * C) 18 = if r_tightest_v fr x = Int32.ofNat C ∧ ¬ (fr 280 38).toInt < (r_limitBy_v fr (Int32.ofNat C) C x).toInt then fr 280 (444 + 61 * C + 60) + (1 : Int32) else fr 280 (444 + 61 * C + 60)) ∧ (∀ p k : Nat, (∀ C : Nat, C < n → p = 18 + 4 * C → k ≠ 18) → c0_countHeldBack_m fc x p k = fc p k) := by
  have m1 : (-1 : Int32).toInt = -1 := by decide +kernel
  have hw := h.worst (x := x)
  have s4 : fc 4 4 = fr 280 38 := h.2.1 4 (by omega)
  have hn := h.1.1
  unfold c0_countHeldBack_m c0_countHeldBack_j8_0
  rw [hw.1, s4]
  rcases hw.2 with ⟨h0, e⟩ | ⟨j, hj, e, e2⟩
  · rw [e, if_pos rfl]
    refine ⟨fun C hC => absurd hC (by omega), fun p k hp => ?_⟩
    simp only [fl_row, upd]
    repeat' split
    all_goals first | rfl | simp_all
  · have ej : (Int32.ofNat j).toInt = j := at_ofN (by omega)
    have hjn : (Int32.ofNat j).toInt.toNat = j := by omega
    have ho := h.own (x := x) j hj (Int32.ofNat j)
    have hb : fc (18 + 4 * j) 18 = fr 280 (444 + 61 * j + 60) := (h.2.2.2.2 j hj).2.2.2.2.2
    have hne0 : ¬ (Int32.ofNat j).toInt = (-1 : Int32).toInt := by omega
    rw [e, if_neg hne0, hjn, ho, hb]
    refine ⟨fun C hC => ?_, fun p k hp => ?_⟩
    · by_cases hCj : C = j
      · subst hCj
        rw [fl_row_self, upd_self]
        by_cases hl : (fr 280 38).toInt < (r_limitBy_v fr (Int32.ofNat C) C x).toInt
        · rw [if_pos hl, if_neg (fun q => q.2 hl)]
        · rw [if_neg hl, if_pos ⟨rfl, hl⟩]
      · have hne : ¬ (Int32.ofNat j = Int32.ofNat C) := fun q => hCj (by
          have eC : (Int32.ofNat C).toInt = C := at_ofN (by omega)
          rw [q, eC] at ej
          omega)
        rw [fl_row_ne (by omega), if_neg (fun q => hne q.1)]
        exact (h.2.2.2.2 C hC).2.2.2.2.2
    · by_cases hpj : p = 18 + 4 * j
      · subst hpj
        rw [fl_row_self, upd_ne (hp j hj rfl)]
      · rw [fl_row_ne hpj]
/-- (2): the current and who held it back -/
theorem c0_cur_eq {n : Nat} (h : c0_RL fc fr n) (hst : fc 1 7 = fr 280 3) (hk : c0_Rk fc fr) (hw : ∀ k : Nat, k < 3 → t2_how (fr 280 (64 + k))) (hm : 0 ≤ (fr 280 38).toInt ∧ (fr 280 38).toInt ≤ 99999) :
    c0_letCurrent_m fc 1 9 = r_goCurrent_j9_0 fr ∧ r_goCurrent_m fr 280 5 = r_goCurrent_j9_0 fr ∧
    (∀ C : Nat, C < n → c0_letCurrent_m fc (18 + 4 * C) 18 = r_goCurrent_m fr 280 (444 + 61 * C + 60)) ∧
    (∀ p k : Nat, (p = 1 → k ≠ 9) → (∀ C : Nat, C < n → p = 18 + 4 * C → k ≠ 18) → c0_letCurrent_m fc p k = fc p k) ∧
    (∀ w : Nat, w ≠ 5 → (∀ C : Nat, C < n → w ≠ 444 + 61 * C + 60) → r_goCurrent_m fr 280 w = fr 280 w) := by
  have m1 : (-1 : Int32).toInt = -1 := by decide +kernel
  have r5 : ∀ z : Int32, ∀ j : Nat, j ≠ 5 → (fl_row fr 280 (upd (fr 280) 5 z)) 280 j = fr 280 j := fun z j hj => by rw [fl_row_self, upd_ne hj]
  have hn := h.1.1
  obtain ⟨e1, e2⟩ := c0_cur_fc h hst hk hw hm
  have hC18 : ∀ C : Nat, C < n → fc (18 + 4 * C) 18 = fr 280 (444 + 61 * C + 60) := fun C hC => (h.2.2.2.2 C hC).2.2.2.2.2
  unfold r_goCurrent_m
  rw [e2, e1]
  generalize hcu : r_goCurrent_j9_0 fr = cu
  have simple : (fl_row fc 1 (upd (fc 1) 9 cu)) 1 9 = cu ∧ (fl_row fr 280 (upd (fr 280) 5 cu)) 280 5 = cu ∧
    (∀ C : Nat, C < n → (fl_row fc 1 (upd (fc 1) 9 cu)) (18 + 4 * C) 18 = (fl_row fr 280 (upd (fr 280) 5 cu)) 280 (444 + 61 * C + 60)) ∧
    (∀ p k : Nat, (p = 1 → k ≠ 9) → (∀ C : Nat, C < n → p = 18 + 4 * C → k ≠ 18) → (fl_row fc 1 (upd (fc 1) 9 cu)) p k = fc p k) ∧
    (∀ w : Nat, w ≠ 5 → (∀ C : Nat, C < n → w ≠ 444 + 61 * C + 60) → (fl_row fr 280 (upd (fr 280) 5 cu)) 280 w = fr 280 w) := by
    refine ⟨by rw [fl_row_self, upd_self], by rw [fl_row_self, upd_self], fun C hC => ?_, fun p k h1 h2 => ?_, fun w h1 _ => r5 _ w h1⟩
    · rw [fl_row_ne (by omega), r5 _ _ (by omega)]
      exact hC18 C hC
    · by_cases hp : p = 1
      · subst hp
        rw [fl_row_self, upd_ne (h1 rfl)]
      · rw [fl_row_ne hp]
  by_cases hl : (r_isLive_v fr).toInt = 0
  · rw [if_pos hl, if_pos hl]
    exact simple
  · rw [if_neg hl, if_neg hl]
    by_cases hq : cu.toInt = (fr 280 54).toInt
    · rw [if_pos hq, if_pos hq]
      exact simple
    · rw [if_neg hq, if_neg hq]
      -- the request isn't 0: the ways are alike
      have hr0 : (fr 280 54).toInt ≠ 0 := fun h0 => hq (by
        have l0 := h.lim_nn (x := (0 : Int32)) hm
        have l1 := h.lim_nn (x := (1 : Int32)) hm
        have n1 : (-(r_limitOf_v fr (1 : Int32))).toInt = -(r_limitOf_v fr (1 : Int32)).toInt := by rw [Int32.toInt_neg]; exact Int.bmod_eq_of_le (by omega) (by omega)
        rw [← hcu]
        unfold r_goCurrent_j9_0 r_held_v
        rw [if_neg hl, if_neg (by omega), if_neg (by omega)])
      have hway : (if (fr 280 54).toInt < 0 then (1 : Int32) else (0 : Int32)) = r_goCurrent_j66_0 fr := by
        unfold r_goCurrent_j66_0
        by_cases hr : (fr 280 54).toInt < 0
        · rw [if_pos hr, if_neg (by omega)]
        · rw [if_neg hr, if_pos (by omega)]
      rw [hway]
      unfold r_goCurrent_j83_0
      rw [hcu]
      generalize r_goCurrent_j66_0 fr = x
      have h2 : c0_RL (fl_row fc 1 (upd (fc 1) 9 cu)) (fl_row fr 280 (upd (fr 280) 5 cu)) n := h.congr (by rw [fl_row_self, upd_ne (by decide : 5 ≠ 9)]) (fun p hp => fl_row_ne hp) (fun j hj => r5 _ j hj)
      obtain ⟨b1, b2⟩ := c0_back_eq h2 x
      have hw2 := h2.worst (x := x)
      obtain ⟨q1, q2, q3, q4, q5⟩ := simple
      refine ⟨(b2 _ _ (fun C hC h => absurd h (by omega))).trans q1, ?_, fun C hC => ?_, fun p k h1 h2 => (b2 p k h2).trans (q4 p k h1 h2), fun w h1 h2 => ?_⟩
      · rw [fl_row_self, upd_ne (by omega), upd_self]
      · rw [b1 C hC, r5 _ 38 (by omega), r5 _ _ (by omega), fl_row_self]
        rcases hw2.2 with ⟨h0, e⟩ | ⟨j, hj, e, -⟩
        · omega
        · have ej : (Int32.ofNat j).toInt = j := at_ofN (by omega)
          have hjn : (Int32.ofNat j).toInt.toNat = j := by omega
          have hne0 : ¬ (Int32.ofNat j).toInt = (-1 : Int32).toInt := by omega
          rw [e, if_neg hne0, hjn]
          by_cases hCj : C = j
          · subst hCj
            rw [upd_self]
            by_cases hl2 : (fr 280 38).toInt < (r_limitBy_v (fl_row fr 280 (upd (fr 280) 5 cu)) (Int32.ofNat C) C x).toInt
            · rw [if_pos hl2, if_neg (fun q => q.2 hl2)]
            · rw [if_neg hl2, if_pos ⟨rfl, hl2⟩]
          · have hne : ¬ (Int32.ofNat j = Int32.ofNat C) := fun q => hCj (by
              have eC : (Int32.ofNat C).toInt = C := at_ofN (by omega)
              rw [q, eC] at ej
              omega)
            rw [upd_ne (by omega), upd_ne (by omega), if_neg (fun q => hne q.1)]
      · rw [fl_row_self]
        rcases hw2.2 with ⟨h0, e⟩ | ⟨j, hj, e, -⟩
        · rw [e, if_pos rfl]
          unfold upd
          repeat' split
          all_goals first | rfl | simp_all
        · have ej : (Int32.ofNat j).toInt = j := at_ofN (by omega)
          have hjn : (Int32.ofNat j).toInt.toNat = j := by omega
          rw [e, hjn, upd_ne (h2 j hj), upd_ne h1]
end C0CUR
