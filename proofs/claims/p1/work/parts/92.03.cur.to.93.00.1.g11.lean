/-! 92.03.cur.lean.txt -/
section
/-! ===== block 0: (2) of a second, the current ===== -/
section C0CUR
variable {fc fr fc' fr' : t2_F} {C : Nat} {c x : Int32}
theorem c0_Rc.congr (h : c0_Rc fc fr C) (e : fc' (18 + 4 * C) = fc (18 + 4 * C)) (e2 : ∀ k : Nat, k < 61 → fr' 280 (444 + 61 * C + k) = fr 280 (444 + 61 * C + k)) : c0_Rc fc' fr' C := by
  unfold c0_Rc r_partOf_v at *
  rw [e, e2 0 (by omega), e2 1 (by omega), e2 2 (by omega), e2 3 (by omega), e2 4 (by omega), e2 5 (by omega), e2 6 (by omega), e2 9 (by omega), e2 60 (by omega)]
  exact h
theorem c0_Rs.congr (h : c0_Rs fc fr) (e : fc' 4 = fc 4) (e2 : ∀ k : Nat, k < 30 → fr' 280 (34 + k) = fr 280 (34 + k)) : c0_Rs fc' fr' := fun k hk => by rw [e, e2 k hk]; exact h k hk
theorem c0_Rk.congr (h : c0_Rk fc fr) (e : fc' 5 = fc 5) (e2 : ∀ k : Nat, k < 3 → fr' 280 (64 + k) = fr 280 (64 + k)) : c0_Rk fc' fr' := fun k hk => by rw [e, e2 k hk]; exact h k hk
theorem c0_Rz.congr (h : c0_Rz fc fr) (e : fc' 3 = fc 3) (e7 : fc' 7 = fc 7) (e0 : fr' 280 17 = fr 280 17) (e2 : ∀ k : Nat, k < 12 → fr' 280 (67 + k) = fr 280 (67 + k)) : c0_Rz fc' fr' := by
  obtain ⟨h1, h2, h3⟩ := h
  refine ⟨by rw [e, e0]; exact h1, fun k hk => by rw [e7, e2 k hk]; exact h2 k hk, fun k hk => ?_⟩
  have := e2 (2 * k + 1) (by omega)
  rw [show 67 + 2 * k + 1 = 67 + (2 * k + 1) by omega, this]
  exact h3 k hk
/-- what limits are reckoned from -/
def c0_RL (fc fr : t2_F) (n : Nat) : Prop := (n ≤ 16 ∧ (fc 1 5).toInt = n ∧ (fr 280 2).toInt = n) ∧ c0_Rs fc fr ∧ c0_Rz fc fr ∧ (0 ≤ (fr 280 17).toInt ∧ (fr 280 17).toInt ≤ 6) ∧ ∀ C : Nat, C < n → c0_Rc fc fr C
theorem c0_RL.congr {n : Nat} (h : c0_RL fc fr n) (e1 : fc' 1 5 = fc 1 5) (ep : ∀ p : Nat, p ≠ 1 → fc' p = fc p) (er : ∀ j : Nat, j ≠ 5 → fr' 280 j = fr 280 j) : c0_RL fc' fr' n := by
  obtain ⟨⟨h1, h2, h3⟩, h4, h5, h6, h7⟩ := h
  refine ⟨⟨h1, by rw [e1]; exact h2, by rw [er 2 (by omega)]; exact h3⟩, h4.congr (ep _ (by decide)) (fun k hk => er _ (by omega)), h5.congr (ep _ (by decide)) (ep _ (by decide)) (er _ (by omega)) (fun k hk => er _ (by omega)), by rw [er 17 (by omega)]; exact h6, fun C hC => (h7 C hC).congr (ep _ (by omega)) (fun k hk => er _ (by omega))⟩
theorem c0_RL.own {n : Nat} (h : c0_RL fc fr n) : ∀ C : Nat, C < n → ∀ c : Int32, c0_ownLimit_v fc C x = r_limitBy_v fr c C x := fun C hC c => c0_own_eq (h.2.2.2.2 C hC) h.2.1 h.2.2.1 h.2.2.2.1
theorem c0_RL.worst {n : Nat} (h : c0_RL fc fr n) : c0_worstCell_v fc x = r_tightest_v fr x ∧ ((n = 0 ∧ r_tightest_v fr x = (-1 : Int32)) ∨ ∃ j : Nat, j < n ∧ r_tightest_v fr x = Int32.ofNat j ∧ (c0_worstCell_a8 fc x n).2 = c0_ownLimit_v fc j x) := by
  have := c0_worst_eq (fc := fc) (fr := fr) (x := x) h.1.1 h.own
  unfold c0_worstCell_v r_tightest_v
  rw [h.1.2.1, h.1.2.2, Int.toNat_natCast]
  exact this
theorem c0_RL.limit {n : Nat} (h : c0_RL fc fr n) : c0_limitOf_v fc x = r_limitOf_v fr x := by
  have m1 : (-1 : Int32).toInt = -1 := by decide +kernel
  have hl := c0_limit_eq (fc := fc) (fr := fr) (x := x) h.1.1 h.own
  have hw := h.worst (x := x)
  have s4 : fc 4 4 = fr 280 38 := h.2.1 4 (by omega)
  have er : r_limitOf_v fr x = r_limitOf_a8 fr x n := by
    unfold r_limitOf_v
    rw [h.1.2.2, Int.toNat_natCast]
  rw [er, hl]
  unfold c0_limitOf_v c0_limitOf_j18_0
  rw [hw.1, s4]
  rcases hw.2 with ⟨h0, e⟩ | ⟨j, hj, e, e2⟩
  · rw [if_pos h0, e, if_pos rfl]
  · have ej : (Int32.ofNat j).toInt = j := at_ofN (by have := h.1.1; omega)
    have hjn : (Int32.ofNat j).toInt.toNat = j := by omega
    have hne : ¬ (Int32.ofNat j).toInt = (-1 : Int32).toInt := by omega
    rw [if_neg (show ¬ n = 0 by omega), e, if_neg hne, hjn, e2]
theorem c0_RL.lim_nn {n : Nat} (h : c0_RL fc fr n) (hm : 0 ≤ (fr 280 38).toInt ∧ (fr 280 38).toInt ≤ 99999) : 0 ≤ (r_limitOf_v fr x).toInt ∧ (r_limitOf_v fr x).toInt ≤ 99999 := by
  have hl := c0_limit_eq (fc := fc) (fr := fr) (x := x) h.1.1 h.own
  have er : r_limitOf_v fr x = r_limitOf_a8 fr x n := by
    unfold r_limitOf_v
    rw [h.1.2.2, Int.toNat_natCast]
  rw [er, hl]
  split
  · omega
  · rename_i hn
    have hw := h.worst (x := x)
    rw [t2_min_i]
    rcases hw.2 with ⟨h0, e⟩ | ⟨j, hj, e, e2⟩
    · omega
    · rw [e2]
      have := c0_own_nn (fc := fc) (C := j) (x := x)
      omega
/-- the two limits hold a request alike -/
theorem t2_held_eq {r l0 l1 : Int32} (h0 : 0 ≤ l0.toInt ∧ l0.toInt ≤ 99999) (h1 : 0 ≤ l1.toInt ∧ l1.toInt ≤ 99999) : (r.toInt < 0 → t2_heldTo_v r (-l1) l1 = r_held_v r (-l1) l0) ∧ (¬ r.toInt < 0 → t2_heldTo_v r (-l0) l0 = r_held_v r (-l1) l0) := by
  have n0 : (-l0).toInt = -l0.toInt := by rw [Int32.toInt_neg]; exact Int.bmod_eq_of_le (by omega) (by omega)
  have n1 : (-l1).toInt = -l1.toInt := by rw [Int32.toInt_neg]; exact Int.bmod_eq_of_le (by omega) (by omega)
  unfold t2_heldTo_v r_held_v
  refine ⟨fun hr => ?_, fun hr => ?_⟩
  · by_cases h : r.toInt < (-l1).toInt
    · rw [if_pos h, if_pos h]
    · rw [if_neg h, if_neg h, if_neg (by omega), if_neg (by omega)]
  · rw [if_neg (show ¬ r.toInt < (-l0).toInt by omega), if_neg (show ¬ r.toInt < (-l1).toInt by omega)]
theorem c0_cur_fc {n : Nat} (h : c0_RL fc fr n) (hst : fc 1 7 = fr 280 3) (hk : c0_Rk fc fr) (hw : ∀ k : Nat, k < 3 → t2_how (fr 280 (64 + k))) (hm : 0 ≤ (fr 280 38).toInt ∧ (fr 280 38).toInt ≤ 99999) :
    r_isLive_v (fl_row fr 280 (upd (fr 280) 5 (r_goCurrent_j9_0 fr))) = r_isLive_v fr ∧
    c0_letCurrent_m fc = (if (r_isLive_v fr).toInt = 0 then fl_row fc 1 (upd (fc 1) 9 (r_goCurrent_j9_0 fr)) else if (r_goCurrent_j9_0 fr).toInt = (fr 280 54).toInt then fl_row fc 1 (upd (fc 1) 9 (r_goCurrent_j9_0 fr)) else c0_countHeldBack_m (fl_row fc 1 (upd (fc 1) 9 (r_goCurrent_j9_0 fr))) (if (fr 280 54).toInt < 0 then (1 : Int32) else (0 : Int32))) := by
  have s20 : fc 4 20 = fr 280 54 := h.2.1 20 (by omega)
  have r5 : ∀ z : Int32, ∀ j : Nat, j ≠ 5 → (fl_row fr 280 (upd (fr 280) 5 z)) 280 j = fr 280 j := fun z j hj => by rw [fl_row_self, upd_ne hj]
  have h1 : c0_RL (fl_row fc 1 (upd (fc 1) 9 (0 : Int32))) fr n := h.congr (by rw [fl_row_self, upd_ne (by decide : 5 ≠ 9)]) (fun p hp => fl_row_ne hp) (fun j _ => rfl)
  have k1 : c0_Rk (fl_row fc 1 (upd (fc 1) 9 (0 : Int32))) fr := hk.congr (fl_row_ne (by decide)) (fun k _ => rfl)
  have l1 : c0_areActual_v (fl_row fc 1 (upd (fc 1) 9 (0 : Int32))) (5 : Int32) = r_isLive_v fr := c0_live_eq (by rw [fl_row_self, upd_ne (by decide : 7 ≠ 9)]; exact hst) k1 hw
  have l2 : ∀ z : Int32, r_isLive_v (fl_row fr 280 (upd (fr 280) 5 z)) = r_isLive_v fr := fun z => by
    have : c0_areActual_v fc (5 : Int32) = r_isLive_v (fl_row fr 280 (upd (fr 280) 5 z)) := c0_live_eq (by rw [r5 z 3 (by omega)]; exact hst) (hk.congr rfl (fun k hk => r5 z _ (by omega))) (fun k hk => by rw [r5 z _ (by omega)]; exact hw k hk)
    rw [← this]
    exact c0_live_eq hst hk hw
  refine ⟨l2 _, ?_⟩
  have ll : ∀ x : Int32, c0_limitOf_v (fl_row fc 1 (upd (fc 1) 9 (0 : Int32))) x = r_limitOf_v fr x := fun x => h1.limit
  unfold c0_letCurrent_m
  simp only [l1, ll, s20]
  have hj : c0_letCurrent_j26_0 fc = if (fr 280 54).toInt < 0 then (1 : Int32) else (0 : Int32) := by
    unfold c0_letCurrent_j26_0
    rw [s20]
  rw [hj]
  have e9 : r_goCurrent_j9_0 fr = if (r_isLive_v fr).toInt = 0 then (0 : Int32) else r_held_v (fr 280 54) (-(r_limitOf_v fr (1 : Int32))) (r_limitOf_v fr (0 : Int32)) := rfl
  by_cases hl : (r_isLive_v fr).toInt = 0
  · rw [if_pos hl, if_pos hl, e9, if_pos hl]
  · rw [if_neg hl, if_neg hl]
    rw [if_neg hl] at e9
    have hh := t2_held_eq (r := fr 280 54) (h.lim_nn (x := (0 : Int32)) hm) (h.lim_nn (x := (1 : Int32)) hm)
    by_cases hr : (fr 280 54).toInt < 0
    · simp only [if_pos hr, hh.1 hr, ← e9]
    · simp only [if_neg hr, hh.2 hr, ← e9]
/-- the cell that holds back: what both write -/
theorem c0_back_eq {n : Nat} (h : c0_RL fc fr n) (x : Int32) : (∀ C : Nat, C < n → c0_countHeldBack_m fc x (18 + 4 * C) 18 = if r_tightest_v fr x = Int32.ofNat C ∧ ¬ (fr 280 38).toInt < (r_limitBy_v fr (Int32.ofNat C) C x).toInt then fr 280 (444 + 61 * C + 60) + (1 : Int32) else fr 280 (444 + 61 * C + 60)) ∧ (∀ p k : Nat, (∀ C : Nat, C < n → p = 18 + 4 * C → k ≠ 18) → c0_countHeldBack_m fc x p k = fc p k) := by
  have m1 : (-1 : Int32).toInt = -1 := by decide +kernel
  have hw := h.worst (x := x)
  have s4 : fc 4 4 = fr 280 38 := h.2.1 4 (by omega)
  have hn := h.1.1
  unfold c0_countHeldBack_m c0_countHeldBack_j8_0
  rw [hw.1, s4]
  rcases hw.2 with ⟨h0, e⟩ | ⟨j, hj, e, e2⟩
  · rw [e, if_pos rfl]
    refine ⟨fun C hC => absurd hC (by omega), fun p k hp => ?_⟩
    simp only [fl_row, upd]
    repeat' split
    all_goals first | rfl | simp_all
  · have ej : (Int32.ofNat j).toInt = j := at_ofN (by omega)
    have hjn : (Int32.ofNat j).toInt.toNat = j := by omega
    have ho := h.own (x := x) j hj (Int32.ofNat j)
    have hb : fc (18 + 4 * j) 18 = fr 280 (444 + 61 * j + 60) := (h.2.2.2.2 j hj).2.2.2.2.2
    have hne0 : ¬ (Int32.ofNat j).toInt = (-1 : Int32).toInt := by omega
    rw [e, if_neg hne0, hjn, ho, hb]
    refine ⟨fun C hC => ?_, fun p k hp => ?_⟩
    · by_cases hCj : C = j
      · subst hCj
        rw [fl_row_self, upd_self]
        by_cases hl : (fr 280 38).toInt < (r_limitBy_v fr (Int32.ofNat C) C x).toInt
        · rw [if_pos hl, if_neg (fun q => q.2 hl)]
        · rw [if_neg hl, if_pos ⟨rfl, hl⟩]
      · have hne : ¬ (Int32.ofNat j = Int32.ofNat C) := fun q => hCj (by
          have eC : (Int32.ofNat C).toInt = C := at_ofN (by omega)
          rw [q, eC] at ej
          omega)
        rw [fl_row_ne (by omega), if_neg (fun q => hne q.1)]
        exact (h.2.2.2.2 C hC).2.2.2.2.2
    · by_cases hpj : p = 18 + 4 * j
      · subst hpj
        rw [fl_row_self, upd_ne (hp j hj rfl)]
      · rw [fl_row_ne hpj]
/-- (2): the current and who held it back -/
theorem c0_cur_eq {n : Nat} (h : c0_RL fc fr n) (hst : fc 1 7 = fr 280 3) (hk : c0_Rk fc fr) (hw : ∀ k : Nat, k < 3 → t2_how (fr 280 (64 + k))) (hm : 0 ≤ (fr 280 38).toInt ∧ (fr 280 38).toInt ≤ 99999) :
    c0_letCurrent_m fc 1 9 = r_goCurrent_j9_0 fr ∧ r_goCurrent_m fr 280 5 = r_goCurrent_j9_0 fr ∧
    (∀ C : Nat, C < n → c0_letCurrent_m fc (18 + 4 * C) 18 = r_goCurrent_m fr 280 (444 + 61 * C + 60)) ∧
    (∀ p k : Nat, (p = 1 → k ≠ 9) → (∀ C : Nat, C < n → p = 18 + 4 * C → k ≠ 18) → c0_letCurrent_m fc p k = fc p k) ∧
    (∀ w : Nat, w ≠ 5 → (∀ C : Nat, C < n → w ≠ 444 + 61 * C + 60) → r_goCurrent_m fr 280 w = fr 280 w) := by
  have m1 : (-1 : Int32).toInt = -1 := by decide +kernel
  have r5 : ∀ z : Int32, ∀ j : Nat, j ≠ 5 → (fl_row fr 280 (upd (fr 280) 5 z)) 280 j = fr 280 j := fun z j hj => by rw [fl_row_self, upd_ne hj]
  have hn := h.1.1
  obtain ⟨e1, e2⟩ := c0_cur_fc h hst hk hw hm
  have hC18 : ∀ C : Nat, C < n → fc (18 + 4 * C) 18 = fr 280 (444 + 61 * C + 60) := fun C hC => (h.2.2.2.2 C hC).2.2.2.2.2
  unfold r_goCurrent_m
  rw [e2, e1]
  generalize hcu : r_goCurrent_j9_0 fr = cu
  have simple : (fl_row fc 1 (upd (fc 1) 9 cu)) 1 9 = cu ∧ (fl_row fr 280 (upd (fr 280) 5 cu)) 280 5 = cu ∧
    (∀ C : Nat, C < n → (fl_row fc 1 (upd (fc 1) 9 cu)) (18 + 4 * C) 18 = (fl_row fr 280 (upd (fr 280) 5 cu)) 280 (444 + 61 * C + 60)) ∧
    (∀ p k : Nat, (p = 1 → k ≠ 9) → (∀ C : Nat, C < n → p = 18 + 4 * C → k ≠ 18) → (fl_row fc 1 (upd (fc 1) 9 cu)) p k = fc p k) ∧
    (∀ w : Nat, w ≠ 5 → (∀ C : Nat, C < n → w ≠ 444 + 61 * C + 60) → (fl_row fr 280 (upd (fr 280) 5 cu)) 280 w = fr 280 w) := by
    refine ⟨by rw [fl_row_self, upd_self], by rw [fl_row_self, upd_self], fun C hC => ?_, fun p k h1 h2 => ?_, fun w h1 _ => r5 _ w h1⟩
    · rw [fl_row_ne (by omega), r5 _ _ (by omega)]
      exact hC18 C hC
    · by_cases hp : p = 1
      · subst hp
        rw [fl_row_self, upd_ne (h1 rfl)]
      · rw [fl_row_ne hp]
  by_cases hl : (r_isLive_v fr).toInt = 0
  · rw [if_pos hl, if_pos hl]
    exact simple
  · rw [if_neg hl, if_neg hl]
    by_cases hq : cu.toInt = (fr 280 54).toInt
    · rw [if_pos hq, if_pos hq]
      exact simple
    · rw [if_neg hq, if_neg hq]
      -- the request isn't 0: the ways are alike
      have hr0 : (fr 280 54).toInt ≠ 0 := fun h0 => hq (by
        have l0 := h.lim_nn (x := (0 : Int32)) hm
        have l1 := h.lim_nn (x := (1 : Int32)) hm
        have n1 : (-(r_limitOf_v fr (1 : Int32))).toInt = -(r_limitOf_v fr (1 : Int32)).toInt := by rw [Int32.toInt_neg]; exact Int.bmod_eq_of_le (by omega) (by omega)
        rw [← hcu]
        unfold r_goCurrent_j9_0 r_held_v
        rw [if_neg hl, if_neg (by omega), if_neg (by omega)])
      have hway : (if (fr 280 54).toInt < 0 then (1 : Int32) else (0 : Int32)) = r_goCurrent_j66_0 fr := by
        unfold r_goCurrent_j66_0
        by_cases hr : (fr 280 54).toInt < 0
        · rw [if_pos hr, if_neg (by omega)]
        · rw [if_neg hr, if_pos (by omega)]
      rw [hway]
      unfold r_goCurrent_j83_0
      rw [hcu]
      generalize r_goCurrent_j66_0 fr = x
      have h2 : c0_RL (fl_row fc 1 (upd (fc 1) 9 cu)) (fl_row fr 280 (upd (fr 280) 5 cu)) n := h.congr (by rw [fl_row_self, upd_ne (by decide : 5 ≠ 9)]) (fun p hp => fl_row_ne hp) (fun j hj => r5 _ j hj)
      obtain ⟨b1, b2⟩ := c0_back_eq h2 x
      have hw2 := h2.worst (x := x)
      obtain ⟨q1, q2, q3, q4, q5⟩ := simple
      refine ⟨(b2 _ _ (fun C hC h => absurd h (by omega))).trans q1, ?_, fun C hC => ?_, fun p k h1 h2 => (b2 p k h2).trans (q4 p k h1 h2), fun w h1 h2 => ?_⟩
      · rw [fl_row_self, upd_ne (by omega), upd_self]
      · rw [b1 C hC, r5 _ 38 (by omega), r5 _ _ (by omega), fl_row_self]
        rcases hw2.2 with ⟨h0, e⟩ | ⟨j, hj, e, -⟩
        · omega
        · have ej : (Int32.ofNat j).toInt = j := at_ofN (by omega)
          have hjn : (Int32.ofNat j).toInt.toNat = j := by omega
          have hne0 : ¬ (Int32.ofNat j).toInt = (-1 : Int32).toInt := by omega
          rw [e, if_neg hne0, hjn]
          by_cases hCj : C = j
          · subst hCj
            rw [upd_self]
            by_cases hl2 : (fr 280 38).toInt < (r_limitBy_v (fl_row fr 280 (upd (fr 280) 5 cu)) (Int32.ofNat C) C x).toInt
            · rw [if_pos hl2, if_neg (fun q => q.2 hl2)]
            · rw [if_neg hl2, if_pos ⟨rfl, hl2⟩]
          · have hne : ¬ (Int32.ofNat j = Int32.ofNat C) := fun q => hCj (by
              have eC : (Int32.ofNat C).toInt = C := at_ofN (by omega)
              rw [q, eC] at ej
              omega)
            rw [upd_ne (by omega), upd_ne (by omega), if_neg (fun q => hne q.1)]
      · rw [fl_row_self]
        rcases hw2.2 with ⟨h0, e⟩ | ⟨j, hj, e, -⟩
        · rw [e, if_pos rfl]
          unfold upd
          repeat' split
          all_goals first | rfl | simp_all
        · have ej : (Int32.ofNat j).toInt = j := at_ofN (by omega)
          have hjn : (Int32.ofNat j).toInt.toNat = j := by omega
          rw [e, hjn, upd_ne (h2 j hj), upd_ne h1]
end C0CUR

/-! ===== block 2: (2) of a second, the current ===== -/
section C2CUR
variable {fc fr fc' fr' : t2_F} {C : Nat} {c x : Int32}
theorem c2_Rc.congr (h : c2_Rc fc fr C) (e : fc' (198 + 4 * C) = fc (198 + 4 * C)) (e2 : ∀ k : Nat, k < 61 → fr' 280 (444 + 61 * C + k) = fr 280 (444 + 61 * C + k)) : c2_Rc fc' fr' C := by
  unfold c2_Rc r_partOf_v at *
  rw [e, e2 0 (by omega), e2 1 (by omega), e2 2 (by omega), e2 3 (by omega), e2 4 (by omega), e2 5 (by omega), e2 6 (by omega), e2 9 (by omega), e2 60 (by omega)]
  exact h
theorem c2_Rs.congr (h : c2_Rs fc fr) (e : fc' 184 = fc 184) (e2 : ∀ k : Nat, k < 30 → fr' 280 (34 + k) = fr 280 (34 + k)) : c2_Rs fc' fr' := fun k hk => by rw [e, e2 k hk]; exact h k hk
theorem c2_Rk.congr (h : c2_Rk fc fr) (e : fc' 185 = fc 185) (e2 : ∀ k : Nat, k < 3 → fr' 280 (64 + k) = fr 280 (64 + k)) : c2_Rk fc' fr' := fun k hk => by rw [e, e2 k hk]; exact h k hk
theorem c2_Rz.congr (h : c2_Rz fc fr) (e : fc' 183 = fc 183) (e7 : fc' 187 = fc 187) (e0 : fr' 280 17 = fr 280 17) (e2 : ∀ k : Nat, k < 12 → fr' 280 (67 + k) = fr 280 (67 + k)) : c2_Rz fc' fr' := by
  obtain ⟨h1, h2, h3⟩ := h
  refine ⟨by rw [e, e0]; exact h1, fun k hk => by rw [e7, e2 k hk]; exact h2 k hk, fun k hk => ?_⟩
  have := e2 (2 * k + 1) (by omega)
  rw [show 67 + 2 * k + 1 = 67 + (2 * k + 1) by omega, this]
  exact h3 k hk
def c2_RL (fc fr : t2_F) (n : Nat) : Prop := (n ≤ 16 ∧ (fc 181 5).toInt = n ∧ (fr 280 2).toInt = n) ∧ c2_Rs fc fr ∧ c2_Rz fc fr ∧ (0 ≤ (fr 280 17).toInt ∧ (fr 280 17).toInt ≤ 6) ∧ ∀ C : Nat, C < n → c2_Rc fc fr C
theorem c2_RL.congr {n : Nat} (h : c2_RL fc fr n) (e1 : fc' 181 5 = fc 181 5) (ep : ∀ p : Nat, p ≠ 181 → fc' p = fc p) (er : ∀ j : Nat, j ≠ 5 → fr' 280 j = fr 280 j) : c2_RL fc' fr' n := by
  obtain ⟨⟨h1, h2, h3⟩, h4, h5, h6, h7⟩ := h
  refine ⟨⟨h1, by rw [e1]; exact h2, by rw [er 2 (by omega)]; exact h3⟩, h4.congr (ep _ (by decide)) (fun k hk => er _ (by omega)), h5.congr (ep _ (by decide)) (ep _ (by decide)) (er _ (by omega)) (fun k hk => er _ (by omega)), by rw [er 17 (by omega)]; exact h6, fun C hC => (h7 C hC).congr (ep _ (by omega)) (fun k hk => er _ (by omega))⟩
theorem c2_RL.own {n : Nat} (h : c2_RL fc fr n) : ∀ C : Nat, C < n → ∀ c : Int32, c2_ownLimit_v fc C x = r_limitBy_v fr c C x := fun C hC c => c2_own_eq (h.2.2.2.2 C hC) h.2.1 h.2.2.1 h.2.2.2.1
theorem c2_RL.worst {n : Nat} (h : c2_RL fc fr n) : c2_worstCell_v fc x = r_tightest_v fr x ∧ ((n = 0 ∧ r_tightest_v fr x = (-1 : Int32)) ∨ ∃ j : Nat, j < n ∧ r_tightest_v fr x = Int32.ofNat j ∧ (c2_worstCell_a8 fc x n).2 = c2_ownLimit_v fc j x) := by
  have := c2_worst_eq (fc := fc) (fr := fr) (x := x) h.1.1 h.own
  unfold c2_worstCell_v r_tightest_v
  rw [h.1.2.1, h.1.2.2, Int.toNat_natCast]
  exact this
theorem c2_RL.limit {n : Nat} (h : c2_RL fc fr n) : c2_limitOf_v fc x = r_limitOf_v fr x := by
  have m1 : (-1 : Int32).toInt = -1 := by decide +kernel
  have hl := c2_limit_eq (fc := fc) (fr := fr) (x := x) h.1.1 h.own
  have hw := h.worst (x := x)
  have s4 : fc 184 4 = fr 280 38 := h.2.1 4 (by omega)
  have er : r_limitOf_v fr x = r_limitOf_a8 fr x n := by
    unfold r_limitOf_v
    rw [h.1.2.2, Int.toNat_natCast]
  rw [er, hl]
  unfold c2_limitOf_v c2_limitOf_j18_0
  rw [hw.1, s4]
  rcases hw.2 with ⟨h0, e⟩ | ⟨j, hj, e, e2⟩
  · rw [if_pos h0, e, if_pos rfl]
  · have ej : (Int32.ofNat j).toInt = j := at_ofN (by have := h.1.1; omega)
    have hjn : (Int32.ofNat j).toInt.toNat = j := by omega
    have hne : ¬ (Int32.ofNat j).toInt = (-1 : Int32).toInt := by omega
    rw [if_neg (show ¬ n = 0 by omega), e, if_neg hne, hjn, e2]
theorem c2_RL.lim_nn {n : Nat} (h : c2_RL fc fr n) (hm : 0 ≤ (fr 280 38).toInt ∧ (fr 280 38).toInt ≤ 99999) : 0 ≤ (r_limitOf_v fr x).toInt ∧ (r_limitOf_v fr x).toInt ≤ 99999 := by
  have hl := c2_limit_eq (fc := fc) (fr := fr) (x := x) h.1.1 h.own
  have er : r_limitOf_v fr x = r_limitOf_a8 fr x n := by
    unfold r_limitOf_v
    rw [h.1.2.2, Int.toNat_natCast]
  rw [er, hl]
  split
  · omega
  · rename_i hn
    have hw := h.worst (x := x)
    rw [t2_min_i]
    rcases hw.2 with ⟨h0, e⟩ | ⟨j, hj, e, e2⟩
    · omega
    · rw [e2]
      have := c2_own_nn (fc := fc) (C := j) (x := x)
      omega
theorem c2_cur_fc {n : Nat} (h : c2_RL fc fr n) (hst : fc 181 7 = fr 280 3) (hk : c2_Rk fc fr) (hw : ∀ k : Nat, k < 3 → t2_how (fr 280 (64 + k))) (hm : 0 ≤ (fr 280 38).toInt ∧ (fr 280 38).toInt ≤ 99999) :
    r_isLive_v (fl_row fr 280 (upd (fr 280) 5 (r_goCurrent_j9_0 fr))) = r_isLive_v fr ∧
    c2_letCurrent_m fc = (if (r_isLive_v fr).toInt = 0 then fl_row fc 181 (upd (fc 181) 9 (r_goCurrent_j9_0 fr)) else if (r_goCurrent_j9_0 fr).toInt = (fr 280 54).toInt then fl_row fc 181 (upd (fc 181) 9 (r_goCurrent_j9_0 fr)) else c2_countHeldBack_m (fl_row fc 181 (upd (fc 181) 9 (r_goCurrent_j9_0 fr))) (if (fr 280 54).toInt < 0 then (1 : Int32) else (0 : Int32))) := by
  have s20 : fc 184 20 = fr 280 54 := h.2.1 20 (by omega)
  have r5 : ∀ z : Int32, ∀ j : Nat, j ≠ 5 → (fl_row fr 280 (upd (fr 280) 5 z)) 280 j = fr 280 j := fun z j hj => by rw [fl_row_self, upd_ne hj]
  have h1 : c2_RL (fl_row fc 181 (upd (fc 181) 9 (0 : Int32))) fr n := h.congr (by rw [fl_row_self, upd_ne (by decide : 5 ≠ 9)]) (fun p hp => fl_row_ne hp) (fun j _ => rfl)
  have k1 : c2_Rk (fl_row fc 181 (upd (fc 181) 9 (0 : Int32))) fr := hk.congr (fl_row_ne (by decide)) (fun k _ => rfl)
  have l1 : c2_areActual_v (fl_row fc 181 (upd (fc 181) 9 (0 : Int32))) (5 : Int32) = r_isLive_v fr := c2_live_eq (by rw [fl_row_self, upd_ne (by decide : 7 ≠ 9)]; exact hst) k1 hw
  have l2 : ∀ z : Int32, r_isLive_v (fl_row fr 280 (upd (fr 280) 5 z)) = r_isLive_v fr := fun z => by
    have : c2_areActual_v fc (5 : Int32) = r_isLive_v (fl_row fr 280 (upd (fr 280) 5 z)) := c2_live_eq (by rw [r5 z 3 (by omega)]; exact hst) (hk.congr rfl (fun k hk => r5 z _ (by omega))) (fun k hk => by rw [r5 z _ (by omega)]; exact hw k hk)
    rw [← this]
    exact c2_live_eq hst hk hw
  refine ⟨l2 _, ?_⟩
  have ll : ∀ x : Int32, c2_limitOf_v (fl_row fc 181 (upd (fc 181) 9 (0 : Int32))) x = r_limitOf_v fr x := fun x => h1.limit
  unfold c2_letCurrent_m
  simp only [l1, ll, s20]
  have hj : c2_letCurrent_j26_0 fc = if (fr 280 54).toInt < 0 then (1 : Int32) else (0 : Int32) := by
    unfold c2_letCurrent_j26_0
    rw [s20]
  rw [hj]
  have e9 : r_goCurrent_j9_0 fr = if (r_isLive_v fr).toInt = 0 then (0 : Int32) else r_held_v (fr 280 54) (-(r_limitOf_v fr (1 : Int32))) (r_limitOf_v fr (0 : Int32)) := rfl
  by_cases hl : (r_isLive_v fr).toInt = 0
  · rw [if_pos hl, if_pos hl, e9, if_pos hl]
  · rw [if_neg hl, if_neg hl]
    rw [if_neg hl] at e9
    have hh := t2_held_eq (r := fr 280 54) (h.lim_nn (x := (0 : Int32)) hm) (h.lim_nn (x := (1 : Int32)) hm)
    by_cases hr : (fr 280 54).toInt < 0
    · simp only [if_pos hr, hh.1 hr, ← e9]
    · simp only [if_neg hr, hh.2 hr, ← e9]
theorem c2_back_eq {n : Nat} (h : c2_RL fc fr n) (x : Int32) : (∀ C : Nat, C < n → c2_countHeldBack_m fc x (198 + 4 * C) 18 = if r_tightest_v fr x = Int32.ofNat C ∧ ¬ (fr 280 38).toInt < (r_limitBy_v fr (Int32.ofNat C) C x).toInt then fr 280 (444 + 61 * C + 60) + (1 : Int32) else fr 280 (444 + 61 * C + 60)) ∧ (∀ p k : Nat, (∀ C : Nat, C < n → p = 198 + 4 * C → k ≠ 18) → c2_countHeldBack_m fc x p k = fc p k) := by
  have m1 : (-1 : Int32).toInt = -1 := by decide +kernel
  have hw := h.worst (x := x)
  have s4 : fc 184 4 = fr 280 38 := h.2.1 4 (by omega)
  have hn := h.1.1
  unfold c2_countHeldBack_m c2_countHeldBack_j8_0
  rw [hw.1, s4]
  rcases hw.2 with ⟨h0, e⟩ | ⟨j, hj, e, e2⟩
  · rw [e, if_pos rfl]
    refine ⟨fun C hC => absurd hC (by omega), fun p k hp => ?_⟩
    simp only [fl_row, upd]
    repeat' split
    all_goals first | rfl | simp_all
  · have ej : (Int32.ofNat j).toInt = j := at_ofN (by omega)
    have hjn : (Int32.ofNat j).toInt.toNat = j := by omega
    have ho := h.own (x := x) j hj (Int32.ofNat j)
    have hb : fc (198 + 4 * j) 18 = fr 280 (444 + 61 * j + 60) := (h.2.2.2.2 j hj).2.2.2.2.2
    have hne0 : ¬ (Int32.ofNat j).toInt = (-1 : Int32).toInt := by omega
    rw [e, if_neg hne0, hjn, ho, hb]
    refine ⟨fun C hC => ?_, fun p k hp => ?_⟩
    · by_cases hCj : C = j
      · subst hCj
        rw [fl_row_self, upd_self]
        by_cases hl : (fr 280 38).toInt < (r_limitBy_v fr (Int32.ofNat C) C x).toInt
        · rw [if_pos hl, if_neg (fun q => q.2 hl)]
        · rw [if_neg hl, if_pos ⟨rfl, hl⟩]
      · have hne : ¬ (Int32.ofNat j = Int32.ofNat C) := fun q => hCj (by
          have eC : (Int32.ofNat C).toInt = C := at_ofN (by omega)
          rw [q, eC] at ej
          omega)
        rw [fl_row_ne (by omega), if_neg (fun q => hne q.1)]
        exact (h.2.2.2.2 C hC).2.2.2.2.2
    · by_cases hpj : p = 198 + 4 * j
      · subst hpj
        rw [fl_row_self, upd_ne (hp j hj rfl)]
      · rw [fl_row_ne hpj]
theorem c2_cur_eq {n : Nat} (h : c2_RL fc fr n) (hst : fc 181 7 = fr 280 3) (hk : c2_Rk fc fr) (hw : ∀ k : Nat, k < 3 → t2_how (fr 280 (64 + k))) (hm : 0 ≤ (fr 280 38).toInt ∧ (fr 280 38).toInt ≤ 99999) :
    c2_letCurrent_m fc 181 9 = r_goCurrent_j9_0 fr ∧ r_goCurrent_m fr 280 5 = r_goCurrent_j9_0 fr ∧
    (∀ C : Nat, C < n → c2_letCurrent_m fc (198 + 4 * C) 18 = r_goCurrent_m fr 280 (444 + 61 * C + 60)) ∧
    (∀ p k : Nat, (p = 181 → k ≠ 9) → (∀ C : Nat, C < n → p = 198 + 4 * C → k ≠ 18) → c2_letCurrent_m fc p k = fc p k) ∧
    (∀ w : Nat, w ≠ 5 → (∀ C : Nat, C < n → w ≠ 444 + 61 * C + 60) → r_goCurrent_m fr 280 w = fr 280 w) := by
  have m1 : (-1 : Int32).toInt = -1 := by decide +kernel
  have r5 : ∀ z : Int32, ∀ j : Nat, j ≠ 5 → (fl_row fr 280 (upd (fr 280) 5 z)) 280 j = fr 280 j := fun z j hj => by rw [fl_row_self, upd_ne hj]
  have hn := h.1.1
  obtain ⟨e1, e2⟩ := c2_cur_fc h hst hk hw hm
  have hC18 : ∀ C : Nat, C < n → fc (198 + 4 * C) 18 = fr 280 (444 + 61 * C + 60) := fun C hC => (h.2.2.2.2 C hC).2.2.2.2.2
  unfold r_goCurrent_m
  rw [e2, e1]
  generalize hcu : r_goCurrent_j9_0 fr = cu
  have simple : (fl_row fc 181 (upd (fc 181) 9 cu)) 181 9 = cu ∧ (fl_row fr 280 (upd (fr 280) 5 cu)) 280 5 = cu ∧
    (∀ C : Nat, C < n → (fl_row fc 181 (upd (fc 181) 9 cu)) (198 + 4 * C) 18 = (fl_row fr 280 (upd (fr 280) 5 cu)) 280 (444 + 61 * C + 60)) ∧
    (∀ p k : Nat, (p = 181 → k ≠ 9) → (∀ C : Nat, C < n → p = 198 + 4 * C → k ≠ 18) → (fl_row fc 181 (upd (fc 181) 9 cu)) p k = fc p k) ∧
    (∀ w : Nat, w ≠ 5 → (∀ C : Nat, C < n → w ≠ 444 + 61 * C + 60) → (fl_row fr 280 (upd (fr 280) 5 cu)) 280 w = fr 280 w) := by
    refine ⟨by rw [fl_row_self, upd_self], by rw [fl_row_self, upd_self], fun C hC => ?_, fun p k h1 h2 => ?_, fun w h1 _ => r5 _ w h1⟩
    · rw [fl_row_ne (by omega), r5 _ _ (by omega)]
      exact hC18 C hC
    · by_cases hp : p = 181
      · subst hp
        rw [fl_row_self, upd_ne (h1 rfl)]
      · rw [fl_row_ne hp]
  by_cases hl : (r_isLive_v fr).toInt = 0
  · rw [if_pos hl, if_pos hl]
    exact simple
  · rw [if_neg hl, if_neg hl]
    by_cases hq : cu.toInt = (fr 280 54).toInt
    · rw [if_pos hq, if_pos hq]
      exact simple
    · rw [if_neg hq, if_neg hq]
      -- the request isn't 0: the ways are alike
      have hr0 : (fr 280 54).toInt ≠ 0 := fun h0 => hq (by
        have l0 := h.lim_nn (x := (0 : Int32)) hm
        have l1 := h.lim_nn (x := (1 : Int32)) hm
        have n1 : (-(r_limitOf_v fr (1 : Int32))).toInt = -(r_limitOf_v fr (1 : Int32)).toInt := by rw [Int32.toInt_neg]; exact Int.bmod_eq_of_le (by omega) (by omega)
        rw [← hcu]
        unfold r_goCurrent_j9_0 r_held_v
        rw [if_neg hl, if_neg (by omega), if_neg (by omega)])
      have hway : (if (fr 280 54).toInt < 0 then (1 : Int32) else (0 : Int32)) = r_goCurrent_j66_0 fr := by
        unfold r_goCurrent_j66_0
        by_cases hr : (fr 280 54).toInt < 0
        · rw [if_pos hr, if_neg (by omega)]
        · rw [if_neg hr, if_pos (by omega)]
      rw [hway]
      unfold r_goCurrent_j83_0
      rw [hcu]
      generalize r_goCurrent_j66_0 fr = x
      have h2 : c2_RL (fl_row fc 181 (upd (fc 181) 9 cu)) (fl_row fr 280 (upd (fr 280) 5 cu)) n := h.congr (by rw [fl_row_self, upd_ne (by decide : 5 ≠ 9)]) (fun p hp => fl_row_ne hp) (fun j hj => r5 _ j hj)
      obtain ⟨b1, b2⟩ := c2_back_eq h2 x
      have hw2 := h2.worst (x := x)
      obtain ⟨q1, q2, q3, q4, q5⟩ := simple
      refine ⟨(b2 _ _ (fun C hC h => absurd h (by omega))).trans q1, ?_, fun C hC => ?_, fun p k h1 h2 => (b2 p k h2).trans (q4 p k h1 h2), fun w h1 h2 => ?_⟩
      · rw [fl_row_self, upd_ne (by omega), upd_self]
      · rw [b1 C hC, r5 _ 38 (by omega), r5 _ _ (by omega), fl_row_self]
        rcases hw2.2 with ⟨h0, e⟩ | ⟨j, hj, e, -⟩
        · omega
        · have ej : (Int32.ofNat j).toInt = j := at_ofN (by omega)
          have hjn : (Int32.ofNat j).toInt.toNat = j := by omega
          have hne0 : ¬ (Int32.ofNat j).toInt = (-1 : Int32).toInt := by omega
          rw [e, if_neg hne0, hjn]
          by_cases hCj : C = j
          · subst hCj
            rw [upd_self]
            by_cases hl2 : (fr 280 38).toInt < (r_limitBy_v (fl_row fr 280 (upd (fr 280) 5 cu)) (Int32.ofNat C) C x).toInt
            · rw [if_pos hl2, if_neg (fun q => q.2 hl2)]
            · rw [if_neg hl2, if_pos ⟨rfl, hl2⟩]
          · have hne : ¬ (Int32.ofNat j = Int32.ofNat C) := fun q => hCj (by
              have eC : (Int32.ofNat C).toInt = C := at_ofN (by omega)
              rw [q, eC] at ej
              omega)
            rw [upd_ne (by omega), upd_ne (by omega), if_neg (fun q => hne q.1)]
      · rw [fl_row_self]
        rcases hw2.2 with ⟨h0, e⟩ | ⟨j, hj, e, -⟩
        · rw [e, if_pos rfl]
          unfold upd
          repeat' split
          all_goals first | rfl | simp_all
        · have ej : (Int32.ofNat j).toInt = j := at_ofN (by omega)
          have hjn : (Int32.ofNat j).toInt.toNat = j := by omega
          rw [e, hjn, upd_ne (h2 j hj), upd_ne h1]
end C2CUR

end

/-! 92.04.old.lean.txt -/
section
/-! ===== the reference's aging, round by round, at once ===== -/
section ROLD
variable {f g : t2_F} {c : Int32} {C : Nat} {b : Int32}
theorem r_hold_1 : r_hold_m g c C 280 (444 + 61 * C + 1) = r_held_v (g 280 (444 + 61 * C + 1)) (0 : Int32) ((3600 : Int32) * (g 280 (444 + 61 * C + 0))) := by
  unfold r_hold_m r_full_v
  rw [fl_row_self, upd_ne (by omega), upd_self]
theorem r_hold_4 : r_hold_m g c C 280 (444 + 61 * C + 4) = r_held_v (g 280 (444 + 61 * C + 4)) (0 : Int32) ((3600 : Int32) * (g 280 (444 + 61 * C + 0))) := by
  unfold r_hold_m r_full_v
  rw [fl_row_self, upd_self, fl_row_self, upd_ne (by omega)]
theorem r_hold_0 : r_hold_m g c C 280 (444 + 61 * C + 0) = g 280 (444 + 61 * C + 0) := r_hold_w (by omega) (by omega)
theorem r_held_i {x y : Int32} (hx : 0 ≤ x.toInt) (hy : 0 ≤ y.toInt) : (r_held_v x (0 : Int32) y).toInt = min x.toInt y.toInt := by
  have e : (0 : Int32).toInt = 0 := rfl
  unfold r_held_v
  rw [if_neg (by omega)]
  split <;> omega
theorem r_held_r {x y : Int32} (hy : 0 ≤ y.toInt) : (r_held_v x (0 : Int32) y).toInt = max 0 (min x.toInt y.toInt) := by
  have e : (0 : Int32).toInt = 0 := rfl
  unfold r_held_v
  split
  · omega
  · split <;> omega
theorem t2_divb {T b q r : Int} (hb : 0 < b) (hq : (T - b) / b = q) (hr : (T - b) % b = r) : T / b = q + 1 ∧ T % b = r := by
  have h := (Int.ediv_emod_unique (a := T - b) (r := r) (q := q) hb).mp ⟨hq, hr⟩
  refine (Int.ediv_emod_unique hb).mpr ⟨?_, h.2⟩
  have e : b * (q + 1) = b * q + b := by rw [Int.mul_add, Int.mul_one]
  omega
theorem r_old_wf (hb : 0 < b.toInt) : ∀ (n : Nat) (f : t2_F), (f 280 (444 + 61 * C + 5)).toInt.toNat ≤ n → 0 ≤ (f 280 (444 + 61 * C + 5)).toInt → t2_cap (f 280 (444 + 61 * C + 0)) → (0 ≤ (f 280 (444 + 61 * C + 1)).toInt ∧ (f 280 (444 + 61 * C + 1)).toInt ≤ 3600 * (f 280 (444 + 61 * C + 0)).toInt) → (0 ≤ (f 280 (444 + 61 * C + 4)).toInt ∧ (f 280 (444 + 61 * C + 4)).toInt ≤ 3600 * (f 280 (444 + 61 * C + 0)).toInt) →
    (t2_wf (fun f => r_goOld_g76 f c C b) n f 280 (444 + 61 * C + 5)).toInt = (f 280 (444 + 61 * C + 5)).toInt % b.toInt ∧
    (t2_wf (fun f => r_goOld_g76 f c C b) n f 280 (444 + 61 * C + 0)).toInt = max 100 ((f 280 (444 + 61 * C + 0)).toInt - (f 280 (444 + 61 * C + 5)).toInt / b.toInt) ∧
    (t2_wf (fun f => r_goOld_g76 f c C b) n f 280 (444 + 61 * C + 1)).toInt = min (f 280 (444 + 61 * C + 1)).toInt (3600 * (t2_wf (fun f => r_goOld_g76 f c C b) n f 280 (444 + 61 * C + 0)).toInt) ∧
    (t2_wf (fun f => r_goOld_g76 f c C b) n f 280 (444 + 61 * C + 4)).toInt = min (f 280 (444 + 61 * C + 4)).toInt (3600 * (t2_wf (fun f => r_goOld_g76 f c C b) n f 280 (444 + 61 * C + 0)).toInt) := by
  intro n
  induction n with
  | zero =>
    intro f hn h0 hc h1 h4
    have e : (f 280 (444 + 61 * C + 5)).toInt = 0 := by omega
    have hc' := hc.1
    show (f 280 _).toInt = _ ∧ (f 280 _).toInt = _ ∧ (f 280 _).toInt = min _ (3600 * (f 280 _).toInt) ∧ (f 280 _).toInt = min _ (3600 * (f 280 _).toInt)
    rw [e, Int.zero_emod, Int.zero_ediv]
    omega
  | succ n ih =>
    intro f hn h0 hc h1 h4
    obtain ⟨hc1, hc2⟩ := hc
    by_cases hT : (f 280 (444 + 61 * C + 5)).toInt < b.toInt
    · have e : r_goOld_g76 f c C b = none := by
        unfold r_goOld_g76
        rw [if_neg (by omega), if_pos hT]
      have ew : t2_wf (fun f => r_goOld_g76 f c C b) (n + 1) f = f := by
        unfold t2_wf
        rw [e]
      rw [ew, Int.emod_eq_of_lt h0 hT, Int.ediv_eq_zero_of_lt h0 hT]
      omega
    · have e100 : (100 : Int32).toInt = 100 := by decide +kernel
      have e1 : (1 : Int32).toInt = 1 := by decide +kernel
      have hx := at_i32 (f 280 (444 + 61 * C + 5))
      generalize hg : fl_row f 280 (upd (upd (f 280) (444 + 61 * C + 5) ((f 280 (444 + 61 * C + 5)) - b)) (444 + 61 * C + 0) (r_goOld_g76_j112_0 f c C b)) = g
      have e : r_goOld_g76 f c C b = some (r_hold_m g c C) := by
        unfold r_goOld_g76
        rw [if_neg (by omega), if_neg hT, hg]
      have g0 : g 280 (444 + 61 * C + 0) = r_goOld_g76_j112_0 f c C b := by rw [← hg, fl_row_self, upd_self]
      have g5 : g 280 (444 + 61 * C + 5) = f 280 (444 + 61 * C + 5) - b := by rw [← hg, fl_row_self, upd_ne (by omega), upd_self]
      have g1 : g 280 (444 + 61 * C + 1) = f 280 (444 + 61 * C + 1) := by rw [← hg, fl_row_self, upd_ne (by omega), upd_ne (by omega)]
      have g4 : g 280 (444 + 61 * C + 4) = f 280 (444 + 61 * C + 4) := by rw [← hg, fl_row_self, upd_ne (by omega), upd_ne (by omega)]
      have j0 : (r_goOld_g76_j112_0 f c C b).toInt = max 100 ((f 280 (444 + 61 * C + 0)).toInt - 1) := by
        unfold r_goOld_g76_j112_0
        split
        · rw [at_sub32] <;> rw [e1] <;> omega
        · omega
      have i0 : (g 280 (444 + 61 * C + 0)).toInt = max 100 ((f 280 (444 + 61 * C + 0)).toInt - 1) := by rw [g0, j0]
      have i5 : (g 280 (444 + 61 * C + 5)).toInt = (f 280 (444 + 61 * C + 5)).toInt - b.toInt := by rw [g5, at_sub32] <;> omega
      have capg : t2_cap (g 280 (444 + 61 * C + 0)) := by
        unfold t2_cap
        omega
      have ff : ((3600 : Int32) * (g 280 (444 + 61 * C + 0))).toInt = 3600 * (g 280 (444 + 61 * C + 0)).toInt := t2_full_r capg
      have k0 := r_hold_0 (g := g) (c := c) (C := C)
      have k1 : (r_hold_m g c C 280 (444 + 61 * C + 1)).toInt = min (f 280 (444 + 61 * C + 1)).toInt (3600 * (g 280 (444 + 61 * C + 0)).toInt) := by
        rw [r_hold_1, r_held_i (by rw [g1]; omega) (by rw [ff]; omega), g1, ff]
      have k4 : (r_hold_m g c C 280 (444 + 61 * C + 4)).toInt = min (f 280 (444 + 61 * C + 4)).toInt (3600 * (g 280 (444 + 61 * C + 0)).toInt) := by
        rw [r_hold_4, r_held_i (by rw [g4]; omega) (by rw [ff]; omega), g4, ff]
      have k5 : r_hold_m g c C 280 (444 + 61 * C + 5) = g 280 (444 + 61 * C + 5) := r_hold_w (by omega) (by omega)
      have ew : t2_wf (fun f => r_goOld_g76 f c C b) (n + 1) f = t2_wf (fun f => r_goOld_g76 f c C b) n (r_hold_m g c C) := by
        conv => lhs; unfold t2_wf
        rw [e]
      have := ih (r_hold_m g c C) (by rw [k5, i5]; omega) (by rw [k5, i5]; omega) (by rw [k0]; exact capg) (by rw [k1, k0]; omega) (by rw [k4, k0]; omega)
      rw [k5, k0, i5] at this
      rw [ew]
      obtain ⟨d1, d2⟩ := t2_divb (T := (f 280 (444 + 61 * C + 5)).toInt) hb rfl rfl
      have q0 : 0 ≤ ((f 280 (444 + 61 * C + 5)).toInt - b.toInt) / b.toInt := Int.ediv_nonneg (by omega) (by omega)
      obtain ⟨t1, t2, t3, t4⟩ := this
      rw [d1, d2]
      generalize ((f 280 (444 + 61 * C + 5)).toInt - b.toInt) / b.toInt = q at t2 q0
      refine ⟨t1, ?_, ?_, ?_⟩
      · rw [t2, i0]
        omega
      · rw [t3, k1]
        omega
      · rw [t4, k4]
        omega
end ROLD

end

/-! 92.05.pass.lean.txt -/
section
/-! ===== block 0: (3) of a second, a cell's own ===== -/
section C0PASS
variable {f : t2_F} {i : Nat} {x : Int32}
theorem t2_irem {T l : Int32} (hT : 0 ≤ T.toInt) (hl : 0 < l.toInt) : (T - T / l * l).toInt = T.toInt % l.toInt ∧ (T / l).toInt = T.toInt / l.toInt ∧ 0 ≤ T.toInt / l.toInt ∧ T.toInt / l.toInt ≤ T.toInt := by
  have d := at_div32 (x := T) (y := l) hT hl
  have q0 : 0 ≤ T.toInt / l.toInt := Int.ediv_nonneg hT (by omega)
  have q1 : T.toInt / l.toInt ≤ T.toInt := Int.ediv_le_self _ hT
  have m1 : T.toInt / l.toInt * l.toInt ≤ T.toInt := Int.ediv_mul_le _ (by omega)
  have m0 : 0 ≤ T.toInt / l.toInt * l.toInt := Int.mul_nonneg q0 (by omega)
  have bT := at_i32 T
  have e : (T / l * l).toInt = T.toInt / l.toInt * l.toInt := by rw [at_mul32] <;> rw [d] <;> omega
  refine ⟨?_, d, q0, q1⟩
  rw [at_sub32 (by omega) (by omega), e, Int.emod_def, Int.mul_comm l.toInt]
theorem t2_heldTo_i {v y : Int32} (hy : 0 ≤ y.toInt) : (t2_heldTo_v v (0 : Int32) y).toInt = max 0 (min v.toInt y.toInt) := by
  have e : (0 : Int32).toInt = 0 := rfl
  unfold t2_heldTo_v
  split
  · omega
  · split <;> omega
theorem c0_wear_w (hcap : t2_cap (f (18 + 4 * i) 0)) (hT : 0 ≤ (f (18 + 4 * i) 9).toInt) (hl : 0 ≤ (x * (3600 : Int32)).toInt) (hr : 0 ≤ (f (18 + 4 * i) 8).toInt ∧ (f (18 + 4 * i) 8).toInt ≤ 3600 * (f (18 + 4 * i) 0).toInt) :
    (∀ j : Nat, j ≠ 0 → j ≠ 8 → j ≠ 9 → c0_wear_m f i x (18 + 4 * i) j = f (18 + 4 * i) j) ∧ t2_cap (c0_wear_m f i x (18 + 4 * i) 0) ∧
    ((x * (3600 : Int32)).toInt = 0 → c0_wear_m f i x = f) ∧
    (0 < (x * (3600 : Int32)).toInt → (c0_wear_m f i x (18 + 4 * i) 9).toInt = (f (18 + 4 * i) 9).toInt % (x * (3600 : Int32)).toInt ∧ (c0_wear_m f i x (18 + 4 * i) 0).toInt = max 100 ((f (18 + 4 * i) 0).toInt - (f (18 + 4 * i) 9).toInt / (x * (3600 : Int32)).toInt) ∧ (c0_wear_m f i x (18 + 4 * i) 8).toInt = min (f (18 + 4 * i) 8).toInt (3600 * (c0_wear_m f i x (18 + 4 * i) 0).toInt)) := by
  obtain ⟨hc1, hc2⟩ := hcap
  have e100 : (100 : Int32).toInt = 100 := by decide +kernel
  unfold c0_wear_m
  generalize hlot : x * (3600 : Int32) = lot at hl
  by_cases h1 : 0 < lot.toInt
  · simp only [if_pos h1]
    by_cases h2 : (f (18 + 4 * i) 9).toInt < lot.toInt
    · simp only [if_pos h2]
      refine ⟨fun j _ _ _ => trivial, ⟨hc1, hc2⟩, fun h => absurd h (by omega), fun _ => ?_⟩
      rw [Int.emod_eq_of_lt hT h2, Int.ediv_eq_zero_of_lt hT h2]
      omega
    · simp only [if_neg h2]
      obtain ⟨d1, d2, d3, d4⟩ := t2_irem hT h1
      have k0 : (t2_max_v (100 : Int32) (f (18 + 4 * i) 0 - f (18 + 4 * i) 9 / lot)).toInt = max 100 ((f (18 + 4 * i) 0).toInt - (f (18 + 4 * i) 9).toInt / lot.toInt) := by
        have b9 := at_i32 (f (18 + 4 * i) 9)
        rw [t2_max_i, e100, at_sub32 (by omega) (by omega), d2]
      unfold c0_putReckoned_m
      simp only [fl_row_self, upd_ne (by decide : 0 ≠ 8), upd_ne (by decide : 9 ≠ 8), upd_ne (by decide : 0 ≠ 9), upd_self, upd_ne (by decide : 8 ≠ 9), upd_ne (by decide : 8 ≠ 0)]
      have kc : t2_cap (t2_max_v (100 : Int32) (f (18 + 4 * i) 0 - f (18 + 4 * i) 9 / lot)) := by
        unfold t2_cap
        omega
      refine ⟨fun j j0 j8 j9 => by rw [upd_ne j8, upd_ne j9, upd_ne j0], kc, fun h => absurd h (by omega), fun _ => ⟨d1, k0, ?_⟩⟩
      rw [t2_heldTo_i (by rw [t2_full_i kc]; omega), t2_full_i kc]
      omega
  · simp only [if_neg h1]
    exact ⟨fun j _ _ _ => trivial, ⟨hc1, hc2⟩, fun _ => trivial, fun h => absurd h (by omega)⟩
end C0PASS

/-! ===== block 2: (3) of a second, a cell's own ===== -/
section C2PASS
variable {f : t2_F} {i : Nat} {x : Int32}
theorem c2_wear_w (hcap : t2_cap (f (198 + 4 * i) 0)) (hT : 0 ≤ (f (198 + 4 * i) 9).toInt) (hl : 0 ≤ (x * (3600 : Int32)).toInt) (hr : 0 ≤ (f (198 + 4 * i) 8).toInt ∧ (f (198 + 4 * i) 8).toInt ≤ 3600 * (f (198 + 4 * i) 0).toInt) :
    (∀ j : Nat, j ≠ 0 → j ≠ 8 → j ≠ 9 → c2_wear_m f i x (198 + 4 * i) j = f (198 + 4 * i) j) ∧ t2_cap (c2_wear_m f i x (198 + 4 * i) 0) ∧
    ((x * (3600 : Int32)).toInt = 0 → c2_wear_m f i x = f) ∧
    (0 < (x * (3600 : Int32)).toInt → (c2_wear_m f i x (198 + 4 * i) 9).toInt = (f (198 + 4 * i) 9).toInt % (x * (3600 : Int32)).toInt ∧ (c2_wear_m f i x (198 + 4 * i) 0).toInt = max 100 ((f (198 + 4 * i) 0).toInt - (f (198 + 4 * i) 9).toInt / (x * (3600 : Int32)).toInt) ∧ (c2_wear_m f i x (198 + 4 * i) 8).toInt = min (f (198 + 4 * i) 8).toInt (3600 * (c2_wear_m f i x (198 + 4 * i) 0).toInt)) := by
  obtain ⟨hc1, hc2⟩ := hcap
  have e100 : (100 : Int32).toInt = 100 := by decide +kernel
  unfold c2_wear_m
  generalize hlot : x * (3600 : Int32) = lot at hl
  by_cases h1 : 0 < lot.toInt
  · simp only [if_pos h1]
    by_cases h2 : (f (198 + 4 * i) 9).toInt < lot.toInt
    · simp only [if_pos h2]
      refine ⟨fun j _ _ _ => trivial, ⟨hc1, hc2⟩, fun h => absurd h (by omega), fun _ => ?_⟩
      rw [Int.emod_eq_of_lt hT h2, Int.ediv_eq_zero_of_lt hT h2]
      omega
    · simp only [if_neg h2]
      obtain ⟨d1, d2, d3, d4⟩ := t2_irem hT h1
      have k0 : (t2_max_v (100 : Int32) (f (198 + 4 * i) 0 - f (198 + 4 * i) 9 / lot)).toInt = max 100 ((f (198 + 4 * i) 0).toInt - (f (198 + 4 * i) 9).toInt / lot.toInt) := by
        have b9 := at_i32 (f (198 + 4 * i) 9)
        rw [t2_max_i, e100, at_sub32 (by omega) (by omega), d2]
      unfold c2_putReckoned_m
      simp only [fl_row_self, upd_ne (by decide : 0 ≠ 8), upd_ne (by decide : 9 ≠ 8), upd_ne (by decide : 0 ≠ 9), upd_self, upd_ne (by decide : 8 ≠ 9), upd_ne (by decide : 8 ≠ 0)]
      have kc : t2_cap (t2_max_v (100 : Int32) (f (198 + 4 * i) 0 - f (198 + 4 * i) 9 / lot)) := by
        unfold t2_cap
        omega
      refine ⟨fun j j0 j8 j9 => by rw [upd_ne j8, upd_ne j9, upd_ne j0], kc, fun h => absurd h (by omega), fun _ => ⟨d1, k0, ?_⟩⟩
      rw [t2_heldTo_i (by rw [t2_full_i kc]; omega), t2_full_i kc]
      omega
  · simp only [if_neg h1]
    exact ⟨fun j _ _ _ => trivial, ⟨hc1, hc2⟩, fun _ => trivial, fun h => absurd h (by omega)⟩
end C2PASS

end

/-! 92.06.pass2.lean.txt -/
section
/-! ===== block 0: (3) of a second: a cell's pass comes to the reference's warm and old ===== -/
theorem t2_wf_none {h : t2_F → Option t2_F} {n : Nat} {f : t2_F} (e : h f = none) : t2_wf h n f = f := by
  cases n with
  | zero => rfl
  | succ n =>
    unfold t2_wf
    rw [e]
section C0PASSB
variable {fc g M1 G : t2_F} {C n : Nat} {c x fade b : Int32}
theorem c0_wear_old (hb : fade * (3600 : Int32) = b) (hcap : t2_cap (M1 (18 + 4 * C) 0)) (hT : 0 ≤ (M1 (18 + 4 * C) 9).toInt) (hl : 0 ≤ b.toInt) (hr : 0 ≤ (M1 (18 + 4 * C) 8).toInt ∧ (M1 (18 + 4 * C) 8).toInt ≤ 3600 * (M1 (18 + 4 * C) 0).toInt) (hg : 0 ≤ (G 280 (444 + 61 * C + 1)).toInt ∧ (G 280 (444 + 61 * C + 1)).toInt ≤ 3600 * (M1 (18 + 4 * C) 0).toInt) (m0 : M1 (18 + 4 * C) 0 = G 280 (444 + 61 * C + 0)) (m8 : M1 (18 + 4 * C) 8 = G 280 (444 + 61 * C + 4)) (m9 : M1 (18 + 4 * C) 9 = G 280 (444 + 61 * C + 5)) (hn : (M1 (18 + 4 * C) 9).toInt.toNat ≤ n) :
    c0_wear_m M1 C fade (18 + 4 * C) 0 = t2_wf (fun f => r_goOld_g76 f c C b) n G 280 (444 + 61 * C + 0) ∧ c0_wear_m M1 C fade (18 + 4 * C) 8 = t2_wf (fun f => r_goOld_g76 f c C b) n G 280 (444 + 61 * C + 4) ∧ c0_wear_m M1 C fade (18 + 4 * C) 9 = t2_wf (fun f => r_goOld_g76 f c C b) n G 280 (444 + 61 * C + 5) ∧ t2_cap (c0_wear_m M1 C fade (18 + 4 * C) 0) ∧ (t2_wf (fun f => r_goOld_g76 f c C b) n G 280 (444 + 61 * C + 1)).toInt = min (G 280 (444 + 61 * C + 1)).toInt (3600 * (c0_wear_m M1 C fade (18 + 4 * C) 0).toInt) ∧ ∀ j : Nat, j ≠ 0 → j ≠ 8 → j ≠ 9 → c0_wear_m M1 C fade (18 + 4 * C) j = M1 (18 + 4 * C) j := by
  obtain ⟨w1, w2, w3, w4⟩ := c0_wear_w (f := M1) (i := C) (x := fade) hcap hT (by rw [hb]; exact hl) hr
  rw [hb] at w3 w4
  by_cases hz : b.toInt = 0
  · have e1 := w3 hz
    have e2 : t2_wf (fun f => r_goOld_g76 f c C b) n G = G := t2_wf_none (by unfold r_goOld_g76; rw [if_pos hz])
    rw [e1, e2]
    exact ⟨m0, m8, m9, hcap, by omega, fun j _ _ _ => rfl⟩
  · have hp : 0 < b.toInt := by omega
    obtain ⟨a9, a0, a8⟩ := w4 hp
    obtain ⟨b5, b0, b1, b4⟩ := r_old_wf (c := c) (C := C) (b := b) hp n G (by rw [← m9]; exact hn) (by rw [← m9]; exact hT) (by rw [← m0]; exact hcap) (by rw [← m0]; exact hg) (by rw [← m8, ← m0]; exact hr)
    have q0 : c0_wear_m M1 C fade (18 + 4 * C) 0 = t2_wf (fun f => r_goOld_g76 f c C b) n G 280 (444 + 61 * C + 0) := Int32.toInt.inj (by rw [a0, b0, m0, m9])
    exact ⟨q0, Int32.toInt.inj (by rw [a8, b4, q0, m8]), Int32.toInt.inj (by rw [a9, b5, m9]), w2, by rw [b1, q0], w1⟩
theorem c0_pass_old (hcap : t2_cap (fc (18 + 4 * C) 0)) (hr : 0 ≤ (fc (18 + 4 * C) 8).toInt ∧ (fc (18 + 4 * C) 8).toInt ≤ 3600 * (fc (18 + 4 * C) 0).toInt) (hT : 0 ≤ (fc (18 + 4 * C) 9 + t2_abs_v x).toInt) (hl : 0 ≤ (fc 4 24 * (3600 : Int32)).toInt)
    (e0 : g 280 (444 + 61 * C + 0) = fc (18 + 4 * C) 0) (e1 : g 280 (444 + 61 * C + 1) = r_held_v (fc (18 + 4 * C) 2 + x - fc 4 27) (0 : Int32) ((3600 : Int32) * fc (18 + 4 * C) 0)) (e4 : g 280 (444 + 61 * C + 4) = fc (18 + 4 * C) 8) (e5 : g 280 (444 + 61 * C + 5) = fc (18 + 4 * C) 9) (e9 : g 280 (444 + 61 * C + 9) = fc (18 + 4 * C) 7) (s5 : g 280 5 = x) (s58 : g 280 58 = fc 4 24) (s59 : g 280 59 = fc 4 25) (s52 : g 280 52 = fc 4 18) :
    c0_pass_m fc C x (18 + 4 * C) 0 = r_goOld_m g c C 280 (444 + 61 * C + 0) ∧ c0_pass_m fc C x (18 + 4 * C) 2 = r_goOld_m g c C 280 (444 + 61 * C + 1) ∧ c0_pass_m fc C x (18 + 4 * C) 8 = r_goOld_m g c C 280 (444 + 61 * C + 4) ∧ c0_pass_m fc C x (18 + 4 * C) 9 = r_goOld_m g c C 280 (444 + 61 * C + 5) ∧ c0_pass_m fc C x (18 + 4 * C) 7 = r_goOld_m g c C 280 (444 + 61 * C + 9) ∧ t2_cap (c0_pass_m fc C x (18 + 4 * C) 0) ∧ ∀ j : Nat, j = 1 ∨ j = 5 ∨ 10 ≤ j → c0_pass_m fc C x (18 + 4 * C) j = fc (18 + 4 * C) j := by
  have hfo : (fc (18 + 4 * C) 0 * (3600 : Int32)).toInt = 3600 * (fc (18 + 4 * C) 0).toInt := by rw [t2_full_i hcap]; omega
  have hc100 := hcap.1
  unfold c0_pass_m
  generalize hM : fl_row fc (18 + 4 * C) (upd (upd (upd (fc (18 + 4 * C)) 6 (((fc (18 + 4 * C) 6) + ((((x / (1000 : Int32)) * (x / (1000 : Int32))) * (fc (18 + 4 * C) 5)) / (500 : Int32))) + (((fc 4 6) - ((fc (18 + 4 * C) 6) + ((((x / (1000 : Int32)) * (x / (1000 : Int32))) * (fc (18 + 4 * C) 5)) / (500 : Int32)))) / (32 : Int32)))) 7 ((fc (18 + 4 * C) 7) + ((((x * (fc 4 25)) / (1000 : Int32)) - (fc (18 + 4 * C) 7)) / (8 : Int32)))) 9 ((fc (18 + 4 * C) 9) + (t2_abs_v x))) = M1
  unfold r_goOld_m
  generalize hG : fl_row g 280 (upd (upd (g 280) (444 + 61 * C + 9) ((g 280 (444 + 61 * C + 9)) + (((((g 280 5) * (g 280 59)) / (1000 : Int32)) - (g 280 (444 + 61 * C + 9))) / (8 : Int32)))) (444 + 61 * C + 5) ((g 280 (444 + 61 * C + 5)) + (r_size_v (g 280 5)))) = G
  have m0 : M1 (18 + 4 * C) 0 = fc (18 + 4 * C) 0 := by rw [← hM, fl_row_self, upd_ne (by decide), upd_ne (by decide), upd_ne (by decide)]
  have m8 : M1 (18 + 4 * C) 8 = fc (18 + 4 * C) 8 := by rw [← hM, fl_row_self, upd_ne (by decide), upd_ne (by decide), upd_ne (by decide)]
  have m9 : M1 (18 + 4 * C) 9 = fc (18 + 4 * C) 9 + t2_abs_v x := by rw [← hM, fl_row_self, upd_self]
  have m7 : M1 (18 + 4 * C) 7 = fc (18 + 4 * C) 7 + (((x * fc 4 25) / (1000 : Int32)) - fc (18 + 4 * C) 7) / (8 : Int32) := by rw [← hM, fl_row_self, upd_ne (by decide), upd_self]
  have mj : ∀ j : Nat, j = 1 ∨ j = 5 ∨ 10 ≤ j → M1 (18 + 4 * C) j = fc (18 + 4 * C) j := fun j hj => by rw [← hM, fl_row_self, upd_ne (by omega), upd_ne (by omega), upd_ne (by omega)]
  have G0 : G 280 (444 + 61 * C + 0) = fc (18 + 4 * C) 0 := by rw [← hG, fl_row_self, upd_ne (by omega), upd_ne (by omega), e0]
  have G1 : G 280 (444 + 61 * C + 1) = r_held_v (fc (18 + 4 * C) 2 + x - fc 4 27) (0 : Int32) ((3600 : Int32) * fc (18 + 4 * C) 0) := by rw [← hG, fl_row_self, upd_ne (by omega), upd_ne (by omega), e1]
  have G4 : G 280 (444 + 61 * C + 4) = fc (18 + 4 * C) 8 := by rw [← hG, fl_row_self, upd_ne (by omega), upd_ne (by omega), e4]
  have G5 : G 280 (444 + 61 * C + 5) = fc (18 + 4 * C) 9 + t2_abs_v x := by
    rw [← hG, fl_row_self, upd_self, e5, s5]
    rfl
  have G9 : G 280 (444 + 61 * C + 9) = fc (18 + 4 * C) 7 + (((x * fc 4 25) / (1000 : Int32)) - fc (18 + 4 * C) 7) / (8 : Int32) := by rw [← hG, fl_row_self, upd_ne (by omega), upd_self, e9, s5, s59]
  have g1i : (G 280 (444 + 61 * C + 1)).toInt = max 0 (min (fc (18 + 4 * C) 2 + x - fc 4 27).toInt (3600 * (fc (18 + 4 * C) 0).toInt)) := by
    rw [G1, t2_m32, r_held_r (by rw [hfo]; omega), hfo]
  have hb : fc 4 24 * (3600 : Int32) = (3600 : Int32) * (g 280 58) := by rw [s58, t2_m32]
  have bT := at_i32 (fc (18 + 4 * C) 9 + t2_abs_v x)
  have hW := c0_wear_old (M1 := M1) (G := G) (C := C) (n := 2147483647) (c := c) (fade := fc 4 24) (b := (3600 : Int32) * (g 280 58)) hb (by rw [m0]; exact hcap) (by rw [m9]; exact hT) (by rw [← hb]; exact hl) (by rw [m8, m0]; exact hr) (by rw [m0, g1i]; omega) (by rw [m0, G0]) (by rw [m8, G4]) (by rw [m9, G5]) (by rw [m9]; omega)
  have w9 : t2_wf (fun f => r_goOld_g76 f c C ((3600 : Int32) * (g 280 58))) 2147483647 G 280 (444 + 61 * C + 9) = G 280 (444 + 61 * C + 9) := r_goOld_ww (by omega) (by omega) (by omega) (by omega)
  generalize t2_wf (fun f => r_goOld_g76 f c C ((3600 : Int32) * (g 280 58))) 2147483647 G = W' at hW w9 ⊢
  generalize c0_wear_m M1 C (fc 4 24) = W at hW ⊢
  obtain ⟨q0, q8, q9, qc, q1, qj⟩ := hW
  have hfw : (W (18 + 4 * C) 0 * (3600 : Int32)).toInt = 3600 * (W (18 + 4 * C) 0).toInt := by rw [t2_full_i qc]; omega
  have hwc := qc.1
  unfold c0_putReckoned_m c0_putCharge_m
  refine ⟨?_, ?_, ?_, ?_, ?_, ?_, fun j hj => ?_⟩
  · rw [r_hold_0]
    simp only [fl_row_self, upd_ne (by decide : 0 ≠ 8), upd_ne (by decide : 0 ≠ 4), upd_ne (by decide : 0 ≠ 3), upd_ne (by decide : 0 ≠ 2), upd_ne (show 444 + 61 * C + 0 ≠ 444 + 61 * C + 4 by omega)]
    exact q0
  · rw [r_hold_1]
    simp only [fl_row_self, upd_ne (by decide : 2 ≠ 8), upd_ne (by decide : 2 ≠ 4), upd_ne (by decide : 2 ≠ 3), upd_self, upd_ne (show 444 + 61 * C + 0 ≠ 444 + 61 * C + 4 by omega), upd_ne (show 444 + 61 * C + 1 ≠ 444 + 61 * C + 4 by omega)]
    rw [← q0]
    refine Int32.toInt.inj ?_
    rw [t2_heldTo_i (by rw [hfw]; omega), t2_m32 (3600 : Int32), r_held_r (by rw [hfw]; omega), hfw, q1, g1i, t2_heldTo_i (by rw [hfo]; omega), hfo]
    omega
  · rw [r_hold_4]
    simp only [fl_row_self, upd_self, upd_ne (by decide : 8 ≠ 4), upd_ne (by decide : 8 ≠ 3), upd_ne (by decide : 8 ≠ 2), upd_ne (by decide : 0 ≠ 4), upd_ne (by decide : 0 ≠ 3), upd_ne (by decide : 0 ≠ 2), upd_ne (show 444 + 61 * C + 0 ≠ 444 + 61 * C + 4 by omega)]
    rw [← q0, ← q8, s5, s52, t2_m32 (3600 : Int32)]
    rfl
  · rw [r_hold_w (by omega) (by omega)]
    simp only [fl_row_self, upd_ne (by decide : 9 ≠ 8), upd_ne (by decide : 9 ≠ 4), upd_ne (by decide : 9 ≠ 3), upd_ne (by decide : 9 ≠ 2), upd_ne (show 444 + 61 * C + 5 ≠ 444 + 61 * C + 4 by omega)]
    exact q9
  · rw [r_hold_w (by omega) (by omega)]
    simp only [fl_row_self, upd_ne (by decide : 7 ≠ 8), upd_ne (by decide : 7 ≠ 4), upd_ne (by decide : 7 ≠ 3), upd_ne (by decide : 7 ≠ 2), upd_ne (show 444 + 61 * C + 9 ≠ 444 + 61 * C + 4 by omega)]
    rw [qj 7 (by decide) (by decide) (by decide), m7, w9, G9]
  · simp only [fl_row_self, upd_ne (by decide : 0 ≠ 8), upd_ne (by decide : 0 ≠ 4), upd_ne (by decide : 0 ≠ 3), upd_ne (by decide : 0 ≠ 2)]
    exact qc
  · rw [fl_row_self, upd_ne (by omega), fl_row_self, upd_ne (by omega), upd_ne (by omega), upd_ne (by omega), qj j (by omega) (by omega) (by omega)]
    exact mj j hj
end C0PASSB

/-! ===== block 2: (3) of a second: a cell's pass comes to the reference's warm and old ===== -/
section C2PASSB
variable {fc g M1 G : t2_F} {C n : Nat} {c x fade b : Int32}
theorem c2_wear_old (hb : fade * (3600 : Int32) = b) (hcap : t2_cap (M1 (198 + 4 * C) 0)) (hT : 0 ≤ (M1 (198 + 4 * C) 9).toInt) (hl : 0 ≤ b.toInt) (hr : 0 ≤ (M1 (198 + 4 * C) 8).toInt ∧ (M1 (198 + 4 * C) 8).toInt ≤ 3600 * (M1 (198 + 4 * C) 0).toInt) (hg : 0 ≤ (G 280 (444 + 61 * C + 1)).toInt ∧ (G 280 (444 + 61 * C + 1)).toInt ≤ 3600 * (M1 (198 + 4 * C) 0).toInt) (m0 : M1 (198 + 4 * C) 0 = G 280 (444 + 61 * C + 0)) (m8 : M1 (198 + 4 * C) 8 = G 280 (444 + 61 * C + 4)) (m9 : M1 (198 + 4 * C) 9 = G 280 (444 + 61 * C + 5)) (hn : (M1 (198 + 4 * C) 9).toInt.toNat ≤ n) :
    c2_wear_m M1 C fade (198 + 4 * C) 0 = t2_wf (fun f => r_goOld_g76 f c C b) n G 280 (444 + 61 * C + 0) ∧ c2_wear_m M1 C fade (198 + 4 * C) 8 = t2_wf (fun f => r_goOld_g76 f c C b) n G 280 (444 + 61 * C + 4) ∧ c2_wear_m M1 C fade (198 + 4 * C) 9 = t2_wf (fun f => r_goOld_g76 f c C b) n G 280 (444 + 61 * C + 5) ∧ t2_cap (c2_wear_m M1 C fade (198 + 4 * C) 0) ∧ (t2_wf (fun f => r_goOld_g76 f c C b) n G 280 (444 + 61 * C + 1)).toInt = min (G 280 (444 + 61 * C + 1)).toInt (3600 * (c2_wear_m M1 C fade (198 + 4 * C) 0).toInt) ∧ ∀ j : Nat, j ≠ 0 → j ≠ 8 → j ≠ 9 → c2_wear_m M1 C fade (198 + 4 * C) j = M1 (198 + 4 * C) j := by
  obtain ⟨w1, w2, w3, w4⟩ := c2_wear_w (f := M1) (i := C) (x := fade) hcap hT (by rw [hb]; exact hl) hr
  rw [hb] at w3 w4
  by_cases hz : b.toInt = 0
  · have e1 := w3 hz
    have e2 : t2_wf (fun f => r_goOld_g76 f c C b) n G = G := t2_wf_none (by unfold r_goOld_g76; rw [if_pos hz])
    rw [e1, e2]
    exact ⟨m0, m8, m9, hcap, by omega, fun j _ _ _ => rfl⟩
  · have hp : 0 < b.toInt := by omega
    obtain ⟨a9, a0, a8⟩ := w4 hp
    obtain ⟨b5, b0, b1, b4⟩ := r_old_wf (c := c) (C := C) (b := b) hp n G (by rw [← m9]; exact hn) (by rw [← m9]; exact hT) (by rw [← m0]; exact hcap) (by rw [← m0]; exact hg) (by rw [← m8, ← m0]; exact hr)
    have q0 : c2_wear_m M1 C fade (198 + 4 * C) 0 = t2_wf (fun f => r_goOld_g76 f c C b) n G 280 (444 + 61 * C + 0) := Int32.toInt.inj (by rw [a0, b0, m0, m9])
    exact ⟨q0, Int32.toInt.inj (by rw [a8, b4, q0, m8]), Int32.toInt.inj (by rw [a9, b5, m9]), w2, by rw [b1, q0], w1⟩
theorem c2_pass_old (hcap : t2_cap (fc (198 + 4 * C) 0)) (hr : 0 ≤ (fc (198 + 4 * C) 8).toInt ∧ (fc (198 + 4 * C) 8).toInt ≤ 3600 * (fc (198 + 4 * C) 0).toInt) (hT : 0 ≤ (fc (198 + 4 * C) 9 + t2_abs_v x).toInt) (hl : 0 ≤ (fc 184 24 * (3600 : Int32)).toInt)
    (e0 : g 280 (444 + 61 * C + 0) = fc (198 + 4 * C) 0) (e1 : g 280 (444 + 61 * C + 1) = r_held_v (fc (198 + 4 * C) 2 + x - fc 184 27) (0 : Int32) ((3600 : Int32) * fc (198 + 4 * C) 0)) (e4 : g 280 (444 + 61 * C + 4) = fc (198 + 4 * C) 8) (e5 : g 280 (444 + 61 * C + 5) = fc (198 + 4 * C) 9) (e9 : g 280 (444 + 61 * C + 9) = fc (198 + 4 * C) 7) (s5 : g 280 5 = x) (s58 : g 280 58 = fc 184 24) (s59 : g 280 59 = fc 184 25) (s52 : g 280 52 = fc 184 18) :
    c2_pass_m fc C x (198 + 4 * C) 0 = r_goOld_m g c C 280 (444 + 61 * C + 0) ∧ c2_pass_m fc C x (198 + 4 * C) 2 = r_goOld_m g c C 280 (444 + 61 * C + 1) ∧ c2_pass_m fc C x (198 + 4 * C) 8 = r_goOld_m g c C 280 (444 + 61 * C + 4) ∧ c2_pass_m fc C x (198 + 4 * C) 9 = r_goOld_m g c C 280 (444 + 61 * C + 5) ∧ c2_pass_m fc C x (198 + 4 * C) 7 = r_goOld_m g c C 280 (444 + 61 * C + 9) ∧ t2_cap (c2_pass_m fc C x (198 + 4 * C) 0) ∧ ∀ j : Nat, j = 1 ∨ j = 5 ∨ 10 ≤ j → c2_pass_m fc C x (198 + 4 * C) j = fc (198 + 4 * C) j := by
  have hfo : (fc (198 + 4 * C) 0 * (3600 : Int32)).toInt = 3600 * (fc (198 + 4 * C) 0).toInt := by rw [t2_full_i hcap]; omega
  have hc100 := hcap.1
  unfold c2_pass_m
  generalize hM : fl_row fc (198 + 4 * C) (upd (upd (upd (fc (198 + 4 * C)) 6 (((fc (198 + 4 * C) 6) + ((((x / (1000 : Int32)) * (x / (1000 : Int32))) * (fc (198 + 4 * C) 5)) / (500 : Int32))) + (((fc 184 6) - ((fc (198 + 4 * C) 6) + ((((x / (1000 : Int32)) * (x / (1000 : Int32))) * (fc (198 + 4 * C) 5)) / (500 : Int32)))) / (32 : Int32)))) 7 ((fc (198 + 4 * C) 7) + ((((x * (fc 184 25)) / (1000 : Int32)) - (fc (198 + 4 * C) 7)) / (8 : Int32)))) 9 ((fc (198 + 4 * C) 9) + (t2_abs_v x))) = M1
  unfold r_goOld_m
  generalize hG : fl_row g 280 (upd (upd (g 280) (444 + 61 * C + 9) ((g 280 (444 + 61 * C + 9)) + (((((g 280 5) * (g 280 59)) / (1000 : Int32)) - (g 280 (444 + 61 * C + 9))) / (8 : Int32)))) (444 + 61 * C + 5) ((g 280 (444 + 61 * C + 5)) + (r_size_v (g 280 5)))) = G
  have m0 : M1 (198 + 4 * C) 0 = fc (198 + 4 * C) 0 := by rw [← hM, fl_row_self, upd_ne (by decide), upd_ne (by decide), upd_ne (by decide)]
  have m8 : M1 (198 + 4 * C) 8 = fc (198 + 4 * C) 8 := by rw [← hM, fl_row_self, upd_ne (by decide), upd_ne (by decide), upd_ne (by decide)]
  have m9 : M1 (198 + 4 * C) 9 = fc (198 + 4 * C) 9 + t2_abs_v x := by rw [← hM, fl_row_self, upd_self]
  have m7 : M1 (198 + 4 * C) 7 = fc (198 + 4 * C) 7 + (((x * fc 184 25) / (1000 : Int32)) - fc (198 + 4 * C) 7) / (8 : Int32) := by rw [← hM, fl_row_self, upd_ne (by decide), upd_self]
  have mj : ∀ j : Nat, j = 1 ∨ j = 5 ∨ 10 ≤ j → M1 (198 + 4 * C) j = fc (198 + 4 * C) j := fun j hj => by rw [← hM, fl_row_self, upd_ne (by omega), upd_ne (by omega), upd_ne (by omega)]
  have G0 : G 280 (444 + 61 * C + 0) = fc (198 + 4 * C) 0 := by rw [← hG, fl_row_self, upd_ne (by omega), upd_ne (by omega), e0]
  have G1 : G 280 (444 + 61 * C + 1) = r_held_v (fc (198 + 4 * C) 2 + x - fc 184 27) (0 : Int32) ((3600 : Int32) * fc (198 + 4 * C) 0) := by rw [← hG, fl_row_self, upd_ne (by omega), upd_ne (by omega), e1]
  have G4 : G 280 (444 + 61 * C + 4) = fc (198 + 4 * C) 8 := by rw [← hG, fl_row_self, upd_ne (by omega), upd_ne (by omega), e4]
  have G5 : G 280 (444 + 61 * C + 5) = fc (198 + 4 * C) 9 + t2_abs_v x := by
    rw [← hG, fl_row_self, upd_self, e5, s5]
    rfl
  have G9 : G 280 (444 + 61 * C + 9) = fc (198 + 4 * C) 7 + (((x * fc 184 25) / (1000 : Int32)) - fc (198 + 4 * C) 7) / (8 : Int32) := by rw [← hG, fl_row_self, upd_ne (by omega), upd_self, e9, s5, s59]
  have g1i : (G 280 (444 + 61 * C + 1)).toInt = max 0 (min (fc (198 + 4 * C) 2 + x - fc 184 27).toInt (3600 * (fc (198 + 4 * C) 0).toInt)) := by
    rw [G1, t2_m32, r_held_r (by rw [hfo]; omega), hfo]
  have hb : fc 184 24 * (3600 : Int32) = (3600 : Int32) * (g 280 58) := by rw [s58, t2_m32]
  have bT := at_i32 (fc (198 + 4 * C) 9 + t2_abs_v x)
  have hW := c2_wear_old (M1 := M1) (G := G) (C := C) (n := 2147483647) (c := c) (fade := fc 184 24) (b := (3600 : Int32) * (g 280 58)) hb (by rw [m0]; exact hcap) (by rw [m9]; exact hT) (by rw [← hb]; exact hl) (by rw [m8, m0]; exact hr) (by rw [m0, g1i]; omega) (by rw [m0, G0]) (by rw [m8, G4]) (by rw [m9, G5]) (by rw [m9]; omega)
  have w9 : t2_wf (fun f => r_goOld_g76 f c C ((3600 : Int32) * (g 280 58))) 2147483647 G 280 (444 + 61 * C + 9) = G 280 (444 + 61 * C + 9) := r_goOld_ww (by omega) (by omega) (by omega) (by omega)
  generalize t2_wf (fun f => r_goOld_g76 f c C ((3600 : Int32) * (g 280 58))) 2147483647 G = W' at hW w9 ⊢
  generalize c2_wear_m M1 C (fc 184 24) = W at hW ⊢
  obtain ⟨q0, q8, q9, qc, q1, qj⟩ := hW
  have hfw : (W (198 + 4 * C) 0 * (3600 : Int32)).toInt = 3600 * (W (198 + 4 * C) 0).toInt := by rw [t2_full_i qc]; omega
  have hwc := qc.1
  unfold c2_putReckoned_m c2_putCharge_m
  refine ⟨?_, ?_, ?_, ?_, ?_, ?_, fun j hj => ?_⟩
  · rw [r_hold_0]
    simp only [fl_row_self, upd_ne (by decide : 0 ≠ 8), upd_ne (by decide : 0 ≠ 4), upd_ne (by decide : 0 ≠ 3), upd_ne (by decide : 0 ≠ 2), upd_ne (show 444 + 61 * C + 0 ≠ 444 + 61 * C + 4 by omega)]
    exact q0
  · rw [r_hold_1]
    simp only [fl_row_self, upd_ne (by decide : 2 ≠ 8), upd_ne (by decide : 2 ≠ 4), upd_ne (by decide : 2 ≠ 3), upd_self, upd_ne (show 444 + 61 * C + 0 ≠ 444 + 61 * C + 4 by omega), upd_ne (show 444 + 61 * C + 1 ≠ 444 + 61 * C + 4 by omega)]
    rw [← q0]
    refine Int32.toInt.inj ?_
    rw [t2_heldTo_i (by rw [hfw]; omega), t2_m32 (3600 : Int32), r_held_r (by rw [hfw]; omega), hfw, q1, g1i, t2_heldTo_i (by rw [hfo]; omega), hfo]
    omega
  · rw [r_hold_4]
    simp only [fl_row_self, upd_self, upd_ne (by decide : 8 ≠ 4), upd_ne (by decide : 8 ≠ 3), upd_ne (by decide : 8 ≠ 2), upd_ne (by decide : 0 ≠ 4), upd_ne (by decide : 0 ≠ 3), upd_ne (by decide : 0 ≠ 2), upd_ne (show 444 + 61 * C + 0 ≠ 444 + 61 * C + 4 by omega)]
    rw [← q0, ← q8, s5, s52, t2_m32 (3600 : Int32)]
    rfl
  · rw [r_hold_w (by omega) (by omega)]
    simp only [fl_row_self, upd_ne (by decide : 9 ≠ 8), upd_ne (by decide : 9 ≠ 4), upd_ne (by decide : 9 ≠ 3), upd_ne (by decide : 9 ≠ 2), upd_ne (show 444 + 61 * C + 5 ≠ 444 + 61 * C + 4 by omega)]
    exact q9
  · rw [r_hold_w (by omega) (by omega)]
    simp only [fl_row_self, upd_ne (by decide : 7 ≠ 8), upd_ne (by decide : 7 ≠ 4), upd_ne (by decide : 7 ≠ 3), upd_ne (by decide : 7 ≠ 2), upd_ne (show 444 + 61 * C + 9 ≠ 444 + 61 * C + 4 by omega)]
    rw [qj 7 (by decide) (by decide) (by decide), m7, w9, G9]
  · simp only [fl_row_self, upd_ne (by decide : 0 ≠ 8), upd_ne (by decide : 0 ≠ 4), upd_ne (by decide : 0 ≠ 3), upd_ne (by decide : 0 ≠ 2)]
    exact qc
  · rw [fl_row_self, upd_ne (by omega), fl_row_self, upd_ne (by omega), upd_ne (by omega), upd_ne (by omega), qj j (by omega) (by omega) (by omega)]
    exact mj j hj
end C2PASSB

end

/-! 92.07.cells.lean.txt -/
section
/-! ===== block 0: (3) of a second: all cells ===== -/
section C0CELLS
variable {fc fr : t2_F} {C : Nat} {c x : Int32}
theorem c0_f2_at {f : t2_F} : ∀ {k : Nat}, C < k → c0_passCells_f2 f k (18 + 4 * C) = c0_pass_m (c0_passCells_f2 f C) C (f 1 9) (18 + 4 * C) := by
  intro k
  induction k with
  | zero => intro h; exact absurd h (Nat.not_lt_zero _)
  | succ k ih =>
    intro h
    by_cases e : C = k
    · subst e
      show c0_pass_m (c0_passCells_f2 f C) C ((c0_passCells_f2 f C) 1 9) (18 + 4 * C) = _
      rw [c0_passCells_f2_fr (k := C) (p := 1) (fun j hj => by omega)]
    · exact (c0_passCells_b2_fr (f := c0_passCells_f2 f k) (k := k) (p := 18 + 4 * C) (by omega)).trans (ih (by omega))
theorem r_goWarm_1 {g : t2_F} : r_goWarm_m g c C 280 (444 + 61 * C + 1) = r_held_v (g 280 (444 + 61 * C + 1) + g 280 5 - g 280 61) (0 : Int32) ((3600 : Int32) * g 280 (444 + 61 * C + 0)) := by
  unfold r_goWarm_m r_full_v
  rw [fl_row_self, upd_ne (by omega), upd_self]
theorem r_goWarm_3 {g : t2_F} : r_goWarm_m g c C 280 (444 + 61 * C + 3) = (((g 280 (444 + 61 * C + 3)) + (((((g 280 5) / (1000 : Int32)) * ((g 280 5) / (1000 : Int32))) * (g 280 (444 + 61 * C + 2))) / (500 : Int32))) + (((g 280 40) - ((g 280 (444 + 61 * C + 3)) + (((((g 280 5) / (1000 : Int32)) * ((g 280 5) / (1000 : Int32))) * (g 280 (444 + 61 * C + 2))) / (500 : Int32)))) / (32 : Int32))) := by
  unfold r_goWarm_m
  rw [fl_row_self, upd_self]
theorem r_f2_in {f : t2_F} {w : Nat} (hw : w < 61) : ∀ {k : Nat}, C < k → r_goCells_f2 f k 280 (444 + 61 * C + w) = r_goWarm_m (r_goCells_f2 f C) (Int32.ofNat C) C 280 (444 + 61 * C + w) := by
  intro k
  induction k with
  | zero => intro h; exact absurd h (Nat.not_lt_zero _)
  | succ k ih =>
    intro h
    by_cases e : C = k
    · subst e
      rfl
    · exact (r_goCells_b2_w (f := r_goCells_f2 f k) (k := k) (w := 444 + 61 * C + w) (by omega) (by omega)).trans (ih (by omega))
theorem r_f2_lo {f : t2_F} {k w : Nat} (hw : w < 444) : r_goCells_f2 f k 280 w = f 280 w := r_goCells_f2_w (k := k) (w := w) (fun j hj => by omega) (fun j hj => by omega)
theorem r_f2_me {f : t2_F} {w : Nat} (hw : w < 61) : r_goCells_f2 f C 280 (444 + 61 * C + w) = f 280 (444 + 61 * C + w) := r_goCells_f2_w (k := C) (w := 444 + 61 * C + w) (fun j hj => by omega) (fun j hj => by omega)
theorem r_f50_in {f : t2_F} {w : Nat} (hw : w < 61) : ∀ {k : Nat}, C < k → r_goCells_f50 f k 280 (444 + 61 * C + w) = r_goOld_m (r_goCells_f50 f C) (Int32.ofNat C) C 280 (444 + 61 * C + w) := by
  intro k
  induction k with
  | zero => intro h; exact absurd h (Nat.not_lt_zero _)
  | succ k ih =>
    intro h
    by_cases e : C = k
    · subst e
      rfl
    · exact (r_goCells_b50_w (f := r_goCells_f50 f k) (k := k) (w := 444 + 61 * C + w) (by omega) (by omega) (by omega) (by omega) (by omega)).trans (ih (by omega))
theorem r_f50_lo {f : t2_F} {k w : Nat} (hw : w < 444) : r_goCells_f50 f k 280 w = f 280 w := by
  rw [r_goCells_f50_w (k := k) (w := w) (fun j hj => by omega) (fun j hj => by omega) (fun j hj => by omega) (fun j hj => by omega) (fun j hj => by omega), r_goCells_f25_w (w := w) (fun j hj => by omega) (fun j hj => by omega)]
  exact r_f2_lo hw
theorem r_f50_me {f : t2_F} {w : Nat} (hw : w < 61) (h3 : w ≠ 3) : r_goCells_f50 f C 280 (444 + 61 * C + w) = r_goCells_f2 f ((f 280 2).toInt.toNat) 280 (444 + 61 * C + w) := by
  rw [r_goCells_f50_w (k := C) (w := 444 + 61 * C + w) (fun j hj => by omega) (fun j hj => by omega) (fun j hj => by omega) (fun j hj => by omega) (fun j hj => by omega), r_goCells_f25_w (w := 444 + 61 * C + w) (fun j hj => by omega) (fun j hj => by omega)]
theorem c0_touch_step {F G : t2_F} {k N : Nat} (hk : k + 1 < N) (h : ∀ C : Nat, C < N → F (18 + 4 * C) 6 = G 280 (444 + 61 * C + 3)) (ht : F 4 22 = G 280 56) : ∀ C : Nat, C < N → c0_passCells_b35_m F k (18 + 4 * C) 6 = r_goCells_b25_m G k 280 (444 + 61 * C + 3) := by
  intro C hC
  have h1 := h k (by omega)
  have h2 := h (k + 1) hk
  unfold c0_passCells_b35_m r_goCells_b25_m r_touch_m
  by_cases e1 : C = k + 1
  · subst e1
    rw [fl_row_self, upd_self, fl_row_self, upd_self, h1, h2, ht]
  · by_cases e2 : C = k
    · subst e2
      rw [fl_row_ne (by omega), fl_row_self, upd_self, fl_row_self, upd_ne (by omega), upd_self, h1, h2, ht]
    · rw [fl_row_ne (by omega), fl_row_ne (by omega), fl_row_self, upd_ne (by omega), upd_ne (by omega)]
      exact h C hC
theorem c0_touch_eq {N : Nat} (hN : (fr 280 2).toInt.toNat = N) (hM : (fc 1 5).toInt.toNat = N) (h : ∀ C : Nat, C < N → c0_passCells_f2 fc N (18 + 4 * C) 6 = r_goCells_f2 fr N 280 (444 + 61 * C + 3)) (ht : fc 4 22 = fr 280 56) : ∀ k : Nat, k ≤ N - 1 → ∀ C : Nat, C < N → c0_passCells_f35 fc k (18 + 4 * C) 6 = r_goCells_f25 fr k 280 (444 + 61 * C + 3) := by
  intro k
  induction k with
  | zero =>
    intro _ C hC
    show c0_passCells_f2 fc ((fc 1 5).toInt.toNat) (18 + 4 * C) 6 = r_goCells_f2 fr ((fr 280 2).toInt.toNat) 280 (444 + 61 * C + 3)
    rw [hM, hN]
    exact h C hC
  | succ k ih =>
    intro hk
    refine c0_touch_step (F := c0_passCells_f35 fc k) (G := r_goCells_f25 fr k) (by omega) (ih (by omega)) ?_
    rw [c0_passCells_f35_fr (k := k) (p := 4) (fun j hj => by omega) (fun j hj => by omega), c0_passCells_f2_fr (p := 4) (fun j hj => by omega), r_goCells_f25_w (k := k) (w := 56) (fun j hj => by omega) (fun j hj => by omega), r_f2_lo (by omega)]
    exact ht
theorem c0_f35_o {j : Nat} (hj : j ≠ 6) : ∀ {k : Nat}, c0_passCells_f35 fc k (18 + 4 * C) j = c0_passCells_f2 fc ((fc 1 5).toInt.toNat) (18 + 4 * C) j := by
  intro k
  induction k with
  | zero => rfl
  | succ k ih =>
    show c0_passCells_b35_m (c0_passCells_f35 fc k) k (18 + 4 * C) j = _
    unfold c0_passCells_b35_m
    by_cases e1 : C = k + 1
    · subst e1
      rw [fl_row_self, upd_ne hj]
      exact ih
    · by_cases e2 : C = k
      · subst e2
        rw [fl_row_ne (by omega), fl_row_self, upd_ne hj]
        exact ih
      · rw [fl_row_ne (by omega), fl_row_ne (by omega)]
        exact ih
theorem c0_pass_6 {f : t2_F} : c0_pass_m f C x (18 + 4 * C) 6 = (((f (18 + 4 * C) 6) + ((((x / (1000 : Int32)) * (x / (1000 : Int32))) * (f (18 + 4 * C) 5)) / (500 : Int32))) + (((f 4 6) - ((f (18 + 4 * C) 6) + ((((x / (1000 : Int32)) * (x / (1000 : Int32))) * (f (18 + 4 * C) 5)) / (500 : Int32)))) / (32 : Int32))) ∧ c0_pass_m f C x (18 + 4 * C) 3 = t2_partOf_v (c0_pass_m f C x (18 + 4 * C) 2) (c0_pass_m f C x (18 + 4 * C) 0 * (3600 : Int32)) ∧ c0_pass_m f C x (18 + 4 * C) 4 = t2_rb (c0_pass_m f C x (18 + 4 * C) 3) := by
  have hw : ∀ (M : t2_F) (z : Int32), c0_wear_m M C z (18 + 4 * C) 6 = M (18 + 4 * C) 6 := by
    intro M z
    unfold c0_wear_m
    split
    · split
      · rfl
      · unfold c0_putReckoned_m
        rw [fl_row_self, upd_ne (by decide), fl_row_self, upd_ne (by decide), upd_ne (by decide)]
    · rfl
  unfold c0_pass_m c0_putReckoned_m c0_putCharge_m
  refine ⟨?_, ?_, ?_⟩
  · rw [fl_row_self, upd_ne (by decide), fl_row_self, upd_ne (by decide), upd_ne (by decide), upd_ne (by decide), hw, fl_row_self, upd_ne (by decide), upd_ne (by decide), upd_self]
  · simp only [fl_row_self, upd_self, upd_ne (by decide : 3 ≠ 8), upd_ne (by decide : 3 ≠ 4), upd_ne (by decide : 2 ≠ 8), upd_ne (by decide : 2 ≠ 4), upd_ne (by decide : 2 ≠ 3), upd_ne (by decide : 0 ≠ 8), upd_ne (by decide : 0 ≠ 4), upd_ne (by decide : 0 ≠ 3), upd_ne (by decide : 0 ≠ 2)]
  · simp only [fl_row_self, upd_self, upd_ne (by decide : 4 ≠ 8), upd_ne (by decide : 3 ≠ 8), upd_ne (by decide : 3 ≠ 4)]
theorem r_f2_oth {f : t2_F} {k w : Nat} (hw : w < 61) (h1 : w ≠ 1) (h3 : w ≠ 3) : r_goCells_f2 f k 280 (444 + 61 * C + w) = f 280 (444 + 61 * C + w) := r_goCells_f2_w (k := k) (w := 444 + 61 * C + w) (fun j hj => by omega) (fun j hj => by omega)
theorem r_f50_out {f : t2_F} {k w : Nat} (hw : w < 61) (h0 : w ≠ 0) (h1 : w ≠ 1) (h4 : w ≠ 4) (h5 : w ≠ 5) (h9 : w ≠ 9) : r_goCells_f50 f k 280 (444 + 61 * C + w) = r_goCells_f25 f ((f 280 2).toInt.toNat - 1) 280 (444 + 61 * C + w) := r_goCells_f50_w (k := k) (w := 444 + 61 * C + w) (fun j hj => by omega) (fun j hj => by omega) (fun j hj => by omega) (fun j hj => by omega) (fun j hj => by omega)
theorem r_f50_same {f : t2_F} {k w : Nat} (hw : w < 61) (h0 : w ≠ 0) (h1 : w ≠ 1) (h3 : w ≠ 3) (h4 : w ≠ 4) (h5 : w ≠ 5) (h9 : w ≠ 9) : r_goCells_f50 f k 280 (444 + 61 * C + w) = f 280 (444 + 61 * C + w) := by
  rw [r_f50_out hw h0 h1 h4 h5 h9, r_goCells_f25_w (w := 444 + 61 * C + w) (fun j hj => by omega) (fun j hj => by omega)]
  exact r_f2_oth hw h1 h3
theorem c0_cells_eq {n : Nat} (hM : (fc 1 5).toInt.toNat = n) (hN : (fr 280 2).toInt.toNat = n) (hx : fc 1 9 = fr 280 5) (hs : c0_Rs fc fr) (h : ∀ C : Nat, C < n → c0_Rc fc fr C) (hB : ∀ C : Nat, C < n → t2_cap (fc (18 + 4 * C) 0) ∧ (0 ≤ (fc (18 + 4 * C) 8).toInt ∧ (fc (18 + 4 * C) 8).toInt ≤ 3600 * (fc (18 + 4 * C) 0).toInt) ∧ 0 ≤ (fc (18 + 4 * C) 9 + t2_abs_v (fr 280 5)).toInt) (hl : 0 ≤ (fc 4 24 * (3600 : Int32)).toInt) :
    ∀ C : Nat, C < n → c0_Rc (c0_passCells_m fc) (r_goCells_m fr) C ∧ t2_cap (c0_passCells_m fc (18 + 4 * C) 0) := by
  have F4 : ∀ k : Nat, c0_passCells_f2 fc k 4 = fc 4 := fun k => c0_passCells_f2_fr (k := k) (p := 4) (fun j hj => by omega)
  have FC : ∀ C : Nat, c0_passCells_f2 fc C (18 + 4 * C) = fc (18 + 4 * C) := fun C => c0_passCells_f2_fr (k := C) (p := 18 + 4 * C) (fun j hj => by omega)
  have s6 : fc 4 6 = fr 280 40 := hs 6 (by omega)
  have s18 : fc 4 18 = fr 280 52 := hs 18 (by omega)
  have s22 : fc 4 22 = fr 280 56 := hs 22 (by omega)
  have s24 : fc 4 24 = fr 280 58 := hs 24 (by omega)
  have s25 : fc 4 25 = fr 280 59 := hs 25 (by omega)
  have s27 : fc 4 27 = fr 280 61 := hs 27 (by omega)
  have warm : ∀ C : Nat, C < n → c0_passCells_f2 fc n (18 + 4 * C) 6 = r_goCells_f2 fr n 280 (444 + 61 * C + 3) := by
    intro C hC
    obtain ⟨-, -, ⟨h5, h6, -⟩, -⟩ := h C hC
    rw [c0_f2_at hC, c0_pass_6.1, r_f2_in (by decide) hC, r_goWarm_3, FC, F4, hx, r_f2_me (by decide), r_f2_me (by decide), r_f2_lo (by decide), r_f2_lo (by decide), h5, h6, s6]
  have touch := c0_touch_eq hN hM warm s22
  intro C hC
  obtain ⟨⟨h0, h1, h2⟩, ⟨h3, h4⟩, ⟨h5, h6, h7⟩, h8, h9, h18⟩ := h C hC
  obtain ⟨b1, b2, b3⟩ := hB C hC
  have key := c0_pass_old (fc := c0_passCells_f2 fc C) (g := r_goCells_f50 fr C) (C := C) (c := Int32.ofNat C) (x := fr 280 5) (by rw [FC]; exact b1) (by rw [FC]; exact b2) (by rw [FC]; exact b3) (by rw [F4]; exact hl)
    (by rw [r_f50_me (by decide) (by decide), r_f2_oth (by decide) (by decide) (by decide), FC, h0])
    (by rw [r_f50_me (by decide) (by decide), hN, r_f2_in (by decide) hC, r_goWarm_1, r_f2_me (by decide), r_f2_me (by decide), r_f2_lo (by decide), r_f2_lo (by decide), FC, F4, h0, h2, s27])
    (by rw [r_f50_me (by decide) (by decide), r_f2_oth (by decide) (by decide) (by decide), FC, h8])
    (by rw [r_f50_me (by decide) (by decide), r_f2_oth (by decide) (by decide) (by decide), FC, h9])
    (by rw [r_f50_me (by decide) (by decide), r_f2_oth (by decide) (by decide) (by decide), FC, h7])
    (r_f50_lo (by decide)) (by rw [r_f50_lo (by decide), F4, s24]) (by rw [r_f50_lo (by decide), F4, s25]) (by rw [r_f50_lo (by decide), F4, s18])
  obtain ⟨k0, k2, k8, k9, k7, kc, kj⟩ := key
  have P : ∀ j : Nat, j ≠ 6 → c0_passCells_m fc (18 + 4 * C) j = c0_pass_m (c0_passCells_f2 fc C) C (fr 280 5) (18 + 4 * C) j := by
    intro j hj
    unfold c0_passCells_m
    rw [c0_f35_o hj, hM, c0_f2_at hC, hx]
  have Rw : ∀ w : Nat, w < 61 → r_goCells_m fr 280 (444 + 61 * C + w) = r_goOld_m (r_goCells_f50 fr C) (Int32.ofNat C) C 280 (444 + 61 * C + w) := by
    intro w hw
    unfold r_goCells_m
    rw [hN, r_f50_in hw hC]
  have Rs : ∀ w : Nat, w < 61 → w ≠ 0 → w ≠ 1 → w ≠ 3 → w ≠ 4 → w ≠ 5 → w ≠ 9 → r_goCells_m fr 280 (444 + 61 * C + w) = fr 280 (444 + 61 * C + w) := fun w hw a0 a1 a3 a4 a5 a9 => r_f50_same hw a0 a1 a3 a4 a5 a9
  have p0 : c0_passCells_m fc (18 + 4 * C) 0 = r_goCells_m fr 280 (444 + 61 * C + 0) := by rw [P 0 (by decide), Rw 0 (by decide), k0]
  have p2 : c0_passCells_m fc (18 + 4 * C) 2 = r_goCells_m fr 280 (444 + 61 * C + 1) := by rw [P 2 (by decide), Rw 1 (by decide), k2]
  have pc : t2_cap (c0_passCells_m fc (18 + 4 * C) 0) := by rw [P 0 (by decide)]; exact kc
  have p3 : c0_passCells_m fc (18 + 4 * C) 3 = r_partOf_v (r_goCells_m fr) 0 C := by
    have e := (c0_pass_6 (f := c0_passCells_f2 fc C) (C := C) (x := fr 280 5)).2.1
    rw [← P 3 (by decide), ← P 2 (by decide), ← P 0 (by decide)] at e
    rw [e, ← t2_partAt_eq pc, p0, p2]
    rfl
  have p4 : c0_passCells_m fc (18 + 4 * C) 4 = t2_rb (r_partOf_v (r_goCells_m fr) 0 C) := by
    have e := (c0_pass_6 (f := c0_passCells_f2 fc C) (C := C) (x := fr 280 5)).2.2
    rw [← P 4 (by decide), ← P 3 (by decide)] at e
    rw [e, p3]
  refine ⟨⟨⟨p0, ?_, p2⟩, ⟨p3, p4⟩, ⟨?_, ?_, ?_⟩, ?_, ?_, ?_⟩, pc⟩
  · rw [P 1 (by decide), kj 1 (by omega), FC, h1, Rs 6 (by decide) (by decide) (by decide) (by decide) (by decide) (by decide) (by decide)]
  · rw [P 5 (by decide), kj 5 (by omega), FC, h5, Rs 2 (by decide) (by decide) (by decide) (by decide) (by decide) (by decide) (by decide)]
  · have := touch (n - 1) (Nat.le_refl _) C hC
    unfold c0_passCells_m r_goCells_m
    rw [hM, this, r_f50_out (by decide) (by decide) (by decide) (by decide) (by decide) (by decide), hN]
  · rw [P 7 (by decide), k7, Rw 9 (by decide)]
  · rw [P 8 (by decide), k8, Rw 4 (by decide)]
  · rw [P 9 (by decide), k9, Rw 5 (by decide)]
  · rw [P 18 (by decide), kj 18 (by omega), FC, h18, Rs 60 (by decide) (by decide) (by decide) (by decide) (by decide) (by decide) (by decide)]
end C0CELLS

/-! ===== block 2: (3) of a second: all cells ===== -/
section C2CELLS
variable {fc fr : t2_F} {C : Nat} {c x : Int32}
theorem c2_f2_at {f : t2_F} : ∀ {k : Nat}, C < k → c2_passCells_f2 f k (198 + 4 * C) = c2_pass_m (c2_passCells_f2 f C) C (f 181 9) (198 + 4 * C) := by
  intro k
  induction k with
  | zero => intro h; exact absurd h (Nat.not_lt_zero _)
  | succ k ih =>
    intro h
    by_cases e : C = k
    · subst e
      show c2_pass_m (c2_passCells_f2 f C) C ((c2_passCells_f2 f C) 181 9) (198 + 4 * C) = _
      rw [c2_passCells_f2_fr (k := C) (p := 181) (fun j hj => by omega)]
    · exact (c2_passCells_b2_fr (f := c2_passCells_f2 f k) (k := k) (p := 198 + 4 * C) (by omega)).trans (ih (by omega))
theorem c2_touch_step {F G : t2_F} {k N : Nat} (hk : k + 1 < N) (h : ∀ C : Nat, C < N → F (198 + 4 * C) 6 = G 280 (444 + 61 * C + 3)) (ht : F 184 22 = G 280 56) : ∀ C : Nat, C < N → c2_passCells_b35_m F k (198 + 4 * C) 6 = r_goCells_b25_m G k 280 (444 + 61 * C + 3) := by
  intro C hC
  have h1 := h k (by omega)
  have h2 := h (k + 1) hk
  unfold c2_passCells_b35_m r_goCells_b25_m r_touch_m
  by_cases e1 : C = k + 1
  · subst e1
    rw [fl_row_self, upd_self, fl_row_self, upd_self, h1, h2, ht]
  · by_cases e2 : C = k
    · subst e2
      rw [fl_row_ne (by omega), fl_row_self, upd_self, fl_row_self, upd_ne (by omega), upd_self, h1, h2, ht]
    · rw [fl_row_ne (by omega), fl_row_ne (by omega), fl_row_self, upd_ne (by omega), upd_ne (by omega)]
      exact h C hC
theorem c2_touch_eq {N : Nat} (hN : (fr 280 2).toInt.toNat = N) (hM : (fc 181 5).toInt.toNat = N) (h : ∀ C : Nat, C < N → c2_passCells_f2 fc N (198 + 4 * C) 6 = r_goCells_f2 fr N 280 (444 + 61 * C + 3)) (ht : fc 184 22 = fr 280 56) : ∀ k : Nat, k ≤ N - 1 → ∀ C : Nat, C < N → c2_passCells_f35 fc k (198 + 4 * C) 6 = r_goCells_f25 fr k 280 (444 + 61 * C + 3) := by
  intro k
  induction k with
  | zero =>
    intro _ C hC
    show c2_passCells_f2 fc ((fc 181 5).toInt.toNat) (198 + 4 * C) 6 = r_goCells_f2 fr ((fr 280 2).toInt.toNat) 280 (444 + 61 * C + 3)
    rw [hM, hN]
    exact h C hC
  | succ k ih =>
    intro hk
    refine c2_touch_step (F := c2_passCells_f35 fc k) (G := r_goCells_f25 fr k) (by omega) (ih (by omega)) ?_
    rw [c2_passCells_f35_fr (k := k) (p := 184) (fun j hj => by omega) (fun j hj => by omega), c2_passCells_f2_fr (p := 184) (fun j hj => by omega), r_goCells_f25_w (k := k) (w := 56) (fun j hj => by omega) (fun j hj => by omega), r_f2_lo (by omega)]
    exact ht
theorem c2_f35_o {j : Nat} (hj : j ≠ 6) : ∀ {k : Nat}, c2_passCells_f35 fc k (198 + 4 * C) j = c2_passCells_f2 fc ((fc 181 5).toInt.toNat) (198 + 4 * C) j := by
  intro k
  induction k with
  | zero => rfl
  | succ k ih =>
    show c2_passCells_b35_m (c2_passCells_f35 fc k) k (198 + 4 * C) j = _
    unfold c2_passCells_b35_m
    by_cases e1 : C = k + 1
    · subst e1
      rw [fl_row_self, upd_ne hj]
      exact ih
    · by_cases e2 : C = k
      · subst e2
        rw [fl_row_ne (by omega), fl_row_self, upd_ne hj]
        exact ih
      · rw [fl_row_ne (by omega), fl_row_ne (by omega)]
        exact ih
theorem c2_pass_6 {f : t2_F} : c2_pass_m f C x (198 + 4 * C) 6 = (((f (198 + 4 * C) 6) + ((((x / (1000 : Int32)) * (x / (1000 : Int32))) * (f (198 + 4 * C) 5)) / (500 : Int32))) + (((f 184 6) - ((f (198 + 4 * C) 6) + ((((x / (1000 : Int32)) * (x / (1000 : Int32))) * (f (198 + 4 * C) 5)) / (500 : Int32)))) / (32 : Int32))) ∧ c2_pass_m f C x (198 + 4 * C) 3 = t2_partOf_v (c2_pass_m f C x (198 + 4 * C) 2) (c2_pass_m f C x (198 + 4 * C) 0 * (3600 : Int32)) ∧ c2_pass_m f C x (198 + 4 * C) 4 = t2_rb (c2_pass_m f C x (198 + 4 * C) 3) := by
  have hw : ∀ (M : t2_F) (z : Int32), c2_wear_m M C z (198 + 4 * C) 6 = M (198 + 4 * C) 6 := by
    intro M z
    unfold c2_wear_m
    split
    · split
      · rfl
      · unfold c2_putReckoned_m
        rw [fl_row_self, upd_ne (by decide), fl_row_self, upd_ne (by decide), upd_ne (by decide)]
    · rfl
  unfold c2_pass_m c2_putReckoned_m c2_putCharge_m
  refine ⟨?_, ?_, ?_⟩
  · rw [fl_row_self, upd_ne (by decide), fl_row_self, upd_ne (by decide), upd_ne (by decide), upd_ne (by decide), hw, fl_row_self, upd_ne (by decide), upd_ne (by decide), upd_self]
  · simp only [fl_row_self, upd_self, upd_ne (by decide : 3 ≠ 8), upd_ne (by decide : 3 ≠ 4), upd_ne (by decide : 2 ≠ 8), upd_ne (by decide : 2 ≠ 4), upd_ne (by decide : 2 ≠ 3), upd_ne (by decide : 0 ≠ 8), upd_ne (by decide : 0 ≠ 4), upd_ne (by decide : 0 ≠ 3), upd_ne (by decide : 0 ≠ 2)]
  · simp only [fl_row_self, upd_self, upd_ne (by decide : 4 ≠ 8), upd_ne (by decide : 3 ≠ 8), upd_ne (by decide : 3 ≠ 4)]
theorem c2_cells_eq {n : Nat} (hM : (fc 181 5).toInt.toNat = n) (hN : (fr 280 2).toInt.toNat = n) (hx : fc 181 9 = fr 280 5) (hs : c2_Rs fc fr) (h : ∀ C : Nat, C < n → c2_Rc fc fr C) (hB : ∀ C : Nat, C < n → t2_cap (fc (198 + 4 * C) 0) ∧ (0 ≤ (fc (198 + 4 * C) 8).toInt ∧ (fc (198 + 4 * C) 8).toInt ≤ 3600 * (fc (198 + 4 * C) 0).toInt) ∧ 0 ≤ (fc (198 + 4 * C) 9 + t2_abs_v (fr 280 5)).toInt) (hl : 0 ≤ (fc 184 24 * (3600 : Int32)).toInt) :
    ∀ C : Nat, C < n → c2_Rc (c2_passCells_m fc) (r_goCells_m fr) C ∧ t2_cap (c2_passCells_m fc (198 + 4 * C) 0) := by
  have F4 : ∀ k : Nat, c2_passCells_f2 fc k 184 = fc 184 := fun k => c2_passCells_f2_fr (k := k) (p := 184) (fun j hj => by omega)
  have FC : ∀ C : Nat, c2_passCells_f2 fc C (198 + 4 * C) = fc (198 + 4 * C) := fun C => c2_passCells_f2_fr (k := C) (p := 198 + 4 * C) (fun j hj => by omega)
  have s6 : fc 184 6 = fr 280 40 := hs 6 (by omega)
  have s18 : fc 184 18 = fr 280 52 := hs 18 (by omega)
  have s22 : fc 184 22 = fr 280 56 := hs 22 (by omega)
  have s24 : fc 184 24 = fr 280 58 := hs 24 (by omega)
  have s25 : fc 184 25 = fr 280 59 := hs 25 (by omega)
  have s27 : fc 184 27 = fr 280 61 := hs 27 (by omega)
  have warm : ∀ C : Nat, C < n → c2_passCells_f2 fc n (198 + 4 * C) 6 = r_goCells_f2 fr n 280 (444 + 61 * C + 3) := by
    intro C hC
    obtain ⟨-, -, ⟨h5, h6, -⟩, -⟩ := h C hC
    rw [c2_f2_at hC, c2_pass_6.1, r_f2_in (by decide) hC, r_goWarm_3, FC, F4, hx, r_f2_me (by decide), r_f2_me (by decide), r_f2_lo (by decide), r_f2_lo (by decide), h5, h6, s6]
  have touch := c2_touch_eq hN hM warm s22
  intro C hC
  obtain ⟨⟨h0, h1, h2⟩, ⟨h3, h4⟩, ⟨h5, h6, h7⟩, h8, h9, h18⟩ := h C hC
  obtain ⟨b1, b2, b3⟩ := hB C hC
  have key := c2_pass_old (fc := c2_passCells_f2 fc C) (g := r_goCells_f50 fr C) (C := C) (c := Int32.ofNat C) (x := fr 280 5) (by rw [FC]; exact b1) (by rw [FC]; exact b2) (by rw [FC]; exact b3) (by rw [F4]; exact hl)
    (by rw [r_f50_me (by decide) (by decide), r_f2_oth (by decide) (by decide) (by decide), FC, h0])
    (by rw [r_f50_me (by decide) (by decide), hN, r_f2_in (by decide) hC, r_goWarm_1, r_f2_me (by decide), r_f2_me (by decide), r_f2_lo (by decide), r_f2_lo (by decide), FC, F4, h0, h2, s27])
    (by rw [r_f50_me (by decide) (by decide), r_f2_oth (by decide) (by decide) (by decide), FC, h8])
    (by rw [r_f50_me (by decide) (by decide), r_f2_oth (by decide) (by decide) (by decide), FC, h9])
    (by rw [r_f50_me (by decide) (by decide), r_f2_oth (by decide) (by decide) (by decide), FC, h7])
    (r_f50_lo (by decide)) (by rw [r_f50_lo (by decide), F4, s24]) (by rw [r_f50_lo (by decide), F4, s25]) (by rw [r_f50_lo (by decide), F4, s18])
  obtain ⟨k0, k2, k8, k9, k7, kc, kj⟩ := key
  have P : ∀ j : Nat, j ≠ 6 → c2_passCells_m fc (198 + 4 * C) j = c2_pass_m (c2_passCells_f2 fc C) C (fr 280 5) (198 + 4 * C) j := by
    intro j hj
    unfold c2_passCells_m
    rw [c2_f35_o hj, hM, c2_f2_at hC, hx]
  have Rw : ∀ w : Nat, w < 61 → r_goCells_m fr 280 (444 + 61 * C + w) = r_goOld_m (r_goCells_f50 fr C) (Int32.ofNat C) C 280 (444 + 61 * C + w) := by
    intro w hw
    unfold r_goCells_m
    rw [hN, r_f50_in hw hC]
  have Rs : ∀ w : Nat, w < 61 → w ≠ 0 → w ≠ 1 → w ≠ 3 → w ≠ 4 → w ≠ 5 → w ≠ 9 → r_goCells_m fr 280 (444 + 61 * C + w) = fr 280 (444 + 61 * C + w) := fun w hw a0 a1 a3 a4 a5 a9 => r_f50_same hw a0 a1 a3 a4 a5 a9
  have p0 : c2_passCells_m fc (198 + 4 * C) 0 = r_goCells_m fr 280 (444 + 61 * C + 0) := by rw [P 0 (by decide), Rw 0 (by decide), k0]
  have p2 : c2_passCells_m fc (198 + 4 * C) 2 = r_goCells_m fr 280 (444 + 61 * C + 1) := by rw [P 2 (by decide), Rw 1 (by decide), k2]
  have pc : t2_cap (c2_passCells_m fc (198 + 4 * C) 0) := by rw [P 0 (by decide)]; exact kc
  have p3 : c2_passCells_m fc (198 + 4 * C) 3 = r_partOf_v (r_goCells_m fr) 0 C := by
    have e := (c2_pass_6 (f := c2_passCells_f2 fc C) (C := C) (x := fr 280 5)).2.1
    rw [← P 3 (by decide), ← P 2 (by decide), ← P 0 (by decide)] at e
    rw [e, ← t2_partAt_eq pc, p0, p2]
    rfl
  have p4 : c2_passCells_m fc (198 + 4 * C) 4 = t2_rb (r_partOf_v (r_goCells_m fr) 0 C) := by
    have e := (c2_pass_6 (f := c2_passCells_f2 fc C) (C := C) (x := fr 280 5)).2.2
    rw [← P 4 (by decide), ← P 3 (by decide)] at e
    rw [e, p3]
  refine ⟨⟨⟨p0, ?_, p2⟩, ⟨p3, p4⟩, ⟨?_, ?_, ?_⟩, ?_, ?_, ?_⟩, pc⟩
  · rw [P 1 (by decide), kj 1 (by omega), FC, h1, Rs 6 (by decide) (by decide) (by decide) (by decide) (by decide) (by decide) (by decide)]
  · rw [P 5 (by decide), kj 5 (by omega), FC, h5, Rs 2 (by decide) (by decide) (by decide) (by decide) (by decide) (by decide) (by decide)]
  · have := touch (n - 1) (Nat.le_refl _) C hC
    unfold c2_passCells_m r_goCells_m
    rw [hM, this, r_f50_out (by decide) (by decide) (by decide) (by decide) (by decide) (by decide), hN]
  · rw [P 7 (by decide), k7, Rw 9 (by decide)]
  · rw [P 8 (by decide), k8, Rw 4 (by decide)]
  · rw [P 9 (by decide), k9, Rw 5 (by decide)]
  · rw [P 18 (by decide), kj 18 (by omega), FC, h18, Rs 60 (by decide) (by decide) (by decide) (by decide) (by decide) (by decide) (by decide)]
end C2CELLS

end

/-! 93.00.0.g11.lean.txt -/
section
noncomputable def r_writeDown_b16_m (f : t2_F) (x : Int32) (k : Nat) : t2_F := fl_row f 280 (upd (f 280) (167 + k) (f 280 ((167 + k) + 2)))
theorem r_writeDown_b16_fr {f : t2_F} {x : Int32} {k : Nat} {p : Nat}  (e280 : p ≠ 280) : r_writeDown_b16_m f x k p = f p := by
  unfold r_writeDown_b16_m
  repeat' split
  all_goals first | rfl | simp only [fl_row_ne e280]
theorem r_writeDown_b16_w {f : t2_F} {x : Int32} {k : Nat} {w : Nat} (hkb : k < 46) (hw : w < 167 ∨ 213 ≤ w) : r_writeDown_b16_m f x k 280 w = f 280 w := by
  unfold r_writeDown_b16_m
  repeat' split
  all_goals first | rfl | simp only [fl_row_self, upd_ne (show w ≠ (167 + k) by omega)]
theorem r_writeDown_b16_q {L : Nat} {xs : Nat → Int32} {f : t2_F} {l : t2_L} {Q : Option fl_V → fl_M → Prop} {x : Int32} {k : Nat} {n : Nat} (hkn : k < n) (h46 : n ≤ 46)  (hS : fl_Tq (pw_P L xs) 229 16 [some (.inr (.inr (.inl (76, 277)))), some (.inl x), some (.inl (Int32.ofNat (167 + (k + 1))))] [] (r_writeDown_b16_m f x k, l) Q) : fl_Tq (pw_P L xs) 229 16 [some (.inr (.inr (.inl (76, 277)))), some (.inl x), some (.inl (Int32.ofNat (167 + k)))] [] (f, l) Q := by
  refine fl_Tq.stp (pc' := 17) (lv' := [some (.inr (.inr (.inl (76, 277)))), some (.inl x), some (.inl (Int32.ofNat (167 + k)))]) (st' := [.inl (Int32.ofNat (167 + k))]) (m' := (f, l)) rfl rfl (fl_bo rfl) rfl ?_
  refine fl_Tq.cS (c := (213 : Int32)) rfl (by decide +kernel) (fl_bo rfl) ?_
  refine fl_Tq.jf rfl (fl_bo rfl) (c2_ge_f (by have c213 : (213 : Int32).toInt = 213 := (by decide +kernel); have e2 : (Int32.ofNat (167 + k)).toInt = ((167 + k : Nat) : Int) := at_ofN (by omega); omega)) rfl ?_
  refine fl_Tq.stp (pc' := 24) (lv' := [some (.inr (.inr (.inl (76, 277)))), some (.inl x), some (.inl (Int32.ofNat (167 + k)))]) (st' := [.inr (.inr (.inl (76, 277)))]) (m' := (f, l)) rfl rfl (fl_bo rfl) rfl ?_
  refine fl_Tq.stp (pc' := 27) (lv' := [some (.inr (.inr (.inl (76, 277)))), some (.inl x), some (.inl (Int32.ofNat (167 + k)))]) (st' := [.inr (.inr (.inl (79, 280)))]) (m' := (f, l)) rfl rfl (fl_bo rfl) rfl ?_
  refine fl_Tq.stp (pc' := 28) (lv' := [some (.inr (.inr (.inl (76, 277)))), some (.inl x), some (.inl (Int32.ofNat (167 + k)))]) (st' := [.inl (Int32.ofNat (167 + k)), .inr (.inr (.inl (79, 280)))]) (m' := (f, l)) rfl rfl (fl_bo rfl) rfl ?_
  refine fl_Tq.stp (pc' := 29) (lv' := [some (.inr (.inr (.inl (76, 277)))), some (.inl x), some (.inl (Int32.ofNat (167 + k)))]) (st' := [.inr (.inr (.inl (76, 277))), .inl (Int32.ofNat (167 + k)), .inr (.inr (.inl (79, 280)))]) (m' := (f, l)) rfl rfl (fl_bo rfl) rfl ?_
  refine fl_Tq.stp (pc' := 32) (lv' := [some (.inr (.inr (.inl (76, 277)))), some (.inl x), some (.inl (Int32.ofNat (167 + k)))]) (st' := [.inr (.inr (.inl (79, 280))), .inl (Int32.ofNat (167 + k)), .inr (.inr (.inl (79, 280)))]) (m' := (f, l)) rfl rfl (fl_bo rfl) rfl ?_
  refine fl_Tq.stp (pc' := 33) (lv' := [some (.inr (.inr (.inl (76, 277)))), some (.inl x), some (.inl (Int32.ofNat (167 + k)))]) (st' := [.inl (Int32.ofNat (167 + k)), .inr (.inr (.inl (79, 280))), .inl (Int32.ofNat (167 + k)), .inr (.inr (.inl (79, 280)))]) (m' := (f, l)) rfl rfl (fl_bo rfl) rfl ?_
  refine fl_Tq.cI (c := (2 : Int32)) rfl (by decide +kernel) (fl_bo rfl) ?_
  refine fl_Tq.stp (pc' := 35) (lv' := [some (.inr (.inr (.inl (76, 277)))), some (.inl x), some (.inl (Int32.ofNat (167 + k)))]) (st' := [.inl ((Int32.ofNat (167 + k)) + (2 : Int32)), .inr (.inr (.inl (79, 280))), .inl (Int32.ofNat (167 + k)), .inr (.inr (.inl (79, 280)))]) (m' := (f, l)) rfl rfl (fl_bo rfl) rfl ?_
  refine fl_Tq.ldV (p := 280) (τ := 79) (n := 29780) (z := (0, 0, 0)) (k := (167 + k) + 2) (v := f 280 ((167 + k) + 2)) rfl (fl_bo rfl) rfl (t2_ia (at_ofN (by omega)) (by decide +kernel) (by have c24 : (24 : Int32).toInt = 24 := (by decide +kernel); omega)) (by have c24 : (24 : Int32).toInt = 24 := (by decide +kernel); omega) rfl ?_
  refine fl_Tq.svV (p := 280) (τ := 79) (n := 29780) (z := (0, 0, 0)) (k := (167 + k)) (m' := (fl_row f 280 (upd (f 280) (167 + k) (f 280 ((167 + k) + 2))), l)) rfl (fl_bo rfl) rfl (at_ofN (by omega)) (by omega) (t2_upn rfl) ?_
  refine fl_Tq.stp (pc' := 40) (lv' := [some (.inr (.inr (.inl (76, 277)))), some (.inl x), some (.inl ((Int32.ofNat (167 + k)) + (1 : Int32)))]) (st' := []) (m' := (fl_row f 280 (upd (f 280) (167 + k) (f 280 ((167 + k) + 2))), l)) rfl rfl (fl_bo rfl) rfl ?_
  refine fl_Tq.stp (pc' := 16) (lv' := [some (.inr (.inr (.inl (76, 277)))), some (.inl x), some (.inl ((Int32.ofNat (167 + k)) + (1 : Int32)))]) (st' := []) (m' := (fl_row f 280 (upd (f 280) (167 + k) (f 280 ((167 + k) + 2))), l)) rfl rfl (fl_bo rfl) rfl ?_
  have em : r_writeDown_b16_m f x k = fl_row f 280 (upd (f 280) (167 + k) (f 280 ((167 + k) + 2))) := rfl
  have ek : Int32.ofNat (167 + (k + 1)) = (Int32.ofNat (167 + k)) + (1 : Int32) := (t2_k1 (167 + k)).symm
  rw [em, ek] at hS
  exact hS
noncomputable def r_writeDown_f16 (f : t2_F) (x : Int32) : Nat → t2_F
  | 0 => f
  | k + 1 => r_writeDown_b16_m (r_writeDown_f16 f x k) x k
theorem r_writeDown_f16_fr {f : t2_F} {x : Int32} {p : Nat} : ∀ {k : Nat}  (e280 : p ≠ 280), r_writeDown_f16 f x k p = f p := by
  intro k
  induction k with
  | zero => intros; rfl
  | succ k ih =>
    intro  e280
    exact (r_writeDown_b16_fr  e280).trans (ih  e280)
theorem r_writeDown_f16_w {f : t2_F} {x : Int32} {w : Nat} : ∀ {k : Nat} (hkb : k ≤ 46) (hw : w < 167 ∨ 213 ≤ w), r_writeDown_f16 f x k 280 w = f 280 w := by
  intro k
  induction k with
  | zero => intros; rfl
  | succ k ih =>
    intro hkb hw
    exact (r_writeDown_b16_w (by omega) hw).trans (ih (by omega) hw)
noncomputable def r_writeDown_m (f : t2_F) (x : Int32) : t2_F := if (f 280 20).toInt = (24 : Int32).toInt then fl_row (r_writeDown_f16 f x 46) 280 (upd (upd (upd (upd ((r_writeDown_f16 f x 46) 280) 20 ((f 280 20) - (1 : Int32))) (167 + (2 * (((f 280 20).toInt.toNat) - 1))) (f 280 7)) ((167 + (2 * (((f 280 20).toInt.toNat) - 1))) + 1) x) 20 (((f 280 20) - (1 : Int32)) + (1 : Int32))) else fl_row f 280 (upd (upd (upd (f 280) (167 + (2 * ((f 280 20).toInt.toNat))) (f 280 7)) ((167 + (2 * ((f 280 20).toInt.toNat))) + 1) x) 20 ((f 280 20) + (1 : Int32)))
theorem r_writeDown_fr {f : t2_F} {x : Int32} {p : Nat}  (e280 : p ≠ 280) : r_writeDown_m f x p = f p := by
  unfold r_writeDown_m
  repeat' split
  all_goals first | rfl | simp only [fl_row_ne e280, r_writeDown_f16_fr (k := 46) e280]
theorem r_writeDown_w {f : t2_F} {x : Int32} {w : Nat} (hb : 0 ≤ (f 280 20).toInt ∧ (f 280 20).toInt ≤ 24) (hw : w ≠ 20 ∧ (w < 167 ∨ 217 ≤ w)) : r_writeDown_m f x 280 w = f 280 w := by
  have c24 : (24 : Int32).toInt = 24 := by decide +kernel
  unfold r_writeDown_m
  repeat' split
  all_goals first | rfl | simp only [fl_row_self, upd_ne (show w ≠ 20 by omega), upd_ne (show w ≠ 167 + (2 * (((f 280 20).toInt.toNat) - 1)) by omega), upd_ne (show w ≠ (167 + (2 * (((f 280 20).toInt.toNat) - 1))) + 1 by omega), upd_ne (show w ≠ 167 + (2 * ((f 280 20).toInt.toNat)) by omega), upd_ne (show w ≠ (167 + (2 * ((f 280 20).toInt.toNat))) + 1 by omega), r_writeDown_f16_w (f := f) (k := 46) (w := w) (by omega) (by omega)]
theorem r_writeDown_q {L : Nat} {xs : Nat → Int32} {f : t2_F} {l : t2_L} {Q : Option fl_V → fl_M → Prop} {x : Int32} (hb : 0 ≤ (f 280 20).toInt ∧ (f 280 20).toInt ≤ 24) (k : Q none (r_writeDown_m f x, l)) : fl_Tq (pw_P L xs) 229 0 (fl_args (am_mxl (pw_P L xs) 229) [.inr (.inr (.inl (76, 277))), .inl x]) [] (f, l) Q := by
  refine fl_Tq.stp (pc' := 1) (lv' := [some (.inr (.inr (.inl (76, 277)))), some (.inl x), none]) (st' := [.inr (.inr (.inl (76, 277)))]) (m' := (f, l)) rfl rfl (fl_bo rfl) rfl ?_
  refine fl_Tq.stp (pc' := 4) (lv' := [some (.inr (.inr (.inl (76, 277)))), some (.inl x), none]) (st' := [.inr (.inr (.inl (79, 280)))]) (m' := (f, l)) rfl rfl (fl_bo rfl) rfl ?_
  refine fl_Tq.cB (c := (20 : Int32)) rfl (by decide +kernel) (fl_bo rfl) ?_
  refine fl_Tq.ldV (p := 280) (τ := 79) (n := 29780) (z := (0, 0, 0)) (k := 20) (v := f 280 20) rfl (fl_bo rfl) rfl (by decide +kernel) (by decide) rfl ?_
  refine fl_Tq.cB (c := (24 : Int32)) rfl (by decide +kernel) (fl_bo rfl) ?_
  by_cases h1 : (f 280 20).toInt = (24 : Int32).toInt
  · refine fl_Tq.jf rfl (fl_bo rfl) (c2_ne_f h1) rfl ?_
    refine fl_Tq.cS (c := (167 : Int32)) rfl (by decide +kernel) (fl_bo rfl) ?_
    refine fl_Tq.stp (pc' := 16) (lv' := [some (.inr (.inr (.inl (76, 277)))), some (.inl x), some (.inl (167 : Int32))]) (st' := []) (m' := (f, l)) rfl rfl (fl_bo rfl) rfl ?_
    have hs16 : ∀ k : Nat, k < 46 → fl_Tq (pw_P L xs) 229 16 [some (.inr (.inr (.inl (76, 277)))), some (.inl x), some (.inl (Int32.ofNat (167 + (k + 1))))] [] (r_writeDown_f16 f x (k + 1), l) Q → fl_Tq (pw_P L xs) 229 16 [some (.inr (.inr (.inl (76, 277)))), some (.inl x), some (.inl (Int32.ofNat (167 + k)))] [] (r_writeDown_f16 f x k, l) Q := fun k hkn hS => r_writeDown_b16_q hkn (by omega)  hS
    refine t2_for (S := fun k => fl_Tq (pw_P L xs) 229 16 [some (.inr (.inr (.inl (76, 277)))), some (.inl x), some (.inl (Int32.ofNat (167 + k)))] [] (r_writeDown_f16 f x k, l) Q) hs16 ?_
    show fl_Tq (pw_P L xs) 229 16 [some (.inr (.inr (.inl (76, 277)))), some (.inl x), some (.inl (Int32.ofNat (167 + 46)))] [] (r_writeDown_f16 f x 46, l) _
    refine fl_Tq.stp (pc' := 17) (lv' := [some (.inr (.inr (.inl (76, 277)))), some (.inl x), some (.inl (Int32.ofNat (167 + 46)))]) (st' := [.inl (Int32.ofNat (167 + 46))]) (m' := (r_writeDown_f16 f x 46, l)) rfl rfl (fl_bo rfl) rfl ?_
    refine fl_Tq.cS (c := (213 : Int32)) rfl (by decide +kernel) (fl_bo rfl) ?_
    refine fl_Tq.jt rfl (fl_bo rfl) (c2_ge_t (by have c213 : (213 : Int32).toInt = 213 := (by decide +kernel); have e2 : (Int32.ofNat (167 + 46)).toInt = ((167 + 46 : Nat) : Int) := at_ofN (by omega); omega)) rfl ?_
    refine fl_Tq.stp (pc' := 44) (lv' := [some (.inr (.inr (.inl (76, 277)))), some (.inl x), some (.inl (Int32.ofNat (167 + 46)))]) (st' := [.inr (.inr (.inl (76, 277)))]) (m' := (r_writeDown_f16 f x 46, l)) rfl rfl (fl_bo rfl) rfl ?_
    refine fl_Tq.stp (pc' := 47) (lv' := [some (.inr (.inr (.inl (76, 277)))), some (.inl x), some (.inl (Int32.ofNat (167 + 46)))]) (st' := [.inr (.inr (.inl (79, 280)))]) (m' := (r_writeDown_f16 f x 46, l)) rfl rfl (fl_bo rfl) rfl ?_
    refine fl_Tq.cB (c := (20 : Int32)) rfl (by decide +kernel) (fl_bo rfl) ?_
    refine fl_Tq.stp (pc' := 50) (lv' := [some (.inr (.inr (.inl (76, 277)))), some (.inl x), some (.inl (Int32.ofNat (167 + 46)))]) (st' := [.inl (20 : Int32), .inr (.inr (.inl (79, 280))), .inl (20 : Int32), .inr (.inr (.inl (79, 280)))]) (m' := (r_writeDown_f16 f x 46, l)) rfl rfl (fl_bo rfl) rfl ?_
    refine fl_Tq.ldV (p := 280) (τ := 79) (n := 29780) (z := (0, 0, 0)) (k := 20) (v := f 280 20) rfl (fl_bo rfl) rfl (by decide +kernel) (by decide) (by simp only [r_writeDown_f16_w (f := f) (k := 46) (w := 20) (by omega) (by omega)]) ?_
    refine fl_Tq.cI (c := (1 : Int32)) rfl (by decide +kernel) (fl_bo rfl) ?_
    refine fl_Tq.stp (pc' := 53) (lv' := [some (.inr (.inr (.inl (76, 277)))), some (.inl x), some (.inl (Int32.ofNat (167 + 46)))]) (st' := [.inl ((f 280 20) - (1 : Int32)), .inl (20 : Int32), .inr (.inr (.inl (79, 280)))]) (m' := (r_writeDown_f16 f x 46, l)) rfl rfl (fl_bo rfl) rfl ?_
    refine fl_Tq.svV (p := 280) (τ := 79) (n := 29780) (z := (0, 0, 0)) (k := 20) (m' := (fl_row (r_writeDown_f16 f x 46) 280 (upd ((r_writeDown_f16 f x 46) 280) 20 ((f 280 20) - (1 : Int32))), l)) rfl (fl_bo rfl) rfl (by decide +kernel) (by decide) (t2_upn rfl) ?_
    refine fl_Tq.stp (pc' := 55) (lv' := [some (.inr (.inr (.inl (76, 277)))), some (.inl x), some (.inl (Int32.ofNat (167 + 46)))]) (st' := [.inr (.inr (.inl (76, 277)))]) (m' := (fl_row (r_writeDown_f16 f x 46) 280 (upd ((r_writeDown_f16 f x 46) 280) 20 ((f 280 20) - (1 : Int32))), l)) rfl rfl (fl_bo rfl) rfl ?_
    refine fl_Tq.stp (pc' := 58) (lv' := [some (.inr (.inr (.inl (76, 277)))), some (.inl x), some (.inl (Int32.ofNat (167 + 46)))]) (st' := [.inr (.inr (.inl (79, 280)))]) (m' := (fl_row (r_writeDown_f16 f x 46) 280 (upd ((r_writeDown_f16 f x 46) 280) 20 ((f 280 20) - (1 : Int32))), l)) rfl rfl (fl_bo rfl) rfl ?_
    refine fl_Tq.cS (c := (167 : Int32)) rfl (by decide +kernel) (fl_bo rfl) ?_
    refine fl_Tq.cI (c := (2 : Int32)) rfl (by decide +kernel) (fl_bo rfl) ?_
    refine fl_Tq.stp (pc' := 63) (lv' := [some (.inr (.inr (.inl (76, 277)))), some (.inl x), some (.inl (Int32.ofNat (167 + 46)))]) (st' := [.inr (.inr (.inl (76, 277))), .inl (2 : Int32), .inl (167 : Int32), .inr (.inr (.inl (79, 280)))]) (m' := (fl_row (r_writeDown_f16 f x 46) 280 (upd ((r_writeDown_f16 f x 46) 280) 20 ((f 280 20) - (1 : Int32))), l)) rfl rfl (fl_bo rfl) rfl ?_
    refine fl_Tq.stp (pc' := 66) (lv' := [some (.inr (.inr (.inl (76, 277)))), some (.inl x), some (.inl (Int32.ofNat (167 + 46)))]) (st' := [.inr (.inr (.inl (79, 280))), .inl (2 : Int32), .inl (167 : Int32), .inr (.inr (.inl (79, 280)))]) (m' := (fl_row (r_writeDown_f16 f x 46) 280 (upd ((r_writeDown_f16 f x 46) 280) 20 ((f 280 20) - (1 : Int32))), l)) rfl rfl (fl_bo rfl) rfl ?_
    refine fl_Tq.cB (c := (20 : Int32)) rfl (by decide +kernel) (fl_bo rfl) ?_
    refine fl_Tq.ldV (p := 280) (τ := 79) (n := 29780) (z := (0, 0, 0)) (k := 20) (v := (f 280 20) - (1 : Int32)) rfl (fl_bo rfl) rfl (by decide +kernel) (by decide) (by simp only [fl_row_self, upd_self]) ?_
    refine fl_Tq.stp (pc' := 70) (lv' := [some (.inr (.inr (.inl (76, 277)))), some (.inl x), some (.inl (Int32.ofNat (167 + 46)))]) (st' := [.inl ((2 : Int32) * ((f 280 20) - (1 : Int32))), .inl (167 : Int32), .inr (.inr (.inl (79, 280)))]) (m' := (fl_row (r_writeDown_f16 f x 46) 280 (upd ((r_writeDown_f16 f x 46) 280) 20 ((f 280 20) - (1 : Int32))), l)) rfl rfl (fl_bo rfl) rfl ?_
    refine fl_Tq.stp (pc' := 71) (lv' := [some (.inr (.inr (.inl (76, 277)))), some (.inl x), some (.inl (Int32.ofNat (167 + 46)))]) (st' := [.inl ((167 : Int32) + ((2 : Int32) * ((f 280 20) - (1 : Int32)))), .inr (.inr (.inl (79, 280)))]) (m' := (fl_row (r_writeDown_f16 f x 46) 280 (upd ((r_writeDown_f16 f x 46) 280) 20 ((f 280 20) - (1 : Int32))), l)) rfl rfl (fl_bo rfl) rfl ?_
    refine fl_Tq.stp (pc' := 72) (lv' := [some (.inr (.inr (.inl (76, 277)))), some (.inl x), some (.inl (Int32.ofNat (167 + 46)))]) (st' := [.inr (.inr (.inl (76, 277))), .inl ((167 : Int32) + ((2 : Int32) * ((f 280 20) - (1 : Int32)))), .inr (.inr (.inl (79, 280)))]) (m' := (fl_row (r_writeDown_f16 f x 46) 280 (upd ((r_writeDown_f16 f x 46) 280) 20 ((f 280 20) - (1 : Int32))), l)) rfl rfl (fl_bo rfl) rfl ?_
    refine fl_Tq.stp (pc' := 75) (lv' := [some (.inr (.inr (.inl (76, 277)))), some (.inl x), some (.inl (Int32.ofNat (167 + 46)))]) (st' := [.inr (.inr (.inl (79, 280))), .inl ((167 : Int32) + ((2 : Int32) * ((f 280 20) - (1 : Int32)))), .inr (.inr (.inl (79, 280)))]) (m' := (fl_row (r_writeDown_f16 f x 46) 280 (upd ((r_writeDown_f16 f x 46) 280) 20 ((f 280 20) - (1 : Int32))), l)) rfl rfl (fl_bo rfl) rfl ?_
    refine fl_Tq.cB (c := (7 : Int32)) rfl (by decide +kernel) (fl_bo rfl) ?_
    refine fl_Tq.ldV (p := 280) (τ := 79) (n := 29780) (z := (0, 0, 0)) (k := 7) (v := f 280 7) rfl (fl_bo rfl) rfl (by decide +kernel) (by decide) (by simp only [fl_row_self, upd_ne (by decide : 7 ≠ 20), r_writeDown_f16_w (f := f) (k := 46) (w := 7) (by omega) (by omega)]) ?_
    refine fl_Tq.svV (p := 280) (τ := 79) (n := 29780) (z := (0, 0, 0)) (k := 167 + (2 * (((f 280 20).toInt.toNat) - 1))) (m' := (fl_row (r_writeDown_f16 f x 46) 280 (upd (upd ((r_writeDown_f16 f x 46) 280) 20 ((f 280 20) - (1 : Int32))) (167 + (2 * (((f 280 20).toInt.toNat) - 1))) (f 280 7)), l)) rfl (fl_bo rfl) rfl (t2_ia (by decide +kernel) (t2_im (by decide +kernel) (t2_is (t2_nn hb.1) (by decide +kernel) (by have c24 : (24 : Int32).toInt = 24 := (by decide +kernel); omega)) (by have c24 : (24 : Int32).toInt = 24 := (by decide +kernel); omega)) (by have c24 : (24 : Int32).toInt = 24 := (by decide +kernel); omega)) (by have c24 : (24 : Int32).toInt = 24 := (by decide +kernel); omega) (t2_upr) ?_
    refine fl_Tq.stp (pc' := 80) (lv' := [some (.inr (.inr (.inl (76, 277)))), some (.inl x), some (.inl (Int32.ofNat (167 + 46)))]) (st' := [.inr (.inr (.inl (76, 277)))]) (m' := (fl_row (r_writeDown_f16 f x 46) 280 (upd (upd ((r_writeDown_f16 f x 46) 280) 20 ((f 280 20) - (1 : Int32))) (167 + (2 * (((f 280 20).toInt.toNat) - 1))) (f 280 7)), l)) rfl rfl (fl_bo rfl) rfl ?_
    refine fl_Tq.stp (pc' := 83) (lv' := [some (.inr (.inr (.inl (76, 277)))), some (.inl x), some (.inl (Int32.ofNat (167 + 46)))]) (st' := [.inr (.inr (.inl (79, 280)))]) (m' := (fl_row (r_writeDown_f16 f x 46) 280 (upd (upd ((r_writeDown_f16 f x 46) 280) 20 ((f 280 20) - (1 : Int32))) (167 + (2 * (((f 280 20).toInt.toNat) - 1))) (f 280 7)), l)) rfl rfl (fl_bo rfl) rfl ?_
    refine fl_Tq.cS (c := (167 : Int32)) rfl (by decide +kernel) (fl_bo rfl) ?_
    refine fl_Tq.cI (c := (2 : Int32)) rfl (by decide +kernel) (fl_bo rfl) ?_
    refine fl_Tq.stp (pc' := 88) (lv' := [some (.inr (.inr (.inl (76, 277)))), some (.inl x), some (.inl (Int32.ofNat (167 + 46)))]) (st' := [.inr (.inr (.inl (76, 277))), .inl (2 : Int32), .inl (167 : Int32), .inr (.inr (.inl (79, 280)))]) (m' := (fl_row (r_writeDown_f16 f x 46) 280 (upd (upd ((r_writeDown_f16 f x 46) 280) 20 ((f 280 20) - (1 : Int32))) (167 + (2 * (((f 280 20).toInt.toNat) - 1))) (f 280 7)), l)) rfl rfl (fl_bo rfl) rfl ?_
    refine fl_Tq.stp (pc' := 91) (lv' := [some (.inr (.inr (.inl (76, 277)))), some (.inl x), some (.inl (Int32.ofNat (167 + 46)))]) (st' := [.inr (.inr (.inl (79, 280))), .inl (2 : Int32), .inl (167 : Int32), .inr (.inr (.inl (79, 280)))]) (m' := (fl_row (r_writeDown_f16 f x 46) 280 (upd (upd ((r_writeDown_f16 f x 46) 280) 20 ((f 280 20) - (1 : Int32))) (167 + (2 * (((f 280 20).toInt.toNat) - 1))) (f 280 7)), l)) rfl rfl (fl_bo rfl) rfl ?_
    refine fl_Tq.cB (c := (20 : Int32)) rfl (by decide +kernel) (fl_bo rfl) ?_
    refine fl_Tq.ldV (p := 280) (τ := 79) (n := 29780) (z := (0, 0, 0)) (k := 20) (v := (f 280 20) - (1 : Int32)) rfl (fl_bo rfl) rfl (by decide +kernel) (by decide) (by simp only [fl_row_self, upd_ne (by omega : 20 ≠ 167 + (2 * (((f 280 20).toInt.toNat) - 1))), upd_self]) ?_
    refine fl_Tq.stp (pc' := 95) (lv' := [some (.inr (.inr (.inl (76, 277)))), some (.inl x), some (.inl (Int32.ofNat (167 + 46)))]) (st' := [.inl ((2 : Int32) * ((f 280 20) - (1 : Int32))), .inl (167 : Int32), .inr (.inr (.inl (79, 280)))]) (m' := (fl_row (r_writeDown_f16 f x 46) 280 (upd (upd ((r_writeDown_f16 f x 46) 280) 20 ((f 280 20) - (1 : Int32))) (167 + (2 * (((f 280 20).toInt.toNat) - 1))) (f 280 7)), l)) rfl rfl (fl_bo rfl) rfl ?_
    refine fl_Tq.stp (pc' := 96) (lv' := [some (.inr (.inr (.inl (76, 277)))), some (.inl x), some (.inl (Int32.ofNat (167 + 46)))]) (st' := [.inl ((167 : Int32) + ((2 : Int32) * ((f 280 20) - (1 : Int32)))), .inr (.inr (.inl (79, 280)))]) (m' := (fl_row (r_writeDown_f16 f x 46) 280 (upd (upd ((r_writeDown_f16 f x 46) 280) 20 ((f 280 20) - (1 : Int32))) (167 + (2 * (((f 280 20).toInt.toNat) - 1))) (f 280 7)), l)) rfl rfl (fl_bo rfl) rfl ?_
    refine fl_Tq.cI (c := (1 : Int32)) rfl (by decide +kernel) (fl_bo rfl) ?_
    refine fl_Tq.stp (pc' := 98) (lv' := [some (.inr (.inr (.inl (76, 277)))), some (.inl x), some (.inl (Int32.ofNat (167 + 46)))]) (st' := [.inl (((167 : Int32) + ((2 : Int32) * ((f 280 20) - (1 : Int32)))) + (1 : Int32)), .inr (.inr (.inl (79, 280)))]) (m' := (fl_row (r_writeDown_f16 f x 46) 280 (upd (upd ((r_writeDown_f16 f x 46) 280) 20 ((f 280 20) - (1 : Int32))) (167 + (2 * (((f 280 20).toInt.toNat) - 1))) (f 280 7)), l)) rfl rfl (fl_bo rfl) rfl ?_
    refine fl_Tq.stp (pc' := 99) (lv' := [some (.inr (.inr (.inl (76, 277)))), some (.inl x), some (.inl (Int32.ofNat (167 + 46)))]) (st' := [.inl x, .inl (((167 : Int32) + ((2 : Int32) * ((f 280 20) - (1 : Int32)))) + (1 : Int32)), .inr (.inr (.inl (79, 280)))]) (m' := (fl_row (r_writeDown_f16 f x 46) 280 (upd (upd ((r_writeDown_f16 f x 46) 280) 20 ((f 280 20) - (1 : Int32))) (167 + (2 * (((f 280 20).toInt.toNat) - 1))) (f 280 7)), l)) rfl rfl (fl_bo rfl) rfl ?_
    refine fl_Tq.svV (p := 280) (τ := 79) (n := 29780) (z := (0, 0, 0)) (k := (167 + (2 * (((f 280 20).toInt.toNat) - 1))) + 1) (m' := (fl_row (r_writeDown_f16 f x 46) 280 (upd (upd (upd ((r_writeDown_f16 f x 46) 280) 20 ((f 280 20) - (1 : Int32))) (167 + (2 * (((f 280 20).toInt.toNat) - 1))) (f 280 7)) ((167 + (2 * (((f 280 20).toInt.toNat) - 1))) + 1) x), l)) rfl (fl_bo rfl) rfl (t2_ia (t2_ia (by decide +kernel) (t2_im (by decide +kernel) (t2_is (t2_nn hb.1) (by decide +kernel) (by have c24 : (24 : Int32).toInt = 24 := (by decide +kernel); omega)) (by have c24 : (24 : Int32).toInt = 24 := (by decide +kernel); omega)) (by have c24 : (24 : Int32).toInt = 24 := (by decide +kernel); omega)) (by decide +kernel) (by have c24 : (24 : Int32).toInt = 24 := (by decide +kernel); omega)) (by have c24 : (24 : Int32).toInt = 24 := (by decide +kernel); omega) (t2_upr) ?_
    refine fl_Tq.stp (pc' := 101) (lv' := [some (.inr (.inr (.inl (76, 277)))), some (.inl x), some (.inl (Int32.ofNat (167 + 46)))]) (st' := [.inr (.inr (.inl (76, 277)))]) (m' := (fl_row (r_writeDown_f16 f x 46) 280 (upd (upd (upd ((r_writeDown_f16 f x 46) 280) 20 ((f 280 20) - (1 : Int32))) (167 + (2 * (((f 280 20).toInt.toNat) - 1))) (f 280 7)) ((167 + (2 * (((f 280 20).toInt.toNat) - 1))) + 1) x), l)) rfl rfl (fl_bo rfl) rfl ?_
    refine fl_Tq.stp (pc' := 104) (lv' := [some (.inr (.inr (.inl (76, 277)))), some (.inl x), some (.inl (Int32.ofNat (167 + 46)))]) (st' := [.inr (.inr (.inl (79, 280)))]) (m' := (fl_row (r_writeDown_f16 f x 46) 280 (upd (upd (upd ((r_writeDown_f16 f x 46) 280) 20 ((f 280 20) - (1 : Int32))) (167 + (2 * (((f 280 20).toInt.toNat) - 1))) (f 280 7)) ((167 + (2 * (((f 280 20).toInt.toNat) - 1))) + 1) x), l)) rfl rfl (fl_bo rfl) rfl ?_
    refine fl_Tq.cB (c := (20 : Int32)) rfl (by decide +kernel) (fl_bo rfl) ?_
    refine fl_Tq.stp (pc' := 107) (lv' := [some (.inr (.inr (.inl (76, 277)))), some (.inl x), some (.inl (Int32.ofNat (167 + 46)))]) (st' := [.inl (20 : Int32), .inr (.inr (.inl (79, 280))), .inl (20 : Int32), .inr (.inr (.inl (79, 280)))]) (m' := (fl_row (r_writeDown_f16 f x 46) 280 (upd (upd (upd ((r_writeDown_f16 f x 46) 280) 20 ((f 280 20) - (1 : Int32))) (167 + (2 * (((f 280 20).toInt.toNat) - 1))) (f 280 7)) ((167 + (2 * (((f 280 20).toInt.toNat) - 1))) + 1) x), l)) rfl rfl (fl_bo rfl) rfl ?_
    refine fl_Tq.ldV (p := 280) (τ := 79) (n := 29780) (z := (0, 0, 0)) (k := 20) (v := (f 280 20) - (1 : Int32)) rfl (fl_bo rfl) rfl (by decide +kernel) (by decide) (by simp only [fl_row_self, upd_ne (by omega : 20 ≠ (167 + (2 * (((f 280 20).toInt.toNat) - 1))) + 1), upd_ne (by omega : 20 ≠ 167 + (2 * (((f 280 20).toInt.toNat) - 1))), upd_self]) ?_
    refine fl_Tq.cI (c := (1 : Int32)) rfl (by decide +kernel) (fl_bo rfl) ?_
    refine fl_Tq.stp (pc' := 110) (lv' := [some (.inr (.inr (.inl (76, 277)))), some (.inl x), some (.inl (Int32.ofNat (167 + 46)))]) (st' := [.inl (((f 280 20) - (1 : Int32)) + (1 : Int32)), .inl (20 : Int32), .inr (.inr (.inl (79, 280)))]) (m' := (fl_row (r_writeDown_f16 f x 46) 280 (upd (upd (upd ((r_writeDown_f16 f x 46) 280) 20 ((f 280 20) - (1 : Int32))) (167 + (2 * (((f 280 20).toInt.toNat) - 1))) (f 280 7)) ((167 + (2 * (((f 280 20).toInt.toNat) - 1))) + 1) x), l)) rfl rfl (fl_bo rfl) rfl ?_
    refine fl_Tq.svV (p := 280) (τ := 79) (n := 29780) (z := (0, 0, 0)) (k := 20) (m' := (fl_row (r_writeDown_f16 f x 46) 280 (upd (upd (upd (upd ((r_writeDown_f16 f x 46) 280) 20 ((f 280 20) - (1 : Int32))) (167 + (2 * (((f 280 20).toInt.toNat) - 1))) (f 280 7)) ((167 + (2 * (((f 280 20).toInt.toNat) - 1))) + 1) x) 20 (((f 280 20) - (1 : Int32)) + (1 : Int32))), l)) rfl (fl_bo rfl) rfl (by decide +kernel) (by decide) (t2_upr) ?_
    refine fl_Tq.ret rfl rfl rfl ?_
    unfold r_writeDown_m at k
    simp only [if_pos h1] at k
    exact k
  · refine fl_Tq.jt rfl (fl_bo rfl) (c2_ne_t h1) rfl ?_
    refine fl_Tq.stp (pc' := 55) (lv' := [some (.inr (.inr (.inl (76, 277)))), some (.inl x), none]) (st' := [.inr (.inr (.inl (76, 277)))]) (m' := (f, l)) rfl rfl (fl_bo rfl) rfl ?_
    refine fl_Tq.stp (pc' := 58) (lv' := [some (.inr (.inr (.inl (76, 277)))), some (.inl x), none]) (st' := [.inr (.inr (.inl (79, 280)))]) (m' := (f, l)) rfl rfl (fl_bo rfl) rfl ?_
    refine fl_Tq.cS (c := (167 : Int32)) rfl (by decide +kernel) (fl_bo rfl) ?_
    refine fl_Tq.cI (c := (2 : Int32)) rfl (by decide +kernel) (fl_bo rfl) ?_
    refine fl_Tq.stp (pc' := 63) (lv' := [some (.inr (.inr (.inl (76, 277)))), some (.inl x), none]) (st' := [.inr (.inr (.inl (76, 277))), .inl (2 : Int32), .inl (167 : Int32), .inr (.inr (.inl (79, 280)))]) (m' := (f, l)) rfl rfl (fl_bo rfl) rfl ?_
    refine fl_Tq.stp (pc' := 66) (lv' := [some (.inr (.inr (.inl (76, 277)))), some (.inl x), none]) (st' := [.inr (.inr (.inl (79, 280))), .inl (2 : Int32), .inl (167 : Int32), .inr (.inr (.inl (79, 280)))]) (m' := (f, l)) rfl rfl (fl_bo rfl) rfl ?_
    refine fl_Tq.cB (c := (20 : Int32)) rfl (by decide +kernel) (fl_bo rfl) ?_
    refine fl_Tq.ldV (p := 280) (τ := 79) (n := 29780) (z := (0, 0, 0)) (k := 20) (v := f 280 20) rfl (fl_bo rfl) rfl (by decide +kernel) (by decide) rfl ?_
    refine fl_Tq.stp (pc' := 70) (lv' := [some (.inr (.inr (.inl (76, 277)))), some (.inl x), none]) (st' := [.inl ((2 : Int32) * (f 280 20)), .inl (167 : Int32), .inr (.inr (.inl (79, 280)))]) (m' := (f, l)) rfl rfl (fl_bo rfl) rfl ?_
    refine fl_Tq.stp (pc' := 71) (lv' := [some (.inr (.inr (.inl (76, 277)))), some (.inl x), none]) (st' := [.inl ((167 : Int32) + ((2 : Int32) * (f 280 20))), .inr (.inr (.inl (79, 280)))]) (m' := (f, l)) rfl rfl (fl_bo rfl) rfl ?_
    refine fl_Tq.stp (pc' := 72) (lv' := [some (.inr (.inr (.inl (76, 277)))), some (.inl x), none]) (st' := [.inr (.inr (.inl (76, 277))), .inl ((167 : Int32) + ((2 : Int32) * (f 280 20))), .inr (.inr (.inl (79, 280)))]) (m' := (f, l)) rfl rfl (fl_bo rfl) rfl ?_
    refine fl_Tq.stp (pc' := 75) (lv' := [some (.inr (.inr (.inl (76, 277)))), some (.inl x), none]) (st' := [.inr (.inr (.inl (79, 280))), .inl ((167 : Int32) + ((2 : Int32) * (f 280 20))), .inr (.inr (.inl (79, 280)))]) (m' := (f, l)) rfl rfl (fl_bo rfl) rfl ?_
    refine fl_Tq.cB (c := (7 : Int32)) rfl (by decide +kernel) (fl_bo rfl) ?_
    refine fl_Tq.ldV (p := 280) (τ := 79) (n := 29780) (z := (0, 0, 0)) (k := 7) (v := f 280 7) rfl (fl_bo rfl) rfl (by decide +kernel) (by decide) rfl ?_
    refine fl_Tq.svV (p := 280) (τ := 79) (n := 29780) (z := (0, 0, 0)) (k := 167 + (2 * ((f 280 20).toInt.toNat))) (m' := (fl_row f 280 (upd (f 280) (167 + (2 * ((f 280 20).toInt.toNat))) (f 280 7)), l)) rfl (fl_bo rfl) rfl (t2_ia (by decide +kernel) (t2_im (by decide +kernel) (t2_nn hb.1) (by have c24 : (24 : Int32).toInt = 24 := (by decide +kernel); omega)) (by have c24 : (24 : Int32).toInt = 24 := (by decide +kernel); omega)) (by have c24 : (24 : Int32).toInt = 24 := (by decide +kernel); omega) (t2_upn rfl) ?_
    refine fl_Tq.stp (pc' := 80) (lv' := [some (.inr (.inr (.inl (76, 277)))), some (.inl x), none]) (st' := [.inr (.inr (.inl (76, 277)))]) (m' := (fl_row f 280 (upd (f 280) (167 + (2 * ((f 280 20).toInt.toNat))) (f 280 7)), l)) rfl rfl (fl_bo rfl) rfl ?_
    refine fl_Tq.stp (pc' := 83) (lv' := [some (.inr (.inr (.inl (76, 277)))), some (.inl x), none]) (st' := [.inr (.inr (.inl (79, 280)))]) (m' := (fl_row f 280 (upd (f 280) (167 + (2 * ((f 280 20).toInt.toNat))) (f 280 7)), l)) rfl rfl (fl_bo rfl) rfl ?_
    refine fl_Tq.cS (c := (167 : Int32)) rfl (by decide +kernel) (fl_bo rfl) ?_
    refine fl_Tq.cI (c := (2 : Int32)) rfl (by decide +kernel) (fl_bo rfl) ?_
    refine fl_Tq.stp (pc' := 88) (lv' := [some (.inr (.inr (.inl (76, 277)))), some (.inl x), none]) (st' := [.inr (.inr (.inl (76, 277))), .inl (2 : Int32), .inl (167 : Int32), .inr (.inr (.inl (79, 280)))]) (m' := (fl_row f 280 (upd (f 280) (167 + (2 * ((f 280 20).toInt.toNat))) (f 280 7)), l)) rfl rfl (fl_bo rfl) rfl ?_
    refine fl_Tq.stp (pc' := 91) (lv' := [some (.inr (.inr (.inl (76, 277)))), some (.inl x), none]) (st' := [.inr (.inr (.inl (79, 280))), .inl (2 : Int32), .inl (167 : Int32), .inr (.inr (.inl (79, 280)))]) (m' := (fl_row f 280 (upd (f 280) (167 + (2 * ((f 280 20).toInt.toNat))) (f 280 7)), l)) rfl rfl (fl_bo rfl) rfl ?_
    refine fl_Tq.cB (c := (20 : Int32)) rfl (by decide +kernel) (fl_bo rfl) ?_
    refine fl_Tq.ldV (p := 280) (τ := 79) (n := 29780) (z := (0, 0, 0)) (k := 20) (v := f 280 20) rfl (fl_bo rfl) rfl (by decide +kernel) (by decide) (by simp only [fl_row_self, upd_ne (by omega : 20 ≠ 167 + (2 * ((f 280 20).toInt.toNat)))]) ?_
    refine fl_Tq.stp (pc' := 95) (lv' := [some (.inr (.inr (.inl (76, 277)))), some (.inl x), none]) (st' := [.inl ((2 : Int32) * (f 280 20)), .inl (167 : Int32), .inr (.inr (.inl (79, 280)))]) (m' := (fl_row f 280 (upd (f 280) (167 + (2 * ((f 280 20).toInt.toNat))) (f 280 7)), l)) rfl rfl (fl_bo rfl) rfl ?_
    refine fl_Tq.stp (pc' := 96) (lv' := [some (.inr (.inr (.inl (76, 277)))), some (.inl x), none]) (st' := [.inl ((167 : Int32) + ((2 : Int32) * (f 280 20))), .inr (.inr (.inl (79, 280)))]) (m' := (fl_row f 280 (upd (f 280) (167 + (2 * ((f 280 20).toInt.toNat))) (f 280 7)), l)) rfl rfl (fl_bo rfl) rfl ?_
    refine fl_Tq.cI (c := (1 : Int32)) rfl (by decide +kernel) (fl_bo rfl) ?_
    refine fl_Tq.stp (pc' := 98) (lv' := [some (.inr (.inr (.inl (76, 277)))), some (.inl x), none]) (st' := [.inl (((167 : Int32) + ((2 : Int32) * (f 280 20))) + (1 : Int32)), .inr (.inr (.inl (79, 280)))]) (m' := (fl_row f 280 (upd (f 280) (167 + (2 * ((f 280 20).toInt.toNat))) (f 280 7)), l)) rfl rfl (fl_bo rfl) rfl ?_
    refine fl_Tq.stp (pc' := 99) (lv' := [some (.inr (.inr (.inl (76, 277)))), some (.inl x), none]) (st' := [.inl x, .inl (((167 : Int32) + ((2 : Int32) * (f 280 20))) + (1 : Int32)), .inr (.inr (.inl (79, 280)))]) (m' := (fl_row f 280 (upd (f 280) (167 + (2 * ((f 280 20).toInt.toNat))) (f 280 7)), l)) rfl rfl (fl_bo rfl) rfl ?_
    refine fl_Tq.svV (p := 280) (τ := 79) (n := 29780) (z := (0, 0, 0)) (k := (167 + (2 * ((f 280 20).toInt.toNat))) + 1) (m' := (fl_row f 280 (upd (upd (f 280) (167 + (2 * ((f 280 20).toInt.toNat))) (f 280 7)) ((167 + (2 * ((f 280 20).toInt.toNat))) + 1) x), l)) rfl (fl_bo rfl) rfl (t2_ia (t2_ia (by decide +kernel) (t2_im (by decide +kernel) (t2_nn hb.1) (by have c24 : (24 : Int32).toInt = 24 := (by decide +kernel); omega)) (by have c24 : (24 : Int32).toInt = 24 := (by decide +kernel); omega)) (by decide +kernel) (by have c24 : (24 : Int32).toInt = 24 := (by decide +kernel); omega)) (by have c24 : (24 : Int32).toInt = 24 := (by decide +kernel); omega) (t2_upr) ?_
    refine fl_Tq.stp (pc' := 101) (lv' := [some (.inr (.inr (.inl (76, 277)))), some (.inl x), none]) (st' := [.inr (.inr (.inl (76, 277)))]) (m' := (fl_row f 280 (upd (upd (f 280) (167 + (2 * ((f 280 20).toInt.toNat))) (f 280 7)) ((167 + (2 * ((f 280 20).toInt.toNat))) + 1) x), l)) rfl rfl (fl_bo rfl) rfl ?_
    refine fl_Tq.stp (pc' := 104) (lv' := [some (.inr (.inr (.inl (76, 277)))), some (.inl x), none]) (st' := [.inr (.inr (.inl (79, 280)))]) (m' := (fl_row f 280 (upd (upd (f 280) (167 + (2 * ((f 280 20).toInt.toNat))) (f 280 7)) ((167 + (2 * ((f 280 20).toInt.toNat))) + 1) x), l)) rfl rfl (fl_bo rfl) rfl ?_
    refine fl_Tq.cB (c := (20 : Int32)) rfl (by decide +kernel) (fl_bo rfl) ?_
    refine fl_Tq.stp (pc' := 107) (lv' := [some (.inr (.inr (.inl (76, 277)))), some (.inl x), none]) (st' := [.inl (20 : Int32), .inr (.inr (.inl (79, 280))), .inl (20 : Int32), .inr (.inr (.inl (79, 280)))]) (m' := (fl_row f 280 (upd (upd (f 280) (167 + (2 * ((f 280 20).toInt.toNat))) (f 280 7)) ((167 + (2 * ((f 280 20).toInt.toNat))) + 1) x), l)) rfl rfl (fl_bo rfl) rfl ?_
    refine fl_Tq.ldV (p := 280) (τ := 79) (n := 29780) (z := (0, 0, 0)) (k := 20) (v := f 280 20) rfl (fl_bo rfl) rfl (by decide +kernel) (by decide) (by simp only [fl_row_self, upd_ne (by omega : 20 ≠ (167 + (2 * ((f 280 20).toInt.toNat))) + 1), upd_ne (by omega : 20 ≠ 167 + (2 * ((f 280 20).toInt.toNat)))]) ?_
    refine fl_Tq.cI (c := (1 : Int32)) rfl (by decide +kernel) (fl_bo rfl) ?_
    refine fl_Tq.stp (pc' := 110) (lv' := [some (.inr (.inr (.inl (76, 277)))), some (.inl x), none]) (st' := [.inl ((f 280 20) + (1 : Int32)), .inl (20 : Int32), .inr (.inr (.inl (79, 280)))]) (m' := (fl_row f 280 (upd (upd (f 280) (167 + (2 * ((f 280 20).toInt.toNat))) (f 280 7)) ((167 + (2 * ((f 280 20).toInt.toNat))) + 1) x), l)) rfl rfl (fl_bo rfl) rfl ?_
    refine fl_Tq.svV (p := 280) (τ := 79) (n := 29780) (z := (0, 0, 0)) (k := 20) (m' := (fl_row f 280 (upd (upd (upd (f 280) (167 + (2 * ((f 280 20).toInt.toNat))) (f 280 7)) ((167 + (2 * ((f 280 20).toInt.toNat))) + 1) x) 20 ((f 280 20) + (1 : Int32))), l)) rfl (fl_bo rfl) rfl (by decide +kernel) (by decide) (t2_upr) ?_
    refine fl_Tq.ret rfl rfl rfl ?_
    unfold r_writeDown_m at k
    simp only [if_neg h1] at k
    exact k
theorem r_writeDown_hb {f : t2_F} {x : Int32} (hb : 0 ≤ (f 280 20).toInt ∧ (f 280 20).toInt ≤ 24) : 0 ≤ ((r_writeDown_m f x) 280 20).toInt ∧ ((r_writeDown_m f x) 280 20).toInt ≤ 24 := by
  have c24 : (24 : Int32).toInt = 24 := by decide +kernel
  have c1 : (1 : Int32).toInt = 1 := by decide +kernel
  unfold r_writeDown_m
  split
  · rename_i h
    rw [fl_row_self, upd_self, at_add32] <;> (try rw [at_sub32]) <;> omega
  · rename_i h
    rw [fl_row_self, upd_self, at_add32] <;> omega

end

/-! 93.00.1.g11.lean.txt -/
section
noncomputable def r_goFaults_j18_0 (f : t2_F)  : Int32 := if (f 280 43).toInt < (f 280 44).toInt then r_lesser_v ((f 280 15) + (1 : Int32)) (3 : Int32) else (0 : Int32)
noncomputable def r_goFaults_j53_0 (f : t2_F)  : Int32 := if (r_actual_v (fl_row f 280 (upd (f 280) 15 (r_goFaults_j18_0 f)))).toInt = (r_ordered_v (fl_row f 280 (upd (f 280) 15 (r_goFaults_j18_0 f)))).toInt then (0 : Int32) else r_lesser_v ((f 280 16) + (1 : Int32)) (2 : Int32)
noncomputable def r_goFaults_a91 (f : t2_F) : Nat → Int32
  | 0 => (0 : Int32)
  | k91 + 1 => (r_goFaults_a91 f k91) ||| (if (r_isSo_v (fl_row f 280 (upd (upd (upd (f 280) 15 (r_goFaults_j18_0 f)) 16 (r_goFaults_j53_0 f)) 22 ((f 280 22) + (1 : Int32)))) (Int32.ofNat k91)).toInt = 0 then (0 : Int32) else (1 : Int32) <<< ((Int32.ofNat k91) &&& 31))
noncomputable def r_goFaults_b123_j134_0 (f : t2_F) (z : Int32) (a0 : Int32) (k : Nat) : Int32 := if (r_has_v z (Int32.ofNat k)).toInt = 0 then a0 else (if (Int32.ofNat k).toInt < (4 : Int32).toInt then (if (r_has_v (f 280 6) (Int32.ofNat k)).toInt = 0 then a0 + (1 : Int32) else a0) else (if (r_has_v (f 280 6) (Int32.ofNat k)).toInt = 0 then a0 + (1 : Int32) else a0))
noncomputable def r_goFaults_b123_m (f : t2_F) (z : Int32) (a0 : Int32) (k : Nat) : t2_F := if (r_has_v z (Int32.ofNat k)).toInt = 0 then f else (if (Int32.ofNat k).toInt < (4 : Int32).toInt then (if (r_has_v (f 280 6) (Int32.ofNat k)).toInt = 0 then r_writeDown_m (fl_row f 280 (upd (upd (upd (f 280) (311 + k) (r_soBy_v f (Int32.ofNat k))) (23 + k) (f 280 7)) 6 ((f 280 6) ||| ((1 : Int32) <<< ((Int32.ofNat k) &&& 31))))) (Int32.ofNat k) else fl_row f 280 (upd (upd (f 280) (311 + k) (r_soBy_v f (Int32.ofNat k))) (23 + k) (f 280 7))) else (if (r_has_v (f 280 6) (Int32.ofNat k)).toInt = 0 then r_writeDown_m (fl_row f 280 (upd (upd (f 280) (23 + k) (f 280 7)) 6 ((f 280 6) ||| ((1 : Int32) <<< ((Int32.ofNat k) &&& 31))))) (Int32.ofNat k) else fl_row f 280 (upd (f 280) (23 + k) (f 280 7))))
noncomputable def r_goFaults_b123_v (f : t2_F) (z : Int32) (a0 : Int32) (k : Nat) : Int32 := r_goFaults_b123_j134_0 f z a0 k
theorem r_goFaults_b123_fr {f : t2_F} {z : Int32} {a0 : Int32} {k : Nat} {p : Nat} (e280 : p ≠ 280) : r_goFaults_b123_m f z a0 k p = f p := by
  unfold r_goFaults_b123_m
  split
  · rfl
  · split
    · split
      · rw [r_writeDown_fr e280, fl_row_ne e280]
      · rw [fl_row_ne e280]
    · split
      · rw [r_writeDown_fr e280, fl_row_ne e280]
      · rw [fl_row_ne e280]
theorem r_goFaults_b123_w {f : t2_F} {z : Int32} {a0 : Int32} {k : Nat} {w : Nat} (hkb : k < 11) (hb : 0 ≤ (f 280 20).toInt ∧ (f 280 20).toInt ≤ 24) (hw : w ≠ 6 ∧ w ≠ 20 ∧ (w < 23 ∨ 34 ≤ w) ∧ (w < 167 ∨ 217 ≤ w) ∧ (w < 311 ∨ 315 ≤ w)) : r_goFaults_b123_m f z a0 k 280 w = f 280 w := by
  have n6 : w ≠ 6 := hw.1
  have nk : w ≠ 23 + k := by omega
  have n20 : w ≠ 20 ∧ (w < 167 ∨ 217 ≤ w) := ⟨hw.2.1, hw.2.2.2.1⟩
  have k6 : 20 ≠ 6 := by decide
  have kk : 20 ≠ 23 + k := by omega
  have kl : 20 ≠ 311 + k := by omega
  have c4 : (Int32.ofNat k).toInt < (4 : Int32).toInt → w ≠ 311 + k := by
    have c4 : (4 : Int32).toInt = 4 := by decide +kernel
    have e2 : (Int32.ofNat k).toInt = (k : Int) := at_ofN (by omega)
    intro h
    rw [c4, e2] at h
    omega
  unfold r_goFaults_b123_m
  split
  · rfl
  · split
    · rename_i h4
      have nl := c4 h4
      split
      · rw [r_writeDown_w (w := w) (by simp only [fl_row_self, upd_ne k6, upd_ne kk, upd_ne kl]; exact hb) n20, fl_row_self, upd_ne n6, upd_ne nk, upd_ne nl]
      · rw [fl_row_self, upd_ne nk, upd_ne nl]
    · split
      · rw [r_writeDown_w (w := w) (by simp only [fl_row_self, upd_ne k6, upd_ne kk]; exact hb) n20, fl_row_self, upd_ne n6, upd_ne nk]
      · rw [fl_row_self, upd_ne nk]
theorem r_goFaults_b123_q {L : Nat} {xs : Nat → Int32} {f : t2_F} {l : t2_L} {Q : Option fl_V → fl_M → Prop} {z : Int32} {a0 : Int32} {k : Nat} {n : Nat} (hkn : k < n) (h11 : n ≤ 11) (hn : 0 ≤ (f 280 2).toInt ∧ (f 280 2).toInt ≤ 16) (hr : t2_RS f) (hk : ∀ C : Nat, (C : Int) < (f 280 2).toInt → t2_ck f C) (hb : 0 ≤ (f 280 20).toInt ∧ (f 280 20).toInt ≤ 24) (hS : fl_Tq (pw_P L xs) 230 123 [some (.inr (.inr (.inl (76, 277)))), some (.inl z), some (.inl (r_goFaults_b123_v f z a0 k)), some (.inl (Int32.ofNat (k + 1)))] [] (r_goFaults_b123_m f z a0 k, l) Q) : fl_Tq (pw_P L xs) 230 123 [some (.inr (.inr (.inl (76, 277)))), some (.inl z), some (.inl a0), some (.inl (Int32.ofNat k))] [] (f, l) Q := by
  refine fl_Tq.stp (pc' := 124) (lv' := [some (.inr (.inr (.inl (76, 277)))), some (.inl z), some (.inl a0), some (.inl (Int32.ofNat k))]) (st' := [.inl (Int32.ofNat k)]) (m' := (f, l)) rfl rfl (fl_bo rfl) rfl ?_
  refine fl_Tq.cB (c := (11 : Int32)) rfl (by decide +kernel) (fl_bo rfl) ?_
  refine fl_Tq.jf rfl (fl_bo rfl) (c2_ge_f (by have c11 : (11 : Int32).toInt = 11 := (by decide +kernel); have e2 : (Int32.ofNat k).toInt = ((k : Nat) : Int) := at_ofN (by omega); omega)) rfl ?_
  refine fl_Tq.stp (pc' := 130) (lv' := [some (.inr (.inr (.inl (76, 277)))), some (.inl z), some (.inl a0), some (.inl (Int32.ofNat k))]) (st' := [.inl z]) (m' := (f, l)) rfl rfl (fl_bo rfl) rfl ?_
  refine fl_Tq.stp (pc' := 131) (lv' := [some (.inr (.inr (.inl (76, 277)))), some (.inl z), some (.inl a0), some (.inl (Int32.ofNat k))]) (st' := [.inl (Int32.ofNat k), .inl z]) (m' := (f, l)) rfl rfl (fl_bo rfl) rfl ?_
  refine fl_Tq.cal rfl rfl (fl_bo rfl) rfl ?_
  refine r_has_q  ?_
  show fl_Tq _ 230 134 [some (.inr (.inr (.inl (76, 277)))), some (.inl z), some (.inl a0), some (.inl (Int32.ofNat k))] [.inl (r_has_v z (Int32.ofNat k))] (f, l) _
  have hj137 : fl_Tq (pw_P L xs) 230 214 [some (.inr (.inr (.inl (76, 277)))), some (.inl z), some (.inl (r_goFaults_b123_j134_0 f z a0 k)), some (.inl (Int32.ofNat k))] [] (if (r_has_v z (Int32.ofNat k)).toInt = 0 then f else (if (Int32.ofNat k).toInt < (4 : Int32).toInt then (if (r_has_v (f 280 6) (Int32.ofNat k)).toInt = 0 then r_writeDown_m (fl_row f 280 (upd (upd (upd (f 280) (311 + k) (r_soBy_v f (Int32.ofNat k))) (23 + k) (f 280 7)) 6 ((f 280 6) ||| ((1 : Int32) <<< ((Int32.ofNat k) &&& 31))))) (Int32.ofNat k) else fl_row f 280 (upd (upd (f 280) (311 + k) (r_soBy_v f (Int32.ofNat k))) (23 + k) (f 280 7))) else (if (r_has_v (f 280 6) (Int32.ofNat k)).toInt = 0 then r_writeDown_m (fl_row f 280 (upd (upd (f 280) (23 + k) (f 280 7)) 6 ((f 280 6) ||| ((1 : Int32) <<< ((Int32.ofNat k) &&& 31))))) (Int32.ofNat k) else fl_row f 280 (upd (f 280) (23 + k) (f 280 7)))), l) Q → fl_Tq (pw_P L xs) 230 134 [some (.inr (.inr (.inl (76, 277)))), some (.inl z), some (.inl a0), some (.inl (Int32.ofNat k))] [.inl (r_has_v z (Int32.ofNat k))] (f, l) Q := by
    intro hJ
    by_cases h4 : (r_has_v z (Int32.ofNat k)).toInt = 0
    · refine fl_Tq.zf rfl (fl_bo rfl) (c1_ne_f h4) rfl ?_
      refine fl_Tq.stp (pc' := 214) (lv' := [some (.inr (.inr (.inl (76, 277)))), some (.inl z), some (.inl a0), some (.inl (Int32.ofNat k))]) (st' := []) (m' := (f, l)) rfl rfl (fl_bo rfl) rfl ?_
      have e0 : (r_goFaults_b123_j134_0 f z a0 k) = a0 := by simp only [r_goFaults_b123_j134_0, if_pos h4]
      have e1 : (if (r_has_v z (Int32.ofNat k)).toInt = 0 then f else (if (Int32.ofNat k).toInt < (4 : Int32).toInt then (if (r_has_v (f 280 6) (Int32.ofNat k)).toInt = 0 then r_writeDown_m (fl_row f 280 (upd (upd (upd (f 280) (311 + k) (r_soBy_v f (Int32.ofNat k))) (23 + k) (f 280 7)) 6 ((f 280 6) ||| ((1 : Int32) <<< ((Int32.ofNat k) &&& 31))))) (Int32.ofNat k) else fl_row f 280 (upd (upd (f 280) (311 + k) (r_soBy_v f (Int32.ofNat k))) (23 + k) (f 280 7))) else (if (r_has_v (f 280 6) (Int32.ofNat k)).toInt = 0 then r_writeDown_m (fl_row f 280 (upd (upd (f 280) (23 + k) (f 280 7)) 6 ((f 280 6) ||| ((1 : Int32) <<< ((Int32.ofNat k) &&& 31))))) (Int32.ofNat k) else fl_row f 280 (upd (f 280) (23 + k) (f 280 7))))) = f := by simp only [if_pos h4]
      rw [e0, e1] at hJ
      exact hJ
    · refine fl_Tq.zt rfl (fl_bo rfl) (c1_ne_t h4) rfl ?_
      refine fl_Tq.stp (pc' := 141) (lv' := [some (.inr (.inr (.inl (76, 277)))), some (.inl z), some (.inl a0), some (.inl (Int32.ofNat k))]) (st' := [.inl (Int32.ofNat k)]) (m' := (f, l)) rfl rfl (fl_bo rfl) rfl ?_
      refine fl_Tq.cI (c := (4 : Int32)) rfl (by decide +kernel) (fl_bo rfl) ?_
      by_cases h5 : (Int32.ofNat k).toInt < (4 : Int32).toInt
      · refine fl_Tq.jf rfl (fl_bo rfl) (c2_ge_f h5) rfl ?_
        refine fl_Tq.stp (pc' := 146) (lv' := [some (.inr (.inr (.inl (76, 277)))), some (.inl z), some (.inl a0), some (.inl (Int32.ofNat k))]) (st' := [.inr (.inr (.inl (76, 277)))]) (m' := (f, l)) rfl rfl (fl_bo rfl) rfl ?_
        refine fl_Tq.stp (pc' := 149) (lv' := [some (.inr (.inr (.inl (76, 277)))), some (.inl z), some (.inl a0), some (.inl (Int32.ofNat k))]) (st' := [.inr (.inr (.inl (79, 280)))]) (m' := (f, l)) rfl rfl (fl_bo rfl) rfl ?_
        refine fl_Tq.cS (c := (311 : Int32)) rfl (by decide +kernel) (fl_bo rfl) ?_
        refine fl_Tq.stp (pc' := 153) (lv' := [some (.inr (.inr (.inl (76, 277)))), some (.inl z), some (.inl a0), some (.inl (Int32.ofNat k))]) (st' := [.inl (Int32.ofNat k), .inl (311 : Int32), .inr (.inr (.inl (79, 280)))]) (m' := (f, l)) rfl rfl (fl_bo rfl) rfl ?_
        refine fl_Tq.stp (pc' := 154) (lv' := [some (.inr (.inr (.inl (76, 277)))), some (.inl z), some (.inl a0), some (.inl (Int32.ofNat k))]) (st' := [.inl ((311 : Int32) + (Int32.ofNat k)), .inr (.inr (.inl (79, 280)))]) (m' := (f, l)) rfl rfl (fl_bo rfl) rfl ?_
        refine fl_Tq.stp (pc' := 155) (lv' := [some (.inr (.inr (.inl (76, 277)))), some (.inl z), some (.inl a0), some (.inl (Int32.ofNat k))]) (st' := [.inr (.inr (.inl (76, 277))), .inl ((311 : Int32) + (Int32.ofNat k)), .inr (.inr (.inl (79, 280)))]) (m' := (f, l)) rfl rfl (fl_bo rfl) rfl ?_
        refine fl_Tq.stp (pc' := 156) (lv' := [some (.inr (.inr (.inl (76, 277)))), some (.inl z), some (.inl a0), some (.inl (Int32.ofNat k))]) (st' := [.inl (Int32.ofNat k), .inr (.inr (.inl (76, 277))), .inl ((311 : Int32) + (Int32.ofNat k)), .inr (.inr (.inl (79, 280)))]) (m' := (f, l)) rfl rfl (fl_bo rfl) rfl ?_
        refine fl_Tq.cal rfl rfl (fl_bo rfl) rfl ?_
        refine r_soBy_q hn hr hk ?_
        show fl_Tq _ 230 159 [some (.inr (.inr (.inl (76, 277)))), some (.inl z), some (.inl a0), some (.inl (Int32.ofNat k))] [.inl (r_soBy_v f (Int32.ofNat k)), .inl ((311 : Int32) + (Int32.ofNat k)), .inr (.inr (.inl (79, 280)))] (f, l) _
        refine fl_Tq.svV (p := 280) (τ := 79) (n := 29780) (z := (0, 0, 0)) (k := 311 + k) (m' := (fl_row f 280 (upd (f 280) (311 + k) (r_soBy_v f (Int32.ofNat k))), l)) rfl (fl_bo rfl) rfl (t2_ia (by decide +kernel) (at_ofN (by omega)) (by omega)) (by omega) (t2_upn rfl) ?_
        refine fl_Tq.stp (pc' := 161) (lv' := [some (.inr (.inr (.inl (76, 277)))), some (.inl z), some (.inl a0), some (.inl (Int32.ofNat k))]) (st' := [.inr (.inr (.inl (76, 277)))]) (m' := (fl_row f 280 (upd (f 280) (311 + k) (r_soBy_v f (Int32.ofNat k))), l)) rfl rfl (fl_bo rfl) rfl ?_
        refine fl_Tq.stp (pc' := 164) (lv' := [some (.inr (.inr (.inl (76, 277)))), some (.inl z), some (.inl a0), some (.inl (Int32.ofNat k))]) (st' := [.inr (.inr (.inl (79, 280)))]) (m' := (fl_row f 280 (upd (f 280) (311 + k) (r_soBy_v f (Int32.ofNat k))), l)) rfl rfl (fl_bo rfl) rfl ?_
        refine fl_Tq.cB (c := (23 : Int32)) rfl (by decide +kernel) (fl_bo rfl) ?_
        refine fl_Tq.stp (pc' := 167) (lv' := [some (.inr (.inr (.inl (76, 277)))), some (.inl z), some (.inl a0), some (.inl (Int32.ofNat k))]) (st' := [.inl (Int32.ofNat k), .inl (23 : Int32), .inr (.inr (.inl (79, 280)))]) (m' := (fl_row f 280 (upd (f 280) (311 + k) (r_soBy_v f (Int32.ofNat k))), l)) rfl rfl (fl_bo rfl) rfl ?_
        refine fl_Tq.stp (pc' := 168) (lv' := [some (.inr (.inr (.inl (76, 277)))), some (.inl z), some (.inl a0), some (.inl (Int32.ofNat k))]) (st' := [.inl ((23 : Int32) + (Int32.ofNat k)), .inr (.inr (.inl (79, 280)))]) (m' := (fl_row f 280 (upd (f 280) (311 + k) (r_soBy_v f (Int32.ofNat k))), l)) rfl rfl (fl_bo rfl) rfl ?_
        refine fl_Tq.stp (pc' := 169) (lv' := [some (.inr (.inr (.inl (76, 277)))), some (.inl z), some (.inl a0), some (.inl (Int32.ofNat k))]) (st' := [.inr (.inr (.inl (76, 277))), .inl ((23 : Int32) + (Int32.ofNat k)), .inr (.inr (.inl (79, 280)))]) (m' := (fl_row f 280 (upd (f 280) (311 + k) (r_soBy_v f (Int32.ofNat k))), l)) rfl rfl (fl_bo rfl) rfl ?_
        refine fl_Tq.stp (pc' := 172) (lv' := [some (.inr (.inr (.inl (76, 277)))), some (.inl z), some (.inl a0), some (.inl (Int32.ofNat k))]) (st' := [.inr (.inr (.inl (79, 280))), .inl ((23 : Int32) + (Int32.ofNat k)), .inr (.inr (.inl (79, 280)))]) (m' := (fl_row f 280 (upd (f 280) (311 + k) (r_soBy_v f (Int32.ofNat k))), l)) rfl rfl (fl_bo rfl) rfl ?_
        refine fl_Tq.cB (c := (7 : Int32)) rfl (by decide +kernel) (fl_bo rfl) ?_
        refine fl_Tq.ldV (p := 280) (τ := 79) (n := 29780) (z := (0, 0, 0)) (k := 7) (v := f 280 7) rfl (fl_bo rfl) rfl (by decide +kernel) (by decide) (by simp only [fl_row_self, upd_ne (by omega : 7 ≠ 311 + k)]) ?_
        refine fl_Tq.svV (p := 280) (τ := 79) (n := 29780) (z := (0, 0, 0)) (k := 23 + k) (m' := (fl_row f 280 (upd (upd (f 280) (311 + k) (r_soBy_v f (Int32.ofNat k))) (23 + k) (f 280 7)), l)) rfl (fl_bo rfl) rfl (t2_ia (by decide +kernel) (at_ofN (by omega)) (by omega)) (by omega) (t2_upr) ?_
        refine fl_Tq.stp (pc' := 177) (lv' := [some (.inr (.inr (.inl (76, 277)))), some (.inl z), some (.inl a0), some (.inl (Int32.ofNat k))]) (st' := [.inr (.inr (.inl (76, 277)))]) (m' := (fl_row f 280 (upd (upd (f 280) (311 + k) (r_soBy_v f (Int32.ofNat k))) (23 + k) (f 280 7)), l)) rfl rfl (fl_bo rfl) rfl ?_
        refine fl_Tq.stp (pc' := 180) (lv' := [some (.inr (.inr (.inl (76, 277)))), some (.inl z), some (.inl a0), some (.inl (Int32.ofNat k))]) (st' := [.inr (.inr (.inl (79, 280)))]) (m' := (fl_row f 280 (upd (upd (f 280) (311 + k) (r_soBy_v f (Int32.ofNat k))) (23 + k) (f 280 7)), l)) rfl rfl (fl_bo rfl) rfl ?_
        refine fl_Tq.cB (c := (6 : Int32)) rfl (by decide +kernel) (fl_bo rfl) ?_
        refine fl_Tq.ldV (p := 280) (τ := 79) (n := 29780) (z := (0, 0, 0)) (k := 6) (v := f 280 6) rfl (fl_bo rfl) rfl (by decide +kernel) (by decide) (by simp only [fl_row_self, upd_ne (by omega : 6 ≠ 23 + k), upd_ne (by omega : 6 ≠ 311 + k)]) ?_
        refine fl_Tq.stp (pc' := 184) (lv' := [some (.inr (.inr (.inl (76, 277)))), some (.inl z), some (.inl a0), some (.inl (Int32.ofNat k))]) (st' := [.inl (Int32.ofNat k), .inl (f 280 6)]) (m' := (fl_row f 280 (upd (upd (f 280) (311 + k) (r_soBy_v f (Int32.ofNat k))) (23 + k) (f 280 7)), l)) rfl rfl (fl_bo rfl) rfl ?_
        refine fl_Tq.cal rfl rfl (fl_bo rfl) rfl ?_
        refine r_has_q  ?_
        show fl_Tq _ 230 187 [some (.inr (.inr (.inl (76, 277)))), some (.inl z), some (.inl a0), some (.inl (Int32.ofNat k))] [.inl (r_has_v (f 280 6) (Int32.ofNat k))] (fl_row f 280 (upd (upd (f 280) (311 + k) (r_soBy_v f (Int32.ofNat k))) (23 + k) (f 280 7)), l) _
        by_cases h6 : (r_has_v (f 280 6) (Int32.ofNat k)).toInt = 0
        · refine fl_Tq.zt rfl (fl_bo rfl) (c1_eq_t h6) rfl ?_
          refine fl_Tq.stp (pc' := 194) (lv' := [some (.inr (.inr (.inl (76, 277)))), some (.inl z), some (.inl a0), some (.inl (Int32.ofNat k))]) (st' := [.inr (.inr (.inl (76, 277)))]) (m' := (fl_row f 280 (upd (upd (f 280) (311 + k) (r_soBy_v f (Int32.ofNat k))) (23 + k) (f 280 7)), l)) rfl rfl (fl_bo rfl) rfl ?_
          refine fl_Tq.stp (pc' := 197) (lv' := [some (.inr (.inr (.inl (76, 277)))), some (.inl z), some (.inl a0), some (.inl (Int32.ofNat k))]) (st' := [.inr (.inr (.inl (79, 280)))]) (m' := (fl_row f 280 (upd (upd (f 280) (311 + k) (r_soBy_v f (Int32.ofNat k))) (23 + k) (f 280 7)), l)) rfl rfl (fl_bo rfl) rfl ?_
          refine fl_Tq.cB (c := (6 : Int32)) rfl (by decide +kernel) (fl_bo rfl) ?_
          refine fl_Tq.stp (pc' := 200) (lv' := [some (.inr (.inr (.inl (76, 277)))), some (.inl z), some (.inl a0), some (.inl (Int32.ofNat k))]) (st' := [.inl (6 : Int32), .inr (.inr (.inl (79, 280))), .inl (6 : Int32), .inr (.inr (.inl (79, 280)))]) (m' := (fl_row f 280 (upd (upd (f 280) (311 + k) (r_soBy_v f (Int32.ofNat k))) (23 + k) (f 280 7)), l)) rfl rfl (fl_bo rfl) rfl ?_
          refine fl_Tq.ldV (p := 280) (τ := 79) (n := 29780) (z := (0, 0, 0)) (k := 6) (v := f 280 6) rfl (fl_bo rfl) rfl (by decide +kernel) (by decide) (by simp only [fl_row_self, upd_ne (by omega : 6 ≠ 23 + k), upd_ne (by omega : 6 ≠ 311 + k)]) ?_
          refine fl_Tq.cI (c := (1 : Int32)) rfl (by decide +kernel) (fl_bo rfl) ?_
          refine fl_Tq.stp (pc' := 203) (lv' := [some (.inr (.inr (.inl (76, 277)))), some (.inl z), some (.inl a0), some (.inl (Int32.ofNat k))]) (st' := [.inl (Int32.ofNat k), .inl (1 : Int32), .inl (f 280 6), .inl (6 : Int32), .inr (.inr (.inl (79, 280)))]) (m' := (fl_row f 280 (upd (upd (f 280) (311 + k) (r_soBy_v f (Int32.ofNat k))) (23 + k) (f 280 7)), l)) rfl rfl (fl_bo rfl) rfl ?_
          refine fl_Tq.stp (pc' := 204) (lv' := [some (.inr (.inr (.inl (76, 277)))), some (.inl z), some (.inl a0), some (.inl (Int32.ofNat k))]) (st' := [.inl ((1 : Int32) <<< ((Int32.ofNat k) &&& 31)), .inl (f 280 6), .inl (6 : Int32), .inr (.inr (.inl (79, 280)))]) (m' := (fl_row f 280 (upd (upd (f 280) (311 + k) (r_soBy_v f (Int32.ofNat k))) (23 + k) (f 280 7)), l)) rfl rfl (fl_bo rfl) rfl ?_
          refine fl_Tq.stp (pc' := 205) (lv' := [some (.inr (.inr (.inl (76, 277)))), some (.inl z), some (.inl a0), some (.inl (Int32.ofNat k))]) (st' := [.inl ((f 280 6) ||| ((1 : Int32) <<< ((Int32.ofNat k) &&& 31))), .inl (6 : Int32), .inr (.inr (.inl (79, 280)))]) (m' := (fl_row f 280 (upd (upd (f 280) (311 + k) (r_soBy_v f (Int32.ofNat k))) (23 + k) (f 280 7)), l)) rfl rfl (fl_bo rfl) rfl ?_
          refine fl_Tq.svV (p := 280) (τ := 79) (n := 29780) (z := (0, 0, 0)) (k := 6) (m' := (fl_row f 280 (upd (upd (upd (f 280) (311 + k) (r_soBy_v f (Int32.ofNat k))) (23 + k) (f 280 7)) 6 ((f 280 6) ||| ((1 : Int32) <<< ((Int32.ofNat k) &&& 31)))), l)) rfl (fl_bo rfl) rfl (by decide +kernel) (by decide) (t2_upr) ?_
          refine fl_Tq.stp (pc' := 207) (lv' := [some (.inr (.inr (.inl (76, 277)))), some (.inl z), some (.inl a0), some (.inl (Int32.ofNat k))]) (st' := [.inr (.inr (.inl (76, 277)))]) (m' := (fl_row f 280 (upd (upd (upd (f 280) (311 + k) (r_soBy_v f (Int32.ofNat k))) (23 + k) (f 280 7)) 6 ((f 280 6) ||| ((1 : Int32) <<< ((Int32.ofNat k) &&& 31)))), l)) rfl rfl (fl_bo rfl) rfl ?_
          refine fl_Tq.stp (pc' := 208) (lv' := [some (.inr (.inr (.inl (76, 277)))), some (.inl z), some (.inl a0), some (.inl (Int32.ofNat k))]) (st' := [.inl (Int32.ofNat k), .inr (.inr (.inl (76, 277)))]) (m' := (fl_row f 280 (upd (upd (upd (f 280) (311 + k) (r_soBy_v f (Int32.ofNat k))) (23 + k) (f 280 7)) 6 ((f 280 6) ||| ((1 : Int32) <<< ((Int32.ofNat k) &&& 31)))), l)) rfl rfl (fl_bo rfl) rfl ?_
          refine fl_Tq.cal rfl rfl (fl_bo rfl) rfl ?_
          refine r_writeDown_q (by simp only [fl_row_self, upd_ne (by decide : 20 ≠ 6), upd_ne (by omega : 20 ≠ 23 + k), upd_ne (by omega : 20 ≠ 311 + k)]; exact hb) ?_
          show fl_Tq _ 230 211 [some (.inr (.inr (.inl (76, 277)))), some (.inl z), some (.inl a0), some (.inl (Int32.ofNat k))] [] (r_writeDown_m (fl_row f 280 (upd (upd (upd (f 280) (311 + k) (r_soBy_v f (Int32.ofNat k))) (23 + k) (f 280 7)) 6 ((f 280 6) ||| ((1 : Int32) <<< ((Int32.ofNat k) &&& 31))))) (Int32.ofNat k), l) _
          refine fl_Tq.stp (pc' := 214) (lv' := [some (.inr (.inr (.inl (76, 277)))), some (.inl z), some (.inl (a0 + (1 : Int32))), some (.inl (Int32.ofNat k))]) (st' := []) (m' := (r_writeDown_m (fl_row f 280 (upd (upd (upd (f 280) (311 + k) (r_soBy_v f (Int32.ofNat k))) (23 + k) (f 280 7)) 6 ((f 280 6) ||| ((1 : Int32) <<< ((Int32.ofNat k) &&& 31))))) (Int32.ofNat k), l)) rfl rfl (fl_bo rfl) rfl ?_
          have e0 : (r_goFaults_b123_j134_0 f z a0 k) = a0 + (1 : Int32) := by simp only [r_goFaults_b123_j134_0, if_neg h4, if_pos h5, if_pos h6]
          have e1 : (if (r_has_v z (Int32.ofNat k)).toInt = 0 then f else (if (Int32.ofNat k).toInt < (4 : Int32).toInt then (if (r_has_v (f 280 6) (Int32.ofNat k)).toInt = 0 then r_writeDown_m (fl_row f 280 (upd (upd (upd (f 280) (311 + k) (r_soBy_v f (Int32.ofNat k))) (23 + k) (f 280 7)) 6 ((f 280 6) ||| ((1 : Int32) <<< ((Int32.ofNat k) &&& 31))))) (Int32.ofNat k) else fl_row f 280 (upd (upd (f 280) (311 + k) (r_soBy_v f (Int32.ofNat k))) (23 + k) (f 280 7))) else (if (r_has_v (f 280 6) (Int32.ofNat k)).toInt = 0 then r_writeDown_m (fl_row f 280 (upd (upd (f 280) (23 + k) (f 280 7)) 6 ((f 280 6) ||| ((1 : Int32) <<< ((Int32.ofNat k) &&& 31))))) (Int32.ofNat k) else fl_row f 280 (upd (f 280) (23 + k) (f 280 7))))) = r_writeDown_m (fl_row f 280 (upd (upd (upd (f 280) (311 + k) (r_soBy_v f (Int32.ofNat k))) (23 + k) (f 280 7)) 6 ((f 280 6) ||| ((1 : Int32) <<< ((Int32.ofNat k) &&& 31))))) (Int32.ofNat k) := by simp only [if_neg h4, if_pos h5, if_pos h6]
          rw [e0, e1] at hJ
          exact hJ
        · refine fl_Tq.zf rfl (fl_bo rfl) (c1_eq_f h6) rfl ?_
          refine fl_Tq.stp (pc' := 214) (lv' := [some (.inr (.inr (.inl (76, 277)))), some (.inl z), some (.inl a0), some (.inl (Int32.ofNat k))]) (st' := []) (m' := (fl_row f 280 (upd (upd (f 280) (311 + k) (r_soBy_v f (Int32.ofNat k))) (23 + k) (f 280 7)), l)) rfl rfl (fl_bo rfl) rfl ?_
          have e0 : (r_goFaults_b123_j134_0 f z a0 k) = a0 := by simp only [r_goFaults_b123_j134_0, if_neg h4, if_pos h5, if_neg h6]
          have e1 : (if (r_has_v z (Int32.ofNat k)).toInt = 0 then f else (if (Int32.ofNat k).toInt < (4 : Int32).toInt then (if (r_has_v (f 280 6) (Int32.ofNat k)).toInt = 0 then r_writeDown_m (fl_row f 280 (upd (upd (upd (f 280) (311 + k) (r_soBy_v f (Int32.ofNat k))) (23 + k) (f 280 7)) 6 ((f 280 6) ||| ((1 : Int32) <<< ((Int32.ofNat k) &&& 31))))) (Int32.ofNat k) else fl_row f 280 (upd (upd (f 280) (311 + k) (r_soBy_v f (Int32.ofNat k))) (23 + k) (f 280 7))) else (if (r_has_v (f 280 6) (Int32.ofNat k)).toInt = 0 then r_writeDown_m (fl_row f 280 (upd (upd (f 280) (23 + k) (f 280 7)) 6 ((f 280 6) ||| ((1 : Int32) <<< ((Int32.ofNat k) &&& 31))))) (Int32.ofNat k) else fl_row f 280 (upd (f 280) (23 + k) (f 280 7))))) = fl_row f 280 (upd (upd (f 280) (311 + k) (r_soBy_v f (Int32.ofNat k))) (23 + k) (f 280 7)) := by simp only [if_neg h4, if_pos h5, if_neg h6]
          rw [e0, e1] at hJ
          exact hJ
      · refine fl_Tq.jt rfl (fl_bo rfl) (c2_ge_t h5) rfl ?_
        refine fl_Tq.stp (pc' := 161) (lv' := [some (.inr (.inr (.inl (76, 277)))), some (.inl z), some (.inl a0), some (.inl (Int32.ofNat k))]) (st' := [.inr (.inr (.inl (76, 277)))]) (m' := (f, l)) rfl rfl (fl_bo rfl) rfl ?_
        refine fl_Tq.stp (pc' := 164) (lv' := [some (.inr (.inr (.inl (76, 277)))), some (.inl z), some (.inl a0), some (.inl (Int32.ofNat k))]) (st' := [.inr (.inr (.inl (79, 280)))]) (m' := (f, l)) rfl rfl (fl_bo rfl) rfl ?_
        refine fl_Tq.cB (c := (23 : Int32)) rfl (by decide +kernel) (fl_bo rfl) ?_
        refine fl_Tq.stp (pc' := 167) (lv' := [some (.inr (.inr (.inl (76, 277)))), some (.inl z), some (.inl a0), some (.inl (Int32.ofNat k))]) (st' := [.inl (Int32.ofNat k), .inl (23 : Int32), .inr (.inr (.inl (79, 280)))]) (m' := (f, l)) rfl rfl (fl_bo rfl) rfl ?_
        refine fl_Tq.stp (pc' := 168) (lv' := [some (.inr (.inr (.inl (76, 277)))), some (.inl z), some (.inl a0), some (.inl (Int32.ofNat k))]) (st' := [.inl ((23 : Int32) + (Int32.ofNat k)), .inr (.inr (.inl (79, 280)))]) (m' := (f, l)) rfl rfl (fl_bo rfl) rfl ?_
        refine fl_Tq.stp (pc' := 169) (lv' := [some (.inr (.inr (.inl (76, 277)))), some (.inl z), some (.inl a0), some (.inl (Int32.ofNat k))]) (st' := [.inr (.inr (.inl (76, 277))), .inl ((23 : Int32) + (Int32.ofNat k)), .inr (.inr (.inl (79, 280)))]) (m' := (f, l)) rfl rfl (fl_bo rfl) rfl ?_
        refine fl_Tq.stp (pc' := 172) (lv' := [some (.inr (.inr (.inl (76, 277)))), some (.inl z), some (.inl a0), some (.inl (Int32.ofNat k))]) (st' := [.inr (.inr (.inl (79, 280))), .inl ((23 : Int32) + (Int32.ofNat k)), .inr (.inr (.inl (79, 280)))]) (m' := (f, l)) rfl rfl (fl_bo rfl) rfl ?_
        refine fl_Tq.cB (c := (7 : Int32)) rfl (by decide +kernel) (fl_bo rfl) ?_
        refine fl_Tq.ldV (p := 280) (τ := 79) (n := 29780) (z := (0, 0, 0)) (k := 7) (v := f 280 7) rfl (fl_bo rfl) rfl (by decide +kernel) (by decide) rfl ?_
        refine fl_Tq.svV (p := 280) (τ := 79) (n := 29780) (z := (0, 0, 0)) (k := 23 + k) (m' := (fl_row f 280 (upd (f 280) (23 + k) (f 280 7)), l)) rfl (fl_bo rfl) rfl (t2_ia (by decide +kernel) (at_ofN (by omega)) (by omega)) (by omega) (t2_upn rfl) ?_
        refine fl_Tq.stp (pc' := 177) (lv' := [some (.inr (.inr (.inl (76, 277)))), some (.inl z), some (.inl a0), some (.inl (Int32.ofNat k))]) (st' := [.inr (.inr (.inl (76, 277)))]) (m' := (fl_row f 280 (upd (f 280) (23 + k) (f 280 7)), l)) rfl rfl (fl_bo rfl) rfl ?_
        refine fl_Tq.stp (pc' := 180) (lv' := [some (.inr (.inr (.inl (76, 277)))), some (.inl z), some (.inl a0), some (.inl (Int32.ofNat k))]) (st' := [.inr (.inr (.inl (79, 280)))]) (m' := (fl_row f 280 (upd (f 280) (23 + k) (f 280 7)), l)) rfl rfl (fl_bo rfl) rfl ?_
        refine fl_Tq.cB (c := (6 : Int32)) rfl (by decide +kernel) (fl_bo rfl) ?_
        refine fl_Tq.ldV (p := 280) (τ := 79) (n := 29780) (z := (0, 0, 0)) (k := 6) (v := f 280 6) rfl (fl_bo rfl) rfl (by decide +kernel) (by decide) (by simp only [fl_row_self, upd_ne (by omega : 6 ≠ 23 + k)]) ?_
        refine fl_Tq.stp (pc' := 184) (lv' := [some (.inr (.inr (.inl (76, 277)))), some (.inl z), some (.inl a0), some (.inl (Int32.ofNat k))]) (st' := [.inl (Int32.ofNat k), .inl (f 280 6)]) (m' := (fl_row f 280 (upd (f 280) (23 + k) (f 280 7)), l)) rfl rfl (fl_bo rfl) rfl ?_
        refine fl_Tq.cal rfl rfl (fl_bo rfl) rfl ?_
        refine r_has_q  ?_
        show fl_Tq _ 230 187 [some (.inr (.inr (.inl (76, 277)))), some (.inl z), some (.inl a0), some (.inl (Int32.ofNat k))] [.inl (r_has_v (f 280 6) (Int32.ofNat k))] (fl_row f 280 (upd (f 280) (23 + k) (f 280 7)), l) _
        by_cases h7 : (r_has_v (f 280 6) (Int32.ofNat k)).toInt = 0
        · refine fl_Tq.zt rfl (fl_bo rfl) (c1_eq_t h7) rfl ?_
          refine fl_Tq.stp (pc' := 194) (lv' := [some (.inr (.inr (.inl (76, 277)))), some (.inl z), some (.inl a0), some (.inl (Int32.ofNat k))]) (st' := [.inr (.inr (.inl (76, 277)))]) (m' := (fl_row f 280 (upd (f 280) (23 + k) (f 280 7)), l)) rfl rfl (fl_bo rfl) rfl ?_
          refine fl_Tq.stp (pc' := 197) (lv' := [some (.inr (.inr (.inl (76, 277)))), some (.inl z), some (.inl a0), some (.inl (Int32.ofNat k))]) (st' := [.inr (.inr (.inl (79, 280)))]) (m' := (fl_row f 280 (upd (f 280) (23 + k) (f 280 7)), l)) rfl rfl (fl_bo rfl) rfl ?_
          refine fl_Tq.cB (c := (6 : Int32)) rfl (by decide +kernel) (fl_bo rfl) ?_
          refine fl_Tq.stp (pc' := 200) (lv' := [some (.inr (.inr (.inl (76, 277)))), some (.inl z), some (.inl a0), some (.inl (Int32.ofNat k))]) (st' := [.inl (6 : Int32), .inr (.inr (.inl (79, 280))), .inl (6 : Int32), .inr (.inr (.inl (79, 280)))]) (m' := (fl_row f 280 (upd (f 280) (23 + k) (f 280 7)), l)) rfl rfl (fl_bo rfl) rfl ?_
          refine fl_Tq.ldV (p := 280) (τ := 79) (n := 29780) (z := (0, 0, 0)) (k := 6) (v := f 280 6) rfl (fl_bo rfl) rfl (by decide +kernel) (by decide) (by simp only [fl_row_self, upd_ne (by omega : 6 ≠ 23 + k)]) ?_
          refine fl_Tq.cI (c := (1 : Int32)) rfl (by decide +kernel) (fl_bo rfl) ?_
          refine fl_Tq.stp (pc' := 203) (lv' := [some (.inr (.inr (.inl (76, 277)))), some (.inl z), some (.inl a0), some (.inl (Int32.ofNat k))]) (st' := [.inl (Int32.ofNat k), .inl (1 : Int32), .inl (f 280 6), .inl (6 : Int32), .inr (.inr (.inl (79, 280)))]) (m' := (fl_row f 280 (upd (f 280) (23 + k) (f 280 7)), l)) rfl rfl (fl_bo rfl) rfl ?_
          refine fl_Tq.stp (pc' := 204) (lv' := [some (.inr (.inr (.inl (76, 277)))), some (.inl z), some (.inl a0), some (.inl (Int32.ofNat k))]) (st' := [.inl ((1 : Int32) <<< ((Int32.ofNat k) &&& 31)), .inl (f 280 6), .inl (6 : Int32), .inr (.inr (.inl (79, 280)))]) (m' := (fl_row f 280 (upd (f 280) (23 + k) (f 280 7)), l)) rfl rfl (fl_bo rfl) rfl ?_
          refine fl_Tq.stp (pc' := 205) (lv' := [some (.inr (.inr (.inl (76, 277)))), some (.inl z), some (.inl a0), some (.inl (Int32.ofNat k))]) (st' := [.inl ((f 280 6) ||| ((1 : Int32) <<< ((Int32.ofNat k) &&& 31))), .inl (6 : Int32), .inr (.inr (.inl (79, 280)))]) (m' := (fl_row f 280 (upd (f 280) (23 + k) (f 280 7)), l)) rfl rfl (fl_bo rfl) rfl ?_
          refine fl_Tq.svV (p := 280) (τ := 79) (n := 29780) (z := (0, 0, 0)) (k := 6) (m' := (fl_row f 280 (upd (upd (f 280) (23 + k) (f 280 7)) 6 ((f 280 6) ||| ((1 : Int32) <<< ((Int32.ofNat k) &&& 31)))), l)) rfl (fl_bo rfl) rfl (by decide +kernel) (by decide) (t2_upr) ?_
          refine fl_Tq.stp (pc' := 207) (lv' := [some (.inr (.inr (.inl (76, 277)))), some (.inl z), some (.inl a0), some (.inl (Int32.ofNat k))]) (st' := [.inr (.inr (.inl (76, 277)))]) (m' := (fl_row f 280 (upd (upd (f 280) (23 + k) (f 280 7)) 6 ((f 280 6) ||| ((1 : Int32) <<< ((Int32.ofNat k) &&& 31)))), l)) rfl rfl (fl_bo rfl) rfl ?_
          refine fl_Tq.stp (pc' := 208) (lv' := [some (.inr (.inr (.inl (76, 277)))), some (.inl z), some (.inl a0), some (.inl (Int32.ofNat k))]) (st' := [.inl (Int32.ofNat k), .inr (.inr (.inl (76, 277)))]) (m' := (fl_row f 280 (upd (upd (f 280) (23 + k) (f 280 7)) 6 ((f 280 6) ||| ((1 : Int32) <<< ((Int32.ofNat k) &&& 31)))), l)) rfl rfl (fl_bo rfl) rfl ?_
          refine fl_Tq.cal rfl rfl (fl_bo rfl) rfl ?_
          refine r_writeDown_q (by simp only [fl_row_self, upd_ne (by decide : 20 ≠ 6), upd_ne (by omega : 20 ≠ 23 + k)]; exact hb) ?_
          show fl_Tq _ 230 211 [some (.inr (.inr (.inl (76, 277)))), some (.inl z), some (.inl a0), some (.inl (Int32.ofNat k))] [] (r_writeDown_m (fl_row f 280 (upd (upd (f 280) (23 + k) (f 280 7)) 6 ((f 280 6) ||| ((1 : Int32) <<< ((Int32.ofNat k) &&& 31))))) (Int32.ofNat k), l) _
          refine fl_Tq.stp (pc' := 214) (lv' := [some (.inr (.inr (.inl (76, 277)))), some (.inl z), some (.inl (a0 + (1 : Int32))), some (.inl (Int32.ofNat k))]) (st' := []) (m' := (r_writeDown_m (fl_row f 280 (upd (upd (f 280) (23 + k) (f 280 7)) 6 ((f 280 6) ||| ((1 : Int32) <<< ((Int32.ofNat k) &&& 31))))) (Int32.ofNat k), l)) rfl rfl (fl_bo rfl) rfl ?_
          have e0 : (r_goFaults_b123_j134_0 f z a0 k) = a0 + (1 : Int32) := by simp only [r_goFaults_b123_j134_0, if_neg h4, if_neg h5, if_pos h7]
          have e1 : (if (r_has_v z (Int32.ofNat k)).toInt = 0 then f else (if (Int32.ofNat k).toInt < (4 : Int32).toInt then (if (r_has_v (f 280 6) (Int32.ofNat k)).toInt = 0 then r_writeDown_m (fl_row f 280 (upd (upd (upd (f 280) (311 + k) (r_soBy_v f (Int32.ofNat k))) (23 + k) (f 280 7)) 6 ((f 280 6) ||| ((1 : Int32) <<< ((Int32.ofNat k) &&& 31))))) (Int32.ofNat k) else fl_row f 280 (upd (upd (f 280) (311 + k) (r_soBy_v f (Int32.ofNat k))) (23 + k) (f 280 7))) else (if (r_has_v (f 280 6) (Int32.ofNat k)).toInt = 0 then r_writeDown_m (fl_row f 280 (upd (upd (f 280) (23 + k) (f 280 7)) 6 ((f 280 6) ||| ((1 : Int32) <<< ((Int32.ofNat k) &&& 31))))) (Int32.ofNat k) else fl_row f 280 (upd (f 280) (23 + k) (f 280 7))))) = r_writeDown_m (fl_row f 280 (upd (upd (f 280) (23 + k) (f 280 7)) 6 ((f 280 6) ||| ((1 : Int32) <<< ((Int32.ofNat k) &&& 31))))) (Int32.ofNat k) := by simp only [if_neg h4, if_neg h5, if_pos h7]
          rw [e0, e1] at hJ
          exact hJ
        · refine fl_Tq.zf rfl (fl_bo rfl) (c1_eq_f h7) rfl ?_
          refine fl_Tq.stp (pc' := 214) (lv' := [some (.inr (.inr (.inl (76, 277)))), some (.inl z), some (.inl a0), some (.inl (Int32.ofNat k))]) (st' := []) (m' := (fl_row f 280 (upd (f 280) (23 + k) (f 280 7)), l)) rfl rfl (fl_bo rfl) rfl ?_
          have e0 : (r_goFaults_b123_j134_0 f z a0 k) = a0 := by simp only [r_goFaults_b123_j134_0, if_neg h4, if_neg h5, if_neg h7]
          have e1 : (if (r_has_v z (Int32.ofNat k)).toInt = 0 then f else (if (Int32.ofNat k).toInt < (4 : Int32).toInt then (if (r_has_v (f 280 6) (Int32.ofNat k)).toInt = 0 then r_writeDown_m (fl_row f 280 (upd (upd (upd (f 280) (311 + k) (r_soBy_v f (Int32.ofNat k))) (23 + k) (f 280 7)) 6 ((f 280 6) ||| ((1 : Int32) <<< ((Int32.ofNat k) &&& 31))))) (Int32.ofNat k) else fl_row f 280 (upd (upd (f 280) (311 + k) (r_soBy_v f (Int32.ofNat k))) (23 + k) (f 280 7))) else (if (r_has_v (f 280 6) (Int32.ofNat k)).toInt = 0 then r_writeDown_m (fl_row f 280 (upd (upd (f 280) (23 + k) (f 280 7)) 6 ((f 280 6) ||| ((1 : Int32) <<< ((Int32.ofNat k) &&& 31))))) (Int32.ofNat k) else fl_row f 280 (upd (f 280) (23 + k) (f 280 7))))) = fl_row f 280 (upd (f 280) (23 + k) (f 280 7)) := by simp only [if_neg h4, if_neg h5, if_neg h7]
          rw [e0, e1] at hJ
          exact hJ
  refine hj137 ?_
  show fl_Tq _ 230 214 [some (.inr (.inr (.inl (76, 277)))), some (.inl z), some (.inl (r_goFaults_b123_j134_0 f z a0 k)), some (.inl (Int32.ofNat k))] [] (if (r_has_v z (Int32.ofNat k)).toInt = 0 then f else (if (Int32.ofNat k).toInt < (4 : Int32).toInt then (if (r_has_v (f 280 6) (Int32.ofNat k)).toInt = 0 then r_writeDown_m (fl_row f 280 (upd (upd (upd (f 280) (311 + k) (r_soBy_v f (Int32.ofNat k))) (23 + k) (f 280 7)) 6 ((f 280 6) ||| ((1 : Int32) <<< ((Int32.ofNat k) &&& 31))))) (Int32.ofNat k) else fl_row f 280 (upd (upd (f 280) (311 + k) (r_soBy_v f (Int32.ofNat k))) (23 + k) (f 280 7))) else (if (r_has_v (f 280 6) (Int32.ofNat k)).toInt = 0 then r_writeDown_m (fl_row f 280 (upd (upd (f 280) (23 + k) (f 280 7)) 6 ((f 280 6) ||| ((1 : Int32) <<< ((Int32.ofNat k) &&& 31))))) (Int32.ofNat k) else fl_row f 280 (upd (f 280) (23 + k) (f 280 7)))), l) _
  refine fl_Tq.stp (pc' := 217) (lv' := [some (.inr (.inr (.inl (76, 277)))), some (.inl z), some (.inl (r_goFaults_b123_j134_0 f z a0 k)), some (.inl ((Int32.ofNat k) + (1 : Int32)))]) (st' := []) (m' := (if (r_has_v z (Int32.ofNat k)).toInt = 0 then f else (if (Int32.ofNat k).toInt < (4 : Int32).toInt then (if (r_has_v (f 280 6) (Int32.ofNat k)).toInt = 0 then r_writeDown_m (fl_row f 280 (upd (upd (upd (f 280) (311 + k) (r_soBy_v f (Int32.ofNat k))) (23 + k) (f 280 7)) 6 ((f 280 6) ||| ((1 : Int32) <<< ((Int32.ofNat k) &&& 31))))) (Int32.ofNat k) else fl_row f 280 (upd (upd (f 280) (311 + k) (r_soBy_v f (Int32.ofNat k))) (23 + k) (f 280 7))) else (if (r_has_v (f 280 6) (Int32.ofNat k)).toInt = 0 then r_writeDown_m (fl_row f 280 (upd (upd (f 280) (23 + k) (f 280 7)) 6 ((f 280 6) ||| ((1 : Int32) <<< ((Int32.ofNat k) &&& 31))))) (Int32.ofNat k) else fl_row f 280 (upd (f 280) (23 + k) (f 280 7)))), l)) rfl rfl (fl_bo rfl) rfl ?_
  refine fl_Tq.stp (pc' := 123) (lv' := [some (.inr (.inr (.inl (76, 277)))), some (.inl z), some (.inl (r_goFaults_b123_j134_0 f z a0 k)), some (.inl ((Int32.ofNat k) + (1 : Int32)))]) (st' := []) (m' := (if (r_has_v z (Int32.ofNat k)).toInt = 0 then f else (if (Int32.ofNat k).toInt < (4 : Int32).toInt then (if (r_has_v (f 280 6) (Int32.ofNat k)).toInt = 0 then r_writeDown_m (fl_row f 280 (upd (upd (upd (f 280) (311 + k) (r_soBy_v f (Int32.ofNat k))) (23 + k) (f 280 7)) 6 ((f 280 6) ||| ((1 : Int32) <<< ((Int32.ofNat k) &&& 31))))) (Int32.ofNat k) else fl_row f 280 (upd (upd (f 280) (311 + k) (r_soBy_v f (Int32.ofNat k))) (23 + k) (f 280 7))) else (if (r_has_v (f 280 6) (Int32.ofNat k)).toInt = 0 then r_writeDown_m (fl_row f 280 (upd (upd (f 280) (23 + k) (f 280 7)) 6 ((f 280 6) ||| ((1 : Int32) <<< ((Int32.ofNat k) &&& 31))))) (Int32.ofNat k) else fl_row f 280 (upd (f 280) (23 + k) (f 280 7)))), l)) rfl rfl (fl_bo rfl) rfl ?_
  have em : r_goFaults_b123_m f z a0 k = if (r_has_v z (Int32.ofNat k)).toInt = 0 then f else (if (Int32.ofNat k).toInt < (4 : Int32).toInt then (if (r_has_v (f 280 6) (Int32.ofNat k)).toInt = 0 then r_writeDown_m (fl_row f 280 (upd (upd (upd (f 280) (311 + k) (r_soBy_v f (Int32.ofNat k))) (23 + k) (f 280 7)) 6 ((f 280 6) ||| ((1 : Int32) <<< ((Int32.ofNat k) &&& 31))))) (Int32.ofNat k) else fl_row f 280 (upd (upd (f 280) (311 + k) (r_soBy_v f (Int32.ofNat k))) (23 + k) (f 280 7))) else (if (r_has_v (f 280 6) (Int32.ofNat k)).toInt = 0 then r_writeDown_m (fl_row f 280 (upd (upd (f 280) (23 + k) (f 280 7)) 6 ((f 280 6) ||| ((1 : Int32) <<< ((Int32.ofNat k) &&& 31))))) (Int32.ofNat k) else fl_row f 280 (upd (f 280) (23 + k) (f 280 7)))) := rfl
  have ea : r_goFaults_b123_v f z a0 k = r_goFaults_b123_j134_0 f z a0 k := rfl
  rw [ea, em, ← t2_k1] at hS
  exact hS
noncomputable def r_goFaults_l123 (f : t2_F)  : Nat → t2_F × Int32
  | 0 => (fl_row f 280 (upd (upd (upd (f 280) 15 (r_goFaults_j18_0 f)) 16 (r_goFaults_j53_0 f)) 22 ((f 280 22) + (1 : Int32))), (0 : Int32))
  | k + 1 => (r_goFaults_b123_m (r_goFaults_l123 f k).1 (r_goFaults_a91 f 11) (r_goFaults_l123 f k).2 k, r_goFaults_b123_v (r_goFaults_l123 f k).1 (r_goFaults_a91 f 11) (r_goFaults_l123 f k).2 k)
noncomputable def r_goFaults_f123 (f : t2_F)  (k : Nat) : t2_F := (r_goFaults_l123 f k).1
noncomputable def r_goFaults_a123_0 (f : t2_F)  (k : Nat) : Int32 := (r_goFaults_l123 f k).2
theorem r_goFaults_f123_fr {f : t2_F}  {p : Nat} : ∀ {k : Nat}  (e280 : p ≠ 280), r_goFaults_f123 f k p = (fl_row f 280 (upd (upd (upd (f 280) 15 (r_goFaults_j18_0 f)) 16 (r_goFaults_j53_0 f)) 22 ((f 280 22) + (1 : Int32)))) p := by
  intro k
  induction k with
  | zero => intros; rfl
  | succ k ih =>
    intro  e280
    exact (r_goFaults_b123_fr (a0 := (r_goFaults_l123 f k).2) (z := r_goFaults_a91 f 11) (k := k)  e280).trans (ih  e280)
theorem r_goFaults_b123_hb {f : t2_F} {z a0 : Int32} {k : Nat} (hb : 0 ≤ (f 280 20).toInt ∧ (f 280 20).toInt ≤ 24) : 0 ≤ ((r_goFaults_b123_m f z a0 k) 280 20).toInt ∧ ((r_goFaults_b123_m f z a0 k) 280 20).toInt ≤ 24 := by
  have k6 : 20 ≠ 6 := by decide
  have k20 : 20 ≠ 23 + k := by omega
  have k311 : 20 ≠ 311 + k := by omega
  unfold r_goFaults_b123_m
  split
  · exact hb
  · split
    · split
      · refine r_writeDown_hb ?_
        rw [fl_row_self, upd_ne k6, upd_ne k20, upd_ne k311]
        exact hb
      · rw [fl_row_self, upd_ne k20, upd_ne k311]
        exact hb
    · split
      · refine r_writeDown_hb ?_
        rw [fl_row_self, upd_ne k6, upd_ne k20]
        exact hb
      · rw [fl_row_self, upd_ne k20]
        exact hb
theorem r_goFaults_ib {f : t2_F} (hb : 0 ≤ (f 280 20).toInt ∧ (f 280 20).toInt ≤ 24) : ∀ k : Nat, 0 ≤ ((r_goFaults_f123 f k) 280 20).toInt ∧ ((r_goFaults_f123 f k) 280 20).toInt ≤ 24 := by
  intro k
  induction k with
  | zero =>
    have e : r_goFaults_f123 f 0 280 20 = f 280 20 := by
      unfold r_goFaults_f123 r_goFaults_l123
      simp only [fl_row_self, upd_ne (by decide : 20 ≠ 15), upd_ne (by decide : 20 ≠ 16), upd_ne (by decide : 20 ≠ 22)]
    rw [e]
    exact hb
  | succ k ih => exact r_goFaults_b123_hb (a0 := (r_goFaults_l123 f k).2) ih
theorem r_goFaults_f123_w {f : t2_F} {w : Nat} (hb : 0 ≤ (f 280 20).toInt ∧ (f 280 20).toInt ≤ 24) : ∀ {k : Nat} (hkb : k ≤ 11) (hw : w ≠ 6 ∧ w ≠ 20 ∧ (w < 23 ∨ 34 ≤ w) ∧ (w < 167 ∨ 217 ≤ w) ∧ (w < 311 ∨ 315 ≤ w) ∧ w ≠ 15 ∧ w ≠ 16 ∧ w ≠ 22), r_goFaults_f123 f k 280 w = f 280 w := by
  intro k
  induction k with
  | zero =>
    intro hkb hw
    unfold r_goFaults_f123 r_goFaults_l123
    simp only [fl_row_self, upd_ne (show w ≠ 15 by omega), upd_ne (show w ≠ 16 by omega), upd_ne (show w ≠ 22 by omega)]
  | succ k ih =>
    intro hkb hw
    exact (r_goFaults_b123_w (a0 := (r_goFaults_l123 f k).2) (by omega) (r_goFaults_ib hb k) (by omega)).trans (ih (by omega) hw)
noncomputable def r_goFaults_j227_0 (f : t2_F)  : Int32 := if ((r_goFaults_f123 f 11) 280 6).toInt = 0 then (r_goFaults_f123 f 11) 280 3 else (0 : Int32)
noncomputable def r_goFaults_v (f : t2_F) : Int32 := r_goFaults_a123_0 f 11
noncomputable def r_goFaults_m (f : t2_F) : t2_F := fl_row (r_goFaults_f123 f 11) 280 (upd ((r_goFaults_f123 f 11) 280) 3 (r_goFaults_j227_0 f))
theorem r_goFaults_fr {f : t2_F}  {p : Nat}  (e280 : p ≠ 280) : r_goFaults_m f p = f p := by
  unfold r_goFaults_m
  repeat' split
  all_goals first | rfl | simp only [fl_row_ne e280, r_goFaults_f123_fr (k := 11) e280]
theorem r_goFaults_w {f : t2_F}  {w : Nat} (hb : 0 ≤ (f 280 20).toInt ∧ (f 280 20).toInt ≤ 24) (hw : w ≠ 6 ∧ w ≠ 20 ∧ (w < 23 ∨ 34 ≤ w) ∧ (w < 167 ∨ 217 ≤ w) ∧ (w < 311 ∨ 315 ≤ w) ∧ w ≠ 3 ∧ w ≠ 15 ∧ w ≠ 16 ∧ w ≠ 22) : r_goFaults_m f 280 w = f 280 w := by
  unfold r_goFaults_m
  repeat' split
  all_goals first | rfl | simp only [fl_row_self, upd_ne (show w ≠ 3 by omega), upd_ne (show w ≠ 15 by omega), upd_ne (show w ≠ 16 by omega), upd_ne (show w ≠ 22 by omega), r_goFaults_f123_w (f := f) (k := 11) (w := w) hb (by omega) (by omega)]
theorem r_goFaults_q {L : Nat} {xs : Nat → Int32} {f : t2_F} {l : t2_L} {Q : Option fl_V → fl_M → Prop}  (hn : 0 ≤ (f 280 2).toInt ∧ (f 280 2).toInt ≤ 16) (hr : t2_RS f) (hk : ∀ C : Nat, (C : Int) < (f 280 2).toInt → t2_ck f C) (hs : f 277 4 = 0 ∨ f 277 4 = 1) (hb : 0 ≤ (f 280 20).toInt ∧ (f 280 20).toInt ≤ 24) (k : Q (some (.inl (r_goFaults_v f))) (r_goFaults_m f, l)) : fl_Tq (pw_P L xs) 230 0 (fl_args (am_mxl (pw_P L xs) 230) [.inr (.inr (.inl (76, 277)))]) [] (f, l) Q := by
  refine fl_Tq.stp (pc' := 1) (lv' := [some (.inr (.inr (.inl (76, 277)))), none, none, none]) (st' := [.inr (.inr (.inl (76, 277)))]) (m' := (f, l)) rfl rfl (fl_bo rfl) rfl ?_
  refine fl_Tq.stp (pc' := 4) (lv' := [some (.inr (.inr (.inl (76, 277)))), none, none, none]) (st' := [.inr (.inr (.inl (79, 280)))]) (m' := (f, l)) rfl rfl (fl_bo rfl) rfl ?_
  refine fl_Tq.cB (c := (15 : Int32)) rfl (by decide +kernel) (fl_bo rfl) ?_
  refine fl_Tq.stp (pc' := 7) (lv' := [some (.inr (.inr (.inl (76, 277)))), none, none, none]) (st' := [.inr (.inr (.inl (76, 277))), .inl (15 : Int32), .inr (.inr (.inl (79, 280)))]) (m' := (f, l)) rfl rfl (fl_bo rfl) rfl ?_
  refine fl_Tq.cB (c := (9 : Int32)) rfl (by decide +kernel) (fl_bo rfl) ?_
  refine fl_Tq.cal rfl rfl (fl_bo rfl) rfl ?_
  refine t2_its (W := 9) (v := f 280 43) (by decide +kernel) (by decide) rfl ?_
  show fl_Tq _ 230 12 [some (.inr (.inr (.inl (76, 277)))), none, none, none] [.inl (f 280 43), .inl (15 : Int32), .inr (.inr (.inl (79, 280)))] (f, l) _
  refine fl_Tq.stp (pc' := 13) (lv' := [some (.inr (.inr (.inl (76, 277)))), none, none, none]) (st' := [.inr (.inr (.inl (76, 277))), .inl (f 280 43), .inl (15 : Int32), .inr (.inr (.inl (79, 280)))]) (m' := (f, l)) rfl rfl (fl_bo rfl) rfl ?_
  refine fl_Tq.cB (c := (10 : Int32)) rfl (by decide +kernel) (fl_bo rfl) ?_
  refine fl_Tq.cal rfl rfl (fl_bo rfl) rfl ?_
  refine t2_its (W := 10) (v := f 280 44) (by decide +kernel) (by decide) rfl ?_
  show fl_Tq _ 230 18 [some (.inr (.inr (.inl (76, 277)))), none, none, none] [.inl (f 280 44), .inl (f 280 43), .inl (15 : Int32), .inr (.inr (.inl (79, 280)))] (f, l) _
  have hj134 : fl_Tq (pw_P L xs) 230 38 [some (.inr (.inr (.inl (76, 277)))), none, none, none] [.inl (r_goFaults_j18_0 f), .inl (15 : Int32), .inr (.inr (.inl (79, 280)))] (f, l) Q → fl_Tq (pw_P L xs) 230 18 [some (.inr (.inr (.inl (76, 277)))), none, none, none] [.inl (f 280 44), .inl (f 280 43), .inl (15 : Int32), .inr (.inr (.inl (79, 280)))] (f, l) Q := by
    intro hJ
    by_cases h1 : (f 280 43).toInt < (f 280 44).toInt
    · refine fl_Tq.jf rfl (fl_bo rfl) (c2_ge_f h1) rfl ?_
      refine fl_Tq.stp (pc' := 22) (lv' := [some (.inr (.inr (.inl (76, 277)))), none, none, none]) (st' := [.inr (.inr (.inl (76, 277))), .inl (15 : Int32), .inr (.inr (.inl (79, 280)))]) (m' := (f, l)) rfl rfl (fl_bo rfl) rfl ?_
      refine fl_Tq.stp (pc' := 25) (lv' := [some (.inr (.inr (.inl (76, 277)))), none, none, none]) (st' := [.inr (.inr (.inl (79, 280))), .inl (15 : Int32), .inr (.inr (.inl (79, 280)))]) (m' := (f, l)) rfl rfl (fl_bo rfl) rfl ?_
      refine fl_Tq.cB (c := (15 : Int32)) rfl (by decide +kernel) (fl_bo rfl) ?_
      refine fl_Tq.ldV (p := 280) (τ := 79) (n := 29780) (z := (0, 0, 0)) (k := 15) (v := f 280 15) rfl (fl_bo rfl) rfl (by decide +kernel) (by decide) rfl ?_
      refine fl_Tq.cI (c := (1 : Int32)) rfl (by decide +kernel) (fl_bo rfl) ?_
      refine fl_Tq.stp (pc' := 30) (lv' := [some (.inr (.inr (.inl (76, 277)))), none, none, none]) (st' := [.inl ((f 280 15) + (1 : Int32)), .inl (15 : Int32), .inr (.inr (.inl (79, 280)))]) (m' := (f, l)) rfl rfl (fl_bo rfl) rfl ?_
      refine fl_Tq.cI (c := (3 : Int32)) rfl (by decide +kernel) (fl_bo rfl) ?_
      refine fl_Tq.cal rfl rfl (fl_bo rfl) rfl ?_
      refine r_lesser_q  ?_
      show fl_Tq _ 230 34 [some (.inr (.inr (.inl (76, 277)))), none, none, none] [.inl (r_lesser_v ((f 280 15) + (1 : Int32)) (3 : Int32)), .inl (15 : Int32), .inr (.inr (.inl (79, 280)))] (f, l) _
      refine fl_Tq.stp (pc' := 38) (lv' := [some (.inr (.inr (.inl (76, 277)))), none, none, none]) (st' := [.inl (r_lesser_v ((f 280 15) + (1 : Int32)) (3 : Int32)), .inl (15 : Int32), .inr (.inr (.inl (79, 280)))]) (m' := (f, l)) rfl rfl (fl_bo rfl) rfl ?_
      have e0 : (r_goFaults_j18_0 f) = r_lesser_v ((f 280 15) + (1 : Int32)) (3 : Int32) := by simp only [r_goFaults_j18_0, if_pos h1]
      rw [e0] at hJ
      exact hJ
    · refine fl_Tq.jt rfl (fl_bo rfl) (c2_ge_t h1) rfl ?_
      refine fl_Tq.cI (c := (0 : Int32)) rfl (by decide +kernel) (fl_bo rfl) ?_
      have e0 : (r_goFaults_j18_0 f) = (0 : Int32) := by simp only [r_goFaults_j18_0, if_neg h1]
      rw [e0] at hJ
      exact hJ
  refine hj134 ?_
  show fl_Tq _ 230 38 [some (.inr (.inr (.inl (76, 277)))), none, none, none] [.inl (r_goFaults_j18_0 f), .inl (15 : Int32), .inr (.inr (.inl (79, 280)))] (f, l) _
  refine fl_Tq.svV (p := 280) (τ := 79) (n := 29780) (z := (0, 0, 0)) (k := 15) (m' := (fl_row f 280 (upd (f 280) 15 (r_goFaults_j18_0 f)), l)) rfl (fl_bo rfl) rfl (by decide +kernel) (by decide) (t2_upn rfl) ?_
  refine fl_Tq.stp (pc' := 40) (lv' := [some (.inr (.inr (.inl (76, 277)))), none, none, none]) (st' := [.inr (.inr (.inl (76, 277)))]) (m' := (fl_row f 280 (upd (f 280) 15 (r_goFaults_j18_0 f)), l)) rfl rfl (fl_bo rfl) rfl ?_
  refine fl_Tq.stp (pc' := 43) (lv' := [some (.inr (.inr (.inl (76, 277)))), none, none, none]) (st' := [.inr (.inr (.inl (79, 280)))]) (m' := (fl_row f 280 (upd (f 280) 15 (r_goFaults_j18_0 f)), l)) rfl rfl (fl_bo rfl) rfl ?_
  refine fl_Tq.cB (c := (16 : Int32)) rfl (by decide +kernel) (fl_bo rfl) ?_
  refine fl_Tq.stp (pc' := 46) (lv' := [some (.inr (.inr (.inl (76, 277)))), none, none, none]) (st' := [.inr (.inr (.inl (76, 277))), .inl (16 : Int32), .inr (.inr (.inl (79, 280)))]) (m' := (fl_row f 280 (upd (f 280) 15 (r_goFaults_j18_0 f)), l)) rfl rfl (fl_bo rfl) rfl ?_
  refine fl_Tq.cal rfl rfl (fl_bo rfl) rfl ?_
  refine r_actual_q  ?_
  show fl_Tq _ 230 49 [some (.inr (.inr (.inl (76, 277)))), none, none, none] [.inl (r_actual_v (fl_row f 280 (upd (f 280) 15 (r_goFaults_j18_0 f)))), .inl (16 : Int32), .inr (.inr (.inl (79, 280)))] (fl_row f 280 (upd (f 280) 15 (r_goFaults_j18_0 f)), l) _
  refine fl_Tq.stp (pc' := 50) (lv' := [some (.inr (.inr (.inl (76, 277)))), none, none, none]) (st' := [.inr (.inr (.inl (76, 277))), .inl (r_actual_v (fl_row f 280 (upd (f 280) 15 (r_goFaults_j18_0 f)))), .inl (16 : Int32), .inr (.inr (.inl (79, 280)))]) (m' := (fl_row f 280 (upd (f 280) 15 (r_goFaults_j18_0 f)), l)) rfl rfl (fl_bo rfl) rfl ?_
  refine fl_Tq.cal rfl rfl (fl_bo rfl) rfl ?_
  refine r_ordered_q  ?_
  show fl_Tq _ 230 53 [some (.inr (.inr (.inl (76, 277)))), none, none, none] [.inl (r_ordered_v (fl_row f 280 (upd (f 280) 15 (r_goFaults_j18_0 f)))), .inl (r_actual_v (fl_row f 280 (upd (f 280) 15 (r_goFaults_j18_0 f)))), .inl (16 : Int32), .inr (.inr (.inl (79, 280)))] (fl_row f 280 (upd (f 280) 15 (r_goFaults_j18_0 f)), l) _
  have hj135 : fl_Tq (pw_P L xs) 230 73 [some (.inr (.inr (.inl (76, 277)))), none, none, none] [.inl (r_goFaults_j53_0 f), .inl (16 : Int32), .inr (.inr (.inl (79, 280)))] (fl_row f 280 (upd (f 280) 15 (r_goFaults_j18_0 f)), l) Q → fl_Tq (pw_P L xs) 230 53 [some (.inr (.inr (.inl (76, 277)))), none, none, none] [.inl (r_ordered_v (fl_row f 280 (upd (f 280) 15 (r_goFaults_j18_0 f)))), .inl (r_actual_v (fl_row f 280 (upd (f 280) 15 (r_goFaults_j18_0 f)))), .inl (16 : Int32), .inr (.inr (.inl (79, 280)))] (fl_row f 280 (upd (f 280) 15 (r_goFaults_j18_0 f)), l) Q := by
    intro hJ
    by_cases h2 : (r_actual_v (fl_row f 280 (upd (f 280) 15 (r_goFaults_j18_0 f)))).toInt = (r_ordered_v (fl_row f 280 (upd (f 280) 15 (r_goFaults_j18_0 f)))).toInt
    · refine fl_Tq.jt rfl (fl_bo rfl) (c2_eq_t h2) rfl ?_
      refine fl_Tq.cI (c := (0 : Int32)) rfl (by decide +kernel) (fl_bo rfl) ?_
      have e0 : (r_goFaults_j53_0 f) = (0 : Int32) := by simp only [r_goFaults_j53_0, if_pos h2]
      rw [e0] at hJ
      exact hJ
    · refine fl_Tq.jf rfl (fl_bo rfl) (c2_eq_f h2) rfl ?_
      refine fl_Tq.stp (pc' := 57) (lv' := [some (.inr (.inr (.inl (76, 277)))), none, none, none]) (st' := [.inr (.inr (.inl (76, 277))), .inl (16 : Int32), .inr (.inr (.inl (79, 280)))]) (m' := (fl_row f 280 (upd (f 280) 15 (r_goFaults_j18_0 f)), l)) rfl rfl (fl_bo rfl) rfl ?_
      refine fl_Tq.stp (pc' := 60) (lv' := [some (.inr (.inr (.inl (76, 277)))), none, none, none]) (st' := [.inr (.inr (.inl (79, 280))), .inl (16 : Int32), .inr (.inr (.inl (79, 280)))]) (m' := (fl_row f 280 (upd (f 280) 15 (r_goFaults_j18_0 f)), l)) rfl rfl (fl_bo rfl) rfl ?_
      refine fl_Tq.cB (c := (16 : Int32)) rfl (by decide +kernel) (fl_bo rfl) ?_
      refine fl_Tq.ldV (p := 280) (τ := 79) (n := 29780) (z := (0, 0, 0)) (k := 16) (v := f 280 16) rfl (fl_bo rfl) rfl (by decide +kernel) (by decide) (by simp only [fl_row_self, upd_ne (by decide : 16 ≠ 15)]) ?_
      refine fl_Tq.cI (c := (1 : Int32)) rfl (by decide +kernel) (fl_bo rfl) ?_
      refine fl_Tq.stp (pc' := 65) (lv' := [some (.inr (.inr (.inl (76, 277)))), none, none, none]) (st' := [.inl ((f 280 16) + (1 : Int32)), .inl (16 : Int32), .inr (.inr (.inl (79, 280)))]) (m' := (fl_row f 280 (upd (f 280) 15 (r_goFaults_j18_0 f)), l)) rfl rfl (fl_bo rfl) rfl ?_
      refine fl_Tq.cI (c := (2 : Int32)) rfl (by decide +kernel) (fl_bo rfl) ?_
      refine fl_Tq.cal rfl rfl (fl_bo rfl) rfl ?_
      refine r_lesser_q  ?_
      show fl_Tq _ 230 69 [some (.inr (.inr (.inl (76, 277)))), none, none, none] [.inl (r_lesser_v ((f 280 16) + (1 : Int32)) (2 : Int32)), .inl (16 : Int32), .inr (.inr (.inl (79, 280)))] (fl_row f 280 (upd (f 280) 15 (r_goFaults_j18_0 f)), l) _
      refine fl_Tq.stp (pc' := 73) (lv' := [some (.inr (.inr (.inl (76, 277)))), none, none, none]) (st' := [.inl (r_lesser_v ((f 280 16) + (1 : Int32)) (2 : Int32)), .inl (16 : Int32), .inr (.inr (.inl (79, 280)))]) (m' := (fl_row f 280 (upd (f 280) 15 (r_goFaults_j18_0 f)), l)) rfl rfl (fl_bo rfl) rfl ?_
      have e0 : (r_goFaults_j53_0 f) = r_lesser_v ((f 280 16) + (1 : Int32)) (2 : Int32) := by simp only [r_goFaults_j53_0, if_neg h2]
      rw [e0] at hJ
      exact hJ
  refine hj135 ?_
  show fl_Tq _ 230 73 [some (.inr (.inr (.inl (76, 277)))), none, none, none] [.inl (r_goFaults_j53_0 f), .inl (16 : Int32), .inr (.inr (.inl (79, 280)))] (fl_row f 280 (upd (f 280) 15 (r_goFaults_j18_0 f)), l) _
  refine fl_Tq.svV (p := 280) (τ := 79) (n := 29780) (z := (0, 0, 0)) (k := 16) (m' := (fl_row f 280 (upd (upd (f 280) 15 (r_goFaults_j18_0 f)) 16 (r_goFaults_j53_0 f)), l)) rfl (fl_bo rfl) rfl (by decide +kernel) (by decide) (t2_upr) ?_
  refine fl_Tq.cI (c := (0 : Int32)) rfl (by decide +kernel) (fl_bo rfl) ?_
  refine fl_Tq.stp (pc' := 76) (lv' := [some (.inr (.inr (.inl (76, 277)))), some (.inl (0 : Int32)), none, none]) (st' := []) (m' := (fl_row f 280 (upd (upd (f 280) 15 (r_goFaults_j18_0 f)) 16 (r_goFaults_j53_0 f)), l)) rfl rfl (fl_bo rfl) rfl ?_
  refine fl_Tq.cI (c := (0 : Int32)) rfl (by decide +kernel) (fl_bo rfl) ?_
  refine fl_Tq.stp (pc' := 78) (lv' := [some (.inr (.inr (.inl (76, 277)))), some (.inl (0 : Int32)), some (.inl (0 : Int32)), none]) (st' := []) (m' := (fl_row f 280 (upd (upd (f 280) 15 (r_goFaults_j18_0 f)) 16 (r_goFaults_j53_0 f)), l)) rfl rfl (fl_bo rfl) rfl ?_
  refine fl_Tq.stp (pc' := 79) (lv' := [some (.inr (.inr (.inl (76, 277)))), some (.inl (0 : Int32)), some (.inl (0 : Int32)), none]) (st' := [.inr (.inr (.inl (76, 277)))]) (m' := (fl_row f 280 (upd (upd (f 280) 15 (r_goFaults_j18_0 f)) 16 (r_goFaults_j53_0 f)), l)) rfl rfl (fl_bo rfl) rfl ?_
  refine fl_Tq.stp (pc' := 82) (lv' := [some (.inr (.inr (.inl (76, 277)))), some (.inl (0 : Int32)), some (.inl (0 : Int32)), none]) (st' := [.inr (.inr (.inl (79, 280)))]) (m' := (fl_row f 280 (upd (upd (f 280) 15 (r_goFaults_j18_0 f)) 16 (r_goFaults_j53_0 f)), l)) rfl rfl (fl_bo rfl) rfl ?_
  refine fl_Tq.cB (c := (22 : Int32)) rfl (by decide +kernel) (fl_bo rfl) ?_
  refine fl_Tq.stp (pc' := 85) (lv' := [some (.inr (.inr (.inl (76, 277)))), some (.inl (0 : Int32)), some (.inl (0 : Int32)), none]) (st' := [.inl (22 : Int32), .inr (.inr (.inl (79, 280))), .inl (22 : Int32), .inr (.inr (.inl (79, 280)))]) (m' := (fl_row f 280 (upd (upd (f 280) 15 (r_goFaults_j18_0 f)) 16 (r_goFaults_j53_0 f)), l)) rfl rfl (fl_bo rfl) rfl ?_
  refine fl_Tq.ldV (p := 280) (τ := 79) (n := 29780) (z := (0, 0, 0)) (k := 22) (v := f 280 22) rfl (fl_bo rfl) rfl (by decide +kernel) (by decide) (by simp only [fl_row_self, upd_ne (by decide : 22 ≠ 16), upd_ne (by decide : 22 ≠ 15)]) ?_
  refine fl_Tq.cI (c := (1 : Int32)) rfl (by decide +kernel) (fl_bo rfl) ?_
  refine fl_Tq.stp (pc' := 88) (lv' := [some (.inr (.inr (.inl (76, 277)))), some (.inl (0 : Int32)), some (.inl (0 : Int32)), none]) (st' := [.inl ((f 280 22) + (1 : Int32)), .inl (22 : Int32), .inr (.inr (.inl (79, 280)))]) (m' := (fl_row f 280 (upd (upd (f 280) 15 (r_goFaults_j18_0 f)) 16 (r_goFaults_j53_0 f)), l)) rfl rfl (fl_bo rfl) rfl ?_
  refine fl_Tq.svV (p := 280) (τ := 79) (n := 29780) (z := (0, 0, 0)) (k := 22) (m' := (fl_row f 280 (upd (upd (upd (f 280) 15 (r_goFaults_j18_0 f)) 16 (r_goFaults_j53_0 f)) 22 ((f 280 22) + (1 : Int32))), l)) rfl (fl_bo rfl) rfl (by decide +kernel) (by decide) (t2_upr) ?_
  refine fl_Tq.cI (c := (0 : Int32)) rfl (by decide +kernel) (fl_bo rfl) ?_
  refine fl_Tq.stp (pc' := 91) (lv' := [some (.inr (.inr (.inl (76, 277)))), some (.inl (0 : Int32)), some (.inl (0 : Int32)), some (.inl (0 : Int32))]) (st' := []) (m' := (fl_row f 280 (upd (upd (upd (f 280) 15 (r_goFaults_j18_0 f)) 16 (r_goFaults_j53_0 f)) 22 ((f 280 22) + (1 : Int32))), l)) rfl rfl (fl_bo rfl) rfl ?_
  have hs91 : ∀ k91 : Nat, k91 < 11 → fl_Tq (pw_P L xs) 230 91 [some (.inr (.inr (.inl (76, 277)))), some (.inl (r_goFaults_a91 f (k91 + 1))), some (.inl (0 : Int32)), some (.inl (Int32.ofNat (k91 + 1)))] [] (fl_row f 280 (upd (upd (upd (f 280) 15 (r_goFaults_j18_0 f)) 16 (r_goFaults_j53_0 f)) 22 ((f 280 22) + (1 : Int32))), l) Q → fl_Tq (pw_P L xs) 230 91 [some (.inr (.inr (.inl (76, 277)))), some (.inl (r_goFaults_a91 f k91)), some (.inl (0 : Int32)), some (.inl (Int32.ofNat k91))] [] (fl_row f 280 (upd (upd (upd (f 280) 15 (r_goFaults_j18_0 f)) 16 (r_goFaults_j53_0 f)) 22 ((f 280 22) + (1 : Int32))), l) Q := by
    intro k91 hk91 hS
    refine fl_Tq.stp (pc' := 92) (lv' := [some (.inr (.inr (.inl (76, 277)))), some (.inl (r_goFaults_a91 f k91)), some (.inl (0 : Int32)), some (.inl (Int32.ofNat k91))]) (st' := [.inl (Int32.ofNat k91)]) (m' := (fl_row f 280 (upd (upd (upd (f 280) 15 (r_goFaults_j18_0 f)) 16 (r_goFaults_j53_0 f)) 22 ((f 280 22) + (1 : Int32))), l)) rfl rfl (fl_bo rfl) rfl ?_
    refine fl_Tq.cB (c := (11 : Int32)) rfl (by decide +kernel) (fl_bo rfl) ?_
    refine fl_Tq.jf rfl (fl_bo rfl) (c2_ge_f (t2_lk hk91 (by decide +kernel))) rfl ?_
    refine fl_Tq.stp (pc' := 98) (lv' := [some (.inr (.inr (.inl (76, 277)))), some (.inl (r_goFaults_a91 f k91)), some (.inl (0 : Int32)), some (.inl (Int32.ofNat k91))]) (st' := [.inl (r_goFaults_a91 f k91)]) (m' := (fl_row f 280 (upd (upd (upd (f 280) 15 (r_goFaults_j18_0 f)) 16 (r_goFaults_j53_0 f)) 22 ((f 280 22) + (1 : Int32))), l)) rfl rfl (fl_bo rfl) rfl ?_
    refine fl_Tq.stp (pc' := 99) (lv' := [some (.inr (.inr (.inl (76, 277)))), some (.inl (r_goFaults_a91 f k91)), some (.inl (0 : Int32)), some (.inl (Int32.ofNat k91))]) (st' := [.inr (.inr (.inl (76, 277))), .inl (r_goFaults_a91 f k91)]) (m' := (fl_row f 280 (upd (upd (upd (f 280) 15 (r_goFaults_j18_0 f)) 16 (r_goFaults_j53_0 f)) 22 ((f 280 22) + (1 : Int32))), l)) rfl rfl (fl_bo rfl) rfl ?_
    refine fl_Tq.stp (pc' := 100) (lv' := [some (.inr (.inr (.inl (76, 277)))), some (.inl (r_goFaults_a91 f k91)), some (.inl (0 : Int32)), some (.inl (Int32.ofNat k91))]) (st' := [.inl (Int32.ofNat k91), .inr (.inr (.inl (76, 277))), .inl (r_goFaults_a91 f k91)]) (m' := (fl_row f 280 (upd (upd (upd (f 280) 15 (r_goFaults_j18_0 f)) 16 (r_goFaults_j53_0 f)) 22 ((f 280 22) + (1 : Int32))), l)) rfl rfl (fl_bo rfl) rfl ?_
    refine fl_Tq.cal rfl rfl (fl_bo rfl) rfl ?_
    refine r_isSo_q (by simp only [fl_row_self, upd_ne (by decide : 2 ≠ 22), upd_ne (by decide : 2 ≠ 16), upd_ne (by decide : 2 ≠ 15)]; exact hn) (fun j => by simp only [fl_row_ne (by decide : 279 ≠ 280)]; exact hr j) (fun C hC => by simp only [fl_row_self, upd_ne (by decide : 2 ≠ 22), upd_ne (by decide : 2 ≠ 16), upd_ne (by decide : 2 ≠ 15), upd_ne (by omega : 444 + 61 * C + 0 ≠ 22), upd_ne (by omega : 444 + 61 * C + 0 ≠ 16), upd_ne (by omega : 444 + 61 * C + 0 ≠ 15), upd_ne (by omega : 444 + 61 * C + 1 ≠ 22), upd_ne (by omega : 444 + 61 * C + 1 ≠ 16), upd_ne (by omega : 444 + 61 * C + 1 ≠ 15)] at hC; unfold t2_ck; simp only [fl_row_self, upd_ne (by decide : 2 ≠ 22), upd_ne (by decide : 2 ≠ 16), upd_ne (by decide : 2 ≠ 15), upd_ne (by omega : 444 + 61 * C + 0 ≠ 22), upd_ne (by omega : 444 + 61 * C + 0 ≠ 16), upd_ne (by omega : 444 + 61 * C + 0 ≠ 15), upd_ne (by omega : 444 + 61 * C + 1 ≠ 22), upd_ne (by omega : 444 + 61 * C + 1 ≠ 16), upd_ne (by omega : 444 + 61 * C + 1 ≠ 15)]; exact hk C hC) (by simp only [fl_row_ne (by decide : 277 ≠ 280)]; exact hs) ?_
    show fl_Tq _ 230 103 [some (.inr (.inr (.inl (76, 277)))), some (.inl (r_goFaults_a91 f k91)), some (.inl (0 : Int32)), some (.inl (Int32.ofNat k91))] [.inl (r_isSo_v (fl_row f 280 (upd (upd (upd (f 280) 15 (r_goFaults_j18_0 f)) 16 (r_goFaults_j53_0 f)) 22 ((f 280 22) + (1 : Int32)))) (Int32.ofNat k91)), .inl (r_goFaults_a91 f k91)] (fl_row f 280 (upd (upd (upd (f 280) 15 (r_goFaults_j18_0 f)) 16 (r_goFaults_j53_0 f)) 22 ((f 280 22) + (1 : Int32))), l) _
    have hj136 : fl_Tq (pw_P L xs) 230 113 [some (.inr (.inr (.inl (76, 277)))), some (.inl (r_goFaults_a91 f k91)), some (.inl (0 : Int32)), some (.inl (Int32.ofNat k91))] [.inl (if (r_isSo_v (fl_row f 280 (upd (upd (upd (f 280) 15 (r_goFaults_j18_0 f)) 16 (r_goFaults_j53_0 f)) 22 ((f 280 22) + (1 : Int32)))) (Int32.ofNat k91)).toInt = 0 then (0 : Int32) else (1 : Int32) <<< ((Int32.ofNat k91) &&& 31)), .inl (r_goFaults_a91 f k91)] (fl_row f 280 (upd (upd (upd (f 280) 15 (r_goFaults_j18_0 f)) 16 (r_goFaults_j53_0 f)) 22 ((f 280 22) + (1 : Int32))), l) Q → fl_Tq (pw_P L xs) 230 103 [some (.inr (.inr (.inl (76, 277)))), some (.inl (r_goFaults_a91 f k91)), some (.inl (0 : Int32)), some (.inl (Int32.ofNat k91))] [.inl (r_isSo_v (fl_row f 280 (upd (upd (upd (f 280) 15 (r_goFaults_j18_0 f)) 16 (r_goFaults_j53_0 f)) 22 ((f 280 22) + (1 : Int32)))) (Int32.ofNat k91)), .inl (r_goFaults_a91 f k91)] (fl_row f 280 (upd (upd (upd (f 280) 15 (r_goFaults_j18_0 f)) 16 (r_goFaults_j53_0 f)) 22 ((f 280 22) + (1 : Int32))), l) Q := by
      intro hJ
      by_cases h3 : (r_isSo_v (fl_row f 280 (upd (upd (upd (f 280) 15 (r_goFaults_j18_0 f)) 16 (r_goFaults_j53_0 f)) 22 ((f 280 22) + (1 : Int32)))) (Int32.ofNat k91)).toInt = 0
      · refine fl_Tq.zt rfl (fl_bo rfl) (c1_eq_t h3) rfl ?_
        refine fl_Tq.cI (c := (0 : Int32)) rfl (by decide +kernel) (fl_bo rfl) ?_
        have e0 : (if (r_isSo_v (fl_row f 280 (upd (upd (upd (f 280) 15 (r_goFaults_j18_0 f)) 16 (r_goFaults_j53_0 f)) 22 ((f 280 22) + (1 : Int32)))) (Int32.ofNat k91)).toInt = 0 then (0 : Int32) else (1 : Int32) <<< ((Int32.ofNat k91) &&& 31)) = (0 : Int32) := by simp only [if_pos h3]
        rw [e0] at hJ
        exact hJ
      · refine fl_Tq.zf rfl (fl_bo rfl) (c1_eq_f h3) rfl ?_
        refine fl_Tq.cI (c := (1 : Int32)) rfl (by decide +kernel) (fl_bo rfl) ?_
        refine fl_Tq.stp (pc' := 108) (lv' := [some (.inr (.inr (.inl (76, 277)))), some (.inl (r_goFaults_a91 f k91)), some (.inl (0 : Int32)), some (.inl (Int32.ofNat k91))]) (st' := [.inl (Int32.ofNat k91), .inl (1 : Int32), .inl (r_goFaults_a91 f k91)]) (m' := (fl_row f 280 (upd (upd (upd (f 280) 15 (r_goFaults_j18_0 f)) 16 (r_goFaults_j53_0 f)) 22 ((f 280 22) + (1 : Int32))), l)) rfl rfl (fl_bo rfl) rfl ?_
        refine fl_Tq.stp (pc' := 109) (lv' := [some (.inr (.inr (.inl (76, 277)))), some (.inl (r_goFaults_a91 f k91)), some (.inl (0 : Int32)), some (.inl (Int32.ofNat k91))]) (st' := [.inl ((1 : Int32) <<< ((Int32.ofNat k91) &&& 31)), .inl (r_goFaults_a91 f k91)]) (m' := (fl_row f 280 (upd (upd (upd (f 280) 15 (r_goFaults_j18_0 f)) 16 (r_goFaults_j53_0 f)) 22 ((f 280 22) + (1 : Int32))), l)) rfl rfl (fl_bo rfl) rfl ?_
        refine fl_Tq.stp (pc' := 113) (lv' := [some (.inr (.inr (.inl (76, 277)))), some (.inl (r_goFaults_a91 f k91)), some (.inl (0 : Int32)), some (.inl (Int32.ofNat k91))]) (st' := [.inl ((1 : Int32) <<< ((Int32.ofNat k91) &&& 31)), .inl (r_goFaults_a91 f k91)]) (m' := (fl_row f 280 (upd (upd (upd (f 280) 15 (r_goFaults_j18_0 f)) 16 (r_goFaults_j53_0 f)) 22 ((f 280 22) + (1 : Int32))), l)) rfl rfl (fl_bo rfl) rfl ?_
        have e0 : (if (r_isSo_v (fl_row f 280 (upd (upd (upd (f 280) 15 (r_goFaults_j18_0 f)) 16 (r_goFaults_j53_0 f)) 22 ((f 280 22) + (1 : Int32)))) (Int32.ofNat k91)).toInt = 0 then (0 : Int32) else (1 : Int32) <<< ((Int32.ofNat k91) &&& 31)) = (1 : Int32) <<< ((Int32.ofNat k91) &&& 31) := by simp only [if_neg h3]
        rw [e0] at hJ
        exact hJ
    refine hj136 ?_
    show fl_Tq _ 230 113 [some (.inr (.inr (.inl (76, 277)))), some (.inl (r_goFaults_a91 f k91)), some (.inl (0 : Int32)), some (.inl (Int32.ofNat k91))] [.inl (if (r_isSo_v (fl_row f 280 (upd (upd (upd (f 280) 15 (r_goFaults_j18_0 f)) 16 (r_goFaults_j53_0 f)) 22 ((f 280 22) + (1 : Int32)))) (Int32.ofNat k91)).toInt = 0 then (0 : Int32) else (1 : Int32) <<< ((Int32.ofNat k91) &&& 31)), .inl (r_goFaults_a91 f k91)] (fl_row f 280 (upd (upd (upd (f 280) 15 (r_goFaults_j18_0 f)) 16 (r_goFaults_j53_0 f)) 22 ((f 280 22) + (1 : Int32))), l) _
    refine fl_Tq.stp (pc' := 114) (lv' := [some (.inr (.inr (.inl (76, 277)))), some (.inl (r_goFaults_a91 f k91)), some (.inl (0 : Int32)), some (.inl (Int32.ofNat k91))]) (st' := [.inl ((r_goFaults_a91 f k91) ||| (if (r_isSo_v (fl_row f 280 (upd (upd (upd (f 280) 15 (r_goFaults_j18_0 f)) 16 (r_goFaults_j53_0 f)) 22 ((f 280 22) + (1 : Int32)))) (Int32.ofNat k91)).toInt = 0 then (0 : Int32) else (1 : Int32) <<< ((Int32.ofNat k91) &&& 31)))]) (m' := (fl_row f 280 (upd (upd (upd (f 280) 15 (r_goFaults_j18_0 f)) 16 (r_goFaults_j53_0 f)) 22 ((f 280 22) + (1 : Int32))), l)) rfl rfl (fl_bo rfl) rfl ?_
    refine fl_Tq.stp (pc' := 115) (lv' := [some (.inr (.inr (.inl (76, 277)))), some (.inl ((r_goFaults_a91 f k91) ||| (if (r_isSo_v (fl_row f 280 (upd (upd (upd (f 280) 15 (r_goFaults_j18_0 f)) 16 (r_goFaults_j53_0 f)) 22 ((f 280 22) + (1 : Int32)))) (Int32.ofNat k91)).toInt = 0 then (0 : Int32) else (1 : Int32) <<< ((Int32.ofNat k91) &&& 31)))), some (.inl (0 : Int32)), some (.inl (Int32.ofNat k91))]) (st' := []) (m' := (fl_row f 280 (upd (upd (upd (f 280) 15 (r_goFaults_j18_0 f)) 16 (r_goFaults_j53_0 f)) 22 ((f 280 22) + (1 : Int32))), l)) rfl rfl (fl_bo rfl) rfl ?_
    refine fl_Tq.stp (pc' := 118) (lv' := [some (.inr (.inr (.inl (76, 277)))), some (.inl ((r_goFaults_a91 f k91) ||| (if (r_isSo_v (fl_row f 280 (upd (upd (upd (f 280) 15 (r_goFaults_j18_0 f)) 16 (r_goFaults_j53_0 f)) 22 ((f 280 22) + (1 : Int32)))) (Int32.ofNat k91)).toInt = 0 then (0 : Int32) else (1 : Int32) <<< ((Int32.ofNat k91) &&& 31)))), some (.inl (0 : Int32)), some (.inl ((Int32.ofNat k91) + (1 : Int32)))]) (st' := []) (m' := (fl_row f 280 (upd (upd (upd (f 280) 15 (r_goFaults_j18_0 f)) 16 (r_goFaults_j53_0 f)) 22 ((f 280 22) + (1 : Int32))), l)) rfl rfl (fl_bo rfl) rfl ?_
    refine fl_Tq.stp (pc' := 91) (lv' := [some (.inr (.inr (.inl (76, 277)))), some (.inl ((r_goFaults_a91 f k91) ||| (if (r_isSo_v (fl_row f 280 (upd (upd (upd (f 280) 15 (r_goFaults_j18_0 f)) 16 (r_goFaults_j53_0 f)) 22 ((f 280 22) + (1 : Int32)))) (Int32.ofNat k91)).toInt = 0 then (0 : Int32) else (1 : Int32) <<< ((Int32.ofNat k91) &&& 31)))), some (.inl (0 : Int32)), some (.inl ((Int32.ofNat k91) + (1 : Int32)))]) (st' := []) (m' := (fl_row f 280 (upd (upd (upd (f 280) 15 (r_goFaults_j18_0 f)) 16 (r_goFaults_j53_0 f)) 22 ((f 280 22) + (1 : Int32))), l)) rfl rfl (fl_bo rfl) rfl ?_
    have ea : r_goFaults_a91 f (k91 + 1) = (r_goFaults_a91 f k91) ||| (if (r_isSo_v (fl_row f 280 (upd (upd (upd (f 280) 15 (r_goFaults_j18_0 f)) 16 (r_goFaults_j53_0 f)) 22 ((f 280 22) + (1 : Int32)))) (Int32.ofNat k91)).toInt = 0 then (0 : Int32) else (1 : Int32) <<< ((Int32.ofNat k91) &&& 31)) := by
      show ((r_goFaults_a91 f k91) ||| (if (r_isSo_v (fl_row f 280 (upd (upd (upd (f 280) 15 (r_goFaults_j18_0 f)) 16 (r_goFaults_j53_0 f)) 22 ((f 280 22) + (1 : Int32)))) (Int32.ofNat k91)).toInt = 0 then (0 : Int32) else (1 : Int32) <<< ((Int32.ofNat k91) &&& 31))) = _
      rfl
    rw [ea, ← t2_k1] at hS
    exact hS
  refine t2_for (S := fun k91 => fl_Tq (pw_P L xs) 230 91 [some (.inr (.inr (.inl (76, 277)))), some (.inl (r_goFaults_a91 f k91)), some (.inl (0 : Int32)), some (.inl (Int32.ofNat k91))] [] (fl_row f 280 (upd (upd (upd (f 280) 15 (r_goFaults_j18_0 f)) 16 (r_goFaults_j53_0 f)) 22 ((f 280 22) + (1 : Int32))), l) Q) hs91 ?_
  show fl_Tq (pw_P L xs) 230 91 [some (.inr (.inr (.inl (76, 277)))), some (.inl (r_goFaults_a91 f 11)), some (.inl (0 : Int32)), some (.inl (Int32.ofNat 11))] [] (fl_row f 280 (upd (upd (upd (f 280) 15 (r_goFaults_j18_0 f)) 16 (r_goFaults_j53_0 f)) 22 ((f 280 22) + (1 : Int32))), l) _
  refine fl_Tq.stp (pc' := 92) (lv' := [some (.inr (.inr (.inl (76, 277)))), some (.inl (r_goFaults_a91 f 11)), some (.inl (0 : Int32)), some (.inl (Int32.ofNat 11))]) (st' := [.inl (Int32.ofNat 11)]) (m' := (fl_row f 280 (upd (upd (upd (f 280) 15 (r_goFaults_j18_0 f)) 16 (r_goFaults_j53_0 f)) 22 ((f 280 22) + (1 : Int32))), l)) rfl rfl (fl_bo rfl) rfl ?_
  refine fl_Tq.cB (c := (11 : Int32)) rfl (by decide +kernel) (fl_bo rfl) ?_
  refine fl_Tq.jt rfl (fl_bo rfl) (c2_ge_t (t2_ln (by decide +kernel))) rfl ?_
  refine fl_Tq.cI (c := (0 : Int32)) rfl (by decide +kernel) (fl_bo rfl) ?_
  refine fl_Tq.stp (pc' := 123) (lv' := [some (.inr (.inr (.inl (76, 277)))), some (.inl (r_goFaults_a91 f 11)), some (.inl (0 : Int32)), some (.inl (0 : Int32))]) (st' := []) (m' := (fl_row f 280 (upd (upd (upd (f 280) 15 (r_goFaults_j18_0 f)) 16 (r_goFaults_j53_0 f)) 22 ((f 280 22) + (1 : Int32))), l)) rfl rfl (fl_bo rfl) rfl ?_
  have hs123 : ∀ k : Nat, k < 11 → fl_Tq (pw_P L xs) 230 123 [some (.inr (.inr (.inl (76, 277)))), some (.inl (r_goFaults_a91 f 11)), some (.inl (r_goFaults_a123_0 f (k + 1))), some (.inl (Int32.ofNat (k + 1)))] [] (r_goFaults_f123 f (k + 1), l) Q → fl_Tq (pw_P L xs) 230 123 [some (.inr (.inr (.inl (76, 277)))), some (.inl (r_goFaults_a91 f 11)), some (.inl (r_goFaults_a123_0 f k)), some (.inl (Int32.ofNat k))] [] (r_goFaults_f123 f k, l) Q := fun k hkn hS => r_goFaults_b123_q hkn (by omega) (by rw [r_goFaults_f123_w hb (k := k) (by omega) (w := 2) (by omega)]; exact hn) (fun j => by rw [r_goFaults_f123_fr (k := k) (by decide : 279 ≠ 280), fl_row_ne (by decide)]; exact hr j) (fun C hC => by rw [r_goFaults_f123_w hb (k := k) (by omega) (w := 2) (by omega)] at hC; unfold t2_ck; rw [r_goFaults_f123_w hb (k := k) (by omega) (w := 444 + 61 * C + 0) (by omega), r_goFaults_f123_w hb (k := k) (by omega) (w := 444 + 61 * C + 1) (by omega)]; exact hk C hC) (r_goFaults_ib hb k) hS
  refine t2_for (S := fun k => fl_Tq (pw_P L xs) 230 123 [some (.inr (.inr (.inl (76, 277)))), some (.inl (r_goFaults_a91 f 11)), some (.inl (r_goFaults_a123_0 f k)), some (.inl (Int32.ofNat k))] [] (r_goFaults_f123 f k, l) Q) hs123 ?_
  show fl_Tq (pw_P L xs) 230 123 [some (.inr (.inr (.inl (76, 277)))), some (.inl (r_goFaults_a91 f 11)), some (.inl (r_goFaults_a123_0 f 11)), some (.inl (Int32.ofNat 11))] [] (r_goFaults_f123 f 11, l) _
  refine fl_Tq.stp (pc' := 124) (lv' := [some (.inr (.inr (.inl (76, 277)))), some (.inl (r_goFaults_a91 f 11)), some (.inl (r_goFaults_a123_0 f 11)), some (.inl (Int32.ofNat 11))]) (st' := [.inl (Int32.ofNat 11)]) (m' := (r_goFaults_f123 f 11, l)) rfl rfl (fl_bo rfl) rfl ?_
  refine fl_Tq.cB (c := (11 : Int32)) rfl (by decide +kernel) (fl_bo rfl) ?_
  refine fl_Tq.jt rfl (fl_bo rfl) (c2_ge_t (by have c11 : (11 : Int32).toInt = 11 := (by decide +kernel); have e2 : (Int32.ofNat 11).toInt = ((11 : Nat) : Int) := at_ofN (by omega); omega)) rfl ?_
  refine fl_Tq.stp (pc' := 221) (lv' := [some (.inr (.inr (.inl (76, 277)))), some (.inl (r_goFaults_a91 f 11)), some (.inl (r_goFaults_a123_0 f 11)), some (.inl (Int32.ofNat 11))]) (st' := [.inr (.inr (.inl (76, 277)))]) (m' := (r_goFaults_f123 f 11, l)) rfl rfl (fl_bo rfl) rfl ?_
  refine fl_Tq.stp (pc' := 224) (lv' := [some (.inr (.inr (.inl (76, 277)))), some (.inl (r_goFaults_a91 f 11)), some (.inl (r_goFaults_a123_0 f 11)), some (.inl (Int32.ofNat 11))]) (st' := [.inr (.inr (.inl (79, 280)))]) (m' := (r_goFaults_f123 f 11, l)) rfl rfl (fl_bo rfl) rfl ?_
  refine fl_Tq.cB (c := (6 : Int32)) rfl (by decide +kernel) (fl_bo rfl) ?_
  refine fl_Tq.ldV (p := 280) (τ := 79) (n := 29780) (z := (0, 0, 0)) (k := 6) (v := (r_goFaults_f123 f 11) 280 6) rfl (fl_bo rfl) rfl (by decide +kernel) (by decide) rfl ?_
  have hj138 : fl_Tq (pw_P L xs) 230 237 [some (.inr (.inr (.inl (76, 277)))), some (.inl (r_goFaults_a91 f 11)), some (.inl (r_goFaults_a123_0 f 11)), some (.inl (Int32.ofNat 11))] [] (fl_row (r_goFaults_f123 f 11) 280 (upd ((r_goFaults_f123 f 11) 280) 3 (r_goFaults_j227_0 f)), l) Q → fl_Tq (pw_P L xs) 230 227 [some (.inr (.inr (.inl (76, 277)))), some (.inl (r_goFaults_a91 f 11)), some (.inl (r_goFaults_a123_0 f 11)), some (.inl (Int32.ofNat 11))] [.inl ((r_goFaults_f123 f 11) 280 6)] (r_goFaults_f123 f 11, l) Q := by
    intro hJ
    by_cases h4 : ((r_goFaults_f123 f 11) 280 6).toInt = 0
    · refine fl_Tq.zt rfl (fl_bo rfl) (c1_eq_t h4) rfl ?_
      have e0 : (fl_row (r_goFaults_f123 f 11) 280 (upd ((r_goFaults_f123 f 11) 280) 3 (r_goFaults_j227_0 f))) = r_goFaults_f123 f 11 := by
        simp only [r_goFaults_j227_0, if_pos h4]
        funext q j
        simp only [fl_row, upd]
        repeat' split
        all_goals first | rfl | simp_all
      rw [e0] at hJ
      exact hJ
    · refine fl_Tq.zf rfl (fl_bo rfl) (c1_eq_f h4) rfl ?_
      refine fl_Tq.stp (pc' := 231) (lv' := [some (.inr (.inr (.inl (76, 277)))), some (.inl (r_goFaults_a91 f 11)), some (.inl (r_goFaults_a123_0 f 11)), some (.inl (Int32.ofNat 11))]) (st' := [.inr (.inr (.inl (76, 277)))]) (m' := (r_goFaults_f123 f 11, l)) rfl rfl (fl_bo rfl) rfl ?_
      refine fl_Tq.stp (pc' := 234) (lv' := [some (.inr (.inr (.inl (76, 277)))), some (.inl (r_goFaults_a91 f 11)), some (.inl (r_goFaults_a123_0 f 11)), some (.inl (Int32.ofNat 11))]) (st' := [.inr (.inr (.inl (79, 280)))]) (m' := (r_goFaults_f123 f 11, l)) rfl rfl (fl_bo rfl) rfl ?_
      refine fl_Tq.cI (c := (3 : Int32)) rfl (by decide +kernel) (fl_bo rfl) ?_
      refine fl_Tq.cI (c := (0 : Int32)) rfl (by decide +kernel) (fl_bo rfl) ?_
      refine fl_Tq.svV (p := 280) (τ := 79) (n := 29780) (z := (0, 0, 0)) (k := 3) (m' := (fl_row (r_goFaults_f123 f 11) 280 (upd ((r_goFaults_f123 f 11) 280) 3 (0 : Int32)), l)) rfl (fl_bo rfl) rfl (by decide +kernel) (by decide) (t2_upn rfl) ?_
      have e0 : (fl_row (r_goFaults_f123 f 11) 280 (upd ((r_goFaults_f123 f 11) 280) 3 (r_goFaults_j227_0 f))) = fl_row (r_goFaults_f123 f 11) 280 (upd ((r_goFaults_f123 f 11) 280) 3 (0 : Int32)) := by
        simp only [r_goFaults_j227_0, if_neg h4]
      rw [e0] at hJ
      exact hJ
  refine hj138 ?_
  show fl_Tq _ 230 237 [some (.inr (.inr (.inl (76, 277)))), some (.inl (r_goFaults_a91 f 11)), some (.inl (r_goFaults_a123_0 f 11)), some (.inl (Int32.ofNat 11))] [] (fl_row (r_goFaults_f123 f 11) 280 (upd ((r_goFaults_f123 f 11) 280) 3 (r_goFaults_j227_0 f)), l) _
  refine fl_Tq.stp (pc' := 238) (lv' := [some (.inr (.inr (.inl (76, 277)))), some (.inl (r_goFaults_a91 f 11)), some (.inl (r_goFaults_a123_0 f 11)), some (.inl (Int32.ofNat 11))]) (st' := [.inl (r_goFaults_a123_0 f 11)]) (m' := (fl_row (r_goFaults_f123 f 11) 280 (upd ((r_goFaults_f123 f 11) 280) 3 (r_goFaults_j227_0 f)), l)) rfl rfl (fl_bo rfl) rfl ?_
  exact fl_Tq.ret rfl rfl rfl k

end
