/-! 95.04.x1.lean.txt -/
section
/-! ===== the trial block beside the reference at its plainest: no taper, no rules (printed by gen/plain3.py) ===== -/
/-- nothing is taken back of what is asked for -/
def t3_nt (f : t2_F) : Prop := (f 184 23).toInt ≤ 0 ∨ (f 184 20).toInt ≤ 0
theorem t3_taper {f : t2_F} (h : t3_nt f) : c2_taper_m f = f := by
  unfold c2_taper_m
  rcases h with h | h
  · rw [if_neg (by omega)]
  · split
    · rw [if_neg (by omega)]
    · rfl
def c3_Rs (fc fr : t2_F) : Prop := ∀ k : Nat, (k < 30 ∧ k ≠ 23) → fc 184 k = fr 280 (34 + k)
section C3PREAD
variable {fc fr : t2_F} {C : Nat} {c x : Int32}
theorem c3_own_eq (h : c2_Rc fc fr C) (hs : c3_Rs fc fr) (hz : c2_Rz fc fr) (hz6 : 0 ≤ (fr 280 17).toInt ∧ (fr 280 17).toInt ≤ 6) : c2_ownLimit_v fc C x = r_limitBy_v fr c C x := by
  have s0 : fc 184 0 = fr 280 34 := hs 0 (by omega)
  have s1 : fc 184 1 = fr 280 35 := hs 1 (by omega)
  have s2 : fc 184 2 = fr 280 36 := hs 2 (by omega)
  have s3 : fc 184 3 = fr 280 37 := hs 3 (by omega)
  have s5 : fc 184 5 = fr 280 39 := hs 5 (by omega)
  have e := c2_calm_eq (c := c) h
  obtain ⟨-, -, ⟨-, h6, -⟩, -⟩ := h
  have zz := c2_zone_eq (C := C) (c := c) (x := x) hz (n := (fr 280 17).toInt.toNat) (by omega) (fc (198 + 4 * C) 6) h6
  have m1 : (-1 : Int32).toInt = -1 := by decide +kernel
  unfold c2_ownLimit_v r_limitBy_v r_limitBy_j151_0 r_limitBy_j137_0 r_limitBy_j63_0 r_limitBy_j8_0 c2_zoneCurrent_v
  rw [hz.1, s0, s1, s2, s3, s5, e, h6, t2_m32 (500 : Int32)]
  rw [h6] at zz
  simp only [t2_les]
  by_cases hx : x.toInt = 0
  · simp only [if_pos hx]
    by_cases hc : (fr 280 (444 + 61 * C + 3)).toInt < (fr 280 37).toInt
    · simp only [if_pos hc]
      rcases zz with ⟨-, z2⟩ | ⟨-, z2⟩
      · simp only [z2, if_pos]
        rfl
      · simp only [if_neg (show ¬ (r_limitBy_a84 fr c C x ((fr 280 17).toInt.toNat)).toInt = (-1 : Int32).toInt by omega)]
        exact t2_lim3 z2
    · simp only [if_neg hc]
      rcases zz with ⟨z1, z2⟩ | ⟨z1, z2⟩
      · simp only [z1, z2, if_pos]
        exact t2_lim1 _ _
      · simp only [z1, if_neg (show ¬ (r_limitBy_a84 fr c C x ((fr 280 17).toInt.toNat)).toInt = (-1 : Int32).toInt by omega)]
        exact t2_lim2 _ _ _
  · simp only [if_neg hx]
    rcases zz with ⟨z1, z2⟩ | ⟨z1, z2⟩
    · simp only [z1, z2, if_pos]
      exact t2_lim1 _ _
    · simp only [z1, if_neg (show ¬ (r_limitBy_a84 fr c C x ((fr 280 17).toInt.toNat)).toInt = (-1 : Int32).toInt by omega)]
      exact t2_lim2 _ _ _
theorem c3_bus_eq {n : Nat} (hn : (fc 181 5).toInt = n) (hn2 : fc 181 5 = fr 280 2) (hC : ∀ C : Nat, C < n → c2_Rc fc fr C) (hst : fc 181 7 = fr 280 3) (hb : fc 181 8 = fr 280 4) (hs : c3_Rs fc fr) (hk : c2_Rk fc fr) (hw : ∀ k : Nat, k < 3 → t2_how (fr 280 (64 + k))) (bb : -1000000000 ≤ (fr 280 4).toInt ∧ (fr 280 4).toInt ≤ 1000000000) (bp : -1000000000 ≤ (r_packCalm_v fr).toInt ∧ (r_packCalm_v fr).toInt ≤ 1000000000) : c2_packAt_v fc (0 : Int32) = r_packCalm_v fr ∧ c2_moveBus_j16_0 fc = r_goBus_j16_0 fr := by
  have e0 : (0 : Int32).toInt = 0 := rfl
  have e3 : (3 : Int32).toInt = 3 := by decide +kernel
  have e03 : ((0 : Int32) + (3 : Int32)) / (4 : Int32) = 0 := by decide +kernel
  have s7 : fc 184 7 = fr 280 41 := hs 7 (by omega)
  have hp : c2_packAt_v fc (0 : Int32) = r_packCalm_v fr := by
    unfold c2_packAt_v r_packCalm_v
    rw [← hn2, hn, Int.toNat_natCast]
    exact c2_packCalm_eq hC
  refine ⟨hp, ?_⟩
  have hl := c2_live_eq hst hk hw
  have ha := c2_actual_eq hst hk hw
  unfold c2_moveBus_j16_0 r_goBus_j16_0
  rw [hl, hp, hb, s7]
  have h3 : c2_areActual_v fc (3 : Int32) = if ((r_actual_v fr) &&& (3 : Int32)).toInt = (3 : Int32).toInt then (1 : Int32) else (0 : Int32) := by
    unfold c2_areActual_v
    rw [ha]
  rw [h3]
  by_cases h1 : (r_isLive_v fr).toInt = 0
  · rw [if_pos h1, if_pos h1]
    by_cases h2 : ((r_actual_v fr) &&& (3 : Int32)).toInt = (3 : Int32).toInt
    · rw [if_pos h2, if_pos h2, if_neg (by decide +kernel)]
      have hd : (r_packCalm_v fr - fr 280 4).toInt = (r_packCalm_v fr).toInt - (fr 280 4).toInt := at_sub32 (by omega) (by omega)
      have hj : (t2_max_v (r_packCalm_v fr - fr 280 4) (0 : Int32) + (3 : Int32)) / (4 : Int32) = r_goBus_j41_0 fr := by
        unfold r_goBus_j41_0 t2_max_v
        by_cases hlt : (fr 280 4).toInt < (r_packCalm_v fr).toInt
        · rw [if_pos hlt, if_neg (by omega)]
        · rw [if_neg hlt]
          by_cases hlt2 : (r_packCalm_v fr - fr 280 4).toInt < (0 : Int32).toInt
          · rw [if_pos hlt2]
            exact e03
          · rw [if_neg hlt2]
            have : r_packCalm_v fr - fr 280 4 = 0 := Int32.toInt.inj (by omega)
            rw [this]
            exact e03
      rw [hj]
      unfold r_goBus_j78_0 t2_max_v
      rfl
    · rw [if_neg h2, if_neg h2, if_pos e0, t2_flo2 (by omega)]
  · rw [if_neg h1, if_neg h1]
end C3PREAD
section C3PCUR
variable {fc fr fc' fr' : t2_F} {C : Nat} {c x : Int32}
theorem c3_Rs.congr (h : c3_Rs fc fr) (e : fc' 184 = fc 184) (e2 : ∀ k : Nat, k < 30 → fr' 280 (34 + k) = fr 280 (34 + k)) : c3_Rs fc' fr' := fun k hk => by rw [e, e2 k hk.1]; exact h k hk
def c3_RL (fc fr : t2_F) (n : Nat) : Prop := (n ≤ 16 ∧ (fc 181 5).toInt = n ∧ (fr 280 2).toInt = n) ∧ c3_Rs fc fr ∧ c2_Rz fc fr ∧ (0 ≤ (fr 280 17).toInt ∧ (fr 280 17).toInt ≤ 6) ∧ ∀ C : Nat, C < n → c2_Rc fc fr C
theorem c3_RL.congr {n : Nat} (h : c3_RL fc fr n) (e1 : fc' 181 5 = fc 181 5) (ep : ∀ p : Nat, p ≠ 181 → fc' p = fc p) (er : ∀ j : Nat, j ≠ 5 → fr' 280 j = fr 280 j) : c3_RL fc' fr' n := by
  obtain ⟨⟨h1, h2, h3⟩, h4, h5, h6, h7⟩ := h
  refine ⟨⟨h1, by rw [e1]; exact h2, by rw [er 2 (by omega)]; exact h3⟩, h4.congr (ep _ (by decide)) (fun k hk => er _ (by omega)), h5.congr (ep _ (by decide)) (ep _ (by decide)) (er _ (by omega)) (fun k hk => er _ (by omega)), by rw [er 17 (by omega)]; exact h6, fun C hC => (h7 C hC).congr (ep _ (by omega)) (fun k hk => er _ (by omega))⟩
theorem c3_RL.own {n : Nat} (h : c3_RL fc fr n) : ∀ C : Nat, C < n → ∀ c : Int32, c2_ownLimit_v fc C x = r_limitBy_v fr c C x := fun C hC c => c3_own_eq (h.2.2.2.2 C hC) h.2.1 h.2.2.1 h.2.2.2.1
theorem c3_RL.worst {n : Nat} (h : c3_RL fc fr n) : c2_worstCell_v fc x = r_tightest_v fr x ∧ ((n = 0 ∧ r_tightest_v fr x = (-1 : Int32)) ∨ ∃ j : Nat, j < n ∧ r_tightest_v fr x = Int32.ofNat j ∧ (c2_worstCell_a8 fc x n).2 = c2_ownLimit_v fc j x) := by
  have := c2_worst_eq (fc := fc) (fr := fr) (x := x) h.1.1 h.own
  unfold c2_worstCell_v r_tightest_v
  rw [h.1.2.1, h.1.2.2, Int.toNat_natCast]
  exact this
theorem c3_RL.limit {n : Nat} (h : c3_RL fc fr n) : c2_limitOf_v fc x = r_limitOf_v fr x := by
  have m1 : (-1 : Int32).toInt = -1 := by decide +kernel
  have hl := c2_limit_eq (fc := fc) (fr := fr) (x := x) h.1.1 h.own
  have hw := h.worst (x := x)
  have s4 : fc 184 4 = fr 280 38 := h.2.1 4 (by omega)
  have er : r_limitOf_v fr x = r_limitOf_a8 fr x n := by
    unfold r_limitOf_v
    rw [h.1.2.2, Int.toNat_natCast]
  rw [er, hl]
  unfold c2_limitOf_v c2_limitOf_j18_0
  rw [hw.1, s4]
  rcases hw.2 with ⟨h0, e⟩ | ⟨j, hj, e, e2⟩
  · rw [if_pos h0, e, if_pos rfl]
  · have ej : (Int32.ofNat j).toInt = j := at_ofN (by have := h.1.1; omega)
    have hjn : (Int32.ofNat j).toInt.toNat = j := by omega
    have hne : ¬ (Int32.ofNat j).toInt = (-1 : Int32).toInt := by omega
    rw [if_neg (show ¬ n = 0 by omega), e, if_neg hne, hjn, e2]
theorem c3_RL.lim_nn {n : Nat} (h : c3_RL fc fr n) (hm : 0 ≤ (fr 280 38).toInt ∧ (fr 280 38).toInt ≤ 99999) : 0 ≤ (r_limitOf_v fr x).toInt ∧ (r_limitOf_v fr x).toInt ≤ 99999 := by
  have hl := c2_limit_eq (fc := fc) (fr := fr) (x := x) h.1.1 h.own
  have er : r_limitOf_v fr x = r_limitOf_a8 fr x n := by
    unfold r_limitOf_v
    rw [h.1.2.2, Int.toNat_natCast]
  rw [er, hl]
  split
  · omega
  · rename_i hn
    have hw := h.worst (x := x)
    rw [t2_min_i]
    rcases hw.2 with ⟨h0, e⟩ | ⟨j, hj, e, e2⟩
    · omega
    · rw [e2]
      have := c2_own_nn (fc := fc) (C := j) (x := x)
      omega
theorem c3_cur_fc {n : Nat} (h : c3_RL fc fr n) (hst : fc 181 7 = fr 280 3) (hk : c2_Rk fc fr) (hw : ∀ k : Nat, k < 3 → t2_how (fr 280 (64 + k))) (hm : 0 ≤ (fr 280 38).toInt ∧ (fr 280 38).toInt ≤ 99999) :
    r_isLive_v (fl_row fr 280 (upd (fr 280) 5 (r_goCurrent_j9_0 fr))) = r_isLive_v fr ∧
    c2_letCurrent_m fc = (if (r_isLive_v fr).toInt = 0 then fl_row fc 181 (upd (fc 181) 9 (r_goCurrent_j9_0 fr)) else if (r_goCurrent_j9_0 fr).toInt = (fr 280 54).toInt then fl_row fc 181 (upd (fc 181) 9 (r_goCurrent_j9_0 fr)) else c2_countHeldBack_m (fl_row fc 181 (upd (fc 181) 9 (r_goCurrent_j9_0 fr))) (if (fr 280 54).toInt < 0 then (1 : Int32) else (0 : Int32))) := by
  have s20 : fc 184 20 = fr 280 54 := h.2.1 20 (by omega)
  have r5 : ∀ z : Int32, ∀ j : Nat, j ≠ 5 → (fl_row fr 280 (upd (fr 280) 5 z)) 280 j = fr 280 j := fun z j hj => by rw [fl_row_self, upd_ne hj]
  have h1 : c3_RL (fl_row fc 181 (upd (fc 181) 9 (0 : Int32))) fr n := h.congr (by rw [fl_row_self, upd_ne (by decide : 5 ≠ 9)]) (fun p hp => fl_row_ne hp) (fun j _ => rfl)
  have k1 : c2_Rk (fl_row fc 181 (upd (fc 181) 9 (0 : Int32))) fr := hk.congr (fl_row_ne (by decide)) (fun k _ => rfl)
  have l1 : c2_areActual_v (fl_row fc 181 (upd (fc 181) 9 (0 : Int32))) (5 : Int32) = r_isLive_v fr := c2_live_eq (by rw [fl_row_self, upd_ne (by decide : 7 ≠ 9)]; exact hst) k1 hw
  have l2 : ∀ z : Int32, r_isLive_v (fl_row fr 280 (upd (fr 280) 5 z)) = r_isLive_v fr := fun z => by
    have : c2_areActual_v fc (5 : Int32) = r_isLive_v (fl_row fr 280 (upd (fr 280) 5 z)) := c2_live_eq (by rw [r5 z 3 (by omega)]; exact hst) (hk.congr rfl (fun k hk => r5 z _ (by omega))) (fun k hk => by rw [r5 z _ (by omega)]; exact hw k hk)
    rw [← this]
    exact c2_live_eq hst hk hw
  refine ⟨l2 _, ?_⟩
  have ll : ∀ x : Int32, c2_limitOf_v (fl_row fc 181 (upd (fc 181) 9 (0 : Int32))) x = r_limitOf_v fr x := fun x => h1.limit
  unfold c2_letCurrent_m
  simp only [l1, ll, s20]
  have hj : c2_letCurrent_j26_0 fc = if (fr 280 54).toInt < 0 then (1 : Int32) else (0 : Int32) := by
    unfold c2_letCurrent_j26_0
    rw [s20]
  rw [hj]
  have e9 : r_goCurrent_j9_0 fr = if (r_isLive_v fr).toInt = 0 then (0 : Int32) else r_held_v (fr 280 54) (-(r_limitOf_v fr (1 : Int32))) (r_limitOf_v fr (0 : Int32)) := rfl
  by_cases hl : (r_isLive_v fr).toInt = 0
  · rw [if_pos hl, if_pos hl, e9, if_pos hl]
  · rw [if_neg hl, if_neg hl]
    rw [if_neg hl] at e9
    have hh := t2_held_eq (r := fr 280 54) (h.lim_nn (x := (0 : Int32)) hm) (h.lim_nn (x := (1 : Int32)) hm)
    by_cases hr : (fr 280 54).toInt < 0
    · simp only [if_pos hr, hh.1 hr, ← e9]
    · simp only [if_neg hr, hh.2 hr, ← e9]
theorem c3_back_eq {n : Nat} (h : c3_RL fc fr n) (x : Int32) : (∀ C : Nat, C < n → c2_countHeldBack_m fc x (198 + 4 * C) 18 = if r_tightest_v fr x = Int32.ofNat C ∧ ¬ (fr 280 38).toInt < (r_limitBy_v fr (Int32.ofNat C) C x).toInt then fr 280 (444 + 61 * C + 60) + (1 : Int32) else fr 280 (444 + 61 * C + 60)) ∧ (∀ p k : Nat, (∀ C : Nat, C < n → p = 198 + 4 * C → k ≠ 18) → c2_countHeldBack_m fc x p k = fc p k) := by
  have m1 : (-1 : Int32).toInt = -1 := by decide +kernel
  have hw := h.worst (x := x)
  have s4 : fc 184 4 = fr 280 38 := h.2.1 4 (by omega)
  have hn := h.1.1
  unfold c2_countHeldBack_m c2_countHeldBack_j8_0
  rw [hw.1, s4]
  rcases hw.2 with ⟨h0, e⟩ | ⟨j, hj, e, e2⟩
  · rw [e, if_pos rfl]
    refine ⟨fun C hC => absurd hC (by omega), fun p k hp => ?_⟩
    simp only [fl_row, upd]
    repeat' split
    all_goals first | rfl | simp_all
  · have ej : (Int32.ofNat j).toInt = j := at_ofN (by omega)
    have hjn : (Int32.ofNat j).toInt.toNat = j := by omega
    have ho := h.own (x := x) j hj (Int32.ofNat j)
    have hb : fc (198 + 4 * j) 18 = fr 280 (444 + 61 * j + 60) := (h.2.2.2.2 j hj).2.2.2.2.2
    have hne0 : ¬ (Int32.ofNat j).toInt = (-1 : Int32).toInt := by omega
    rw [e, if_neg hne0, hjn, ho, hb]
    refine ⟨fun C hC => ?_, fun p k hp => ?_⟩
    · by_cases hCj : C = j
      · subst hCj
        rw [fl_row_self, upd_self]
        by_cases hl : (fr 280 38).toInt < (r_limitBy_v fr (Int32.ofNat C) C x).toInt
        · rw [if_pos hl, if_neg (fun q => q.2 hl)]
        · rw [if_neg hl, if_pos ⟨rfl, hl⟩]
      · have hne : ¬ (Int32.ofNat j = Int32.ofNat C) := fun q => hCj (by
          have eC : (Int32.ofNat C).toInt = C := at_ofN (by omega)
          rw [q, eC] at ej
          omega)
        rw [fl_row_ne (by omega), if_neg (fun q => hne q.1)]
        exact (h.2.2.2.2 C hC).2.2.2.2.2
    · by_cases hpj : p = 198 + 4 * j
      · subst hpj
        rw [fl_row_self, upd_ne (hp j hj rfl)]
      · rw [fl_row_ne hpj]
theorem c3_cur_eq {n : Nat} (h : c3_RL fc fr n) (hst : fc 181 7 = fr 280 3) (hk : c2_Rk fc fr) (hw : ∀ k : Nat, k < 3 → t2_how (fr 280 (64 + k))) (hm : 0 ≤ (fr 280 38).toInt ∧ (fr 280 38).toInt ≤ 99999) :
    c2_letCurrent_m fc 181 9 = r_goCurrent_j9_0 fr ∧ r_goCurrent_m fr 280 5 = r_goCurrent_j9_0 fr ∧
    (∀ C : Nat, C < n → c2_letCurrent_m fc (198 + 4 * C) 18 = r_goCurrent_m fr 280 (444 + 61 * C + 60)) ∧
    (∀ p k : Nat, (p = 181 → k ≠ 9) → (∀ C : Nat, C < n → p = 198 + 4 * C → k ≠ 18) → c2_letCurrent_m fc p k = fc p k) ∧
    (∀ w : Nat, w ≠ 5 → (∀ C : Nat, C < n → w ≠ 444 + 61 * C + 60) → r_goCurrent_m fr 280 w = fr 280 w) := by
  have m1 : (-1 : Int32).toInt = -1 := by decide +kernel
  have r5 : ∀ z : Int32, ∀ j : Nat, j ≠ 5 → (fl_row fr 280 (upd (fr 280) 5 z)) 280 j = fr 280 j := fun z j hj => by rw [fl_row_self, upd_ne hj]
  have hn := h.1.1
  obtain ⟨e1, e2⟩ := c3_cur_fc h hst hk hw hm
  have hC18 : ∀ C : Nat, C < n → fc (198 + 4 * C) 18 = fr 280 (444 + 61 * C + 60) := fun C hC => (h.2.2.2.2 C hC).2.2.2.2.2
  unfold r_goCurrent_m
  rw [e2, e1]
  generalize hcu : r_goCurrent_j9_0 fr = cu
  have simple : (fl_row fc 181 (upd (fc 181) 9 cu)) 181 9 = cu ∧ (fl_row fr 280 (upd (fr 280) 5 cu)) 280 5 = cu ∧
    (∀ C : Nat, C < n → (fl_row fc 181 (upd (fc 181) 9 cu)) (198 + 4 * C) 18 = (fl_row fr 280 (upd (fr 280) 5 cu)) 280 (444 + 61 * C + 60)) ∧
    (∀ p k : Nat, (p = 181 → k ≠ 9) → (∀ C : Nat, C < n → p = 198 + 4 * C → k ≠ 18) → (fl_row fc 181 (upd (fc 181) 9 cu)) p k = fc p k) ∧
    (∀ w : Nat, w ≠ 5 → (∀ C : Nat, C < n → w ≠ 444 + 61 * C + 60) → (fl_row fr 280 (upd (fr 280) 5 cu)) 280 w = fr 280 w) := by
    refine ⟨by rw [fl_row_self, upd_self], by rw [fl_row_self, upd_self], fun C hC => ?_, fun p k h1 h2 => ?_, fun w h1 _ => r5 _ w h1⟩
    · rw [fl_row_ne (by omega), r5 _ _ (by omega)]
      exact hC18 C hC
    · by_cases hp : p = 181
      · subst hp
        rw [fl_row_self, upd_ne (h1 rfl)]
      · rw [fl_row_ne hp]
  by_cases hl : (r_isLive_v fr).toInt = 0
  · rw [if_pos hl, if_pos hl]
    exact simple
  · rw [if_neg hl, if_neg hl]
    by_cases hq : cu.toInt = (fr 280 54).toInt
    · rw [if_pos hq, if_pos hq]
      exact simple
    · rw [if_neg hq, if_neg hq]
      -- the request isn't 0: the ways are alike
      have hr0 : (fr 280 54).toInt ≠ 0 := fun h0 => hq (by
        have l0 := h.lim_nn (x := (0 : Int32)) hm
        have l1 := h.lim_nn (x := (1 : Int32)) hm
        have n1 : (-(r_limitOf_v fr (1 : Int32))).toInt = -(r_limitOf_v fr (1 : Int32)).toInt := by rw [Int32.toInt_neg]; exact Int.bmod_eq_of_le (by omega) (by omega)
        rw [← hcu]
        unfold r_goCurrent_j9_0 r_held_v
        rw [if_neg hl, if_neg (by omega), if_neg (by omega)])
      have hway : (if (fr 280 54).toInt < 0 then (1 : Int32) else (0 : Int32)) = r_goCurrent_j66_0 fr := by
        unfold r_goCurrent_j66_0
        by_cases hr : (fr 280 54).toInt < 0
        · rw [if_pos hr, if_neg (by omega)]
        · rw [if_neg hr, if_pos (by omega)]
      rw [hway]
      unfold r_goCurrent_j83_0
      rw [hcu]
      generalize r_goCurrent_j66_0 fr = x
      have h2 : c3_RL (fl_row fc 181 (upd (fc 181) 9 cu)) (fl_row fr 280 (upd (fr 280) 5 cu)) n := h.congr (by rw [fl_row_self, upd_ne (by decide : 5 ≠ 9)]) (fun p hp => fl_row_ne hp) (fun j hj => r5 _ j hj)
      obtain ⟨b1, b2⟩ := c3_back_eq h2 x
      have hw2 := h2.worst (x := x)
      obtain ⟨q1, q2, q3, q4, q5⟩ := simple
      refine ⟨(b2 _ _ (fun C hC h => absurd h (by omega))).trans q1, ?_, fun C hC => ?_, fun p k h1 h2 => (b2 p k h2).trans (q4 p k h1 h2), fun w h1 h2 => ?_⟩
      · rw [fl_row_self, upd_ne (by omega), upd_self]
      · rw [b1 C hC, r5 _ 38 (by omega), r5 _ _ (by omega), fl_row_self]
        rcases hw2.2 with ⟨h0, e⟩ | ⟨j, hj, e, -⟩
        · omega
        · have ej : (Int32.ofNat j).toInt = j := at_ofN (by omega)
          have hjn : (Int32.ofNat j).toInt.toNat = j := by omega
          have hne0 : ¬ (Int32.ofNat j).toInt = (-1 : Int32).toInt := by omega
          rw [e, if_neg hne0, hjn]
          by_cases hCj : C = j
          · subst hCj
            rw [upd_self]
            by_cases hl2 : (fr 280 38).toInt < (r_limitBy_v (fl_row fr 280 (upd (fr 280) 5 cu)) (Int32.ofNat C) C x).toInt
            · rw [if_pos hl2, if_neg (fun q => q.2 hl2)]
            · rw [if_neg hl2, if_pos ⟨rfl, hl2⟩]
          · have hne : ¬ (Int32.ofNat j = Int32.ofNat C) := fun q => hCj (by
              have eC : (Int32.ofNat C).toInt = C := at_ofN (by omega)
              rw [q, eC] at ej
              omega)
            rw [upd_ne (by omega), upd_ne (by omega), if_neg (fun q => hne q.1)]
      · rw [fl_row_self]
        rcases hw2.2 with ⟨h0, e⟩ | ⟨j, hj, e, -⟩
        · rw [e, if_pos rfl]
          unfold upd
          repeat' split
          all_goals first | rfl | simp_all
        · have ej : (Int32.ofNat j).toInt = j := at_ofN (by omega)
          have hjn : (Int32.ofNat j).toInt.toNat = j := by omega
          rw [e, hjn, upd_ne (h2 j hj), upd_ne h1]
end C3PCUR



section C3PCELLS
variable {fc fr : t2_F} {C : Nat} {c x : Int32}
theorem c3_cells_eq {n : Nat} (hM : (fc 181 5).toInt.toNat = n) (hN : (fr 280 2).toInt.toNat = n) (hx : fc 181 9 = fr 280 5) (hs : c3_Rs fc fr) (h : ∀ C : Nat, C < n → c2_Rc fc fr C) (hB : ∀ C : Nat, C < n → t2_cap (fc (198 + 4 * C) 0) ∧ (0 ≤ (fc (198 + 4 * C) 8).toInt ∧ (fc (198 + 4 * C) 8).toInt ≤ 3600 * (fc (198 + 4 * C) 0).toInt) ∧ 0 ≤ (fc (198 + 4 * C) 9 + t2_abs_v (fr 280 5)).toInt) (hl : 0 ≤ (fc 184 24 * (3600 : Int32)).toInt) :
    ∀ C : Nat, C < n → c2_Rc (c2_passCells_m fc) (r_goCells_m fr) C ∧ t2_cap (c2_passCells_m fc (198 + 4 * C) 0) := by
  have F4 : ∀ k : Nat, c2_passCells_f2 fc k 184 = fc 184 := fun k => c2_passCells_f2_fr (k := k) (p := 184) (fun j hj => by omega)
  have FC : ∀ C : Nat, c2_passCells_f2 fc C (198 + 4 * C) = fc (198 + 4 * C) := fun C => c2_passCells_f2_fr (k := C) (p := 198 + 4 * C) (fun j hj => by omega)
  have s6 : fc 184 6 = fr 280 40 := hs 6 (by omega)
  have s18 : fc 184 18 = fr 280 52 := hs 18 (by omega)
  have s22 : fc 184 22 = fr 280 56 := hs 22 (by omega)
  have s24 : fc 184 24 = fr 280 58 := hs 24 (by omega)
  have s25 : fc 184 25 = fr 280 59 := hs 25 (by omega)
  have s27 : fc 184 27 = fr 280 61 := hs 27 (by omega)
  have warm : ∀ C : Nat, C < n → c2_passCells_f2 fc n (198 + 4 * C) 6 = r_goCells_f2 fr n 280 (444 + 61 * C + 3) := by
    intro C hC
    obtain ⟨-, -, ⟨h5, h6, -⟩, -⟩ := h C hC
    rw [c2_f2_at hC, c2_pass_6.1, r_f2_in (by decide) hC, r_goWarm_3, FC, F4, hx, r_f2_me (by decide), r_f2_me (by decide), r_f2_lo (by decide), r_f2_lo (by decide), h5, h6, s6]
  have touch := c2_touch_eq hN hM warm s22
  intro C hC
  obtain ⟨⟨h0, h1, h2⟩, ⟨h3, h4⟩, ⟨h5, h6, h7⟩, h8, h9, h18⟩ := h C hC
  obtain ⟨b1, b2, b3⟩ := hB C hC
  have key := c2_pass_old (fc := c2_passCells_f2 fc C) (g := r_goCells_f50 fr C) (C := C) (c := Int32.ofNat C) (x := fr 280 5) (by rw [FC]; exact b1) (by rw [FC]; exact b2) (by rw [FC]; exact b3) (by rw [F4]; exact hl)
    (by rw [r_f50_me (by decide) (by decide), r_f2_oth (by decide) (by decide) (by decide), FC, h0])
    (by rw [r_f50_me (by decide) (by decide), hN, r_f2_in (by decide) hC, r_goWarm_1, r_f2_me (by decide), r_f2_me (by decide), r_f2_lo (by decide), r_f2_lo (by decide), FC, F4, h0, h2, s27])
    (by rw [r_f50_me (by decide) (by decide), r_f2_oth (by decide) (by decide) (by decide), FC, h8])
    (by rw [r_f50_me (by decide) (by decide), r_f2_oth (by decide) (by decide) (by decide), FC, h9])
    (by rw [r_f50_me (by decide) (by decide), r_f2_oth (by decide) (by decide) (by decide), FC, h7])
    (r_f50_lo (by decide)) (by rw [r_f50_lo (by decide), F4, s24]) (by rw [r_f50_lo (by decide), F4, s25]) (by rw [r_f50_lo (by decide), F4, s18])
  obtain ⟨k0, k2, k8, k9, k7, kc, kj⟩ := key
  have P : ∀ j : Nat, j ≠ 6 → c2_passCells_m fc (198 + 4 * C) j = c2_pass_m (c2_passCells_f2 fc C) C (fr 280 5) (198 + 4 * C) j := by
    intro j hj
    unfold c2_passCells_m
    rw [c2_f35_o hj, hM, c2_f2_at hC, hx]
  have Rw : ∀ w : Nat, w < 61 → r_goCells_m fr 280 (444 + 61 * C + w) = r_goOld_m (r_goCells_f50 fr C) (Int32.ofNat C) C 280 (444 + 61 * C + w) := by
    intro w hw
    unfold r_goCells_m
    rw [hN, r_f50_in hw hC]
  have Rs : ∀ w : Nat, w < 61 → w ≠ 0 → w ≠ 1 → w ≠ 3 → w ≠ 4 → w ≠ 5 → w ≠ 9 → r_goCells_m fr 280 (444 + 61 * C + w) = fr 280 (444 + 61 * C + w) := fun w hw a0 a1 a3 a4 a5 a9 => r_f50_same hw a0 a1 a3 a4 a5 a9
  have p0 : c2_passCells_m fc (198 + 4 * C) 0 = r_goCells_m fr 280 (444 + 61 * C + 0) := by rw [P 0 (by decide), Rw 0 (by decide), k0]
  have p2 : c2_passCells_m fc (198 + 4 * C) 2 = r_goCells_m fr 280 (444 + 61 * C + 1) := by rw [P 2 (by decide), Rw 1 (by decide), k2]
  have pc : t2_cap (c2_passCells_m fc (198 + 4 * C) 0) := by rw [P 0 (by decide)]; exact kc
  have p3 : c2_passCells_m fc (198 + 4 * C) 3 = r_partOf_v (r_goCells_m fr) 0 C := by
    have e := (c2_pass_6 (f := c2_passCells_f2 fc C) (C := C) (x := fr 280 5)).2.1
    rw [← P 3 (by decide), ← P 2 (by decide), ← P 0 (by decide)] at e
    rw [e, ← t2_partAt_eq pc, p0, p2]
    rfl
  have p4 : c2_passCells_m fc (198 + 4 * C) 4 = t2_rb (r_partOf_v (r_goCells_m fr) 0 C) := by
    have e := (c2_pass_6 (f := c2_passCells_f2 fc C) (C := C) (x := fr 280 5)).2.2
    rw [← P 4 (by decide), ← P 3 (by decide)] at e
    rw [e, p3]
  refine ⟨⟨⟨p0, ?_, p2⟩, ⟨p3, p4⟩, ⟨?_, ?_, ?_⟩, ?_, ?_, ?_⟩, pc⟩
  · rw [P 1 (by decide), kj 1 (by omega), FC, h1, Rs 6 (by decide) (by decide) (by decide) (by decide) (by decide) (by decide) (by decide)]
  · rw [P 5 (by decide), kj 5 (by omega), FC, h5, Rs 2 (by decide) (by decide) (by decide) (by decide) (by decide) (by decide) (by decide)]
  · have := touch (n - 1) (Nat.le_refl _) C hC
    unfold c2_passCells_m r_goCells_m
    rw [hM, this, r_f50_out (by decide) (by decide) (by decide) (by decide) (by decide) (by decide), hN]
  · rw [P 7 (by decide), k7, Rw 9 (by decide)]
  · rw [P 8 (by decide), k8, Rw 4 (by decide)]
  · rw [P 9 (by decide), k9, Rw 5 (by decide)]
  · rw [P 18 (by decide), kj 18 (by omega), FC, h18, Rs 60 (by decide) (by decide) (by decide) (by decide) (by decide) (by decide) (by decide)]
end C3PCELLS



section C3PBAL
variable {fc fr F G : t2_F} {C n : Nat}
def c3_RB (fc fr : t2_F) (n : Nat) : Prop := c3_Rs fc fr ∧ (∀ C : Nat, C < n → c2_Rc fc fr C ∧ t2_cap (fc (198 + 4 * C) 0) ∧ t2_ck fr C) ∧ fc 181 14 = fr 280 11 ∧ fc 181 15 = fr 280 12 ∧ fc 181 11 = fr 280 8 ∧ fc 181 13 = fr 280 10 ∧ fc 181 16 = fr 280 13
theorem c3_RB.congrG (h : c3_RB fc fr n) (e : G 280 = fr 280) : c3_RB fc G n := by
  obtain ⟨hs, hc, e14, e15, e11, e13, e16⟩ := h
  refine ⟨hs.congr rfl (fun k _ => by rw [e]), fun C hC => ⟨(hc C hC).1.congr rfl (fun k _ => by rw [e]), (hc C hC).2.1, c2_ck_congr (hc C hC).2.2 (by rw [e]) (by rw [e])⟩, ?_, ?_, ?_, ?_, ?_⟩ <;> rw [e] <;> assumption
theorem c3_sh_eq {A B : Nat} {cA cB : Int32} (hA : A < n) (hB : B < n) (hAB : A ≠ B) (h : c3_RB fc fr n) (hG : G 280 = r_sh fr cA cB A B 280) : c3_RB (c2_sh fc A B) G n := by
  obtain ⟨hs, hc, e14, e15, e11, e13, e16⟩ := h
  have rA := (hc A hA).1
  have rB := (hc B hB).1
  have capA := (hc A hA).2.1
  have capB := (hc B hB).2.1
  have s15 : fc 184 15 = fr 280 49 := hs 15 (by omega)
  have s16 : fc 184 16 = fr 280 50 := hs 16 (by omega)
  have a0 := rA.1.1
  have a2 := rA.1.2.2
  have a8 := rA.2.2.2.1
  have b0 := rB.1.1
  have b2 := rB.1.2.2
  have b8 := rB.2.2.2.1
  have ho : r_lesser_v (fr 280 49) (fr 280 (444 + 61 * A + 1)) = t2_min_v (fc 184 15) (fc (198 + 4 * A) 2) := by rw [t2_les, s15, a2]
  have hi : r_lesser_v (t2_min_v (fc 184 15) (fc (198 + 4 * A) 2) * (fr 280 50) / (100 : Int32)) (((3600 : Int32) * (fr 280 (444 + 61 * B + 0))) - (fr 280 (444 + 61 * B + 1))) = t2_min_v (((t2_min_v (fc 184 15) (fc (198 + 4 * A) 2)) * (fc 184 16)) / (100 : Int32)) (((fc (198 + 4 * B) 0) * (3600 : Int32)) - (fc (198 + 4 * B) 2)) := by rw [t2_les, s16, b0, b2, t2_m32 (3600 : Int32)]
  obtain ⟨⟨g1, g2⟩, ⟨g3, g4⟩, go, g11, g12⟩ := r_sh_w (f := fr) (cA := cA) (cB := cB) hAB ho hi
  obtain ⟨⟨wA2, wA3, wA4, wA8, wAo⟩, ⟨wB2, wB3, wB4, wB8, wBo⟩, wp, wo, w14, w15⟩ := c2_sh_w (f := fc) hAB
  refine ⟨fun k hk => ?_, fun C hC => ?_, ?_, ?_, ?_, ?_, ?_⟩
  · rw [wp 184 (by decide) (by omega) (by omega), hG, go (34 + k) (by omega) (by omega) (by omega) (by omega) (by omega) (by omega)]
    exact hs k hk
  · by_cases eA : C = A
    · subst eA
      have k := c2_Rc_new (F := c2_sh fc C B) (G := G) rA capA (by rw [wA2, hG, g1, ← a2, ← a0, t2_m32 (3600 : Int32), Int32.sub_eq_add_neg]; rfl) wA3 wA4 (by rw [wA8, hG, g2, ← a8, ← a0, t2_m32 (3600 : Int32), Int32.sub_eq_add_neg]; rfl) wAo (fun w hw h1 h4 => by rw [hG]; exact go _ (by omega) (by omega) (by omega) (by omega) (by omega) (by omega))
      exact ⟨k.1, k.2, c2_ck_held (hc C hC).2.2.1 (by rw [hG]; exact go _ (by omega) (by omega) (by omega) (by omega) (by omega) (by omega)) (by rw [hG]; exact g1)⟩
    · by_cases eB : C = B
      · subst eB
        have k := c2_Rc_new (F := c2_sh fc A C) (G := G) rB capB (by rw [wB2, hG, g3, ← b2, ← b0, t2_m32 (3600 : Int32)]; rfl) wB3 wB4 (by rw [wB8, hG, g4, ← b8, ← b0, t2_m32 (3600 : Int32)]; rfl) wBo (fun w hw h1 h4 => by rw [hG]; exact go _ (by omega) (by omega) (by omega) (by omega) (by omega) (by omega))
        exact ⟨k.1, k.2, c2_ck_held (hc C hC).2.2.1 (by rw [hG]; exact go _ (by omega) (by omega) (by omega) (by omega) (by omega) (by omega)) (by rw [hG]; exact g3)⟩
      · have ep := wp (198 + 4 * C) (by omega) (by omega) (by omega)
        have eg : ∀ k : Nat, k < 61 → G 280 (444 + 61 * C + k) = fr 280 (444 + 61 * C + k) := fun k hk => by rw [hG]; exact go _ (by omega) (by omega) (by omega) (by omega) (by omega) (by omega)
        exact ⟨(hc C hC).1.congr ep eg, by rw [ep]; exact (hc C hC).2.1, c2_ck_congr (hc C hC).2.2 (eg 0 (by decide)) (eg 1 (by decide))⟩
  · rw [w14, hG, g11, e14]
  · rw [w15, hG, g12, e15]
  · rw [wo 11 (by decide) (by decide), hG, go 8 (by omega) (by omega) (by omega) (by omega) (by omega) (by omega), e11]
  · rw [wo 13 (by decide) (by decide), hG, go 10 (by omega) (by omega) (by omega) (by omega) (by omega) (by omega), e13]
  · rw [wo 16 (by decide) (by decide), hG, go 13 (by omega) (by omega) (by omega) (by omega) (by omega) (by omega), e16]
theorem c3_shuttle_eq {i : Nat} (hi : i + 1 < n) (h : c3_RB fc fr n) : c3_RB (c2_shuttle_m fc i) (r_shuttle_m fr (Int32.ofNat i) i) n := by
  have hs14 : fc 184 14 = fr 280 48 := h.1 14 (by omega)
  have pi : fc (198 + 4 * i) 3 = r_partOf_v fr (Int32.ofNat i) i := (h.2.1 i (by omega)).1.2.1.1
  have pj : fc (198 + 4 * (i + 1)) 3 = r_partOf_v fr (Int32.ofNat i + (1 : Int32)) (i + 1) := (h.2.1 (i + 1) hi).1.2.1.1
  have bi : 0 ≤ (r_partOf_v fr (Int32.ofNat i) i).toInt ∧ (r_partOf_v fr (Int32.ofNat i) i).toInt ≤ 1000 := t2_ckp (h.2.1 i (by omega)).2.2
  have bj : 0 ≤ (r_partOf_v fr (Int32.ofNat i + (1 : Int32)) (i + 1)).toInt ∧ (r_partOf_v fr (Int32.ofNat i + (1 : Int32)) (i + 1)).toInt ≤ 1000 := t2_ckp (h.2.1 (i + 1) hi).2.2
  have hG := r_shuttle_sh (f := fr) (c := Int32.ofNat i) (C := i)
  rw [c2_shuttle_sh, hs14, pi, pj]
  have hd : (r_partOf_v fr (Int32.ofNat i) i - r_partOf_v fr (Int32.ofNat i + (1 : Int32)) (i + 1)).toInt = (r_partOf_v fr (Int32.ofNat i) i).toInt - (r_partOf_v fr (Int32.ofNat i + (1 : Int32)) (i + 1)).toInt := at_sub32 (by omega) (by omega)
  by_cases h1 : (fr 280 48).toInt < (r_size_v (r_partOf_v fr (Int32.ofNat i) i - r_partOf_v fr (Int32.ofNat i + (1 : Int32)) (i + 1))).toInt
  · rw [if_pos h1] at hG
    have h1' : (fr 280 48).toInt < (t2_abs_v (r_partOf_v fr (Int32.ofNat i) i - r_partOf_v fr (Int32.ofNat i + (1 : Int32)) (i + 1))).toInt := h1
    rw [if_pos h1']
    by_cases h2 : 0 < (r_partOf_v fr (Int32.ofNat i) i - r_partOf_v fr (Int32.ofNat i + (1 : Int32)) (i + 1)).toInt
    · rw [if_pos h2] at hG
      rw [if_pos (by omega)]
      exact c3_sh_eq (by omega) hi (by omega) h hG
    · rw [if_neg h2] at hG
      rw [if_neg (by omega)]
      exact c3_sh_eq hi (by omega) (by omega) h hG
  · rw [if_neg h1] at hG
    have h1' : ¬ (fr 280 48).toInt < (t2_abs_v (r_partOf_v fr (Int32.ofNat i) i - r_partOf_v fr (Int32.ofNat i + (1 : Int32)) (i + 1))).toInt := h1
    rw [if_neg h1']
    exact h.congrG hG
theorem c3_shunt_two (hc : (fc 181 5).toInt.toNat = n) (hg : (fr 280 2).toInt.toNat = n) (hn : n ≤ 16) (h : c3_RB fc fr n) (h16 : fc 181 16 = 0) (ho : 0 ≤ (fr 280 47).toInt ∧ (fr 280 47).toInt ≤ 16) : r_SI fr (r_shuntAll_m fr) n ∧ c2_GI fc (c2_shuntCells_m fc) (r_shuntAll_m fr 280 13) n n := by
  obtain ⟨hs, hC, e14, e15, e11, e13, e16⟩ := h
  have s2 : fc 184 2 = fr 280 36 := hs 2 (by omega)
  have s12 : fc 184 12 = fr 280 46 := hs 12 (by omega)
  have s13 : fc 184 13 = fr 280 47 := hs 13 (by omega)
  have s14 : fc 184 14 = fr 280 48 := hs 14 (by omega)
  have hj : c2_shuntCells_j13_0 fc = r_shuntAll_j24_0 fr := by
    unfold c2_shuntCells_j13_0 r_shuntAll_j24_0
    rw [e11, s2, s13]
  have hl : c2_leastPart_v fc = r_leastPart_v fr := by
    unfold c2_leastPart_v r_leastPart_v
    rw [hc, hg]
    exact c2_least_eq (fun C h => (hC C h).1)
  obtain ⟨si, wf⟩ := c2_chosen (X := (r_shuntAll_j24_0 fr).toInt.toNat) (above := r_leastPart_v fr + fr 280 48) (a := c2_shuntCells_j13_0 fc) (fc := fc) (g0 := fr) hc hn hg (fun C h => (hC C h).1.2.1.1) h16 (e16.symm.trans h16) (Eq.refl _) (Eq.refl _) ho
  exact ⟨si, c2_given hc hn (c2_chosen0 hj hl s14 wf)⟩
theorem c3_shunt_eq (hc : (fc 181 5).toInt.toNat = n) (hg : (fr 280 2).toInt.toNat = n) (hn : n ≤ 16) (h : c3_RB fc fr n) (h16 : fc 181 16 = 0) (ho : 0 ≤ (fr 280 47).toInt ∧ (fr 280 47).toInt ≤ 16) : c3_RB (c2_shuntCells_m fc) (r_shuntAll_m fr) n := by
  obtain ⟨hs, hC, e14, e15, e11, e13, e16⟩ := h
  have s12 : fc 184 12 = fr 280 46 := hs 12 (by omega)
  obtain ⟨si, gi⟩ := c3_shunt_two hc hg hn ⟨hs, hC, e14, e15, e11, e13, e16⟩ h16 ho
  generalize hb : r_shuntAll_m fr 280 13 = b at gi
  obtain ⟨q1, q2, q3, q4, q5, q6⟩ := gi
  obtain ⟨-, p2, p3, p4, p5⟩ := si
  rw [hb] at p2 p4 p5
  refine ⟨fun k hk => ?_, fun C h => ?_, ?_, ?_, ?_, ?_, ?_⟩
  · rw [q6, p3 (34 + k) (by omega) (by omega) (by omega) (fun D hD => ⟨by omega, by omega⟩)]
    exact hs k hk
  · have rC := (hC C h).1
    have capC := (hC C h).2.1
    have go : ∀ w : Nat, w < 61 → w ≠ 1 → w ≠ 4 → r_shuntAll_m fr 280 (444 + 61 * C + w) = fr 280 (444 + 61 * C + w) := fun w hw h1 h4 => p3 _ (by omega) (by omega) (by omega) (fun D hD => ⟨by omega, by omega⟩)
    by_cases hbt : t2_bt b C = true
    · obtain ⟨x2, x3, x4, x8, xo⟩ := (q1 C h).1 ⟨h, hbt⟩
      obtain ⟨y1, y4⟩ := (p2 C h).1 hbt
      have k := c2_Rc_new (F := c2_shuntCells_m fc) (G := r_shuntAll_m fr) rC capC (by rw [x2, y1, ← rC.1.2.2, ← rC.1.1, t2_les, s12, t2_m32 (3600 : Int32)]; rfl) x3 x4 (by rw [x8, y4, ← rC.2.2.2.1, ← rC.1.1, s12, t2_m32 (3600 : Int32)]; rfl) xo go
      exact ⟨k.1, k.2, c2_ck_held (hC C h).2.2.1 (go 0 (by decide) (by decide) (by decide)) y1⟩
    · have x := (q1 C h).2 (fun q => hbt q.2)
      obtain ⟨y1, y4⟩ := (p2 C h).2 (by cases e : t2_bt b C with | true => exact absurd e hbt | false => rfl)
      have eg : ∀ k : Nat, k < 61 → r_shuntAll_m fr 280 (444 + 61 * C + k) = fr 280 (444 + 61 * C + k) := fun k hk => by
        by_cases k1 : k = 1
        · rw [k1]; exact y1
        · by_cases k4 : k = 4
          · rw [k4]; exact y4
          · exact go k hk k1 k4
      exact ⟨rC.congr x eg, by rw [x]; exact capC, c2_ck_congr (hC C h).2.2 (eg 0 (by decide)) (eg 1 (by decide))⟩
  · rw [q5 14 (by decide) (by decide) (by decide), p3 11 (by decide) (by decide) (by decide) (fun D hD => ⟨by omega, by omega⟩), e14]
  · rw [q5 15 (by decide) (by decide) (by decide), p3 12 (by decide) (by decide) (by decide) (fun D hD => ⟨by omega, by omega⟩), e15]
  · rw [q3, p4, e11]
  · have ev : ∀ k : Nat, k ≤ n → t2_sb b (fun C => t2_min_v (fc 184 12) (fc (198 + 4 * C) 2)) k = t2_sb b (fun C => r_lesser_v (fr 280 46) (fr 280 (444 + 61 * C + 1))) k := by
      intro k
      induction k with
      | zero => intro _; rw [t2_sb_z, t2_sb_z]
      | succ k ih =>
        intro hk
        unfold t2_sb
        rw [ih (by omega), t2_les, s12, (hC k (by omega)).1.1.2.2]
    rw [q2, p5, e13, ev n (Nat.le_refl n)]
  · rw [q4, hb]
theorem c3_balance_eq (hc : (fc 181 5).toInt.toNat = n) (hg : (fr 280 2).toInt.toNat = n) (hn : n ≤ 16) (h : c3_RB fc fr n) (hl : fc 190 3 = fr 280 6) (ht : fc 181 6 = fr 280 7) (ho : 0 ≤ (fr 280 47).toInt ∧ (fr 280 47).toInt ≤ 16) : c3_RB (c2_balance_m fc) (r_goBalance_m fr) n := by
  have c1 : (1 : Int32).toInt = 1 := by decide +kernel
  have c2 : (2 : Int32).toInt = 2 := by decide +kernel
  have s11 : fc 184 11 = fr 280 45 := h.1 11 (by omega)
  have hz : c3_RB (fl_row fc 181 (upd (fc 181) 16 (0 : Int32))) (fl_row (fl_row fr 280 (upd (fr 280) 13 (0 : Int32))) 277 (upd (fr 277) 6 (0 : Int32))) n := by
    obtain ⟨hs, hC, e14, e15, e11, e13, e16⟩ := h
    have g : ∀ w : Nat, w ≠ 13 → (fl_row (fl_row fr 280 (upd (fr 280) 13 (0 : Int32))) 277 (upd (fr 277) 6 (0 : Int32))) 280 w = fr 280 w := fun w hw => by rw [fl_row_ne (by decide), fl_row_self, upd_ne hw]
    refine ⟨hs.congr (fl_row_ne (by decide)) (fun k hk => g _ (by omega)), fun C hC' => ⟨(hC C hC').1.congr (fl_row_ne (by omega)) (fun k hk => g _ (by omega)), by rw [fl_row_ne (by omega)]; exact (hC C hC').2.1, c2_ck_congr (hC C hC').2.2 (g _ (by omega)) (g _ (by omega))⟩, ?_, ?_, ?_, ?_, ?_⟩
    · rw [g 11 (by decide), fl_row_self, upd_ne (by decide), e14]
    · rw [g 12 (by decide), fl_row_self, upd_ne (by decide), e15]
    · rw [g 8 (by decide), fl_row_self, upd_ne (by decide), e11]
    · rw [g 10 (by decide), fl_row_self, upd_ne (by decide), e13]
    · rw [fl_row_self, upd_self, fl_row_ne (by decide), fl_row_self, upd_self]
  unfold c2_balance_m r_goBalance_m
  rw [hl, s11]
  by_cases h6 : (fr 280 6).toInt = 0
  · rw [if_pos h6, if_pos h6]
    by_cases m1 : (fr 280 45).toInt = (1 : Int32).toInt
    · rw [if_pos m1, if_neg (show ¬ (fr 280 45).toInt = (2 : Int32).toInt by omega), if_pos m1]
      refine c3_shunt_eq ?_ ?_ hn hz ?_ ?_
      · rw [fl_row_self, upd_ne (by decide)]
        exact hc
      · rw [fl_row_ne (by decide), fl_row_self, upd_ne (by decide)]
        exact hg
      · rw [fl_row_self, upd_self]
      · rw [fl_row_ne (by decide), fl_row_self, upd_ne (by decide)]
        exact ho
    · rw [if_neg m1]
      by_cases m2 : (fr 280 45).toInt = (2 : Int32).toInt
      · rw [if_pos m2, if_pos m2]
        have ej : c2_balance_j58_0 fc = r_goBalance_j48_0 fr := by
          unfold c2_balance_j58_0 r_goBalance_j48_0
          rw [ht]
        have loop : ∀ k : Nat, k ≤ (n - (r_goBalance_j48_0 fr).toInt.toNat) / 2 → c3_RB (c2_balance_f67 fc k) (r_goBalance_f57 fr k) n := by
          intro k
          induction k with
          | zero =>
            intro _
            show c3_RB (fl_row fc 181 (upd (fc 181) 16 (0 : Int32))) (if (fr 280 45).toInt = (1 : Int32).toInt then _ else _) n
            rw [if_neg m1]
            exact hz
          | succ k ih =>
            intro hk
            show c3_RB (c2_shuttle_m (c2_balance_f67 fc k) ((c2_balance_j58_0 fc).toInt.toNat + 2 * k)) (r_shuttle_m (r_goBalance_f57 fr k) (Int32.ofNat ((r_goBalance_j48_0 fr).toInt.toNat + 2 * k)) ((r_goBalance_j48_0 fr).toInt.toNat + 2 * k)) n
            rw [ej]
            exact c3_shuttle_eq (by omega) (ih (by omega))
        rw [hc, hg, ej]
        exact loop _ (Nat.le_refl _)
      · rw [if_neg m2, if_neg m2, if_neg m1]
        exact hz
  · rw [if_neg h6, if_neg h6]
    exact hz
end C3PBAL

section C3PMEAS
variable {fc fr f F G : t2_F} {C n k : Nat} {c x y z : Int32}
theorem c3_cell6 (hn : (fr 280 2).toInt.toNat = n) (hC : C < n) (h : c2_R6 fc fr C) (ck : t2_ck fr C) (hx : fc 181 9 = fr 280 5) (hy : fc 181 10 = fr 280 14) (hrst : fc 181 12 = fr 280 9) (hs : c3_Rs fc fr) (hr : 1 ≤ (fr 280 53).toInt) :
    c2_Rc (c2_sMeasure_f46 fc n) (r_mid fr) C ∧ t2_cap (c2_sMeasure_f46 fc n (198 + 4 * C) 0) ∧ c2_Rm (c2_sMeasure_f46 fc n) (r_mid fr) C ∧ c2_sMeasure_f46 fc n (198 + 4 * C) 11 = r_mid fr 280 (444 + 61 * C + 14) ∧ r_mid fr 280 (444 + 61 * C + 15) = 1 ∧ c2_sMeasure_f46 fc n (198 + 4 * C) 10 = fr 280 (444 + 61 * C + 15) ∧ (∀ j : Nat, (j = 4 ∨ j = 5 ∨ j = 7) → c2_sMeasure_f46 fc n (198 + 4 * C) j = fc (198 + 4 * C) j) ∧ t2_ck (r_mid fr) C := by
  have hj := c2_meas_j15 h hx hy
  obtain ⟨hc, hcap, hf, ⟨m14, m15, m16, m17⟩, h10, h01, h11, hb1, hb2⟩ := h
  obtain ⟨⟨a0, a1, a2⟩, ⟨a3, a4⟩, ⟨a5, a6, a7⟩, a8, a9, a18⟩ := id hc
  have ev := c2_volts_eq (c := Int32.ofNat C) hc hf
  have s19 : fc 184 19 = fr 280 53 := hs 19 (by omega)
  have ej : c2_sMeasure_j5_0 fc = r_goMeasure_j144_0 fr := by
    unfold c2_sMeasure_j5_0 r_goMeasure_j144_0
    rw [hx, hrst]
  have P3 : r_partOf_v (r_mid fr) 0 C = r_partOf_v fr 0 C := by
    unfold r_partOf_v
    rw [r_mid_s (by omega), r_mid_s (by omega)]
  obtain ⟨g11, g14, g15, g13⟩ := r_f17_w (f := fr) (C := C) (k := n) hC
  have c1 : (1 : Int32).toInt = 1 := by decide +kernel
  have c0 : (0 : Int32).toInt = 0 := rfl
  have ckm : t2_ck (r_mid fr) C := c2_ck_congr ck (r_mid_s (by omega)) (r_mid_s (by omega))
  by_cases hR : (r_goMeasure_j144_0 fr).toInt = (fr 280 53).toInt
  · -- resting
    have hcur : (fr 280 5).toInt = 0 := by
      apply Classical.byContradiction
      intro q
      unfold r_goMeasure_j144_0 at hR
      rw [if_neg q] at hR
      omega
    have hcur0 : fr 280 5 = 0 := Int32.toInt.inj hcur
    have hz : ¬ (c2_sMeasure_j35_0 fc).toInt = 0 := by
      unfold c2_sMeasure_j35_0
      rw [ej, s19, if_pos hR]
      omega
    have eM : r_mid fr = r_goMeasure_f163 fr n := by
      unfold r_mid
      rw [if_pos hR, hn]
    have evM : ∀ f' : t2_F, (∀ w : Nat, (w = 0 ∨ w = 1 ∨ w = 2 ∨ w = 9) → f' 280 (444 + 61 * C + w) = fr 280 (444 + 61 * C + w)) → f' 280 5 = fr 280 5 → r_voltsOf_v f' (Int32.ofNat C) C = r_voltsOf_v fr (Int32.ofNat C) C := fun f' q q5 => r_volts_c q5 (q 0 (by omega)) (q 1 (by omega)) (q 2 (by omega)) (q 9 (by omega))
    have q163 : ∀ w : Nat, (w = 0 ∨ w = 1 ∨ w = 2 ∨ w = 9) → r_goMeasure_f163 fr C 280 (444 + 61 * C + w) = fr 280 (444 + 61 * C + w) := fun w hw => by
      rw [r_f163_me (by omega), hn, r_f17_o (by omega) (by omega) (by omega) (by omega) (by omega)]
    have eV := evM (r_goMeasure_f163 fr C) q163 (r_f163_lo (by decide) (by decide) (by decide))
    generalize hP : t2_pb (r_voltsOf_v fr (Int32.ofNat C) C) = P
    have hPb : 0 ≤ P.toInt ∧ P.toInt ≤ 1000 := by rw [← hP]; exact t2_pb_b _
    have ev0 : c2_voltsAt_v fc C (0 : Int32) = r_voltsOf_v fr (Int32.ofNat C) C := by rw [← ev, hcur0]
    obtain ⟨w14, w11, w16, w17, w8, w15, wo⟩ := c2_f46_w1 (f := fc) (C := C) (k := n) (P := P) hC hz (by rw [ev0, hP])
    obtain ⟨r4, r12, r16, r13⟩ := r_rest_w (g := r_goMeasure_f163 fr C) (c := Int32.ofNat C) (C := C)
    rw [eV, hP] at r4 r16
    obtain ⟨n1, n2, n3, n4⟩ := t2_chg (P := P) hPb hcap
    have in_ : ∀ w : Nat, w < 61 → r_mid fr 280 (444 + 61 * C + w) = r_restNow_m (r_goMeasure_f163 fr C) (Int32.ofNat C) C 280 (444 + 61 * C + w) := fun w hw => by
      rw [eM, r_f163_in hw hC]
    have cf : (fc (198 + 4 * C) 0 * (3600 : Int32)).toInt = (fc (198 + 4 * C) 0).toInt * 3600 := t2_full_i hcap
    have p8 : c2_sMeasure_f46 fc n (198 + 4 * C) 8 = r_mid fr 280 (444 + 61 * C + 4) := by
      rw [w8, t2_held_id n2 (by omega), in_ 4 (by decide), r4]
      unfold r_chargeAt_v
      rw [q163 0 (by omega), ← a0, n4]
    have p15 : c2_sMeasure_f46 fc n (198 + 4 * C) 15 = r_mid fr 280 (444 + 61 * C + 12) := by
      rw [w15, in_ 12 (by decide), r12]
      unfold r_restNow_j32_0
      rw [eV, hP, r_f163_me (by decide), r_f163_me (by decide), r_f163_me (by decide), hn, r_f17_o (by decide) (by decide) (by decide) (by decide) (by decide), r_f17_o (by decide) (by decide) (by decide) (by decide) (by decide), g13, m17, m15, m16, hx]
      have hw := t2_abs_d (p := P) (q := fr 280 (444 + 61 * C + 16)) hPb ⟨hb1, hb2⟩
      have hg : ((1000 : Int64) * (r_size_v (fr 280 (444 + 61 * C + 13) + fr 280 5)).toInt64) / ((3600 : Int32) * (r_size_v (P - fr 280 (444 + 61 * C + 16)))).toInt64 = (((t2_abs_v (fr 280 (444 + 61 * C + 13) + fr 280 5)).toInt64) * (1000 : Int64)) / (((t2_abs_v (P - fr 280 (444 + 61 * C + 16))).toInt64) * (3600 : Int64)) := t2_gue hw
      rw [hg]
      rfl
    refine ⟨⟨⟨?_, ?_, ?_⟩, ⟨?_, ?_⟩, ⟨?_, ?_, ?_⟩, p8, ?_, ?_⟩, ?_, ⟨?_, p15, ?_, ?_⟩, ?_, ?_, ?_, fun j hj => wo j (by omega) (by omega) (by omega) (by omega) (by omega) (by omega), ckm⟩
    · rw [wo 0 (by decide) (by decide) (by decide) (by decide) (by decide) (by decide), r_mid_s (by omega), a0]
    · rw [wo 1 (by decide) (by decide) (by decide) (by decide) (by decide) (by decide), r_mid_s (by omega), a1]
    · rw [wo 2 (by decide) (by decide) (by decide) (by decide) (by decide) (by decide), r_mid_s (by omega), a2]
    · rw [wo 3 (by decide) (by decide) (by decide) (by decide) (by decide) (by decide), P3, a3]
    · rw [wo 4 (by decide) (by decide) (by decide) (by decide) (by decide) (by decide), P3, a4]
    · rw [wo 5 (by decide) (by decide) (by decide) (by decide) (by decide) (by decide), r_mid_s (by omega), a5]
    · rw [wo 6 (by decide) (by decide) (by decide) (by decide) (by decide) (by decide), r_mid_s (by omega), a6]
    · rw [wo 7 (by decide) (by decide) (by decide) (by decide) (by decide) (by decide), r_mid_s (by omega), a7]
    · rw [wo 9 (by decide) (by decide) (by decide) (by decide) (by decide) (by decide), r_mid_s (by omega), a9]
    · rw [wo 18 (by decide) (by decide) (by decide) (by decide) (by decide) (by decide), r_mid_s (by omega), a18]
    · rw [wo 0 (by decide) (by decide) (by decide) (by decide) (by decide) (by decide)]
      exact hcap
    · rw [w14, hj, eM, r_f163_o (by decide) (by decide) (by decide) (by decide) (by decide), hn, g11]
    · rw [w16, in_ 13 (by decide), r13]
    · rw [w17, in_ 16 (by decide), r16]
    · rw [w11, hx, ev, eM, r_f163_o (by decide) (by decide) (by decide) (by decide) (by decide), hn, g14]
    · rw [eM, r_f163_o (by decide) (by decide) (by decide) (by decide) (by decide), hn, g15]
    · rw [wo 10 (by decide) (by decide) (by decide) (by decide) (by decide) (by decide), h10]
  · have hz : (c2_sMeasure_j35_0 fc).toInt = 0 := by
      unfold c2_sMeasure_j35_0
      rw [ej, s19, if_neg hR]
      exact c0
    have in_ : ∀ w : Nat, w < 61 → r_mid fr 280 (444 + 61 * C + w) = r_goMeasure_f17 fr n 280 (444 + 61 * C + w) := fun w hw => by
      unfold r_mid
      rw [if_neg hR, fl_row_self, upd_ne (by omega), upd_ne (by omega), hn]
    have ino : ∀ w : Nat, w < 61 → w ≠ 11 → w ≠ 14 → w ≠ 15 → w ≠ 13 → r_mid fr 280 (444 + 61 * C + w) = fr 280 (444 + 61 * C + w) := fun w hw x1 x2 x3 x4 => by
      rw [in_ w hw, r_f17_o hw x1 x2 x3 x4]
    obtain ⟨w14, w11, w16, wo⟩ := c2_f46_w0 (f := fc) (C := C) (k := n) hC hz
    refine ⟨⟨⟨?_, ?_, ?_⟩, ⟨?_, ?_⟩, ⟨?_, ?_, ?_⟩, ?_, ?_, ?_⟩, ?_, ⟨?_, ?_, ?_, ?_⟩, ?_, ?_, ?_, fun j hj => wo j (by omega) (by omega) (by omega), ckm⟩
    · rw [wo 0 (by decide) (by decide) (by decide), r_mid_s (by omega), a0]
    · rw [wo 1 (by decide) (by decide) (by decide), r_mid_s (by omega), a1]
    · rw [wo 2 (by decide) (by decide) (by decide), r_mid_s (by omega), a2]
    · rw [wo 3 (by decide) (by decide) (by decide), P3, a3]
    · rw [wo 4 (by decide) (by decide) (by decide), P3, a4]
    · rw [wo 5 (by decide) (by decide) (by decide), r_mid_s (by omega), a5]
    · rw [wo 6 (by decide) (by decide) (by decide), r_mid_s (by omega), a6]
    · rw [wo 7 (by decide) (by decide) (by decide), r_mid_s (by omega), a7]
    · rw [wo 8 (by decide) (by decide) (by decide), ino 4 (by decide) (by decide) (by decide) (by decide) (by decide), a8]
    · rw [wo 9 (by decide) (by decide) (by decide), r_mid_s (by omega), a9]
    · rw [wo 18 (by decide) (by decide) (by decide), r_mid_s (by omega), a18]
    · rw [wo 0 (by decide) (by decide) (by decide)]
      exact hcap
    · rw [w14, hj, in_ 11 (by decide), g11]
    · rw [wo 15 (by decide) (by decide) (by decide), ino 12 (by decide) (by decide) (by decide) (by decide) (by decide), m15]
    · rw [w16, in_ 13 (by decide), g13, m16, hx]
    · rw [wo 17 (by decide) (by decide) (by decide), ino 16 (by decide) (by decide) (by decide) (by decide) (by decide), m17]
    · rw [w11, hx, ev, in_ 14 (by decide), g14]
    · rw [in_ 15 (by decide), g15]
    · rw [wo 10 (by decide) (by decide) (by decide), h10]
end C3PMEAS

section C3PTAP
variable {fc fr f F G : t2_F} {C n k : Nat} {c x y z : Int32}
theorem c3_measure_eq (hn1 : (fc 181 5).toInt = n) (hn2 : (fr 280 2).toInt = n) (hx : fc 181 9 = fr 280 5) (hy : fc 181 10 = fr 280 14) (hrst : fc 181 12 = fr 280 9) (hbus : fc 181 8 = fr 280 4) (hst : fc 181 7 = fr 280 3) (hs : c3_Rs fc fr) (hk : c2_Rk fc fr) (hw : ∀ k : Nat, k < 3 → t2_how (fr 280 (64 + k))) (h : ∀ C : Nat, C < n → c2_R6 fc fr C ∧ t2_ck fr C) (hr : 1 ≤ (fr 280 53).toInt) (nt : t3_nt fc) :
    (c2_sMeasure_m fc 181 8 = r_goMeasure_m fr 280 4 ∧ c2_sMeasure_m fc 181 12 = r_goMeasure_m fr 280 9 ∧ r_goMeasure_m fr 280 14 = fr 280 5 ∧ c3_Rs (c2_sMeasure_m fc) (r_goMeasure_m fr)) ∧
    ∀ C : Nat, C < n → c2_Rc (c2_sMeasure_m fc) (r_goMeasure_m fr) C ∧ t2_cap (c2_sMeasure_m fc (198 + 4 * C) 0) ∧ c2_Rm (c2_sMeasure_m fc) (r_goMeasure_m fr) C ∧ c2_sMeasure_m fc (198 + 4 * C) 11 = r_goMeasure_m fr 280 (444 + 61 * C + 14) ∧ r_goMeasure_m fr 280 (444 + 61 * C + 15) = 1 ∧ c2_sMeasure_m fc (198 + 4 * C) 10 = fr 280 (444 + 61 * C + 15) ∧ t2_ck (r_goMeasure_m fr) C := by
  have hnn : (fc 181 5).toInt.toNat = n := by omega
  have hgn : (fr 280 2).toInt.toNat = n := by omega
  have cells := fun (C : Nat) (hC : C < n) => c3_cell6 hgn hC (h C hC).1 (h C hC).2 hx hy hrst hs hr
  have bus : c2_sMeasure_j95_0 fc = if (r_isLive_v (r_mid fr)).toInt = 0 then r_mid fr 280 4 else r_pack_v (r_mid fr) := by
    unfold c2_sMeasure_j95_0
    rw [hnn, (c2_live_c (f := fc) (by rw [c2_f46_1, upd_ne (by decide)]) (c2_f46_p (by decide) (by decide))).2.1, c2_live_eq hst hk hw, (r_live_c (f := fr) (r_mid_lo (by decide) (by decide) (by decide)) (fun k hk => r_mid_lo (by omega) (by omega) (by omega))).2.1, c2_f46_1, upd_ne (by decide), r_mid_lo (by decide) (by decide) (by decide), hbus]
    have e : c2_packAt_v (c2_sMeasure_f46 fc n) (fc 181 9) = r_pack_v (r_mid fr) := by
      unfold c2_packAt_v r_pack_v
      rw [c2_f46_1, upd_ne (by decide), hnn, r_mid_lo (by decide) (by decide) (by decide), hgn, c2_pack_c (f := fc) (fun C hC j hj => (cells C hC).2.2.2.2.2.2.1 j hj), r_pack_c (f := fr) (r_mid_lo (by decide) (by decide) (by decide)) (fun C hC w hw => r_mid_s (by omega)), hx]
      exact c2_pack_eq (fun C hC => ⟨(h C hC).1.1, (h C hC).1.2.2.1⟩)
    rw [e]
  generalize hB : (if (r_isLive_v (r_mid fr)).toInt = 0 then r_mid fr 280 4 else r_pack_v (r_mid fr)) = B at bus
  have eG : r_goMeasure_m fr = fl_row (r_mid fr) 280 (upd (r_mid fr 280) 4 B) := by rw [r_goMeasure_mid, hB]
  have gw : ∀ w : Nat, w ≠ 4 → r_goMeasure_m fr 280 w = r_mid fr 280 w := fun w hw => by rw [eG, fl_row_self, upd_ne hw]
  have g4 : r_goMeasure_m fr 280 4 = B := by rw [eG, fl_row_self, upd_self]
  let F0 : t2_F := fl_row (c2_sMeasure_f46 fc n) 181 (upd (c2_sMeasure_f46 fc n 181) 8 B)
  have eF : c2_sMeasure_m fc = if (F0 181 7).toInt = (2 : Int32).toInt then c2_taper_m F0 else F0 := by
    have e7 : F0 181 7 = fc 181 7 := by
      show fl_row _ _ _ 181 7 = _
      rw [fl_row_self, upd_ne (by decide), c2_f46_1, upd_ne (by decide)]
    rw [e7]
    unfold c2_sMeasure_m
    rw [hnn, bus]
  have f1 : ∀ j : Nat, j ≠ 8 → j ≠ 12 → F0 181 j = fc 181 j := fun j h8 h12 => by
    show fl_row _ _ _ 181 j = _
    rw [fl_row_self, upd_ne h8, c2_f46_1, upd_ne h12]
  have fp : ∀ p : Nat, p ≠ 181 → F0 p = c2_sMeasure_f46 fc n p := fun p hp => fl_row_ne hp
  have hs0 : c3_Rs F0 (r_goMeasure_m fr) := fun k hk => by
    rw [fp 184 (by decide), c2_f46_p (by decide) (by decide), gw _ (by omega), r_mid_lo (by omega) (by omega) (by omega)]
    exact hs k hk
  have hF4 : F0 184 = fc 184 := by rw [fp 184 (by decide), c2_f46_p (by decide) (by decide)]
  have hT : (if (F0 181 7).toInt = (2 : Int32).toInt then c2_taper_m F0 else F0) = F0 := by
    split
    · exact t3_taper (by unfold t3_nt; rw [hF4]; exact nt)
    · rfl
  have tap : c3_Rs (if (F0 181 7).toInt = (2 : Int32).toInt then c2_taper_m F0 else F0) (r_goMeasure_m fr) ∧ (∀ p : Nat, p ≠ 184 → (if (F0 181 7).toInt = (2 : Int32).toInt then c2_taper_m F0 else F0) p = F0 p) ∧ (∀ w : Nat, w ≠ 54 → r_goMeasure_m fr 280 w = r_goMeasure_m fr 280 w) := by
    rw [hT]
    exact ⟨hs0, fun _ _ => rfl, fun _ _ => rfl⟩
  rw [← eF] at tap
  obtain ⟨t1, t2, t3⟩ := tap
  have G : ∀ w : Nat, w ≠ 4 → w ≠ 54 → r_goMeasure_m fr 280 w = r_mid fr 280 w := fun w h4 h54 => by rw [t3 w h54, gw w h4]
  have Fc : ∀ C : Nat, C < n → c2_sMeasure_m fc (198 + 4 * C) = c2_sMeasure_f46 fc n (198 + 4 * C) := fun C hC => by rw [t2 _ (by omega), fp _ (by omega)]
  refine ⟨⟨?_, ?_, ?_, t1⟩, fun C hC => ?_⟩
  · rw [t2 181 (by decide), t3 4 (by decide), g4]
    show fl_row _ _ _ 181 8 = _
    rw [fl_row_self, upd_self]
  · rw [t2 181 (by decide), G 9 (by decide) (by decide), r_mid_9.1]
    show fl_row _ _ _ 181 12 = _
    rw [fl_row_self, upd_ne (by decide), c2_f46_1, upd_self]
    unfold c2_sMeasure_j5_0 r_goMeasure_j144_0
    rw [hx, hrst]
  · rw [G 14 (by decide) (by decide), r_mid_9.2]
  · obtain ⟨k1, k2, k3, k4, k5, k6, k7, k8⟩ := cells C hC
    have ge : ∀ w : Nat, w < 61 → r_goMeasure_m fr 280 (444 + 61 * C + w) = r_mid fr 280 (444 + 61 * C + w) := fun w hw => G _ (by omega) (by omega)
    refine ⟨k1.congr (Fc C hC) ge, by rw [Fc C hC]; exact k2, ?_, ?_, ?_, ?_, c2_ck_congr k8 (ge 0 (by decide)) (ge 1 (by decide))⟩
    · unfold c2_Rm
      rw [Fc C hC, ge 11 (by decide), ge 12 (by decide), ge 13 (by decide), ge 16 (by decide)]
      exact k3
    · rw [Fc C hC, ge 14 (by decide), k4]
    · rw [ge 15 (by decide), k5]
    · rw [Fc C hC, k6]
end C3PTAP

section C3PFLT
variable {fc fr f g F G : t2_F} {C n k : Nat} {c x y z : Int32}
theorem c3_four (hn : (fc 181 5).toInt = n) (hg : (fr 280 2).toInt = n) (hn16 : n ≤ 16) (hv : ∀ C : Nat, C < n → c2_voltsAt_v fc C (fc 181 9) = r_voltsOf_v fr (Int32.ofNat C) C) (hw : ∀ C : Nat, C < n → fc (198 + 4 * C) 6 = fr 280 (444 + 61 * C + 3)) (hx : fc 181 9 = fr 280 5) (hs : c3_Rs fc fr) :
    (c2_faultsOfCells_a26 fc n).1 = r_soBy_v fr (0 : Int32) ∧ (c2_faultsOfCells_a26 fc n).2.1 = r_soBy_v fr (1 : Int32) ∧ (c2_faultsOfCells_a26 fc n).2.2.1 = r_soBy_v fr (2 : Int32) ∧ (c2_faultsOfCells_a26 fc n).2.2.2 = r_soBy_v fr (3 : Int32) := by
  have s0 : fc 184 0 = fr 280 34 := hs 0 (by omega)
  have s1 : fc 184 1 = fr 280 35 := hs 1 (by omega)
  have s2 : fc 184 2 = fr 280 36 := hs 2 (by omega)
  have s3 : fc 184 3 = fr 280 37 := hs 3 (by omega)
  have hnn : (fc 181 5).toInt.toNat = n := by omega
  have hgn : (fr 280 2).toInt.toNat = n := by omega
  have ix : ∀ k : Nat, k < n → ((fc 181 5) - (1 : Int32)) - (Int32.ofNat k) = Int32.ofNat (n - 1 - k) := fun k hk => Int32.toInt.inj (by rw [t2_di hn hk, at_ofN (by omega)])
  have dec : ∀ (P : Prop) [Decidable P] (a b : Int32), (if P then a else b) = if decide P = true then a else b := by
    intro P _ a b
    by_cases h : P
    · rw [if_pos h, if_pos (decide_eq_true h)]
    · rw [if_neg h, if_neg (by rw [decide_eq_false h]; exact Bool.false_ne_true)]
  refine ⟨t2_sf_u (t2_dsc (g := fun k => (c2_faultsOfCells_a26 fc k).1) rfl (fun k hk => ?_)) (r_so_sf (x := 0) (by omega) hgn), t2_sf_u (t2_dsc (g := fun k => (c2_faultsOfCells_a26 fc k).2.1) rfl (fun k hk => ?_)) (r_so_sf (x := 1) (by omega) hgn), t2_sf_u (t2_dsc (g := fun k => (c2_faultsOfCells_a26 fc k).2.2.1) rfl (fun k hk => ?_)) (r_so_sf (x := 2) (by omega) hgn), t2_sf_u (t2_dsc (g := fun k => (c2_faultsOfCells_a26 fc k).2.2.2) rfl (fun k hk => ?_)) (r_so_sf (x := 3) (by omega) hgn)⟩
  · rw [r_sp0]
    show (if _ then _ else (c2_faultsOfCells_a26 fc k).1) = if _ then _ else (c2_faultsOfCells_a26 fc k).1
    rw [hnn, ix k hk, hv _ (by omega), s0]
    exact dec _ _ _
  · rw [r_sp1]
    show (if _ then _ else (c2_faultsOfCells_a26 fc k).2.1) = if _ then _ else (c2_faultsOfCells_a26 fc k).2.1
    rw [hnn, ix k hk, hv _ (by omega), s1]
    exact dec _ _ _
  · rw [r_sp2]
    show (if _ then _ else (c2_faultsOfCells_a26 fc k).2.2.1) = if _ then _ else (c2_faultsOfCells_a26 fc k).2.2.1
    rw [hnn, ix k hk, hw _ (by omega), s2]
    exact dec _ _ _
  · rw [r_sp3]
    show (if _ then (if _ then _ else (c2_faultsOfCells_a26 fc k).2.2.2) else (c2_faultsOfCells_a26 fc k).2.2.2) = if _ then _ else (c2_faultsOfCells_a26 fc k).2.2.2
    rw [hnn, ix k hk, hw _ (by omega), s3, hx]
    by_cases h : 0 < (fr 280 5).toInt
    · rw [if_pos h, decide_eq_true h, Bool.true_and]
      exact dec _ _ _
    · rw [if_neg h, decide_eq_false h, Bool.false_and, if_neg Bool.false_ne_true]
end C3PFLT



section C3PFLO
variable {fc fr f g F G : t2_F} {C n k : Nat} {c x y z : Int32}
def c3_R7 (fc fr : t2_F) (n : Nat) : Prop := ((fc 181 5).toInt = n ∧ (fr 280 2).toInt = n ∧ n ≤ 16) ∧ (fc 181 6 = fr 280 7 ∧ fc 181 7 = fr 280 3 ∧ fc 181 9 = fr 280 5 ∧ fc 181 11 = fr 280 8) ∧ c3_Rs fc fr ∧ (c2_Rk fc fr ∧ ∀ k : Nat, k < 3 → t2_how (fr 280 (64 + k))) ∧
  (∀ C : Nat, C < n → c2_voltsAt_v fc C (fc 181 9) = r_voltsOf_v fr (Int32.ofNat C) C ∧ fc (198 + 4 * C) 6 = fr 280 (444 + 61 * C + 3) ∧ fc (198 + 4 * C) 3 = r_partOf_v fr (Int32.ofNat C) C) ∧
  (fc 190 3 = fr 280 6 ∧ fc 190 4 = fr 280 22 ∧ fc 190 5 = fr 280 15 ∧ ((fc 190 6).toInt = min (fr 280 16).toInt 1 ∧ 0 ≤ (fr 280 16).toInt ∧ (fr 280 16).toInt ≤ 2)) ∧ (∀ j : Nat, j < 11 → fc 191 j = fr 280 (23 + j)) ∧ (∀ j : Nat, j < 4 → fc 192 j = fr 280 (311 + j)) ∧ c2_Bk fc fr ∧ 1 ≤ (fr 280 51).toInt
theorem c3_bits {so : Int32} {slow : Bool} (h : c3_R7 fc fr n) (hso : so = if slow = true then (32 : Int32) else (0 : Int32)) (hsl : fr 277 4 = if slow = true then 1 else 0) : ∀ k : Nat, k < 11 → t2_bt ((so ||| c2_faultsOfCells_v fc) ||| c2_faultsOfPack_v (c2_faultsOfCells_m fc)) k = t2_bt (r_goFaults_a91 fr 11) k := by
  obtain ⟨⟨hn1, hn2, hn16⟩, ⟨e6, e7, e9, e11⟩, hs, ⟨hk, hw⟩, hc, ⟨l3, l4, l5, ⟨l6, l61, l62⟩⟩, hwh, hcu, hbk, hsp⟩ := h
  have c1 : (1 : Int32).toInt = 1 := by decide +kernel
  have c2 : (2 : Int32).toInt = 2 := by decide +kernel
  have c3 : (3 : Int32).toInt = 3 := by decide +kernel
  have c0 : (0 : Int32).toInt = 0 := rfl
  have s2 : fc 184 2 = fr 280 36 := hs 2 (by omega)
  have s4 : fc 184 4 = fr 280 38 := hs 4 (by omega)
  have s9 : fc 184 9 = fr 280 43 := hs 9 (by omega)
  have s10 : fc 184 10 = fr 280 44 := hs 10 (by omega)
  have s17 : fc 184 17 = fr 280 51 := hs 17 (by omega)
  have s20 : fc 184 20 = fr 280 54 := hs 20 (by omega)
  have s28 : fc 184 28 = fr 280 62 := hs 28 (by omega)
  have s29 : fc 184 29 = fr 280 63 := hs 29 (by omega)
  have gw : ∀ w : Nat, w ≠ 15 → w ≠ 16 → w ≠ 22 → r_gp fr 280 w = fr 280 w := fun w a b d => r_gp_w a b d
  have gv : ∀ C : Nat, r_voltsOf_v (r_gp fr) (Int32.ofNat C) C = r_voltsOf_v fr (Int32.ofNat C) C := fun C => r_volts_c (gw _ (by decide) (by decide) (by decide)) (gw _ (by omega) (by omega) (by omega)) (gw _ (by omega) (by omega) (by omega)) (gw _ (by omega) (by omega) (by omega)) (gw _ (by omega) (by omega) (by omega))
  have gp : ∀ C : Nat, r_partOf_v (r_gp fr) (Int32.ofNat C) C = r_partOf_v fr (Int32.ofNat C) C := fun C => by
    unfold r_partOf_v
    rw [gw _ (by omega) (by omega) (by omega), gw _ (by omega) (by omega) (by omega)]
  have g2 : (r_gp fr 280 2).toInt = n := by rw [gw 2 (by decide) (by decide) (by decide)]; exact hn2
  obtain ⟨q0, q1, q2, q3⟩ := c3_four (fc := fc) (fr := r_gp fr) hn1 g2 hn16 (fun C hC => by rw [gv]; exact (hc C hC).1) (fun C hC => by rw [gw _ (by omega) (by omega) (by omega)]; exact (hc C hC).2.1) (by rw [gw 5 (by decide) (by decide) (by decide)]; exact e9) (fun k hk => by rw [gw _ (by omega) (by omega) (by omega)]; exact hs k hk)
  have f1 : ∀ p : Nat, p ≠ 192 → c2_faultsOfCells_m fc p = fc p := fun p hp => c2_faultsOfCells_fr hp
  have lv := c2_live_c (f := fc) (f' := c2_faultsOfCells_m fc) (by rw [f1 _ (by decide)]) (f1 _ (by decide))
  have spc : c2_partSpread_v (c2_faultsOfCells_m fc) = c2_partSpread_v fc := c2_spread_c (f1 _ (by decide)) (fun C => f1 _ (by omega))
  have ac := c2_actual_eq e7 hk hw
  have od := c2_ordered_eq (fc := fc) (fr := fr) e7
  have hj2 : c2_leakBit_j2_0 (c2_faultsOfCells_m fc) (c2_faultsOfPack_j59_0 (c2_faultsOfCells_m fc)) = r_goFaults_j18_0 fr := by
    unfold c2_leakBit_j2_0 c2_faultsOfPack_j59_0 r_goFaults_j18_0
    rw [f1 184 (by decide), f1 190 (by decide), s9, s10, l5, t2_les]
    by_cases q : (fr 280 43).toInt < (fr 280 44).toInt
    · rw [if_pos q, if_neg (by omega), if_pos q]
    · rw [if_neg q, if_pos c0, if_neg q]
  have g15 : r_gp fr 280 15 = r_goFaults_j18_0 fr := by
    unfold r_gp
    rw [fl_row_self, upd_ne (by decide), upd_ne (by decide), upd_self]
  have g16 : r_gp fr 280 16 = r_goFaults_j53_0 fr := by
    unfold r_gp
    rw [fl_row_self, upd_ne (by decide), upd_self]
  have g22 : r_gp fr 280 22 = fr 280 22 + (1 : Int32) := by
    unfold r_gp
    rw [fl_row_self, upd_self]
  have le3 : (r_goFaults_j18_0 fr).toInt ≤ 3 := by
    unfold r_goFaults_j18_0
    rw [t2_les]
    split
    · rw [t2_min_i]; omega
    · omega
  have p6 : decide ((r_goFaults_j18_0 fr).toInt = (3 : Int32).toInt) = decide (¬ (r_gp fr 280 15).toInt < (3 : Int32).toInt) := by
    rw [g15]
    exact decide_eq_decide.mpr ⟨fun q => by omega, fun q => by omega⟩
  have p7 : decide ((fr 280 51).toInt < (c2_partSpread_v fc).toInt) = decide ((r_gp fr 280 51).toInt < (r_spreadOf_v (r_gp fr)).toInt) := by
    have m1 : (-1 : Int32).toInt = -1 := by decide +kernel
    rw [gw 51 (by decide) (by decide) (by decide), c2_spread_eq (fr := r_gp fr) hn1 g2 (fun C hC => by rw [gp]; exact (hc C hC).2.2)]
    by_cases e : n = 0
    · have z : r_spreadOf_v (r_gp fr) = 0 := by
        unfold r_spreadOf_v r_spreadOf_j45_0
        rw [if_pos (by omega)]
      rw [if_pos e, z]
      exact decide_eq_decide.mpr ⟨fun q => by omega, fun q => by omega⟩
    · rw [if_neg e]
  have ordg : r_ordered_v (fl_row fr 280 (upd (fr 280) 15 (r_goFaults_j18_0 fr))) = r_ordered_v fr ∧ r_actual_v (fl_row fr 280 (upd (fr 280) 15 (r_goFaults_j18_0 fr))) = r_actual_v fr := by
    have l := r_live_c (f := fr) (f' := fl_row fr 280 (upd (fr 280) 15 (r_goFaults_j18_0 fr))) (by rw [fl_row_self, upd_ne (by decide)]) (fun k hk => by rw [fl_row_self, upd_ne (by omega)])
    exact ⟨l.2.2, l.1⟩
  have p8 : (decide (¬ (r_actual_v fr).toInt = (r_ordered_v fr).toInt) && decide (¬ (fc 190 6).toInt = 0)) = decide (¬ (r_gp fr 280 16).toInt < (2 : Int32).toInt) := by
    rw [g16]
    unfold r_goFaults_j53_0
    rw [ordg.1, ordg.2]
    by_cases d : (r_actual_v fr).toInt = (r_ordered_v fr).toInt
    · rw [if_pos d]
      have df : decide (¬ (r_actual_v fr).toInt = (r_ordered_v fr).toInt) = false := decide_eq_false (fun q => q d)
      rw [df, Bool.false_and]
      exact (decide_eq_false (fun q => q (by omega))).symm
    · rw [if_neg d, decide_eq_true d, Bool.true_and, t2_les]
      have a : (fr 280 16 + (1 : Int32)).toInt = (fr 280 16).toInt + 1 := by rw [at_add32] <;> omega
      refine decide_eq_decide.mpr ?_
      rw [t2_min_i]
      omega
  intro k hk11
  have bso : t2_bt so k = (slow && decide (k = 5)) := by
    rw [hso]
    have := t2_bt_if (P := slow = true) (c := (32 : Int32)) (i := 5) (by decide +kernel) hk11
    rw [this]
    cases slow <;> rfl
  have fin := c2_fcv (fc := fc) (n := n) (by omega) q0 q1 q2 q3 ⟨k, hk11⟩
  rw [t2_bt_or, t2_bt_or, bso, fin, c2_fp_bits hk11, r_a91_bt 11 (Nat.le_refl 11) k hk11, decide_eq_true hk11, Bool.true_and, r_isSo_b (slow := slow) (by unfold r_gp; rw [fl_row_ne (by decide)]; exact hsl) k hk11]
  rw [lv.1, lv.2.2, spc, hj2, f1 181 (by decide), f1 184 (by decide), f1 190 (by decide), ac, od, p8, s17, p7, p6, s2, s4, s20, s28, s29, e7, e11, l4, gw 36 (by decide) (by decide) (by decide), gw 8 (by decide) (by decide) (by decide), gw 3 (by decide) (by decide) (by decide), gw 38 (by decide) (by decide) (by decide), gw 54 (by decide) (by decide) (by decide), gw 62 (by decide) (by decide) (by decide), gw 63 (by decide) (by decide) (by decide), g22]
  rfl
end C3PFLO

section C3PLAT
variable {fc fr f g F G A B : t2_F} {C n k : Nat} {c x y z : Int32}
theorem c3_faults_eq {so : Int32} {slow : Bool} (h : c3_R7 fc fr n) (hso : so = if slow = true then (32 : Int32) else (0 : Int32)) (hsl : fr 277 4 = if slow = true then 1 else 0) :
    (c2_latch_v (c2_faultsOfPack_m (c2_faultsOfCells_m fc)) ((so ||| c2_faultsOfCells_v fc) ||| c2_faultsOfPack_v (c2_faultsOfCells_m fc)) (fc 181 6) = r_goFaults_v fr) ∧
    ∀ F : t2_F, F = c2_latch_m (c2_faultsOfPack_m (c2_faultsOfCells_m fc)) ((so ||| c2_faultsOfCells_v fc) ||| c2_faultsOfPack_v (c2_faultsOfCells_m fc)) (fc 181 6) →
      (F 190 3 = r_goFaults_m fr 280 6 ∧ F 190 4 = r_goFaults_m fr 280 22 ∧ F 190 5 = r_goFaults_m fr 280 15 ∧ ((F 190 6).toInt = min (r_goFaults_m fr 280 16).toInt 1 ∧ 0 ≤ (r_goFaults_m fr 280 16).toInt ∧ (r_goFaults_m fr 280 16).toInt ≤ 2)) ∧ (∀ j : Nat, j < 11 → F 191 j = r_goFaults_m fr 280 (23 + j)) ∧ (∀ j : Nat, j < 4 → F 192 j = r_goFaults_m fr 280 (311 + j)) ∧ c2_Bk F (r_goFaults_m fr) ∧ r_goFaults_m fr 280 3 = (if (F 190 3).toInt = 0 then fc 181 7 else (0 : Int32)) := by
  have bits := c3_bits h hso hsl
  obtain ⟨⟨hn1, hn2, hn16⟩, ⟨e6, e7, e9, e11⟩, hs, ⟨hk, hw⟩, hc, ⟨l3, l4, l5, ⟨l6, l61, l62⟩⟩, hwh, hcu, hbk, hsp⟩ := h
  have c1 : (1 : Int32).toInt = 1 := by decide +kernel
  have c2 : (2 : Int32).toInt = 2 := by decide +kernel
  have c0 : (0 : Int32).toInt = 0 := rfl
  have hb20 : 0 ≤ (fr 280 20).toInt ∧ (fr 280 20).toInt ≤ 24 := hbk.2.2.2.1
  have f1 : ∀ p : Nat, p ≠ 192 → c2_faultsOfCells_m fc p = fc p := fun p hp => c2_faultsOfCells_fr hp
  have f2 : ∀ p : Nat, p ≠ 190 → c2_faultsOfPack_m (c2_faultsOfCells_m fc) p = c2_faultsOfCells_m fc p := fun p hp => c2_faultsOfPack_fr hp
  obtain ⟨m4, m5, m6, mo⟩ := c2_fp_m (f := c2_faultsOfCells_m fc)
  have gw : ∀ w : Nat, w ≠ 15 → w ≠ 16 → w ≠ 22 → r_gp fr 280 w = fr 280 w := fun w a b d => r_gp_w a b d
  have gB : ∀ k : Nat, k ≤ 11 → ∀ w : Nat, w ≠ 6 → w ≠ 20 → (w < 23 ∨ 34 ≤ w) → (w < 167 ∨ 217 ≤ w) → (w < 311 ∨ 315 ≤ w) → w ≠ 15 → w ≠ 16 → w ≠ 22 → r_goFaults_f123 fr k 280 w = fr 280 w := fun k hk w a1 a2 a3 a4 a5 a6 a7 a8 => r_goFaults_f123_w hb20 hk ⟨a1, a2, a3, a4, a5, a6, a7, a8⟩
  have B0 : r_goFaults_f123 fr 0 = r_gp fr := rfl
  generalize hX : (so ||| c2_faultsOfCells_v fc) ||| c2_faultsOfPack_v (c2_faultsOfCells_m fc) = X at bits
  generalize hf2 : c2_faultsOfPack_m (c2_faultsOfCells_m fc) = f2m at f2 m4 m5 m6 mo
  have loop : ∀ k : Nat, k ≤ 11 → c2_LK (r_gp fr) (c2_latch_f5 f2m X (fc 181 6) k) (r_goFaults_f123 fr k) (c2_latch_a5_0 f2m X (fc 181 6) k) (r_goFaults_a123_0 fr k) (fc 181 6) (r_goFaults_a91 fr 11) k := by
    intro k
    induction k with
    | zero =>
      intro _
      show c2_LK (r_gp fr) f2m (r_gp fr) (0 : Int32) (0 : Int32) (fc 181 6) (r_goFaults_a91 fr 11) 0
      refine ⟨?_, fun j hj => ?_, ?_, rfl, ?_, fun j hj => ?_⟩
      · rw [mo 3 (by decide) (by decide) (by decide), f1 190 (by decide), gw 6 (by decide) (by decide) (by decide)]
        exact l3
      · rw [f2 191 (by decide), f1 191 (by decide), gw (23 + j) (by omega) (by omega) (by omega)]
        exact hwh j hj
      · exact hbk.congr (by rw [f2 193 (by decide), f1 193 (by decide)]) (by rw [f2 194 (by decide), f1 194 (by decide)]) (fun w hw => gw w (by omega) (by omega) (by omega))
      · rw [gw 7 (by decide) (by decide) (by decide), e6]
      · rw [if_neg (fun q => Nat.not_lt_zero j q.1)]
    | succ k ih =>
      intro hk11
      have hs' : r_soBy_v (r_goFaults_f123 fr k) (Int32.ofNat k) = r_soBy_v (r_gp fr) (Int32.ofNat k) := r_soBy_c (fun w hw => by
        rw [gB k (by omega) w (by omega) (by omega) (by omega) (by omega) (by omega) (by omega) (by omega) (by omega), gw w (by omega) (by omega) (by omega)])
      exact c2_LK_step (by omega) (bits k (by omega)) (ih (by omega)) hs'
  obtain ⟨q6, q11, qb, qab, qy, qc⟩ := loop 11 (Nat.le_refl 11)
  refine ⟨qab, fun F hF => ?_⟩
  have hF2 : F = c2_latch_f5 f2m X (fc 181 6) 11 := hF
  have Gw : ∀ w : Nat, w ≠ 3 → r_goFaults_m fr 280 w = r_goFaults_f123 fr 11 280 w := fun w hw => by
    unfold r_goFaults_m
    rw [fl_row_self, upd_ne hw]
  have G3 : r_goFaults_m fr 280 3 = r_goFaults_j227_0 fr := by
    unfold r_goFaults_m
    rw [fl_row_self, upd_self]
  have g15 : r_goFaults_f123 fr 11 280 15 = r_goFaults_j18_0 fr ∧ r_goFaults_f123 fr 11 280 16 = r_goFaults_j53_0 fr ∧ r_goFaults_f123 fr 11 280 22 = fr 280 22 + (1 : Int32) := by
    have st : ∀ w : Nat, (w = 15 ∨ w = 16 ∨ w = 22) → ∀ k : Nat, k ≤ 11 → r_goFaults_f123 fr k 280 w = r_gp fr 280 w := by
      intro w hw k
      induction k with
      | zero => intro _; rfl
      | succ k ih =>
        intro hk
        exact (r_goFaults_b123_w (a0 := (r_goFaults_l123 fr k).2) (by omega) (r_goFaults_ib hb20 k) (by omega)).trans (ih (by omega))
    refine ⟨?_, ?_, ?_⟩
    · rw [st 15 (by omega) 11 (Nat.le_refl 11)]
      unfold r_gp
      rw [fl_row_self, upd_ne (by decide), upd_ne (by decide), upd_self]
    · rw [st 16 (by omega) 11 (Nat.le_refl 11)]
      unfold r_gp
      rw [fl_row_self, upd_ne (by decide), upd_self]
    · rw [st 22 (by omega) 11 (Nat.le_refl 11)]
      unfold r_gp
      rw [fl_row_self, upd_self]
  -- the words of the watch that the loop leaves
  have A10 : ∀ k : Nat, ∀ j : Nat, j ≠ 3 → c2_latch_f5 f2m X (fc 181 6) k 190 j = f2m 190 j := by
    intro k
    induction k with
    | zero => intro j _; rfl
    | succ k ih =>
      intro j hj
      show c2_latch_b5_m (c2_latch_f5 f2m X (fc 181 6) k) X (fc 181 6) (c2_latch_a5_0 f2m X (fc 181 6) k) k 190 j = _
      unfold c2_latch_b5_m
      split
      · exact ih j hj
      · split
        · rw [c2_badd_13 (by decide) (by decide), fl_row_self, upd_ne hj]
          exact ih j hj
        · rw [fl_row_ne (by decide)]
          exact ih j hj
  have A12 : c2_latch_f5 f2m X (fc 181 6) 11 192 = c2_faultsOfCells_m fc 192 := by
    rw [c2_latch_f5_fr (fun j hj => by decide) (fun j hj => by decide) (fun j hj => by decide) (fun j hj => by decide), f2 192 (by decide)]
  subst hF2
  have s9 : fc 184 9 = fr 280 43 := hs 9 (by omega)
  have s10 : fc 184 10 = fr 280 44 := hs 10 (by omega)
  have ac := c2_actual_eq e7 hk hw
  have od := c2_ordered_eq (fc := fc) (fr := fr) e7
  have lv := c2_live_c (f := fc) (f' := c2_faultsOfCells_m fc) (by rw [f1 _ (by decide)]) (f1 _ (by decide))
  have ordg := r_live_c (f := fr) (f' := fl_row fr 280 (upd (fr 280) 15 (r_goFaults_j18_0 fr))) (by rw [fl_row_self, upd_ne (by decide)]) (fun k hk => by rw [fl_row_self, upd_ne (by omega)])
  refine ⟨⟨?_, ?_, ?_, ?_⟩, fun j hj => ?_, fun j hj => ?_, ?_, ?_⟩
  · rw [Gw 6 (by decide)]; exact q6
  · rw [A10 11 4 (by decide), m4, f1 190 (by decide), l4, Gw 22 (by decide), g15.2.2]
  · rw [A10 11 5 (by decide), m5, Gw 15 (by decide), g15.1]
    unfold c2_leakBit_j2_0 c2_faultsOfPack_j59_0 r_goFaults_j18_0
    rw [f1 184 (by decide), f1 190 (by decide), s9, s10, l5, t2_les]
    by_cases q : (fr 280 43).toInt < (fr 280 44).toInt
    · rw [if_pos q, if_neg (by omega), if_pos q]
    · rw [if_neg q, if_pos c0, if_neg q]
  · rw [A10 11 6 (by decide), m6, Gw 16 (by decide), g15.2.1]
    unfold r_goFaults_j53_0
    rw [lv.1, lv.2.2, ac, od, ordg.1, ordg.2.2]
    by_cases d : (r_actual_v fr).toInt = (r_ordered_v fr).toInt
    · rw [if_pos d, if_pos d]
      omega
    · have a : (fr 280 16 + (1 : Int32)).toInt = (fr 280 16).toInt + 1 := by rw [at_add32] <;> omega
      rw [if_neg d, if_neg d, t2_les, t2_min_i]
      omega
  · rw [Gw (23 + j) (by omega)]
    exact q11 j hj
  · rw [Gw (311 + j) (by omega), A12, qc j hj]
    have gv : ∀ C : Nat, r_voltsOf_v (r_gp fr) (Int32.ofNat C) C = r_voltsOf_v fr (Int32.ofNat C) C := fun C => r_volts_c (gw _ (by decide) (by decide) (by decide)) (gw _ (by omega) (by omega) (by omega)) (gw _ (by omega) (by omega) (by omega)) (gw _ (by omega) (by omega) (by omega)) (gw _ (by omega) (by omega) (by omega))
    have g2 : (r_gp fr 280 2).toInt = n := by rw [gw 2 (by decide) (by decide) (by decide)]; exact hn2
    obtain ⟨z0, z1, z2, z3⟩ := c3_four (fc := fc) (fr := r_gp fr) hn1 g2 hn16 (fun C hC => by rw [gv]; exact (hc C hC).1) (fun C hC => by rw [gw _ (by omega) (by omega) (by omega)]; exact (hc C hC).2.1) (by rw [gw 5 (by decide) (by decide) (by decide)]; exact e9) (fun k hk => by rw [gw _ (by omega) (by omega) (by omega)]; exact hs k hk)
    obtain ⟨u0, u1, u2, u3⟩ := c2_fcm (fc := fc) (n := n) (by omega) z0 z1 z2 z3
    have bt := r_a91_bt (fr := fr) 11 (Nat.le_refl 11) j (by omega)
    rw [decide_eq_true (show j < 11 by omega), Bool.true_and, r_isSo_b (slow := slow) (by unfold r_gp; rw [fl_row_ne (by decide)]; exact hsl) j (by omega)] at bt
    rw [bt, gw (311 + j) (by omega) (by omega) (by omega)]
    have s2 : fc 184 2 = fr 280 36 := hs 2 (by omega)
    have m1 : (-1 : Int32).toInt = -1 := by decide +kernel
    rcases (show j = 0 ∨ j = 1 ∨ j = 2 ∨ j = 3 by omega) with h | h | h | h <;> subst h
    · rw [u0, hcu 0 (by decide)]
      show _ = if 0 < 11 ∧ _ then r_soBy_v (r_gp fr) (0 : Int32) else _
      by_cases q : (r_soBy_v (r_gp fr) (0 : Int32)).toInt = (-1 : Int32).toInt
      · rw [if_pos q]; simp [q, t2_cb, t2_pk]
      · rw [if_neg q]
        rw [m1] at q
        simp [q, t2_cb, t2_pk]
    · rw [u1, hcu 1 (by decide)]
      show _ = if 1 < 11 ∧ _ then r_soBy_v (r_gp fr) (1 : Int32) else _
      by_cases q : (r_soBy_v (r_gp fr) (1 : Int32)).toInt = (-1 : Int32).toInt
      · rw [if_pos q]; simp [q, t2_cb, t2_pk]
      · rw [if_neg q]
        rw [m1] at q
        simp [q, t2_cb, t2_pk]
    · rw [u2, hcu 2 (by decide), s2, e11, ← gw 36 (by decide) (by decide) (by decide), ← gw 8 (by decide) (by decide) (by decide)]
      show _ = if 2 < 11 ∧ _ then r_soBy_v (r_gp fr) (2 : Int32) else _
      by_cases q : (r_soBy_v (r_gp fr) (2 : Int32)).toInt = (-1 : Int32).toInt
      · rw [if_pos q]; simp [q, t2_cb, t2_pk]
      · rw [if_neg q]
        rw [m1] at q
        simp [q, t2_cb, t2_pk]
    · rw [u3, hcu 3 (by decide)]
      show _ = if 3 < 11 ∧ _ then r_soBy_v (r_gp fr) (3 : Int32) else _
      by_cases q : (r_soBy_v (r_gp fr) (3 : Int32)).toInt = (-1 : Int32).toInt
      · rw [if_pos q]; simp [q, t2_cb, t2_pk]
      · rw [if_neg q]
        rw [m1] at q
        simp [q, t2_cb, t2_pk]
  · exact qb.congr rfl rfl (fun w hw => Gw w (by omega))
  · rw [G3]
    unfold r_goFaults_j227_0
    rw [q6]
    by_cases q : (r_goFaults_f123 fr 11 280 6).toInt = 0
    · rw [if_pos q, if_pos q, gB 11 (Nat.le_refl 11) 3 (by decide) (by decide) (by decide) (by decide) (by decide) (by decide) (by decide) (by decide), e7]
    · rw [if_neg q, if_neg q]
end C3PLAT




section C3PRUL
variable {fc fr f f' g F G A B : t2_F} {C n k : Nat} {c x y z : Int32}
/-- the class has no rules -/
def c3_Rr (fc fr : t2_F) : Prop := (fc 183 8).toInt = 0 ∧ (0 ≤ (fr 280 18).toInt ∧ (fr 280 18).toInt ≤ 8)
theorem t3_rules {f : t2_F} (h : (f 183 8).toInt = 0) : c2_obeyRules_m f = f := by
  unfold c2_obeyRules_m
  rw [h]
  rfl
end C3PRUL

section C3PFRM
variable {fc fr f f' g F G A B : t2_F} {C n k : Nat} {c x y z : Int32}
theorem c3_slow_eq (hst : fc 181 7 = fr 280 3) (hb : fc 181 8 = fr 280 4) (hs : c3_Rs fc fr) (hp : c2_packAt_v fc (0 : Int32) = r_packCalm_v fr) (hj : c2_moveBus_j16_0 fc = r_goBus_j16_0 fr) : c2_moveBus_v fc = r_goBus_m fr 277 4 ∧ (r_goBus_m fr 277 4 = 0 ∨ r_goBus_m fr 277 4 = 1) ∧ ∀ j : Nat, j ≠ 4 → r_goBus_m fr 277 j = fr 277 j := by
  have s8 : fc 184 8 = fr 280 42 := hs 8 (by omega)
  unfold c2_moveBus_v r_goBus_m
  rw [hst, hb, hp, hj, s8, t2_m32 (r_goBus_j16_0 fr) (1000 : Int32)]
  by_cases h1 : (fr 280 3).toInt = (1 : Int32).toInt
  · by_cases h2 : ((1000 : Int32) * (r_goBus_j16_0 fr)).toInt < ((950 : Int32) * (r_packCalm_v fr)).toInt
    · by_cases h3 : ((r_goBus_j16_0 fr) - (fr 280 4)).toInt < (fr 280 42).toInt
      · simp only [if_pos h1, if_pos h2, if_pos h3]
        refine ⟨?_, Or.inr ?_, fun j hj => ?_⟩
        · rw [fl_row_self, upd_self]
        · rw [fl_row_self, upd_self]
        · rw [fl_row_self, upd_ne hj]
      · simp only [if_pos h1, if_pos h2, if_neg h3]
        refine ⟨?_, Or.inl ?_, fun j hj => ?_⟩
        · rw [fl_row_self, upd_self]
        · rw [fl_row_self, upd_self]
        · rw [fl_row_self, upd_ne hj]
    · simp only [if_pos h1, if_neg h2]
      refine ⟨?_, Or.inl ?_, fun j hj => ?_⟩
      · rw [fl_row_ne (by decide), fl_row_self, upd_self]
      · rw [fl_row_ne (by decide), fl_row_self, upd_self]
      · rw [fl_row_ne (by decide), fl_row_self, upd_ne hj]
  · simp only [if_neg h1]
    refine ⟨?_, Or.inl ?_, fun j hj => ?_⟩
    · rw [fl_row_self, upd_self]
    · rw [fl_row_self, upd_self]
    · rw [fl_row_self, upd_ne hj]
theorem c3_balance_o (hc : (fc 181 5).toInt.toNat = n) (hg : (fr 280 2).toInt.toNat = n) (hn : n ≤ 16) (h : c3_RB fc fr n) (hl : fc 190 3 = fr 280 6) (ht : fc 181 6 = fr 280 7) (ho : 0 ≤ (fr 280 47).toInt ∧ (fr 280 47).toInt ≤ 16) :
    (∀ p : Nat, p ≠ 181 → (∀ C : Nat, C < 16 → p ≠ 198 + 4 * C) → c2_balance_m fc p = fc p) ∧ (∀ j : Nat, j ≠ 11 → j ≠ 13 → j ≠ 14 → j ≠ 15 → j ≠ 16 → c2_balance_m fc 181 j = fc 181 j) ∧ (∀ C : Nat, C < n → ∀ j : Nat, j ≠ 2 → j ≠ 3 → j ≠ 4 → j ≠ 8 → c2_balance_m fc (198 + 4 * C) j = fc (198 + 4 * C) j) ∧ (∀ C : Nat, C < n → ∀ w : Nat, w < 61 → w ≠ 1 → w ≠ 4 → r_goBalance_m fr 280 (444 + 61 * C + w) = fr 280 (444 + 61 * C + w)) := by
  have c1 : (1 : Int32).toInt = 1 := by decide +kernel
  have c2 : (2 : Int32).toInt = 2 := by decide +kernel
  have s11 : fc 184 11 = fr 280 45 := h.1 11 (by omega)
  have zc : ∀ j : Nat, j ≠ 16 → (fl_row fc 181 (upd (fc 181) 16 (0 : Int32))) 181 j = fc 181 j := fun j hj => by rw [fl_row_self, upd_ne hj]
  have zp : ∀ p : Nat, p ≠ 181 → (fl_row fc 181 (upd (fc 181) 16 (0 : Int32))) p = fc p := fun p hp => fl_row_ne hp
  have zr : ∀ w : Nat, w ≠ 13 → (fl_row (fl_row fr 280 (upd (fr 280) 13 (0 : Int32))) 277 (upd (fr 277) 6 (0 : Int32))) 280 w = fr 280 w := fun w hw => by rw [fl_row_ne (by decide), fl_row_self, upd_ne hw]
  have hz : c3_RB (fl_row fc 181 (upd (fc 181) 16 (0 : Int32))) (fl_row (fl_row fr 280 (upd (fr 280) 13 (0 : Int32))) 277 (upd (fr 277) 6 (0 : Int32))) n := by
    obtain ⟨hs, hC, e14, e15, e11, e13, e16⟩ := h
    refine ⟨hs.congr (zp _ (by decide)) (fun k hk => zr _ (by omega)), fun C hC' => ⟨(hC C hC').1.congr (zp _ (by omega)) (fun k hk => zr _ (by omega)), by rw [zp _ (by omega)]; exact (hC C hC').2.1, c2_ck_congr (hC C hC').2.2 (zr _ (by omega)) (zr _ (by omega))⟩, ?_, ?_, ?_, ?_, ?_⟩
    · rw [zr 11 (by decide), zc 14 (by decide), e14]
    · rw [zr 12 (by decide), zc 15 (by decide), e15]
    · rw [zr 8 (by decide), zc 11 (by decide), e11]
    · rw [zr 10 (by decide), zc 13 (by decide), e13]
    · rw [fl_row_self, upd_self, fl_row_ne (by decide), fl_row_self, upd_self]
  unfold c2_balance_m r_goBalance_m
  rw [hl, s11]
  by_cases h6 : (fr 280 6).toInt = 0
  · rw [if_pos h6, if_pos h6]
    by_cases m1 : (fr 280 45).toInt = (1 : Int32).toInt
    · rw [if_pos m1, if_neg (show ¬ (fr 280 45).toInt = (2 : Int32).toInt by omega), if_pos m1]
      obtain ⟨si, gi⟩ := c3_shunt_two (n := n) (by rw [zc 5 (by decide)]; exact hc) (by rw [zr 2 (by decide)]; exact hg) hn hz (by rw [fl_row_self, upd_self]) (by rw [zr 47 (by decide)]; exact ho)
      obtain ⟨q1, q2, q3, q4, q5, q6⟩ := gi
      refine ⟨fun p hp hC => ?_, fun j a11 a13 a14 a15 a16 => ?_, fun C hC j b2 b3 b4 b8 => ?_, fun C hC w hw w1 w4 => ?_⟩
      · unfold c2_shuntCells_m
        have h5 := zc 5 (by decide)
        rw [c2_shuntCells_f95_fr (fun j hj => hp) (fun j hj => hC j (by rw [h5, hc] at hj; omega)), c2_shuntCells_gw hp, zp p hp]
      · rw [q5 j a11 a13 a16, zc j a16]
      · by_cases hb : t2_bt (r_shuntAll_m (fl_row (fl_row fr 280 (upd (fr 280) 13 (0 : Int32))) 277 (upd (fr 277) 6 (0 : Int32))) 280 13) C = true
        · rw [((q1 C hC).1 ⟨hC, hb⟩).2.2.2.2 j b2 b3 b4 b8, zp _ (by omega)]
        · rw [(q1 C hC).2 (fun q => hb q.2), zp _ (by omega)]
      · rw [si.2.2.1 _ (by omega) (by omega) (by omega) (fun D hD => ⟨by omega, by omega⟩), zr _ (by omega)]
    · rw [if_neg m1]
      by_cases m2 : (fr 280 45).toInt = (2 : Int32).toInt
      · rw [if_pos m2, if_pos m2]
        have ej : c2_balance_j58_0 fc = r_goBalance_j48_0 fr := by
          unfold c2_balance_j58_0 r_goBalance_j48_0
          rw [ht]
        rw [hc, hg, ej]
        have shc : ∀ (f : t2_F) (i : Nat), i + 1 < n → (∀ p : Nat, p ≠ 181 → (∀ C : Nat, C < 16 → p ≠ 198 + 4 * C) → c2_shuttle_m f i p = f p) ∧ (∀ j : Nat, j ≠ 14 → j ≠ 15 → c2_shuttle_m f i 181 j = f 181 j) ∧ (∀ C : Nat, ∀ j : Nat, j ≠ 2 → j ≠ 3 → j ≠ 4 → j ≠ 8 → c2_shuttle_m f i (198 + 4 * C) j = f (198 + 4 * C) j) := by
          intro f i hi
          have one : ∀ A B : Nat, A ≠ B → A < 16 → B < 16 → (∀ p : Nat, p ≠ 181 → (∀ C : Nat, C < 16 → p ≠ 198 + 4 * C) → c2_sh f A B p = f p) ∧ (∀ j : Nat, j ≠ 14 → j ≠ 15 → c2_sh f A B 181 j = f 181 j) ∧ (∀ C : Nat, ∀ j : Nat, j ≠ 2 → j ≠ 3 → j ≠ 4 → j ≠ 8 → c2_sh f A B (198 + 4 * C) j = f (198 + 4 * C) j) := by
            intro A B hAB hA hB
            obtain ⟨⟨-, -, -, -, wAo⟩, ⟨-, -, -, -, wBo⟩, wp, wo, -, -⟩ := c2_sh_w (f := f) hAB
            refine ⟨fun p hp hC => wp p hp (hC A hA) (hC B hB), wo, fun C j b2 b3 b4 b8 => ?_⟩
            by_cases eA : C = A
            · subst eA
              exact wAo j b2 b3 b4 b8
            · by_cases eB : C = B
              · subst eB
                exact wBo j b2 b3 b4 b8
              · rw [wp _ (by omega) (by omega) (by omega)]
          rw [c2_shuttle_sh]
          split
          · split
            · exact one i (i + 1) (by omega) (by omega) (by omega)
            · exact one (i + 1) i (by omega) (by omega) (by omega)
          · exact ⟨fun _ _ _ => rfl, fun _ _ _ => rfl, fun _ _ _ _ _ _ => rfl⟩
        have loop : ∀ k : Nat, k ≤ (n - (r_goBalance_j48_0 fr).toInt.toNat) / 2 → (∀ p : Nat, p ≠ 181 → (∀ C : Nat, C < 16 → p ≠ 198 + 4 * C) → c2_balance_f67 fc k p = fc p) ∧ (∀ j : Nat, j ≠ 11 → j ≠ 13 → j ≠ 14 → j ≠ 15 → j ≠ 16 → c2_balance_f67 fc k 181 j = fc 181 j) ∧ (∀ C : Nat, C < n → ∀ j : Nat, j ≠ 2 → j ≠ 3 → j ≠ 4 → j ≠ 8 → c2_balance_f67 fc k (198 + 4 * C) j = fc (198 + 4 * C) j) ∧ (∀ C : Nat, C < n → ∀ w : Nat, w < 61 → w ≠ 1 → w ≠ 4 → r_goBalance_f57 fr k 280 (444 + 61 * C + w) = fr 280 (444 + 61 * C + w)) := by
          intro k
          induction k with
          | zero =>
            intro _
            refine ⟨fun p hp _ => zp p hp, fun j _ _ _ _ a16 => zc j a16, fun C hC j _ _ _ _ => ?_, fun C hC w hw w1 w4 => ?_⟩
            · show fl_row fc 181 _ (198 + 4 * C) j = _
              rw [fl_row_ne (by omega)]
            · show (if (fr 280 45).toInt = (1 : Int32).toInt then _ else _ : t2_F) 280 _ = _
              rw [if_neg m1]
              exact zr _ (by omega)
          | succ k ih =>
            intro hk
            obtain ⟨i1, i2, i3, i4⟩ := ih (by omega)
            obtain ⟨s1, s2, s3⟩ := shc (c2_balance_f67 fc k) ((c2_balance_j58_0 fc).toInt.toNat + 2 * k) (by rw [ej]; omega)
            refine ⟨fun p hp hC => ?_, fun j a11 a13 a14 a15 a16 => ?_, fun C hC j b2 b3 b4 b8 => ?_, fun C hC w hw w1 w4 => ?_⟩
            · exact (s1 p hp hC).trans (i1 p hp hC)
            · exact (s2 j a14 a15).trans (i2 j a11 a13 a14 a15 a16)
            · exact (s3 C j b2 b3 b4 b8).trans (i3 C hC j b2 b3 b4 b8)
            · show r_shuttle_m (r_goBalance_f57 fr k) _ _ 280 _ = _
              rw [r_shuttle_w (by omega) (by omega) (by omega) (by omega) (by omega) (by omega)]
              exact i4 C hC w hw w1 w4
        exact loop _ (Nat.le_refl _)
      · rw [if_neg m2, if_neg m2, if_neg m1]
        exact ⟨fun p hp _ => zp p hp, fun j _ _ _ _ a16 => zc j a16, fun C hC j _ _ _ _ => by rw [fl_row_ne (by omega)], fun C hC w hw w1 w4 => zr _ (by omega)⟩
  · rw [if_neg h6, if_neg h6]
    exact ⟨fun p hp _ => zp p hp, fun j _ _ _ _ a16 => zc j a16, fun C hC j _ _ _ _ => by rw [fl_row_ne (by omega)], fun C hC w hw w1 w4 => zr _ (by omega)⟩
end C3PFRM

section C3PREL
variable {fc fr fc' fr' : t2_F} {C : Nat}
def c3_GT (fc fr : t2_F) : Prop := c2_Rk fc fr ∧ c2_Rz fc fr ∧ c3_Rr fc fr ∧ (∀ k : Nat, k < 24 → fc 186 k = fr 280 (315 + k)) ∧ fc 183 7 = fr 280 19 ∧ ∀ j : Nat, (j : Int) < 2 * (fr 280 19).toInt → fc 188 j = fr 280 (119 + j)
theorem c3_GT.congr (h : c3_GT fc fr) (hn : (fr 280 19).toInt ≤ 24) (e3 : fc' 183 = fc 183) (e5 : fc' 185 = fc 185) (e6 : fc' 186 = fc 186) (e7 : fc' 187 = fc 187) (e8 : fc' 188 = fc 188) (e9 : fc' 189 = fc 189) (e : ∀ w : Nat, ((17 ≤ w ∧ w ≤ 19) ∨ (64 ≤ w ∧ w < 167) ∨ (315 ≤ w ∧ w < 339)) → fr' 280 w = fr 280 w) : c3_GT fc' fr' := by
  obtain ⟨h1, h2, h3, h4, h5, h6⟩ := h
  refine ⟨h1.congr e5 (fun k hk => e _ (by omega)), h2.congr e3 e7 (e _ (by omega)) (fun k hk => e _ (by omega)), ?_, fun k hk => ?_, ?_, fun j hj => ?_⟩
  · obtain ⟨a, b⟩ := h3
    unfold c3_Rr
    rw [e3, e 18 (by omega)]
    exact ⟨a, b⟩
  · rw [e6, e _ (by omega)]
    exact h4 k hk
  · rw [e3, e 19 (by omega)]
    exact h5
  · rw [e 19 (by omega)] at hj
    rw [e8, e _ (by omega)]
    exact h6 j hj
end C3PREL

section C3PSTA
variable {fc fr fc' fr' f g : t2_F} {C n : Nat} {c x : Int32}
def c3_GX (fc fr : t2_F) : Prop := c3_GT fc fr ∧ c2_GW fc fr ∧ c2_Tr fc fr ∧ c2_GM fc fr
theorem c3_GX.congr (h : c3_GX fc fr) (hn : (fr 280 19).toInt ≤ 24) (ep : ∀ p : Nat, (p ≠ 181 ∧ p ≠ 184 ∧ p < 198) ∨ (262 ≤ p ∧ p < 271) → fc' p = fc p) (e : ∀ w : Nat, (w = 6 ∨ (15 ≤ w ∧ w < 34) ∨ (64 ≤ w ∧ w < 444)) → fr' 280 w = fr 280 w) : c3_GX fc' fr' := by
  obtain ⟨h1, h2, h3, h4⟩ := h
  exact ⟨h1.congr hn (ep _ (by decide)) (ep _ (by decide)) (ep _ (by decide)) (ep _ (by decide)) (ep _ (by decide)) (ep _ (by decide)) (fun w hw => e w (by omega)), h2.congr (ep _ (by decide)) (ep _ (by decide)) (ep _ (by decide)) (ep _ (by decide)) (ep _ (by decide)) (fun w hw => e w (by omega)), h3.congr (ep _ (by decide)) (ep _ (by decide)) (fun w hw => e w (by omega)), h4.congr (fun p hp => ep p (Or.inr hp)) (fun w hw => e w (by omega))⟩
def c3_I (fc fr : t2_F) : Prop := c2_GS fc fr ∧ c3_Rs fc fr ∧ c3_GX fc fr ∧ (∀ C : Nat, (C : Int) < (fr 280 2).toInt → c2_Rc fc fr C ∧ c2_GC fc fr C) ∧ t2_OK (fr 280)
theorem c3_I.cnt (h : c3_I fc fr) : (fr 280 2).toInt = (((fr 280 2).toInt.toNat : Nat) : Int) ∧ (fr 280 2).toInt.toNat ≤ 16 ∧ (fc 181 5).toInt = (((fr 280 2).toInt.toNat : Nat) : Int) := by
  obtain ⟨⟨⟨h5, -⟩, -⟩, -, -, -, -, ⟨-, -, h2, -⟩, -⟩ := h
  rw [h5]
  omega
theorem c3_I.cell (h : c3_I fc fr) {C : Nat} (hC : C < (fr 280 2).toInt.toNat) : (c2_Rc fc fr C ∧ c2_GC fc fr C) ∧ t2_OC (fr 280) C := by
  have q : (C : Int) < (fr 280 2).toInt := by have := h.cnt; omega
  exact ⟨h.2.2.2.1 C q, h.2.2.2.2.2.2.2.2.2.2.2 C q⟩
theorem c3_I.rl (h : c3_I fc fr) : c3_RL fc fr ((fr 280 2).toInt.toNat) := ⟨⟨h.cnt.2.1, h.cnt.2.2, h.cnt.1⟩, h.2.1, h.2.2.1.1.2.1, h.2.2.2.2.2.2.2.1.1, fun C hC => (h.cell hC).1.1⟩
theorem c3_I.far (h : c3_I fc fr) {C : Nat} (hC : C < (fr 280 2).toInt.toNat) : t2_far (fr 280 5) (fr 280 (444 + 61 * C + 2)) := t2_far_ok h.2.2.2.2.2.1.1 (h.cell hC).2.2.1
theorem c3_I.s1 (h : c3_I fc fr) (ht : (fr 280 7).toInt < 9999) : c3_I (c2_s1 fc) (r_t1 fr) ∧ (r_t1 fr 280 7).toInt = (fr 280 7).toInt + 1 := by
  have hh := h
  obtain ⟨⟨⟨g5, g6, g7, g8⟩, ⟨g9, g10, g11, g12⟩, g13, g14, g15, g16⟩, rs, gx, cl, ok⟩ := h
  have t0 : 0 ≤ (fr 280 7).toInt := ok.2.1.2.2.2.1
  have c1 : (1 : Int32).toInt = 1 := by decide +kernel
  have c9 : (9999 : Int32).toInt = 9999 := by decide +kernel
  have e7 : (fr 280 7 + (1 : Int32)).toInt = (fr 280 7).toInt + 1 := by rw [at_add32 (by omega) (by omega), c1]
  have P : ∀ p : Nat, p ≠ 181 → c2_s1 fc p = fc p := fun p hp => fl_row_ne hp
  have Q : ∀ j : Nat, j ≠ 6 → c2_s1 fc 181 j = fc 181 j := fun j hj => by unfold c2_s1; rw [fl_row_self, upd_ne hj]
  have W : ∀ w : Nat, w ≠ 7 → r_t1 fr 280 w = fr 280 w := fun w hw => by unfold r_t1; rw [fl_row_self, upd_ne hw]
  have w7 : r_t1 fr 280 7 = fr 280 7 + (1 : Int32) := by unfold r_t1; rw [fl_row_self, upd_self]
  have q6 : c2_s1 fc 181 6 = fr 280 7 + (1 : Int32) := by
    unfold c2_s1
    rw [fl_row_self, upd_self, g6]
    apply Int32.toInt.inj
    rw [t2_min_i]
    omega
  refine ⟨⟨⟨⟨?_, ?_, ?_, ?_⟩, ⟨?_, ?_, ?_, ?_⟩, ?_, ?_, ?_, ?_⟩, rs.congr (P _ (by decide)) (fun k hk => W _ (by omega)), gx.congr ok.2.2.2.2.2.1.1.2 (fun p hp => P p (by omega)) (fun w hw => W w (by omega)), fun C hC => ?_, ?_⟩, by rw [w7, e7]⟩
  · rw [Q 5 (by decide), W 2 (by decide), g5]
  · rw [q6, w7]
  · rw [Q 7 (by decide), W 3 (by decide), g7]
  · rw [Q 8 (by decide), W 4 (by decide), g8]
  · rw [Q 9 (by decide), W 5 (by decide), g9]
  · rw [Q 10 (by decide), W 14 (by decide), g10]
  · rw [Q 11 (by decide), W 8 (by decide), g11]
  · rw [Q 12 (by decide), W 9 (by decide), g12]
  · rw [Q 13 (by decide), W 10 (by decide), g13]
  · rw [Q 14 (by decide), W 11 (by decide), g14]
  · rw [Q 15 (by decide), W 12 (by decide), g15]
  · rw [Q 16 (by decide), W 13 (by decide), g16]
  · rw [W 2 (by decide)] at hC
    exact ⟨(cl C hC).1.congr (P _ (by omega)) (fun k hk => W _ (by omega)), (cl C hC).2.congr (fun j _ _ => by rw [P _ (by omega)]) (fun p hp => P p (by omega)) (fun w hw => W _ (by omega))⟩
  · refine ok.upd (fun w hw => W w (by omega)) (fun k hk => by rw [W _ (by omega)]; exact ok.s hk) (by rw [W 5 (by decide)]; exact ok.2.1.1) (by rw [W 4 (by decide)]; exact ok.2.1.2.1) (by rw [w7, e7]; omega) (by rw [W 16 (by decide), W 20 (by decide), W 21 (by decide)]; exact ok.2.2.2.2.2.2.1) (fun C hC => ?_)
    exact (hh.2.2.2.2.2.2.2.2.2.2.2 C hC).congr (fun w hw => W _ (by omega)) (by rw [w7, e7]; omega)
theorem c3_I.bus (h : c3_I fc fr) : c3_I (c2_moveBus_m fc) (r_goBus_m fr) ∧ c2_moveBus_v fc = r_goBus_m fr 277 4 ∧ (r_goBus_m fr 277 4 = 0 ∨ r_goBus_m fr 277 4 = 1) ∧ ∀ j : Nat, j ≠ 4 → r_goBus_m fr 277 j = fr 277 j := by
  have hh := h
  obtain ⟨⟨⟨g5, g6, g7, g8⟩, ⟨g9, g10, g11, g12⟩, g13, g14, g15, g16⟩, rs, gx, cl, ok⟩ := h
  have cn := hh.cnt
  have bp : -160000 ≤ (r_packCalm_v fr).toInt ∧ (r_packCalm_v fr).toInt ≤ 235200 := by
    have b := r_packCalm_b (f := fr) (n := (fr 280 2).toInt.toNat) cn.2.1 (fun C hC => (hh.cell hC).2.2.2.2.2.1)
    have e : r_packCalm_v fr = r_packCalm_a4 fr ((fr 280 2).toInt.toNat) := rfl
    rw [e]
    omega
  have bb := ok.2.1.2.1
  obtain ⟨hp, hj⟩ := c3_bus_eq (n := (fr 280 2).toInt.toNat) cn.2.2 g5 (fun C hC => (hh.cell hC).1.1) g7 g8 rs gx.1.1 ok.2.2.1 (by omega) (by omega)
  have sl := c3_slow_eq g7 g8 rs hp hj
  refine ⟨?_, sl⟩
  have P : ∀ p : Nat, p ≠ 181 → c2_moveBus_m fc p = fc p := fun p hp => c2_moveBus_fr hp
  have Q : ∀ j : Nat, j ≠ 7 → j ≠ 8 → c2_moveBus_m fc 181 j = fc 181 j := fun j h7 h8 => by rw [c2_moveBus_w, if_neg h8, if_neg h7]
  have W : ∀ w : Nat, w ≠ 3 → w ≠ 4 → r_goBus_m fr 280 w = fr 280 w := fun w h3 h4 => by rw [r_goBus_w2, if_neg h4, if_neg h3]
  have w4 : r_goBus_m fr 280 4 = r_goBus_j16_0 fr := by rw [r_goBus_w2, if_pos rfl]
  have j16 := r_bus_b (f := fr) bb bp (ok.s (k := 7) (by decide))
  refine ⟨⟨⟨?_, ?_, ?_, ?_⟩, ⟨?_, ?_, ?_, ?_⟩, ?_, ?_, ?_, ?_⟩, rs.congr (P _ (by decide)) (fun k hk => W _ (by omega) (by omega)), gx.congr ok.2.2.2.2.2.1.1.2 (fun p hp => P p (by omega)) (fun w hw => W w (by omega) (by omega)), fun C hC => ?_, ?_⟩
  · rw [Q 5 (by decide) (by decide), W 2 (by decide) (by decide), g5]
  · rw [Q 6 (by decide) (by decide), W 7 (by decide) (by decide), g6]
  · rw [c2_moveBus_w, r_goBus_w2, if_neg (by decide : ¬ (7 : Nat) = 8), if_pos rfl, if_neg (by decide : ¬ (3 : Nat) = 4), if_pos rfl, g7, hp, hj, t2_m32 (r_goBus_j16_0 fr) (1000 : Int32)]
  · rw [c2_moveBus_w, if_pos rfl, w4, hj]
  · rw [Q 9 (by decide) (by decide), W 5 (by decide) (by decide), g9]
  · rw [Q 10 (by decide) (by decide), W 14 (by decide) (by decide), g10]
  · rw [Q 11 (by decide) (by decide), W 8 (by decide) (by decide), g11]
  · rw [Q 12 (by decide) (by decide), W 9 (by decide) (by decide), g12]
  · rw [Q 13 (by decide) (by decide), W 10 (by decide) (by decide), g13]
  · rw [Q 14 (by decide) (by decide), W 11 (by decide) (by decide), g14]
  · rw [Q 15 (by decide) (by decide), W 12 (by decide) (by decide), g15]
  · rw [Q 16 (by decide) (by decide), W 13 (by decide) (by decide), g16]
  · rw [W 2 (by decide) (by decide)] at hC
    exact ⟨(cl C hC).1.congr (P _ (by omega)) (fun k hk => W _ (by omega) (by omega)), (cl C hC).2.congr (fun j _ _ => by rw [P _ (by omega)]) (fun p hp => P p (by omega)) (fun w hw => W _ (by omega) (by omega))⟩
  · refine ok.upd (fun w hw => W w (by omega) (by omega)) (fun k hk => by rw [W _ (by omega) (by omega)]; exact ok.s hk) (by rw [W 5 (by decide) (by decide)]; exact ok.2.1.1) (by rw [w4]; exact j16) (by rw [W 7 (by decide) (by decide)]; exact ok.2.1.2.2.2) (by rw [W 16 (by decide) (by decide), W 20 (by decide) (by decide), W 21 (by decide) (by decide)]; exact ok.2.2.2.2.2.2.1) (fun C hC => ?_)
    exact (hh.2.2.2.2.2.2.2.2.2.2.2 C hC).congr (fun w hw => W _ (by omega) (by omega)) (by rw [W 7 (by decide) (by decide)]; exact Int.le_refl _)
theorem c3_I.cur (h : c3_I fc fr) : c3_I (c2_letCurrent_m fc) (r_goCurrent_m fr) ∧ ∀ w : Nat, w ≠ 5 → (∀ C : Nat, C < (fr 280 2).toInt.toNat → w ≠ 444 + 61 * C + 60) → r_goCurrent_m fr 280 w = fr 280 w := by
  have hh := h
  obtain ⟨⟨⟨g5, g6, g7, g8⟩, ⟨g9, g10, g11, g12⟩, g13, g14, g15, g16⟩, rs, gx, cl, ok⟩ := h
  have cn := hh.cnt
  have rl := hh.rl
  have hm0 : t2_lo 4 ≤ (fr 280 38).toInt ∧ (fr 280 38).toInt ≤ t2_hi 4 := ok.s (k := 4) (by decide)
  have l4 : t2_lo 4 = 1 := by decide
  have h4 : t2_hi 4 = 99999 := by decide
  have hm : 0 ≤ (fr 280 38).toInt ∧ (fr 280 38).toInt ≤ 99999 := by omega
  obtain ⟨k1, k2, k3, k4, k5⟩ := c3_cur_eq rl g7 gx.1.1 ok.2.2.1 hm
  refine ⟨?_, k5⟩
  have P : ∀ p : Nat, p ≠ 181 → (∀ C : Nat, C < (fr 280 2).toInt.toNat → p ≠ 198 + 4 * C) → c2_letCurrent_m fc p = fc p := fun p hp hC => funext (fun k => k4 p k (fun q => absurd q hp) (fun C c q => absurd q (hC C c)))
  have Q : ∀ j : Nat, j ≠ 9 → c2_letCurrent_m fc 181 j = fc 181 j := fun j hj => k4 181 j (fun _ => hj) (fun C _ q => absurd q (by omega))
  have W : ∀ w : Nat, w ≠ 5 → w < 444 → r_goCurrent_m fr 280 w = fr 280 w := fun w h5 hw => k5 w h5 (fun C _ => by omega)
  have Wc : ∀ C w : Nat, w < 60 → r_goCurrent_m fr 280 (444 + 61 * C + w) = fr 280 (444 + 61 * C + w) := fun C w hw => k5 _ (by omega) (fun D _ => by omega)
  have cb : -99999 ≤ (r_goCurrent_j9_0 fr).toInt ∧ (r_goCurrent_j9_0 fr).toInt ≤ 99999 := by
    have c0 : (0 : Int32).toInt = 0 := rfl
    have l0 := rl.lim_nn (x := (0 : Int32)) hm
    have l1 := rl.lim_nn (x := (1 : Int32)) hm
    have n1 : (-(r_limitOf_v fr (1 : Int32))).toInt = -(r_limitOf_v fr (1 : Int32)).toInt := by rw [Int32.toInt_neg]; exact Int.bmod_eq_of_le (by omega) (by omega)
    unfold r_goCurrent_j9_0
    split
    · omega
    · have := t2_heldTo_b (v := fr 280 54) (lo := -(r_limitOf_v fr (1 : Int32))) (hi := r_limitOf_v fr (0 : Int32)) (by omega)
      have e : r_held_v (fr 280 54) (-(r_limitOf_v fr (1 : Int32))) (r_limitOf_v fr (0 : Int32)) = t2_heldTo_v (fr 280 54) (-(r_limitOf_v fr (1 : Int32))) (r_limitOf_v fr (0 : Int32)) := rfl
      rw [e]
      omega
  refine ⟨⟨⟨?_, ?_, ?_, ?_⟩, ⟨?_, ?_, ?_, ?_⟩, ?_, ?_, ?_, ?_⟩, rs.congr (P _ (by decide) (fun C _ => by omega)) (fun k hk => W _ (by omega) (by omega)), gx.congr ok.2.2.2.2.2.1.1.2 (fun p hp => P p (by omega) (fun C hC => by omega)) (fun w hw => W w (by omega) (by omega)), fun C hC => ?_, ?_⟩
  · rw [Q 5 (by decide), W 2 (by decide) (by decide), g5]
  · rw [Q 6 (by decide), W 7 (by decide) (by decide), g6]
  · rw [Q 7 (by decide), W 3 (by decide) (by decide), g7]
  · rw [Q 8 (by decide), W 4 (by decide) (by decide), g8]
  · rw [k1, k2]
  · rw [Q 10 (by decide), W 14 (by decide) (by decide), g10]
  · rw [Q 11 (by decide), W 8 (by decide) (by decide), g11]
  · rw [Q 12 (by decide), W 9 (by decide) (by decide), g12]
  · rw [Q 13 (by decide), W 10 (by decide) (by decide), g13]
  · rw [Q 14 (by decide), W 11 (by decide) (by decide), g14]
  · rw [Q 15 (by decide), W 12 (by decide) (by decide), g15]
  · rw [Q 16 (by decide), W 13 (by decide) (by decide), g16]
  · rw [W 2 (by decide) (by decide)] at hC
    have hC' : C < (fr 280 2).toInt.toNat := by omega
    have R : ∀ j : Nat, j ≠ 18 → c2_letCurrent_m fc (198 + 4 * C) j = fc (198 + 4 * C) j := fun j hj => k4 _ j (fun q => absurd q (by omega)) (fun _ _ _ => hj)
    exact ⟨(cl C hC).1.c18 (fun j hj => R j (by omega)) (k3 C hC') (fun w hw => Wc C w (by omega)), (cl C hC).2.congr (fun j _ _ => R j (by omega)) (fun p hp => P p (by omega) (fun D hD => by omega)) (fun w hw => Wc C w (by omega))⟩
  · refine ok.upd (fun w hw => W w (by omega) (by omega)) (fun k hk => by rw [W _ (by omega) (by omega)]; exact ok.s hk) (by rw [k2]; exact cb) (by rw [W 4 (by decide) (by decide)]; exact ok.2.1.2.1) (by rw [W 7 (by decide) (by decide)]; exact ok.2.1.2.2.2) (by rw [W 16 (by decide) (by decide), W 20 (by decide) (by decide), W 21 (by decide) (by decide)]; exact ok.2.2.2.2.2.2.1) (fun C hC => ?_)
    exact (hh.2.2.2.2.2.2.2.2.2.2.2 C hC).congr (fun w hw => Wc C w (by omega)) (by rw [W 7 (by decide) (by decide)]; exact Int.le_refl _)
theorem c3_I.cells (h : c3_I fc fr) (hth : ∀ C : Nat, C < (fr 280 2).toInt.toNat → (fr 280 (444 + 61 * C + 5)).toInt ≤ 99999 * ((fr 280 7).toInt - 1)) : c3_I (c2_passCells_m fc) (r_goCells_m fr) := by
  have hh := h
  obtain ⟨⟨⟨g5, g6, g7, g8⟩, ⟨g9, g10, g11, g12⟩, g13, g14, g15, g16⟩, rs, gx, cl, ok⟩ := h
  have cn := hh.cnt
  generalize hnn : (fr 280 2).toInt.toNat = n at *
  have hM : (fc 181 5).toInt.toNat = n := by omega
  have xb := ok.2.1.1
  have ab := t2_abs_b xb
  have tb := ok.2.1.2.2.2
  have s24 : fc 184 24 = fr 280 58 := rs 24 (by decide)
  have s25 : fc 184 25 = fr 280 59 := rs 25 (by decide)
  have b24 : t2_lo 24 ≤ (fr 280 58).toInt ∧ (fr 280 58).toInt ≤ t2_hi 24 := ok.s (k := 24) (by decide)
  have b25 : t2_lo 25 ≤ (fr 280 59).toInt ∧ (fr 280 59).toInt ≤ t2_hi 25 := ok.s (k := 25) (by decide)
  have q24 : t2_lo 24 = 0 ∧ t2_hi 24 = 9999 ∧ t2_lo 25 = 0 ∧ t2_hi 25 = 99 := by decide
  have c36 : (3600 : Int32).toInt = 3600 := by decide +kernel
  have oc : ∀ C : Nat, C < n → t2_OC (fr 280) C := fun C hC => (hh.cell (by omega)).2
  have rc : ∀ C : Nat, C < n → c2_Rc fc fr C := fun C hC => (hh.cell (by omega)).1.1
  have sum : ∀ C : Nat, C < n → (fc (198 + 4 * C) 9 + t2_abs_v (fr 280 5)).toInt = (fr 280 (444 + 61 * C + 5)).toInt + (t2_abs_v (fr 280 5)).toInt := fun C hC => by
    obtain ⟨-, -, -, t, -, -, -, -⟩ := oc C hC
    have r9 := (rc C hC).2.2.2.2.1
    rw [r9, at_add32 (by omega) (by omega)]
  have key := c3_cells_eq (n := n) hM hnn g9 rs rc (fun C hC => by
    obtain ⟨k1, -, k3, t, -, -, -, -⟩ := oc C hC
    have r0 := (rc C hC).1.1
    have r8 := (rc C hC).2.2.2.1
    refine ⟨by rw [r0]; exact k1.1, by rw [r0, r8]; exact k3, ?_⟩
    rw [sum C hC]
    omega) (by rw [s24, at_mul32] <;> rw [c36] <;> omega)
  have P : ∀ p : Nat, (p < 198 ∨ ∀ C : Nat, C < 16 → p ≠ 198 + 4 * C) → c2_passCells_m fc p = fc p := fun p hp => c2_cells_p hp (by omega)
  have W : ∀ w : Nat, w < 444 → r_goCells_m fr 280 w = fr 280 w := fun w hw => r_cells_lo hw
  have Wc : ∀ C w : Nat, w < 61 → w ≠ 0 ∧ w ≠ 1 ∧ w ≠ 3 ∧ w ≠ 4 ∧ w ≠ 5 ∧ w ≠ 9 → r_goCells_m fr 280 (444 + 61 * C + w) = fr 280 (444 + 61 * C + w) := fun C w hw h => r_cells_o hnn hw h
  have P1 : c2_passCells_m fc 181 = fc 181 := P _ (Or.inl (by decide))
  refine ⟨⟨⟨?_, ?_, ?_, ?_⟩, ⟨?_, ?_, ?_, ?_⟩, ?_, ?_, ?_, ?_⟩, rs.congr (P _ (Or.inl (by decide))) (fun k hk => W _ (by omega)), gx.congr ok.2.2.2.2.2.1.1.2 (fun p hp => P p (by rcases hp with q | q; exact Or.inl (by omega); exact Or.inr (fun C hC => by omega))) (fun w hw => W w (by omega)), fun C hC => ?_, ?_⟩
  · rw [P1, W 2 (by decide), g5]
  · rw [P1, W 7 (by decide), g6]
  · rw [P1, W 3 (by decide), g7]
  · rw [P1, W 4 (by decide), g8]
  · rw [P1, W 5 (by decide), g9]
  · rw [P1, W 14 (by decide), g10]
  · rw [P1, W 8 (by decide), g11]
  · rw [P1, W 9 (by decide), g12]
  · rw [P1, W 10 (by decide), g13]
  · rw [P1, W 11 (by decide), g14]
  · rw [P1, W 12 (by decide), g15]
  · rw [P1, W 13 (by decide), g16]
  · rw [W 2 (by decide)] at hC
    have hC' : C < n := by omega
    exact ⟨(key C hC').1, (cl C hC).2.congr (fun j j1 _ => c2_cells_o hM hC' (Or.inr (Or.inr j1))) (fun p hp => P p (Or.inr (fun D hD => by omega))) (fun w hw => Wc C w (by omega) (by omega))⟩
  · refine ok.upd (fun w hw => W w (by omega)) (fun k hk => by rw [W _ (by omega)]; exact ok.s hk) (by rw [W 5 (by decide)]; exact ok.2.1.1) (by rw [W 4 (by decide)]; exact ok.2.1.2.1) (by rw [W 7 (by decide)]; exact ok.2.1.2.2.2) (by rw [W 16 (by decide), W 20 (by decide), W 21 (by decide)]; exact ok.2.2.2.2.2.2.1) (fun C hC => ?_)
    have hC' : C < n := by omega
    obtain ⟨k1, k2, k3, t, po, k15, k16, ka⟩ := oc C hC'
    obtain ⟨rc', cap⟩ := key C hC'
    obtain ⟨⟨a0, -, -⟩, -, ⟨-, -, a7⟩, a8, a9, -⟩ := rc'
    rw [a0] at cap
    have Rw : ∀ w : Nat, w < 61 → r_goCells_m fr 280 (444 + 61 * C + w) = r_goOld_m (r_goCells_f50 fr C) (Int32.ofNat C) C 280 (444 + 61 * C + w) := by
      intro w hw
      unfold r_goCells_m
      rw [hnn, r_f50_in hw hC']
    obtain ⟨⟨v1, e1⟩, ⟨v4, e4⟩⟩ := r_old_held (f := r_goCells_f50 fr C) (c := Int32.ofNat C) (C := C)
    rw [← Rw 1 (by decide), ← Rw 0 (by decide)] at e1
    rw [← Rw 4 (by decide), ← Rw 0 (by decide)] at e4
    have ck : t2_ck (r_goCells_m fr) C := c2_ck_held cap rfl e1
    have p4 : r_P4 (r_goCells_m fr) C := r_P4_held cap rfl e4
    have FC : c2_passCells_f2 fc C (198 + 4 * C) = fc (198 + 4 * C) := c2_passCells_f2_fr (k := C) (p := 198 + 4 * C) (fun j hj => by omega)
    have F4 : c2_passCells_f2 fc C 184 = fc 184 := c2_passCells_f2_fr (k := C) (p := 184) (fun j hj => by omega)
    have Pj : ∀ j : Nat, j ≠ 6 → c2_passCells_m fc (198 + 4 * C) j = c2_pass_m (c2_passCells_f2 fc C) C (fr 280 5) (198 + 4 * C) j := by
      intro j hj
      unfold c2_passCells_m
      rw [c2_f35_o hj, hM, c2_f2_at hC', g9]
    obtain ⟨u9, u7⟩ := c2_pass_9 (f := c2_passCells_f2 fc C) (i := C) (x := fr 280 5) (by rw [FC, sum C hC']; omega)
    rw [← Pj 9 (by decide), FC, a9, sum C hC'] at u9
    rw [← Pj 7 (by decide), FC, F4, a7, s25, (rc C hC').2.2.1.2.2] at u7
    have th := hth C (by omega)
    refine ⟨ck, ?_, p4.2, ?_, ?_, ?_, ?_, ka.congr (fun w hw => Wc C w (by omega) (by omega))⟩
    · rw [Wc C 2 (by decide) (by decide)]
      exact k2
    · rw [W 7 (by decide)]
      omega
    · rw [u7]
      exact t2_polar_b po xb (by omega)
    · rw [Wc C 15 (by decide) (by decide)]
      exact k15
    · rw [Wc C 16 (by decide) (by decide)]
      exact k16
theorem c3_I.bal (h : c3_I fc fr) : c3_I (c2_balance_m fc) (r_goBalance_m fr) := by
  have hh := h
  obtain ⟨⟨⟨g5, g6, g7, g8⟩, ⟨g9, g10, g11, g12⟩, g13, g14, g15, g16⟩, rs, gx, cl, ok⟩ := h
  have cn := hh.cnt
  generalize hnn : (fr 280 2).toInt.toNat = n at *
  have hM : (fc 181 5).toInt.toNat = n := by omega
  have oc : ∀ C : Nat, C < n → t2_OC (fr 280) C := fun C hC => (hh.cell (by omega)).2
  have rc : ∀ C : Nat, C < n → c2_Rc fc fr C := fun C hC => (hh.cell (by omega)).1.1
  have rb : c3_RB fc fr n := ⟨rs, fun C hC => ⟨rc C hC, by rw [(rc C hC).1.1]; exact (oc C hC).1.1, (oc C hC).1⟩, g14, g15, g11, g13, g16⟩
  have b13 : t2_lo 13 ≤ (fr 280 47).toInt ∧ (fr 280 47).toInt ≤ t2_hi 13 := ok.s (k := 13) (by decide)
  have q13 : t2_lo 13 = 0 ∧ t2_hi 13 = 16 := by decide
  have hl : fc 190 3 = fr 280 6 := gx.2.1.1.1
  obtain ⟨rs', k, e14, e15, e11, e13, e16⟩ := c3_balance_eq hM hnn cn.2.1 rb hl g6 (by omega)
  obtain ⟨P, Q, Pc, Wc⟩ := c3_balance_o hM hnn cn.2.1 rb hl g6 (by omega)
  have W : ∀ w : Nat, (w < 444 ∧ w ≠ 8 ∧ w ≠ 10 ∧ w ≠ 11 ∧ w ≠ 12 ∧ w ≠ 13) → r_goBalance_m fr 280 w = fr 280 w := fun w hw => r_goBalance_w hw
  refine ⟨⟨⟨?_, ?_, ?_, ?_⟩, ⟨?_, ?_, e11, ?_⟩, e13, e14, e15, e16⟩, rs', gx.congr ok.2.2.2.2.2.1.1.2 (fun p hp => P p (by omega) (fun C hC => by omega)) (fun w hw => W w (by omega)), fun C hC => ?_, ?_⟩
  · rw [Q 5 (by decide) (by decide) (by decide) (by decide) (by decide), W 2 (by decide), g5]
  · rw [Q 6 (by decide) (by decide) (by decide) (by decide) (by decide), W 7 (by decide), g6]
  · rw [Q 7 (by decide) (by decide) (by decide) (by decide) (by decide), W 3 (by decide), g7]
  · rw [Q 8 (by decide) (by decide) (by decide) (by decide) (by decide), W 4 (by decide), g8]
  · rw [Q 9 (by decide) (by decide) (by decide) (by decide) (by decide), W 5 (by decide), g9]
  · rw [Q 10 (by decide) (by decide) (by decide) (by decide) (by decide), W 14 (by decide), g10]
  · rw [Q 12 (by decide) (by decide) (by decide) (by decide) (by decide), W 9 (by decide), g12]
  · rw [W 2 (by decide)] at hC
    have hC' : C < n := by omega
    exact ⟨(k C hC').1, (cl C hC).2.congr (fun j j1 _ => Pc C hC' j (by omega) (by omega) (by omega) (by omega)) (fun p hp => P p (by omega) (fun D hD => by omega)) (fun w hw => Wc C hC' w (by omega) (by omega) (by omega))⟩
  · refine ok.upd (fun w hw => W w (by omega)) (fun k hk => by rw [W _ (by omega)]; exact ok.s hk) (by rw [W 5 (by decide)]; exact ok.2.1.1) (by rw [W 4 (by decide)]; exact ok.2.1.2.1) (by rw [W 7 (by decide)]; exact ok.2.1.2.2.2) (by rw [W 16 (by decide), W 20 (by decide), W 21 (by decide)]; exact ok.2.2.2.2.2.2.1) (fun C hC => ?_)
    have hC' : C < n := by omega
    obtain ⟨k1, k2, k3, t, po, k15, k16, ka⟩ := oc C hC'
    have p4 : r_P4 (r_goBalance_m fr) C := r_balance_P4 ⟨k1.1, k3⟩
    refine ⟨(k C hC').2.2, ?_, p4.2, ?_, ?_, ?_, ?_, ka.congr (fun w hw => Wc C hC' w (by omega) (by omega) (by omega))⟩
    · rw [Wc C hC' 2 (by decide) (by decide) (by decide)]
      exact k2
    · rw [W 7 (by decide), Wc C hC' 5 (by decide) (by decide) (by decide)]
      exact t
    · rw [Wc C hC' 9 (by decide) (by decide) (by decide)]
      exact po
    · rw [Wc C hC' 15 (by decide) (by decide) (by decide)]
      exact k15
    · rw [Wc C hC' 16 (by decide) (by decide) (by decide)]
      exact k16
theorem c3_I.s5 (h : c3_I fc fr) : c3_I (c2_s5 fc) (r_t5 fr) := by
  have hh := h
  obtain ⟨⟨⟨g5, g6, g7, g8⟩, ⟨g9, g10, g11, g12⟩, g13, g14, g15, g16⟩, rs, gx, cl, ok⟩ := h
  have s6 : fc 184 6 = fr 280 40 := rs 6 (by decide)
  have P : ∀ p : Nat, p ≠ 181 → c2_s5 fc p = fc p := fun p hp => fl_row_ne hp
  have Q : ∀ j : Nat, j ≠ 11 → c2_s5 fc 181 j = fc 181 j := fun j hj => by unfold c2_s5; rw [fl_row_self, upd_ne hj]
  have W : ∀ w : Nat, w ≠ 8 → r_t5 fr 280 w = fr 280 w := fun w hw => by unfold r_t5; rw [fl_row_self, upd_ne hw]
  refine ⟨⟨⟨?_, ?_, ?_, ?_⟩, ⟨?_, ?_, ?_, ?_⟩, ?_, ?_, ?_, ?_⟩, rs.congr (P _ (by decide)) (fun k hk => W _ (by omega)), gx.congr ok.2.2.2.2.2.1.1.2 (fun p hp => P p (by omega)) (fun w hw => W w (by omega)), fun C hC => ?_, ?_⟩
  · rw [Q 5 (by decide), W 2 (by decide), g5]
  · rw [Q 6 (by decide), W 7 (by decide), g6]
  · rw [Q 7 (by decide), W 3 (by decide), g7]
  · rw [Q 8 (by decide), W 4 (by decide), g8]
  · rw [Q 9 (by decide), W 5 (by decide), g9]
  · rw [Q 10 (by decide), W 14 (by decide), g10]
  · unfold c2_s5 r_t5
    rw [fl_row_self, upd_self, fl_row_self, upd_self, s6, g11]
  · rw [Q 12 (by decide), W 9 (by decide), g12]
  · rw [Q 13 (by decide), W 10 (by decide), g13]
  · rw [Q 14 (by decide), W 11 (by decide), g14]
  · rw [Q 15 (by decide), W 12 (by decide), g15]
  · rw [Q 16 (by decide), W 13 (by decide), g16]
  · rw [W 2 (by decide)] at hC
    exact ⟨(cl C hC).1.congr (P _ (by omega)) (fun k hk => W _ (by omega)), (cl C hC).2.congr (fun j _ _ => by rw [P _ (by omega)]) (fun p hp => P p (by omega)) (fun w hw => W _ (by omega))⟩
  · refine ok.upd (fun w hw => W w (by omega)) (fun k hk => by rw [W _ (by omega)]; exact ok.s hk) (by rw [W 5 (by decide)]; exact ok.2.1.1) (by rw [W 4 (by decide)]; exact ok.2.1.2.1) (by rw [W 7 (by decide)]; exact ok.2.1.2.2.2) (by rw [W 16 (by decide), W 20 (by decide), W 21 (by decide)]; exact ok.2.2.2.2.2.2.1) (fun C hC => ?_)
    exact (hh.2.2.2.2.2.2.2.2.2.2.2 C hC).congr (fun w hw => W _ (by omega)) (by rw [W 7 (by decide)]; exact Int.le_refl _)
end C3PSTA

section C3PSTB
variable {fc fr fc' fr' f g : t2_F} {C n : Nat} {c x : Int32}
def c3_IM (fc fr : t2_F) : Prop := c2_GSM fc fr ∧ c3_Rs fc fr ∧ c3_GX fc fr ∧ (∀ C : Nat, (C : Int) < (fr 280 2).toInt → c2_Rc fc fr C ∧ c2_GCM fc fr C) ∧ t2_OK (fr 280)
theorem c3_IM.cnt (h : c3_IM fc fr) : (fr 280 2).toInt = (((fr 280 2).toInt.toNat : Nat) : Int) ∧ (fr 280 2).toInt.toNat ≤ 16 ∧ (fc 181 5).toInt = (((fr 280 2).toInt.toNat : Nat) : Int) := by
  obtain ⟨⟨⟨h5, -⟩, -⟩, -, -, -, -, ⟨-, -, h2, -⟩, -⟩ := h
  rw [h5]
  omega
theorem c3_IM.cell (h : c3_IM fc fr) {C : Nat} (hC : C < (fr 280 2).toInt.toNat) : (c2_Rc fc fr C ∧ c2_GCM fc fr C) ∧ t2_OC (fr 280) C := by
  have q : (C : Int) < (fr 280 2).toInt := by have := h.cnt; omega
  exact ⟨h.2.2.2.1 C q, h.2.2.2.2.2.2.2.2.2.2.2 C q⟩
theorem c3_IM.far (h : c3_IM fc fr) {C : Nat} (hC : C < (fr 280 2).toInt.toNat) : t2_far (fr 280 5) (fr 280 (444 + 61 * C + 2)) := t2_far_ok h.2.2.2.2.2.1.1 (h.cell hC).2.2.1
theorem c3_I.meas (h : c3_I fc fr) (nt : t3_nt fc) : c3_IM (c2_sMeasure_m fc) (r_goMeasure_m fr) := by
  have hh := h
  obtain ⟨⟨⟨g5, g6, g7, g8⟩, ⟨g9, g10, g11, g12⟩, g13, g14, g15, g16⟩, rs, gx, cl, ok⟩ := h
  have cn := hh.cnt
  have far := fun C hC => hh.far (C := C) hC
  generalize hnn : (fr 280 2).toInt.toNat = n at *
  have hM : (fc 181 5).toInt.toNat = n := by omega
  have oc : ∀ C : Nat, C < n → t2_OC (fr 280) C := fun C hC => (hh.cell (by omega)).2
  have rc : ∀ C : Nat, C < n → c2_Rc fc fr C ∧ c2_GC fc fr C := fun C hC => (hh.cell (by omega)).1
  have b19 : t2_lo 19 ≤ (fr 280 53).toInt ∧ (fr 280 53).toInt ≤ t2_hi 19 := ok.s (k := 19) (by decide)
  have b23 : t2_lo 23 ≤ (fr 280 57).toInt ∧ (fr 280 57).toInt ≤ t2_hi 23 := ok.s (k := 23) (by decide)
  have q19 : t2_lo 19 = 1 ∧ t2_lo 23 = 0 := by decide
  have r6 : ∀ C : Nat, C < n → c2_R6 fc fr C ∧ t2_ck fr C := fun C hC => by
    obtain ⟨k1, k2, k3, t, po, k15, k16, ka⟩ := oc C hC
    obtain ⟨a, b, d, -, -⟩ := rc C hC
    exact ⟨⟨a, by rw [a.1.1]; exact k1.1, far C hC, b, d.1, k15, d.2, k16.1, k16.2⟩, k1⟩
  obtain ⟨⟨e8, e12, e14, rs'⟩, k⟩ := c3_measure_eq cn.2.2 cn.1 g9 g10 g12 g8 g7 rs gx.1.1 ok.2.2.1 r6 (by omega) nt
  obtain ⟨P, Q, Pc⟩ := c2_measure_o hM
  have Wt : ∀ w : Nat, w ≠ 54 → w ≠ 4 → r_goMeasure_m fr 280 w = r_mid fr 280 w := fun w h54 h4 => by rw [r_meas_mid h4]
  have W : ∀ w : Nat, w < 444 → w ≠ 4 → w ≠ 9 → w ≠ 14 → w ≠ 54 → r_goMeasure_m fr 280 w = fr 280 w := fun w hw h4 h9 h14 h54 => by rw [Wt w h54 h4, r_mid_lo hw h9 h14]
  have Wc : ∀ C w : Nat, w < 61 → w ≠ 4 → w ≠ 11 → w ≠ 12 → w ≠ 13 → w ≠ 14 → w ≠ 15 → w ≠ 16 → r_goMeasure_m fr 280 (444 + 61 * C + w) = fr 280 (444 + 61 * C + w) := fun C w hw a4 a11 a12 a13 a14 a15 a16 => by
    rw [r_goMeasure_w (by omega) (fun j => by omega) (fun j => by omega) (fun j => by omega) (fun j => by omega) (by omega) (by omega) (fun j => by omega) (fun j => by omega) (fun j => by omega)]
  refine ⟨⟨⟨?_, ?_, ?_, e8⟩, ⟨?_, ?_, ?_, e12⟩, ?_, ?_, ?_, ?_⟩, rs', gx.congr ok.2.2.2.2.2.1.1.2 (fun p hp => P p (by omega) (by omega) (fun C hC => by omega)) (fun w hw => W w (by omega) (by omega) (by omega) (by omega) (by omega)), fun C hC => ?_, ?_⟩
  · rw [Q 5 (by decide) (by decide), W 2 (by decide) (by decide) (by decide) (by decide) (by decide), g5]
  · rw [Q 6 (by decide) (by decide), W 7 (by decide) (by decide) (by decide) (by decide) (by decide), g6]
  · rw [Q 7 (by decide) (by decide), W 3 (by decide) (by decide) (by decide) (by decide) (by decide), g7]
  · rw [Q 9 (by decide) (by decide), W 5 (by decide) (by decide) (by decide) (by decide) (by decide), g9]
  · rw [e14, W 5 (by decide) (by decide) (by decide) (by decide) (by decide)]
  · rw [Q 11 (by decide) (by decide), W 8 (by decide) (by decide) (by decide) (by decide) (by decide), g11]
  · rw [Q 13 (by decide) (by decide), W 10 (by decide) (by decide) (by decide) (by decide) (by decide), g13]
  · rw [Q 14 (by decide) (by decide), W 11 (by decide) (by decide) (by decide) (by decide) (by decide), g14]
  · rw [Q 15 (by decide) (by decide), W 12 (by decide) (by decide) (by decide) (by decide) (by decide), g15]
  · rw [Q 16 (by decide) (by decide), W 13 (by decide) (by decide) (by decide) (by decide) (by decide), g16]
  · rw [W 2 (by decide) (by decide) (by decide) (by decide) (by decide)] at hC
    have hC' : C < n := by omega
    obtain ⟨k1, k2, k3, k4, k5, k6, k7⟩ := k C hC'
    obtain ⟨-, -, -, hr, ht⟩ := rc C hC'
    refine ⟨k1, k3, ⟨k5, k4⟩, ?_, ht.congr (P _ (by omega) (by omega) (fun D hD => by omega)) (P _ (by omega) (by omega) (fun D hD => by omega)) (P _ (by omega) (by omega) (fun D hD => by omega)) (fun w h1 h2 a11 a12 a13 a14 a15 a16 => Wc C w (by omega) (by omega) a11 a12 a13 a14 a15 a16)⟩
    unfold c2_Rh
    rw [Pc C hC' 10 (by decide) (by decide) (by decide) (by decide) (by decide) (by decide), Pc C hC' 12 (by decide) (by decide) (by decide) (by decide) (by decide) (by decide), Pc C hC' 13 (by decide) (by decide) (by decide) (by decide) (by decide) (by decide), Wc C 7 (by decide) (by decide) (by decide) (by decide) (by decide) (by decide) (by decide) (by decide), Wc C 8 (by decide) (by decide) (by decide) (by decide) (by decide) (by decide) (by decide) (by decide)]
    exact hr
  · have b5 := ok.2.1.1
    have b4 := ok.2.1.2.1
    have x4 : -1000000 ≤ (r_goMeasure_m fr 280 4).toInt ∧ (r_goMeasure_m fr 280 4).toInt ≤ 1000000 := by
      rcases r_meas_4 (f := fr) with e | e
      · rw [e]
        exact b4
      · have m2 : r_mid fr 280 2 = fr 280 2 := r_mid_lo (by decide) (by decide) (by decide)
        have m5 : r_mid fr 280 5 = fr 280 5 := r_mid_lo (by decide) (by decide) (by decide)
        have ep : r_pack_v (r_mid fr) = r_pack_a4 (r_mid fr) n := by
          unfold r_pack_v
          rw [m2, hnn]
        have b := r_pack_b (f := r_mid fr) (n := n) cn.2.1 (by rw [m5]; exact b5) (fun C hC => by
          rw [r_mid_s (by omega), r_mid_s (by omega)]
          exact ⟨(oc C hC).2.1, (oc C hC).2.2.2.2.1⟩)
        rw [e, ep]
        omega
    refine ok.upd (fun w hw => W w (by omega) (by omega) (by omega) (by omega) (by omega)) (fun k hk => ?_) (by rw [W 5 (by decide) (by decide) (by decide) (by decide) (by decide)]; exact b5) x4 (by rw [W 7 (by decide) (by decide) (by decide) (by decide) (by decide)]; exact ok.2.1.2.2.2) (by rw [W 16 (by decide) (by decide) (by decide) (by decide) (by decide), W 20 (by decide) (by decide) (by decide) (by decide) (by decide), W 21 (by decide) (by decide) (by decide) (by decide) (by decide)]; exact ok.2.2.2.2.2.2.1) (fun C hC => ?_)
    · by_cases e : k = 20
      · subst e
        rw [r_meas_mid (by decide), r_mid_lo (by decide) (by decide) (by decide)]
        exact ok.s (by decide)
      · rw [W _ (by omega) (by omega) (by omega) (by omega) (by omega)]
        exact ok.s hk
    · have hC' : C < n := by omega
      obtain ⟨k1, k2, k3, t, po, k15, k16, ka⟩ := oc C hC'
      obtain ⟨-, -, -, -, y15, -, yck⟩ := k C hC'
      obtain ⟨m4, m16⟩ := r_mid_cell (f := fr) (C := C) (by omega) k1.1
      have w0 : r_goMeasure_m fr 280 (444 + 61 * C + 0) = fr 280 (444 + 61 * C + 0) := Wc C 0 (by decide) (by decide) (by decide) (by decide) (by decide) (by decide) (by decide) (by decide)
      refine ⟨yck, ?_, ?_, ?_, ?_, Or.inr y15, ?_, ka.congr (fun w hw => Wc C w (by omega) (by omega) (by omega) (by omega) (by omega) (by omega) (by omega) (by omega))⟩
      · rw [Wc C 2 (by decide) (by decide) (by decide) (by decide) (by decide) (by decide) (by decide) (by decide)]
        exact k2
      · rw [w0, Wt _ (by omega) (by omega)]
        rcases m4 with e | e
        · rw [e]
          exact k3
        · exact e
      · rw [W 7 (by decide) (by decide) (by decide) (by decide) (by decide), Wc C 5 (by decide) (by decide) (by decide) (by decide) (by decide) (by decide) (by decide) (by decide)]
        exact t
      · rw [Wc C 9 (by decide) (by decide) (by decide) (by decide) (by decide) (by decide) (by decide) (by decide)]
        exact po
      · rw [Wt _ (by omega) (by omega)]
        rcases m16 with e | e
        · rw [e]
          exact k16
        · omega
theorem c3_IM.flt (h : c3_IM fc fr) {so : Int32} {slow : Bool} (hso : so = if slow = true then (32 : Int32) else (0 : Int32)) (hsl : fr 277 4 = if slow = true then 1 else 0) : c3_IM (c2_s8 (c2_s7 so fc)) (r_goFaults_m fr) ∧ c2_latch_v (c2_faultsOfPack_m (c2_faultsOfCells_m fc)) ((so ||| c2_faultsOfCells_v fc) ||| c2_faultsOfPack_v (c2_faultsOfCells_m fc)) (fc 181 6) = r_goFaults_v fr := by
  have hh := h
  obtain ⟨⟨⟨g5, g6, g7, g8⟩, ⟨g9, g10, g11, g12⟩, g13, g14, g15, g16⟩, rs, gx, cl, ok⟩ := h
  have cn := hh.cnt
  have far := fun C hC => hh.far (C := C) hC
  generalize hnn : (fr 280 2).toInt.toNat = n at *
  have oc : ∀ C : Nat, C < n → t2_OC (fr 280) C := fun C hC => (hh.cell (by omega)).2
  have rc : ∀ C : Nat, C < n → c2_Rc fc fr C ∧ c2_GCM fc fr C := fun C hC => (hh.cell (by omega)).1
  have b17 : t2_lo 17 ≤ (fr 280 51).toInt ∧ (fr 280 51).toInt ≤ t2_hi 17 := ok.s (k := 17) (by decide)
  have q17 : t2_lo 17 = 1 := by decide
  have hb := ok.2.2.2.2.2.2.1.2.1
  obtain ⟨gt, ⟨w1, w2, w3, w4⟩, gtr, gm⟩ := id gx
  have r7 : c3_R7 fc fr n := ⟨⟨cn.2.2, cn.1, cn.2.1⟩, ⟨g6, g7, g9, g11⟩, rs, ⟨gt.1, ok.2.2.1⟩, fun C hC => ⟨by rw [g9]; exact c2_volts_eq (rc C hC).1 (far C hC), (rc C hC).1.2.2.1.2.1, (rc C hC).1.2.1.1⟩, w1, w2, w3, w4, by omega⟩
  obtain ⟨ev, eF⟩ := c3_faults_eq r7 hso hsl
  obtain ⟨f1, f2, f3, f4, f5⟩ := eF (c2_s7 so fc) rfl
  refine ⟨?_, ev⟩
  have P7 : ∀ p : Nat, (p < 190 ∨ 195 ≤ p) → c2_s7 so fc p = fc p := fun p hp => by
    unfold c2_s7
    rw [c2_latch_fr (by omega) (by omega) (by omega) (by omega), c2_faultsOfPack_fr (by omega), c2_faultsOfCells_fr (by omega)]
  have P8 : ∀ p : Nat, p ≠ 181 → c2_s8 (c2_s7 so fc) p = c2_s7 so fc p := fun p hp => by
    unfold c2_s8
    split
    · rfl
    · rw [fl_row_ne hp]
  have P : ∀ p : Nat, p ≠ 181 → (p < 190 ∨ 195 ≤ p) → c2_s8 (c2_s7 so fc) p = fc p := fun p h1 hp => by rw [P8 p h1, P7 p hp]
  have Q : ∀ j : Nat, j ≠ 7 → c2_s8 (c2_s7 so fc) 181 j = fc 181 j := fun j hj => by
    unfold c2_s8
    split
    · rw [P7 _ (by decide)]
    · rw [fl_row_self, upd_ne hj, P7 _ (by decide)]
  have q7 : c2_s8 (c2_s7 so fc) 181 7 = r_goFaults_m fr 280 3 := by
    rw [f5]
    unfold c2_s8
    split
    · rw [P7 _ (by decide)]
    · rw [fl_row_self, upd_self]
  have W : ∀ w : Nat, (w ≠ 6 ∧ w ≠ 20 ∧ (w < 23 ∨ 34 ≤ w) ∧ (w < 167 ∨ 217 ≤ w) ∧ (w < 311 ∨ 315 ≤ w) ∧ w ≠ 3 ∧ w ≠ 15 ∧ w ≠ 16 ∧ w ≠ 22) → r_goFaults_m fr 280 w = fr 280 w := fun w hw => r_goFaults_w hb hw
  have W2 : ∀ w : Nat, (w = 21 ∨ (215 ≤ w ∧ w < 311)) → r_goFaults_m fr 280 w = fr 280 w := fun w hw => by
    by_cases e : w = 215 ∨ w = 216
    · exact r_faults_215 hb e
    · exact W w (by omega)
  have gw : c2_GW (c2_s7 so fc) (r_goFaults_m fr) := ⟨f1, f2, f3, f4⟩
  refine ⟨⟨⟨?_, ?_, q7, ?_⟩, ⟨?_, ?_, ?_, ?_⟩, ?_, ?_, ?_, ?_⟩, rs.congr (P _ (by decide) (by decide)) (fun k hk => W _ (by omega)), ⟨gt.congr ok.2.2.2.2.2.1.1.2 (P _ (by decide) (by decide)) (P _ (by decide) (by decide)) (P _ (by decide) (by decide)) (P _ (by decide) (by decide)) (P _ (by decide) (by decide)) (P _ (by decide) (by decide)) (fun w hw => W w (by omega)), gw.congr (P8 _ (by decide)) (P8 _ (by decide)) (P8 _ (by decide)) (P8 _ (by decide)) (P8 _ (by decide)) (fun w _ => rfl), gtr.congr (P _ (by decide) (by decide)) (P _ (by decide) (by decide)) W2, gm.congr (fun p hp => P p (by omega) (by omega)) (fun w hw => W w (by omega))⟩, fun C hC => ?_, ?_⟩
  · rw [Q 5 (by decide), W 2 (by decide), g5]
  · rw [Q 6 (by decide), W 7 (by decide), g6]
  · rw [Q 8 (by decide), W 4 (by decide), g8]
  · rw [Q 9 (by decide), W 5 (by decide), g9]
  · rw [W 14 (by decide), W 5 (by decide), g10]
  · rw [Q 11 (by decide), W 8 (by decide), g11]
  · rw [Q 12 (by decide), W 9 (by decide), g12]
  · rw [Q 13 (by decide), W 10 (by decide), g13]
  · rw [Q 14 (by decide), W 11 (by decide), g14]
  · rw [Q 15 (by decide), W 12 (by decide), g15]
  · rw [Q 16 (by decide), W 13 (by decide), g16]
  · rw [W 2 (by decide)] at hC
    obtain ⟨ra, ⟨m1, m2, m3, m4⟩, ⟨d15, d14⟩, rh, ti⟩ := cl C hC
    have row : c2_s8 (c2_s7 so fc) (198 + 4 * C) = fc (198 + 4 * C) := P _ (by omega) (by omega)
    have Wc : ∀ w : Nat, r_goFaults_m fr 280 (444 + 61 * C + w) = fr 280 (444 + 61 * C + w) := fun w => W _ (by omega)
    refine ⟨ra.congr row (fun k _ => Wc k), ⟨?_, ?_, ?_, ?_⟩, ⟨?_, ?_⟩, ?_, ti.congr (P _ (by omega) (by omega)) (P _ (by omega) (by omega)) (P _ (by omega) (by omega)) (fun w _ _ _ _ _ _ _ _ => Wc w)⟩
    · rw [row, Wc, m1]
    · rw [row, Wc, m2]
    · rw [row, Wc, m3]
    · rw [row, Wc, m4]
    · rw [Wc, d15]
    · rw [row, Wc, d14]
    · unfold c2_Rh
      rw [row, Wc, Wc]
      exact rh
  · refine ok.upd (fun w hw => W w (by omega)) (fun k hk => by rw [W _ (by omega)]; exact ok.s hk) (by rw [W 5 (by decide)]; exact ok.2.1.1) (by rw [W 4 (by decide)]; exact ok.2.1.2.1) (by rw [W 7 (by decide)]; exact ok.2.1.2.2.2) ⟨f1.2.2.2.2, f4.2.2.2.1, by rw [W 21 (by decide)]; exact ok.2.2.2.2.2.2.1.2.2⟩ (fun C hC => ?_)
    exact (hh.2.2.2.2.2.2.2.2.2.2.2 C hC).congr (fun w hw => W _ (by omega)) (by rw [W 7 (by decide)]; exact Int.le_refl _)
def c3_IK (fc fr : t2_F) : Prop := c2_GSM fc fr ∧ c3_Rs fc fr ∧ c3_GX fc fr ∧ (∀ C : Nat, (C : Int) < (fr 280 2).toInt → c2_Rc fc fr C ∧ c2_GC fc fr C) ∧ t2_OK (fr 280)
theorem c3_IM.kept (h : c3_IM fc fr) : c3_IK (c2_sKeep_m fc) (r_goKept_m fr) := by
  have hh := h
  obtain ⟨⟨⟨g5, g6, g7, g8⟩, ⟨g9, g10, g11, g12⟩, g13, g14, g15, g16⟩, rs, gx, cl, ok⟩ := h
  have cn := hh.cnt
  have far := fun C hC => hh.far (C := C) hC
  generalize hnn : (fr 280 2).toInt.toNat = n at *
  have hM : (fc 181 5).toInt.toNat = n := by omega
  have oc : ∀ C : Nat, C < n → t2_OC (fr 280) C := fun C hC => (hh.cell (by omega)).2
  have rc : ∀ C : Nat, C < n → c2_Rc fc fr C ∧ c2_GCM fc fr C := fun C hC => (hh.cell (by omega)).1
  obtain ⟨gt, gw, gtr, gm⟩ := id gx
  have hpk : c2_packAt_v fc (fc 181 9) = r_pack_v fr := by
    have e := c2_pack_eq (fc := fc) (fr := fr) (n := n) (fun C hC => ⟨(rc C hC).1, far C hC⟩)
    unfold c2_packAt_v r_pack_v
    rw [hM, hnn, g9, e]
  obtain ⟨tr', k⟩ := c2_kept_eq cn.2.2 cn.1 cn.2.1 g9 gtr hpk (fun C hC => by
    obtain ⟨k1, k2, k3, t, po, k15, k16, ka⟩ := oc C hC
    obtain ⟨ra, -, -, rh, ti⟩ := rc C hC
    have vb := r_volts_b (f := fr) (c := Int32.ofNat C) (C := C) ok.2.1.1 k2 po
    exact ⟨ti, c2_volts_eq ra (far C hC), ra.2.1.1, k1, by omega, rh⟩)
  have P : ∀ p : Nat, (p < 196 ∨ 262 ≤ p) → c2_sKeep_m fc p = fc p := fun p hp => by
    unfold c2_sKeep_m
    rw [hM, c2_sKeep_f25_fr (k := n) (fun j hj => by omega) (fun j hj => by omega) (fun j hj => by omega) (fun j hj => by omega), c2_tadd_fr (by omega) (by omega)]
  have W : ∀ w : Nat, w < 444 → w ≠ 21 → (w < 215 ∨ 311 ≤ w) → r_goKept_m fr 280 w = fr 280 w := fun w hw a b => by
    unfold r_goKept_m
    exact r_goKept_f117_w (by omega) (fun C hC => (oc C (by omega)).1) ok.2.2.2.2.2.2.1.2.2 (fun C hC => ⟨(oc C (by omega)).2.2.2.2.2.2.2.1, (oc C (by omega)).2.2.2.2.2.2.2.2.1⟩) (Nat.le_refl _) (Or.inl hw) ⟨a, b⟩
  have P1 : c2_sKeep_m fc 181 = fc 181 := P _ (by decide)
  refine ⟨⟨⟨?_, ?_, ?_, ?_⟩, ⟨?_, ?_, ?_, ?_⟩, ?_, ?_, ?_, ?_⟩, rs.congr (P _ (by decide)) (fun k hk => W _ (by omega) (by omega) (by omega)), ⟨gt.congr ok.2.2.2.2.2.1.1.2 (P _ (by decide)) (P _ (by decide)) (P _ (by decide)) (P _ (by decide)) (P _ (by decide)) (P _ (by decide)) (fun w hw => W w (by omega) (by omega) (by omega)), gw.congr (P _ (by decide)) (P _ (by decide)) (P _ (by decide)) (P _ (by decide)) (P _ (by decide)) (fun w hw => W w (by omega) (by omega) (by omega)), tr', gm.congr (fun p hp => P p (by omega)) (fun w hw => W w (by omega) (by omega) (by omega))⟩, fun C hC => ?_, ?_⟩
  · rw [P1, W 2 (by decide) (by decide) (by decide), g5]
  · rw [P1, W 7 (by decide) (by decide) (by decide), g6]
  · rw [P1, W 3 (by decide) (by decide) (by decide), g7]
  · rw [P1, W 4 (by decide) (by decide) (by decide), g8]
  · rw [P1, W 5 (by decide) (by decide) (by decide), g9]
  · rw [W 14 (by decide) (by decide) (by decide), W 5 (by decide) (by decide) (by decide), g10]
  · rw [P1, W 8 (by decide) (by decide) (by decide), g11]
  · rw [P1, W 9 (by decide) (by decide) (by decide), g12]
  · rw [P1, W 10 (by decide) (by decide) (by decide), g13]
  · rw [P1, W 11 (by decide) (by decide) (by decide), g14]
  · rw [P1, W 12 (by decide) (by decide) (by decide), g15]
  · rw [P1, W 13 (by decide) (by decide) (by decide), g16]
  · rw [W 2 (by decide) (by decide) (by decide)] at hC
    have hC' : C < n := by omega
    obtain ⟨ra, ⟨m1, m2, m3, m4⟩, ⟨d15, d14⟩, -, -⟩ := rc C hC'
    obtain ⟨ti, ⟨t10, t12, t13⟩, co, wo⟩ := k C hC'
    refine ⟨ra.c18 (fun j hj => co j (by omega) (by omega) (by omega)) (by rw [co 18 (by decide) (by decide) (by decide), wo 60 (by decide) (by decide) (by decide)]; exact ra.2.2.2.2.2) (fun w hw => wo w (by omega) (by omega) (by omega)), ⟨?_, ?_, ?_, ?_⟩, ⟨?_, fun _ => ?_⟩, Or.inr ⟨t10, t12, t13⟩, ti⟩
    · rw [co 14 (by decide) (by decide) (by decide), wo 11 (by decide) (by decide) (by decide), m1]
    · rw [co 15 (by decide) (by decide) (by decide), wo 12 (by decide) (by decide) (by decide), m2]
    · rw [co 16 (by decide) (by decide) (by decide), wo 13 (by decide) (by decide) (by decide), m3]
    · rw [co 17 (by decide) (by decide) (by decide), wo 16 (by decide) (by decide) (by decide), m4]
    · rw [t10, wo 15 (by decide) (by decide) (by decide), d15]
    · rw [co 11 (by decide) (by decide) (by decide), wo 14 (by decide) (by decide) (by decide), d14]
  · refine ok.upd (fun w hw => W w (by omega) (by omega) (by omega)) (fun k hk => by rw [W _ (by omega) (by omega) (by omega)]; exact ok.s hk) (by rw [W 5 (by decide) (by decide) (by decide)]; exact ok.2.1.1) (by rw [W 4 (by decide) (by decide) (by decide)]; exact ok.2.1.2.1) (by rw [W 7 (by decide) (by decide) (by decide)]; exact ok.2.1.2.2.2) ⟨by rw [W 16 (by decide) (by decide) (by decide)]; exact ok.2.2.2.2.2.2.1.1, by rw [W 20 (by decide) (by decide) (by decide)]; exact ok.2.2.2.2.2.2.1.2.1, tr'.2.2.2.1⟩ (fun C hC => ?_)
    have hC' : C < n := by omega
    obtain ⟨k1, k2, k3, t, po, k15, k16, ka⟩ := oc C hC'
    obtain ⟨ti, -, -, wo⟩ := k C hC'
    refine ⟨?_, ?_, ?_, ?_, ?_, ?_, ?_, ti.2.2.2.congr (fun w _ => rfl)⟩
    · rw [wo 0 (by decide) (by decide) (by decide), wo 1 (by decide) (by decide) (by decide)]
      exact k1
    · rw [wo 2 (by decide) (by decide) (by decide)]
      exact k2
    · rw [wo 0 (by decide) (by decide) (by decide), wo 4 (by decide) (by decide) (by decide)]
      exact k3
    · rw [wo 5 (by decide) (by decide) (by decide), W 7 (by decide) (by decide) (by decide)]
      exact t
    · rw [wo 9 (by decide) (by decide) (by decide)]
      exact po
    · rw [wo 15 (by decide) (by decide) (by decide)]
      exact k15
    · rw [wo 16 (by decide) (by decide) (by decide)]
      exact k16
theorem c3_IK.tell (h : c3_IK fc fr) : c2_tell_v fc x = r_is_v fr x := by
  obtain ⟨⟨⟨g5, g6, g7, g8⟩, ⟨g9, g10, g11, g12⟩, g13, g14, g15, g16⟩, rs, gx, cl, ok⟩ := h
  have n2 := ok.2.1.2.2.1
  have b5 := ok.2.1.1
  have hpk : c2_packAt_v fc (fc 181 9) = r_pack_v fr := by
    have e := c2_pack_eq (fc := fc) (fr := fr) (n := (fr 280 2).toInt.toNat) (fun C hC => ⟨(cl C (by omega)).1, t2_far_ok b5 (ok.2.2.2.2.2.2.2 C (by omega)).2.1⟩)
    unfold c2_packAt_v r_pack_v
    rw [g5, g9, e]
  have ha := c2_actual_eq g7 gx.1.1 ok.2.2.1
  unfold c2_tell_v r_is_v
  rw [g5, g7, g8, hpk, g9, gx.2.1.1.1, g6, g11, g12, g13, g14, g15, g16, ha, gx.1.2.2.2.2.1, gx.1.2.1.1]
theorem c3_IK.s9 (h : c3_IK fc fr) : c3_I (c2_s9 fc) fr := by
  obtain ⟨⟨⟨g5, g6, g7, g8⟩, ⟨g9, g10, g11, g12⟩, g13, g14, g15, g16⟩, rs, gx, cl, ok⟩ := h
  have P : ∀ p : Nat, p ≠ 181 → c2_s9 fc p = fc p := fun p hp => fl_row_ne hp
  have Q : ∀ j : Nat, j ≠ 10 → c2_s9 fc 181 j = fc 181 j := fun j hj => by unfold c2_s9; rw [fl_row_self, upd_ne hj]
  refine ⟨⟨⟨?_, ?_, ?_, ?_⟩, ⟨?_, ?_, ?_, ?_⟩, ?_, ?_, ?_, ?_⟩, rs.congr (P _ (by decide)) (fun k hk => rfl), gx.congr ok.2.2.2.2.2.1.1.2 (fun p hp => P p (by omega)) (fun w hw => rfl), fun C hC => ⟨(cl C hC).1.congr (P _ (by omega)) (fun k hk => rfl), (cl C hC).2.congr (fun j _ _ => by rw [P _ (by omega)]) (fun p hp => P p (by omega)) (fun w hw => rfl)⟩, ok⟩
  · rw [Q 5 (by decide), g5]
  · rw [Q 6 (by decide), g6]
  · rw [Q 7 (by decide), g7]
  · rw [Q 8 (by decide), g8]
  · rw [Q 9 (by decide), g9]
  · unfold c2_s9
    rw [fl_row_self, upd_self, g10, g9]
  · rw [Q 11 (by decide), g11]
  · rw [Q 12 (by decide), g12]
  · rw [Q 13 (by decide), g13]
  · rw [Q 14 (by decide), g14]
  · rw [Q 15 (by decide), g15]
  · rw [Q 16 (by decide), g16]
end C3PSTB

/-- a plain second of the reference -/
noncomputable def r_psec_m (f : t2_F) : t2_F := r_goKept_m (r_goFaults_m (r_w6 f))
noncomputable def r_psec_v (f : t2_F) : Int32 := r_goFaults_v (r_w6 f)
theorem r_pE1 {L : Nat} {xs : Nat → Int32} {f : t2_F} {l : t2_L} {Q : Option fl_V → fl_M → Prop} (hp : ¬ (f 277 7).toInt = 0) (k : fl_Tq (pw_P L xs) 237 69 [some (.inr (.inr (.inl (76, 277)))), none] [] (f, l) Q) : fl_Tq (pw_P L xs) 237 58 [some (.inr (.inr (.inl (76, 277)))), none] [] (f, l) Q := by
  refine fl_Tq.stp (pc' := 59) (lv' := [some (.inr (.inr (.inl (76, 277)))), none]) (st' := [.inr (.inr (.inl (76, 277)))]) (m' := (f, l)) rfl rfl (fl_bo rfl) rfl ?_
  refine fl_Tq.gfV (k := 7) (v := f 277 7) rfl (fl_bo rfl) rfl rfl ?_
  exact fl_Tq.zt rfl (fl_bo rfl) (c1_ne_t hp) rfl k
theorem r_pH1 {L : Nat} {xs : Nat → Int32} {f : t2_F} {l : t2_L} {Q : Option fl_V → fl_M → Prop} {mo : Int32} (hp : ¬ (f 277 7).toInt = 0) (k : fl_Tq (pw_P L xs) 237 89 [some (.inr (.inr (.inl (76, 277)))), some (.inl mo)] [] (f, l) Q) : fl_Tq (pw_P L xs) 237 78 [some (.inr (.inr (.inl (76, 277)))), some (.inl mo)] [] (f, l) Q := by
  refine fl_Tq.stp (pc' := 79) (lv' := [some (.inr (.inr (.inl (76, 277)))), some (.inl mo)]) (st' := [.inr (.inr (.inl (76, 277)))]) (m' := (f, l)) rfl rfl (fl_bo rfl) rfl ?_
  refine fl_Tq.gfV (k := 7) (v := f 277 7) rfl (fl_bo rfl) rfl rfl ?_
  exact fl_Tq.zt rfl (fl_bo rfl) (c1_ne_t hp) rfl k
section C3PRUN
variable {fc fr f g : t2_F} {C n : Nat} {c x : Int32}
theorem c3_I.hc (h : c3_I fc fr) : 0 ≤ (fc 181 5).toInt ∧ (fc 181 5).toInt ≤ 16 := by have := h.cnt; omega
theorem c3_IM.hc (h : c3_IM fc fr) : 0 ≤ (fc 181 5).toInt ∧ (fc 181 5).toInt ≤ 16 := by have := h.cnt; omega
theorem c3_IK.hc (h : c3_IK fc fr) : 0 ≤ (fc 181 5).toInt ∧ (fc 181 5).toInt ≤ 16 := by
  obtain ⟨⟨⟨h5, -⟩, -⟩, -, -, -, -, ⟨-, -, h2, -⟩, -⟩ := h
  rw [h5]
  exact h2
theorem c3_I.hk (h : c3_I fc fr) : ∀ i : Nat, (i : Int) < (fc 181 5).toInt → t2_cap (fc (198 + 4 * i) 0) := fun i hi => by
  have cn := h.cnt
  have k := h.cell (C := i) (by omega)
  rw [k.1.1.1.1]
  exact k.2.1.1
theorem c3_I.curP (h : c3_I fc fr) : ∀ p : Nat, p ≠ 181 → (∀ C : Nat, p ≠ 198 + 4 * C) → c2_letCurrent_m fc p = fc p := by
  obtain ⟨⟨⟨g5, g6, g7, g8⟩, -⟩, rs, gx, cl, ok⟩ := id h
  have hm0 : t2_lo 4 ≤ (fr 280 38).toInt ∧ (fr 280 38).toInt ≤ t2_hi 4 := ok.s (k := 4) (by decide)
  have l4 : t2_lo 4 = 1 := by decide
  have h4 : t2_hi 4 = 99999 := by decide
  obtain ⟨-, -, -, k4, -⟩ := c3_cur_eq h.rl g7 gx.1.1 ok.2.2.1 (by omega)
  exact fun p hp hC => funext (fun k => k4 p k (fun q => absurd q hp) (fun C c q => absurd q (hC C)))
theorem c3_I.balP (h : c3_I fc fr) : ∀ p : Nat, p ≠ 181 → (∀ C : Nat, p ≠ 198 + 4 * C) → c2_balance_m fc p = fc p := by
  have hh := h
  obtain ⟨⟨⟨g5, g6, g7, g8⟩, ⟨g9, g10, g11, g12⟩, g13, g14, g15, g16⟩, rs, gx, cl, ok⟩ := h
  have cn := hh.cnt
  generalize hnn : (fr 280 2).toInt.toNat = n at *
  have hM : (fc 181 5).toInt.toNat = n := by omega
  have oc : ∀ C : Nat, C < n → t2_OC (fr 280) C := fun C hC => (hh.cell (by omega)).2
  have rc : ∀ C : Nat, C < n → c2_Rc fc fr C := fun C hC => (hh.cell (by omega)).1.1
  have rb : c3_RB fc fr n := ⟨rs, fun C hC => ⟨rc C hC, by rw [(rc C hC).1.1]; exact (oc C hC).1.1, (oc C hC).1⟩, g14, g15, g11, g13, g16⟩
  have b13 : t2_lo 13 ≤ (fr 280 47).toInt ∧ (fr 280 47).toInt ≤ t2_hi 13 := ok.s (k := 13) (by decide)
  have q13 : t2_lo 13 = 0 ∧ t2_hi 13 = 16 := by decide
  have hl : fc 190 3 = fr 280 6 := gx.2.1.1.1
  obtain ⟨P, -, -, -⟩ := c3_balance_o hM hnn cn.2.1 rb hl g6 (by omega)
  exact fun p hp hC => P p hp (fun C _ => hC C)
theorem c3_I.chain (h : c3_I fc fr) (ht : (fr 280 7).toInt < 9999) (nt : t3_nt fc) :
    c3_I (c2_s1 fc) (r_t1 fr) ∧ c3_I (c2_moveBus_m (c2_s1 fc)) (r_goBus_m (r_t1 fr)) ∧ c3_I (c2_letCurrent_m (c2_moveBus_m (c2_s1 fc))) (r_goCurrent_m (r_goBus_m (r_t1 fr))) ∧
    c3_I (c2_passCells_m (c2_letCurrent_m (c2_moveBus_m (c2_s1 fc)))) (r_goCells_m (r_goCurrent_m (r_goBus_m (r_t1 fr)))) ∧ c3_I (c2_balance_m (c2_passCells_m (c2_letCurrent_m (c2_moveBus_m (c2_s1 fc))))) (r_goBalance_m (r_goCells_m (r_goCurrent_m (r_goBus_m (r_t1 fr))))) ∧
    c3_I (c2_s5 (c2_balance_m (c2_passCells_m (c2_letCurrent_m (c2_moveBus_m (c2_s1 fc)))))) (r_t5 (r_goBalance_m (r_goCells_m (r_goCurrent_m (r_goBus_m (r_t1 fr)))))) ∧ c3_IM (c2_u6 fc) (r_w6 fr) ∧
    (∃ slow : Bool, c2_so fc = (if slow = true then (32 : Int32) else (0 : Int32)) ∧ r_w6 fr 277 4 = if slow = true then 1 else 0) ∧
    (c3_IM (c2_s8 (c2_s7 (c2_so fc) (c2_u6 fc))) (r_goFaults_m (r_w6 fr)) ∧ c2_sec_v fc = r_psec_v fr) ∧ c3_IK (c2_sKeep_m (c2_s8 (c2_s7 (c2_so fc) (c2_u6 fc)))) (r_goKept_m (r_goFaults_m (r_w6 fr))) ∧
    c3_I (c2_sec_m fc) (r_psec_m fr) := by
  have c0 : (0 : Int32).toInt = 0 := rfl
  have c1 : (1 : Int32).toInt = 1 := by decide +kernel
  obtain ⟨i1, t1⟩ := h.s1 ht
  obtain ⟨i2, sv, s01, -⟩ := i1.bus
  obtain ⟨i3, w3⟩ := i2.cur
  have o1 : ∀ w : Nat, w ≠ 7 → r_t1 fr 280 w = fr 280 w := fun w hw => by unfold r_t1; rw [fl_row_self, upd_ne hw]
  have o2 : ∀ w : Nat, w ≠ 3 → w ≠ 4 → r_goBus_m (r_t1 fr) 280 w = r_t1 fr 280 w := fun w h3 h4 => by rw [r_goBus_w2, if_neg h4, if_neg h3]
  have i4 := i3.cells (fun C hC => by
    have e7 : r_goCurrent_m (r_goBus_m (r_t1 fr)) 280 7 = r_t1 fr 280 7 := by rw [w3 7 (by decide) (fun D _ => by omega), o2 7 (by decide) (by decide)]
    have e5 : r_goCurrent_m (r_goBus_m (r_t1 fr)) 280 (444 + 61 * C + 5) = fr 280 (444 + 61 * C + 5) := by rw [w3 _ (by omega) (fun D _ => by omega), o2 _ (by omega) (by omega), o1 _ (by omega)]
    have e2 : r_goCurrent_m (r_goBus_m (r_t1 fr)) 280 2 = fr 280 2 := by rw [w3 2 (by decide) (fun D _ => by omega), o2 2 (by decide) (by decide), o1 2 (by decide)]
    rw [e2] at hC
    have t := (h.cell hC).2.2.2.2.1.2
    rw [e5, e7, t1]
    omega)
  have n4 : c2_s5 (c2_balance_m (c2_passCells_m (c2_letCurrent_m (c2_moveBus_m (c2_s1 fc))))) 184 = fc 184 := by
    have e5 : ∀ f : t2_F, c2_s5 f 184 = f 184 := fun f => fl_row_ne (by decide)
    rw [e5, i4.balP 184 (by decide) (fun C => by omega), c2_cells_p (Or.inr (fun C _ => by omega)) (by have := i3.hc; omega), i2.curP 184 (by decide) (fun C => by omega), c2_moveBus_fr (by decide)]
    exact fl_row_ne (by decide)
  have i6 := i4.bal.s5.meas (by unfold t3_nt; rw [n4]; exact nt)
  have f277 : r_w6 fr 277 4 = r_goBus_m (r_t1 fr) 277 4 := by
    unfold r_w6
    rw [r_goMeasure_fr (by decide)]
    unfold r_t5
    rw [fl_row_ne (by decide), r_balance_277 (by decide), r_goCells_fr (by decide), r_goCurrent_fr (by decide)]
  have hsl : r_w6 fr 277 4 = if (decide (r_goBus_m (r_t1 fr) 277 4 = 1)) = true then 1 else 0 := by
    rw [f277]
    rcases s01 with e | e
    · rw [e]
      decide
    · rw [e]
      decide
  have hso : c2_so fc = if (decide (r_goBus_m (r_t1 fr) 277 4 = 1)) = true then (32 : Int32) else (0 : Int32) := by
    unfold c2_so
    rw [sv]
    rcases s01 with e | e
    · rw [e]
      decide
    · rw [e]
      decide
  obtain ⟨i8, v8⟩ := i6.flt hso hsl
  refine ⟨i1, i2, i3, i4, i4.bal, i4.bal.s5, i6, ⟨_, hso, hsl⟩, ⟨i8, v8⟩, i8.kept, ?_⟩
  have z : (c2_sKeep_m (c2_s8 (c2_s7 (c2_so fc) (c2_u6 fc))) 183 8).toInt = 0 := i8.kept.2.2.1.1.2.2.1.1
  have eo : c2_sec_m fc = c2_s9 (c2_sKeep_m (c2_s8 (c2_s7 (c2_so fc) (c2_u6 fc)))) := by
    unfold c2_sec_m
    rw [t3_rules z]
  rw [eo]
  exact i8.kept.s9
theorem c3_u6_p (h : c3_I fc fr) (ht : (fr 280 7).toInt < 9999) (nt : t3_nt fc) {p : Nat} (h1 : p ≠ 181) (h4 : p ≠ 184) (hC : ∀ C : Nat, p ≠ 198 + 4 * C) : c2_u6 fc p = fc p := by
  obtain ⟨i1, i2, i3, i4, i5, i6, -⟩ := h.chain ht nt
  unfold c2_u6
  rw [(c2_measure_o (n := (c2_s5 (c2_balance_m (c2_passCells_m (c2_letCurrent_m (c2_moveBus_m (c2_s1 fc))))) 181 5).toInt.toNat) rfl).1 p h1 h4 (fun C _ => hC C)]
  have e5 : ∀ f : t2_F, c2_s5 f p = f p := fun f => fl_row_ne h1
  rw [e5, i4.balP p h1 hC, c2_cells_p (Or.inr (fun C _ => hC C)) (by have := i3.hc; omega), i2.curP p h1 hC, c2_moveBus_fr h1]
  exact fl_row_ne h1
theorem c3_kt (h : c3_IM f fr) (hj : c2_J f) : ∀ i : Nat, (i : Int) < (f 181 5).toInt → (1 ≤ (f (199 + 4 * i) 2).toInt ∧ (f (199 + 4 * i) 2).toInt ≤ 32) ∧ t2_p32 (f (200 + 4 * i)) ∧ t2_pt (f (198 + 4 * i) 3) := fun i hi => by
  have cn := h.cnt
  obtain ⟨⟨ra, -, -, -, ti⟩, oc⟩ := h.cell (C := i) (by omega)
  refine ⟨by rw [ti.1]; exact ti.2.2.2.1, hj.1 i (by omega), ?_⟩
  have pb := t2_ckp oc.1
  have e : f (198 + 4 * i) 3 = ((((1000 : Int64) * (fr 280 (444 + 61 * i + 1)).toInt64) / ((3600 : Int32) * (fr 280 (444 + 61 * i + 0))).toInt64).toInt32) := ra.2.1.1
  rw [e]
  exact ⟨pb.1, by omega⟩
theorem c3_J_u6 (h : c3_I fc fr) (ht : (fr 280 7).toInt < 9999) (nt : t3_nt fc) (hj : c2_J fc) : c2_J (c2_s8 (c2_s7 (c2_so fc) (c2_u6 fc))) := hj.congr (fun p hp => by rw [c2_s8_p (by omega) (by omega), c3_u6_p h ht nt (by omega) (by omega) (fun C => by rcases hp with e | ⟨-, -, e⟩; omega; exact e C)])
theorem c3_J_sec (h : c3_I fc fr) (ht : (fr 280 7).toInt < 9999) (nt : t3_nt fc) (hj : c2_J fc) : c2_J (c2_sec_m fc) := by
  obtain ⟨-, -, -, -, -, -, -, -, ⟨i8, -⟩, -, -⟩ := h.chain ht nt
  have j8 := c3_J_u6 h ht nt hj
  have jk := c2_sKeep_J i8.hc (c3_kt i8 j8) j8
  unfold c2_sec_m c2_s9
  exact jk.congr (fun p hp => by rw [fl_row_ne (by omega), c2_obeyRules_fr (by omega)])
theorem c3_sec_q {L : Nat} {xs : Nat → Int32} {l : t2_L} {Q : Option fl_V → fl_M → Prop} (h : c3_I fc fr) (ht : (fr 280 7).toInt < 9999) (nt : t3_nt fc) (hj : c2_J fc) (k : Q (some (.inl (c2_sec_v fc))) (c2_sec_m fc, l)) : fl_Tq (pw_P L xs) 57 0 (fl_args (am_mxl (pw_P L xs) 57) [.inr (.inr (.inl (49, 181)))]) [] (fc, l) Q := by
  obtain ⟨i1, i2, i3, i4, i5, i6, im, -, ⟨i8, -⟩, ik, -⟩ := h.chain ht nt
  have j8 := c3_J_u6 h ht nt hj
  have jk := c2_sKeep_J i8.hc (c3_kt i8 j8) j8
  have b13 := i4.2.2.2.2.s (k := 13) (by decide)
  have q13 : t2_lo 13 = 0 ∧ t2_hi 13 = 16 := by decide
  have s13 : c2_passCells_m (c2_letCurrent_m (c2_moveBus_m (c2_s1 fc))) 184 13 = _ := i4.2.1 13 (by decide)
  have tm : c2_faultsOfPack_m (c2_faultsOfCells_m (c2_u6 fc)) 181 6 = c2_u6 fc 181 6 := by rw [c2_faultsOfPack_fr (by decide), c2_faultsOfCells_fr (by decide)]
  show fl_Tq (pw_P L xs) 57 0 [some (.inr (.inr (.inl (49, 181)))), none, none] [] (fc, l) Q
  refine c2_pA ?_
  refine c2_pB (f := c2_s1 fc) i1.hc ?_
  refine c2_pC1 (so := c2_so fc) i2.hc (by rw [i2.2.2.1.1.2.1.1]; exact i2.2.2.2.2.2.2.2.1.1) ?_
  refine c2_pC2 i3.hc i3.hk ?_
  refine c2_pC3 i4.hc i4.hk (by rw [s13]; omega) ?_
  refine c2_pD ?_
  refine c2_pE (f := c2_s5 (c2_balance_m (c2_passCells_m (c2_letCurrent_m (c2_moveBus_m (c2_s1 fc)))))) i6.hc ?_
  refine c2_pF (f := c2_u6 fc) im.hc (by rw [c2_faultsOfCells_fr (by decide)]; exact im.hc) ?_ ?_
  · rw [c2_faultsOfPack_fr (by decide), c2_faultsOfCells_fr (by decide)]
    obtain ⟨-, -, ⟨-, ⟨-, -, -, bk⟩, -⟩, -⟩ := im
    exact ⟨bk.1, bk.2.1, by rw [bk.2.2.1]; exact bk.2.2.2.1⟩
  · rw [tm]
    have K : fl_Tq (pw_P L xs) 57 111 [some (.inr (.inr (.inl (49, 181)))), some (.inl (c2_so fc)), some (.inl (c2_sec_v fc))] [] (c2_s8 (c2_s7 (c2_so fc) (c2_u6 fc)), l) Q := by
      refine c2_pH1 i8.hc (c3_kt i8 j8) ?_ ?_
      · obtain ⟨-, -, ⟨-, -, tr, -⟩, -⟩ := i8
        exact ⟨tr.1, tr.2.1, by rw [tr.2.2.1]; exact tr.2.2.2.1⟩
      · refine c2_pH2 ik.hc (by rw [ik.2.2.1.1.2.2.1.1]; omega) jk.2 ?_
        exact c2_pI k
    refine c2_pG (f := c2_s7 (c2_so fc) (c2_u6 fc)) (fun e => ?_) (fun e => ?_)
    · have e8 : c2_s8 (c2_s7 (c2_so fc) (c2_u6 fc)) = c2_s7 (c2_so fc) (c2_u6 fc) := if_pos e
      rw [e8] at K
      exact K
    · have e8 : c2_s8 (c2_s7 (c2_so fc) (c2_u6 fc)) = fl_row (c2_s7 (c2_so fc) (c2_u6 fc)) 181 (upd ((c2_s7 (c2_so fc) (c2_u6 fc)) 181) 7 (0 : Int32)) := if_neg e
      rw [e8] at K
      exact K
theorem c3_I.rhu (h : c3_I fc fr) : (0 ≤ (fr 280 2).toInt ∧ (fr 280 2).toInt ≤ 16) ∧ ∀ C : Nat, (C : Int) < (fr 280 2).toInt → t2_ck fr C := ⟨h.2.2.2.2.2.1.2.2.1, fun C hC => (h.2.2.2.2.2.2.2.2.2.2.2 C hC).1⟩
theorem c3_IM.rhu (h : c3_IM fc fr) : (0 ≤ (fr 280 2).toInt ∧ (fr 280 2).toInt ≤ 16) ∧ ∀ C : Nat, (C : Int) < (fr 280 2).toInt → t2_ck fr C := ⟨h.2.2.2.2.2.1.2.2.1, fun C hC => (h.2.2.2.2.2.2.2.2.2.2.2 C hC).1⟩
theorem c3_IK.rhu (h : c3_IK fc fr) : (0 ≤ (fr 280 2).toInt ∧ (fr 280 2).toInt ≤ 16) ∧ ∀ C : Nat, (C : Int) < (fr 280 2).toInt → t2_ck fr C := ⟨h.2.2.2.2.2.1.2.2.1, fun C hC => (h.2.2.2.2.2.2.2.2.2.2.2 C hC).1⟩
theorem c3_I.p277 (h : c3_I fc fr) (ht : (fr 280 7).toInt < 9999) (_nt : t3_nt fc) {j : Nat} (h4 : j ≠ 4) (h6 : j ≠ 6) : r_w6 fr 277 j = fr 277 j ∧ r_psec_m fr 277 j = fr 277 j := by
  obtain ⟨i1, -⟩ := h.s1 ht
  obtain ⟨-, -, -, sl⟩ := i1.bus
  have e6 : r_w6 fr 277 j = fr 277 j := by
    unfold r_w6
    rw [r_goMeasure_fr (by decide)]
    unfold r_t5
    rw [fl_row_ne (by decide), r_balance_277 h6, r_goCells_fr (by decide), r_goCurrent_fr (by decide), sl j h4]
    unfold r_t1
    rw [fl_row_ne (by decide)]
  refine ⟨e6, ?_⟩
  unfold r_psec_m
  rw [r_kept_p (by decide), r_goFaults_fr (by decide), e6]
theorem c3_rsec_q {L : Nat} {xs : Nat → Int32} {l : t2_L} {Q : Option fl_V → fl_M → Prop} (h : c3_I fc fr) (ht : (fr 280 7).toInt < 9999) (nt : t3_nt fc) (hr : t2_RS fr) (hp : fr 277 7 = 1) (k : Q (some (.inl (r_psec_v fr))) (r_psec_m fr, l)) : fl_Tq (pw_P L xs) 237 0 (fl_args (am_mxl (pw_P L xs) 237) [.inr (.inr (.inl (76, 277)))]) [] (fr, l) Q := by
  have c0 : (0 : Int32).toInt = 0 := rfl
  obtain ⟨i1, i2, i3, i4, i5, i6, im, ⟨slow, -, hsl⟩, ⟨i8, -⟩, ik, -⟩ := h.chain ht nt
  obtain ⟨p6, ps⟩ := h.p277 ht nt (j := 7) (by decide) (by decide)
  have b24 := i3.2.2.2.2.s (k := 24) (by decide)
  have q24 : t2_lo 24 = 0 ∧ t2_hi 24 = 9999 ∧ t2_lo 13 = 0 ∧ t2_hi 13 = 16 := by decide
  have b13 := i4.2.2.2.2.s (k := 13) (by decide)
  have R1 : t2_RS (r_t1 fr) := hr.same (fl_row_ne (by decide))
  have R2 : t2_RS (r_goBus_m (r_t1 fr)) := R1.same (r_goBus_fr (by decide) (by decide))
  have R3 : t2_RS (r_goCurrent_m (r_goBus_m (r_t1 fr))) := R2.same (r_goCurrent_fr (by decide))
  have R6 : t2_RS (r_t5 (r_goBalance_m (r_goCells_m (r_goCurrent_m (r_goBus_m (r_t1 fr)))))) := R3.same (by unfold r_t5; rw [fl_row_ne (by decide), r_goBalance_fr (by decide) (by decide) (by decide), r_goCells_fr (by decide)])
  have RW : t2_RS (r_w6 fr) := R6.same (r_goMeasure_fr (by decide))
  have R8 : t2_RS (r_goFaults_m (r_w6 fr)) := RW.same (r_goFaults_fr (by decide))
  have R9 : t2_RS (r_goKept_m (r_goFaults_m (r_w6 fr))) := R8.same (r_kept_p (by decide))
  have W6 : ∀ w : Nat, (w = 2 ∨ ∃ C : Nat, w = 444 + 61 * C + 0 ∨ w = 444 + 61 * C + 1) → r_w6 fr 280 w = r_t5 (r_goBalance_m (r_goCells_m (r_goCurrent_m (r_goBus_m (r_t1 fr))))) 280 w := fun w hw => by
    unfold r_w6
    rcases hw with e | ⟨C, e | e⟩
    · rw [e, r_meas_mid (by decide), r_mid_lo (by decide) (by decide) (by decide)]
    · rw [e, r_meas_mid (by omega), r_mid_s (by omega)]
    · rw [e, r_meas_mid (by omega), r_mid_s (by omega)]
  have u6 := i6.rhu
  show fl_Tq (pw_P L xs) 237 0 [some (.inr (.inr (.inl (76, 277)))), none] [] (fr, l) Q
  refine r_pA ?_
  refine r_pB1 (f := r_t1 fr) i1.rhu.1 R1 i1.rhu.2 ?_
  refine r_pB2 i2.rhu.1 R2 i2.rhu.2 i2.2.2.2.2.2.2.2.1.1 ?_
  refine r_pB3 i3.rhu.1 ?_ ?_
  · have b : t2_lo 24 ≤ (r_goCurrent_m (r_goBus_m (r_t1 fr)) 280 58).toInt ∧ (r_goCurrent_m (r_goBus_m (r_t1 fr)) 280 58).toInt ≤ t2_hi 24 := b24
    have c36 : (3600 : Int32).toInt = 3600 := by decide +kernel
    rw [at_mul32] <;> rw [c36] <;> omega
  · refine r_pB4 i4.rhu.1 i4.rhu.2 ?_ ?_
    · have b : t2_lo 13 ≤ (r_goCells_m (r_goCurrent_m (r_goBus_m (r_t1 fr))) 280 47).toInt ∧ (r_goCells_m (r_goCurrent_m (r_goBus_m (r_t1 fr))) 280 47).toInt ≤ t2_hi 13 := b13
      omega
    · refine r_pC ?_
      refine r_pD (f := r_t5 (r_goBalance_m (r_goCells_m (r_goCurrent_m (r_goBus_m (r_t1 fr)))))) u6.1 R6 u6.2 (fun C hC => (i6.2.2.2.2.2.2.2.2.2.2.2 C hC).2.2.2.2.2.2.1) ?_
      refine r_pE1 (f := r_w6 fr) (by rw [p6, hp]; decide) ?_
      · refine r_pF (f := r_w6 fr) im.rhu.1 RW im.rhu.2 ?_ im.2.2.2.2.2.2.2.2.2.2.1.2.1 ?_
        · rw [hsl]
          cases slow
          · exact Or.inl rfl
          · exact Or.inr rfl
        · refine r_pG (mo := r_psec_v fr) i8.rhu.1 R8 i8.rhu.2 i8.2.2.2.2.2.2.2.2.2.2.1.2.2 (fun C hC => ?_) ?_
          · have a := (i8.2.2.2.2.2.2.2.2.2.2.2 C hC).2.2.2.2.2.2.2
            exact ⟨a.1, a.2.1⟩
          · refine r_pH1 ?_ ?_
            · rw [r_kept_p (by decide), r_goFaults_fr (by decide), p6, hp]
              decide
            · exact r_pI k
end C3PRUN


end

/-! 95.04.x2.lean.txt -/
section
/-! ===== the trial block at its plainest: begun, a second's frames, many seconds ===== -/
section C3BEG
variable {fc fr fc' fr' f g : t2_F} {C n p : Nat} {x v : Int32}
theorem c3_I.of2 (h : c2_I fc fr) (hv : -99999 ≤ v.toInt ∧ v.toInt ≤ 99999) (P : ∀ p : Nat, 181 ≤ p → p < 271 → p ≠ 183 → p ≠ 184 → fc' p = fc p) (e3 : ∀ j : Nat, j ≠ 8 → fc' 183 j = fc 183 j) (e38 : (fc' 183 8).toInt = 0) (e4 : ∀ k : Nat, k ≠ 20 → k ≠ 23 → fc' 184 k = fc 184 k) (e20 : fc' 184 20 = v) (W : ∀ w : Nat, 2 ≤ w → w < 1420 → w ≠ 54 → fr' 280 w = fr 280 w) (w54 : fr' 280 54 = v) : c3_I fc' fr' := by
  obtain ⟨⟨⟨g5, g6, g7, g8⟩, ⟨g9, g10, g11, g12⟩, g13, g14, g15, g16⟩, rs, ⟨⟨gk, ⟨z1, z2, z3⟩, ⟨r1, r2, r3⟩, gp, g7', gd⟩, gw, tr, gm⟩, cl, ok⟩ := h
  have P1 : fc' 181 = fc 181 := P 181 (by decide) (by decide) (by decide) (by decide)
  have n16 := ok.2.1.2.2.1
  have n24 := ok.2.2.2.2.2.1.1
  have W' : ∀ w : Nat, w ≠ 54 → 2 ≤ w → w < 1420 → fr' 280 w = fr 280 w := fun w a b c => W w b c a
  refine ⟨⟨⟨?_, ?_, ?_, ?_⟩, ⟨?_, ?_, ?_, ?_⟩, ?_, ?_, ?_, ?_⟩, fun k hk => ?_, ⟨⟨?_, ⟨?_, fun k hk => ?_, fun k hk => ?_⟩, ⟨e38, ?_⟩, fun k hk => ?_, ?_, fun j hj => ?_⟩, gw.congr (P _ (by decide) (by decide) (by decide) (by decide)) (P _ (by decide) (by decide) (by decide) (by decide)) (P _ (by decide) (by decide) (by decide) (by decide)) (P _ (by decide) (by decide) (by decide) (by decide)) (P _ (by decide) (by decide) (by decide) (by decide)) (fun w hw => W w (by omega) (by omega) (by omega)), tr.congr (P _ (by decide) (by decide) (by decide) (by decide)) (P _ (by decide) (by decide) (by decide) (by decide)) (fun w hw => W w (by omega) (by omega) (by omega)), gm.congr (fun p hp => P p (by omega) (by omega) (by omega) (by omega)) (fun w hw => W w (by omega) (by omega) (by omega))⟩, fun C hC => ?_, ?_⟩
  · rw [P1, W 2 (by decide) (by decide) (by decide), g5]
  · rw [P1, W 7 (by decide) (by decide) (by decide), g6]
  · rw [P1, W 3 (by decide) (by decide) (by decide), g7]
  · rw [P1, W 4 (by decide) (by decide) (by decide), g8]
  · rw [P1, W 5 (by decide) (by decide) (by decide), g9]
  · rw [P1, W 14 (by decide) (by decide) (by decide), g10]
  · rw [P1, W 8 (by decide) (by decide) (by decide), g11]
  · rw [P1, W 9 (by decide) (by decide) (by decide), g12]
  · rw [P1, W 10 (by decide) (by decide) (by decide), g13]
  · rw [P1, W 11 (by decide) (by decide) (by decide), g14]
  · rw [P1, W 12 (by decide) (by decide) (by decide), g15]
  · rw [P1, W 13 (by decide) (by decide) (by decide), g16]
  · by_cases e : k = 20
    · subst e
      rw [e20, w54]
    · rw [e4 k e hk.2, W (34 + k) (by omega) (by omega) (by omega)]
      exact rs k hk.1
  · exact gk.congr (P _ (by decide) (by decide) (by decide) (by decide)) (fun k hk => W _ (by omega) (by omega) (by omega))
  · rw [e3 6 (by decide), W 17 (by decide) (by decide) (by decide), z1]
  · rw [P 187 (by decide) (by decide) (by decide) (by decide), W _ (by omega) (by omega) (by omega)]
    exact z2 k hk
  · rw [W _ (by omega) (by omega) (by omega)]
    exact z3 k hk
  · rw [W 18 (by decide) (by decide) (by decide)]
    exact r2
  · rw [P 186 (by decide) (by decide) (by decide) (by decide), W _ (by omega) (by omega) (by omega)]
    exact gp k hk
  · rw [e3 7 (by decide), W 19 (by decide) (by decide) (by decide), g7']
  · rw [W 19 (by decide) (by decide) (by decide)] at hj
    rw [P 188 (by decide) (by decide) (by decide) (by decide), W _ (by omega) (by omega) (by omega)]
    exact gd j hj
  · rw [W 2 (by decide) (by decide) (by decide)] at hC
    exact ⟨(cl C hC).1.congr (P _ (by omega) (by omega) (by omega) (by omega)) (fun k hk => W _ (by omega) (by omega) (by omega)), (cl C hC).2.congr (fun j _ _ => by rw [P _ (by omega) (by omega) (by omega) (by omega)]) (fun p hp => P p (by omega) (by omega) (by omega) (by omega)) (fun w hw => W _ (by omega) (by omega) (by omega))⟩
  · refine ok.upd (fun w hw => W w (by omega) (by omega) (by omega)) (fun k hk => ?_) (by rw [W 5 (by decide) (by decide) (by decide)]; exact ok.2.1.1) (by rw [W 4 (by decide) (by decide) (by decide)]; exact ok.2.1.2.1) (by rw [W 7 (by decide) (by decide) (by decide)]; exact ok.2.1.2.2.2) (by rw [W 16 (by decide) (by decide) (by decide), W 20 (by decide) (by decide) (by decide), W 21 (by decide) (by decide) (by decide)]; exact ok.2.2.2.2.2.2.1) (fun C hC => ?_)
    · by_cases e : k = 20
      · subst e
        have q20 : t2_lo 20 = -99999 ∧ t2_hi 20 = 99999 := by decide
        show t2_lo 20 ≤ (fr' 280 54).toInt ∧ (fr' 280 54).toInt ≤ t2_hi 20
        rw [w54]
        omega
      · rw [W _ (by omega) (by omega) (by omega)]
        exact ok.s hk
    · exact (ok.2.2.2.2.2.2.2 C hC).congr (fun w hw => W _ (by omega) (by omega) (by omega)) (by rw [W 7 (by decide) (by decide) (by decide)]; exact Int.le_refl _)
theorem t3_meas184 (nt : t3_nt f) : c2_sMeasure_m f 184 = f 184 := by
  have e : ∀ w : Nat → Int32, fl_row (c2_sMeasure_f46 f ((f 181 5).toInt.toNat)) 181 w 184 = f 184 := fun w => by rw [fl_row_ne (by decide), c2_f46_p (by decide) (by decide)]
  unfold c2_sMeasure_m
  split
  · rw [t3_taper (by unfold t3_nt; rw [e]; exact nt), e]
  · rw [e]
theorem c3_I.s184 (h : c3_I fc fr) (ht : (fr 280 7).toInt < 9999) (nt : t3_nt fc) : c2_sec_m fc 184 = fc 184 := by
  obtain ⟨i1, i2, i3, i4, i5, i6, im, -, ⟨i8, -⟩, ik, -⟩ := h.chain ht nt
  have n4 : c2_s5 (c2_balance_m (c2_passCells_m (c2_letCurrent_m (c2_moveBus_m (c2_s1 fc))))) 184 = fc 184 := by
    have e5 : ∀ f : t2_F, c2_s5 f 184 = f 184 := fun f => fl_row_ne (by decide)
    rw [e5, i4.balP 184 (by decide) (fun C => by omega), c2_cells_p (Or.inr (fun C _ => by omega)) (by have := i3.hc; omega), i2.curP 184 (by decide) (fun C => by omega), c2_moveBus_fr (by decide)]
    exact fl_row_ne (by decide)
  have z := ik.2.2.1.1.2.2.1.1
  unfold c2_sec_m
  rw [t3_rules z]
  unfold c2_s9
  rw [fl_row_ne (by decide)]
  unfold c2_sKeep_m
  rw [c2_sKeep_f25_fr (fun j hj => by omega) (fun j hj => by omega) (fun j hj => by omega) (fun j hj => by omega), c2_tadd_fr (by decide) (by decide), c2_s8_p (by decide) (by decide)]
  unfold c2_u6
  rw [t3_meas184 (by unfold t3_nt; rw [n4]; exact nt), n4]
theorem c3_I.curP' (h : c3_I fc fr) (hp : p < 181 ∨ 271 ≤ p) : c2_letCurrent_m fc p = fc p := by
  have cn := h.cnt
  obtain ⟨⟨⟨g5, g6, g7, g8⟩, -⟩, rs, gx, cl, ok⟩ := id h
  have hm0 : t2_lo 4 ≤ (fr 280 38).toInt ∧ (fr 280 38).toInt ≤ t2_hi 4 := ok.s (k := 4) (by decide)
  have l4 : t2_lo 4 = 1 := by decide
  have h4 : t2_hi 4 = 99999 := by decide
  obtain ⟨-, -, -, k4, -⟩ := c3_cur_eq h.rl g7 gx.1.1 ok.2.2.1 (by omega)
  exact funext (fun k => k4 p k (fun q => absurd q (by omega)) (fun C c q => absurd q (by omega)))
theorem c3_I.balP' (h : c3_I fc fr) (hp : p < 181 ∨ 271 ≤ p) : c2_balance_m fc p = fc p := by
  have hh := h
  obtain ⟨⟨⟨g5, g6, g7, g8⟩, ⟨g9, g10, g11, g12⟩, g13, g14, g15, g16⟩, rs, gx, cl, ok⟩ := h
  have cn := hh.cnt
  generalize hnn : (fr 280 2).toInt.toNat = n at *
  have hM : (fc 181 5).toInt.toNat = n := by omega
  have oc : ∀ C : Nat, C < n → t2_OC (fr 280) C := fun C hC => (hh.cell (by omega)).2
  have rc : ∀ C : Nat, C < n → c2_Rc fc fr C := fun C hC => (hh.cell (by omega)).1.1
  have rb : c3_RB fc fr n := ⟨rs, fun C hC => ⟨rc C hC, by rw [(rc C hC).1.1]; exact (oc C hC).1.1, (oc C hC).1⟩, g14, g15, g11, g13, g16⟩
  have b13 : t2_lo 13 ≤ (fr 280 47).toInt ∧ (fr 280 47).toInt ≤ t2_hi 13 := ok.s (k := 13) (by decide)
  have q13 : t2_lo 13 = 0 ∧ t2_hi 13 = 16 := by decide
  have hl : fc 190 3 = fr 280 6 := gx.2.1.1.1
  obtain ⟨P, -, -, -⟩ := c3_balance_o hM hnn cn.2.1 rb hl g6 (by omega)
  exact P p (by omega) (fun C hC => by omega)
theorem c3_u6_P (h : c3_I fc fr) (ht : (fr 280 7).toInt < 9999) (nt : t3_nt fc) (hp : p < 181 ∨ 271 ≤ p) : c2_u6 fc p = fc p := by
  obtain ⟨i1, i2, i3, i4, i5, i6, -⟩ := h.chain ht nt
  have b6 := i6.hc
  unfold c2_u6
  rw [(c2_measure_o (n := (c2_s5 (c2_balance_m (c2_passCells_m (c2_letCurrent_m (c2_moveBus_m (c2_s1 fc))))) 181 5).toInt.toNat) rfl).1 p (by omega) (by omega) (fun C hC => by omega)]
  have e5 : ∀ f : t2_F, c2_s5 f p = f p := fun f => fl_row_ne (by omega)
  rw [e5, i4.balP' hp, c2_cells_p (Or.inr (fun C hC => by omega)) (by have := i3.hc; omega), i2.curP' hp, c2_moveBus_fr (by omega)]
  exact fl_row_ne (by omega)
theorem c3_I.secP (h : c3_I fc fr) (ht : (fr 280 7).toInt < 9999) (nt : t3_nt fc) (hp : p < 181 ∨ 271 ≤ p) : c2_sec_m fc p = fc p := by
  obtain ⟨-, -, -, -, -, -, -, -, ⟨i8, -⟩, -, -⟩ := h.chain ht nt
  have b8 := i8.hc
  unfold c2_sec_m c2_s9
  rw [fl_row_ne (by omega), c2_obeyRules_fr (by omega)]
  unfold c2_sKeep_m
  rw [c2_sKeep_f25_fr (fun j hj => by omega) (fun j hj => by omega) (fun j hj => by omega) (fun j hj => by omega), c2_tadd_fr (by omega) (by omega), c2_s8_p (by omega) (by omega), c3_u6_P h ht nt hp]
theorem r_w6_p {p : Nat} (h280 : p ≠ 280) (h277 : p ≠ 277) (h282 : p ≠ 282) : r_w6 f p = f p := by
  unfold r_w6
  rw [r_goMeasure_fr h280]
  unfold r_t5
  rw [fl_row_ne h280, r_goBalance_fr h277 h282 h280, r_goCells_fr h280, r_goCurrent_fr h280, r_goBus_fr h277 h280]
  exact fl_row_ne h280
theorem r_psec_p {p : Nat} (h280 : p ≠ 280) (h277 : p ≠ 277) (h282 : p ≠ 282) : r_psec_m f p = f p := by
  unfold r_psec_m
  rw [r_kept_p h280, r_goFaults_fr h280, r_w6_p h280 h277 h282]
theorem c3_I.time (h : c3_I fc fr) (ht : (fr 280 7).toInt < 9999) (nt : t3_nt fc) : (r_psec_m fr 280 7).toInt = (fr 280 7).toInt + 1 := by
  obtain ⟨i1, i2, i3, i4, i5, i6, im, -, ⟨i8, -⟩, ik, -⟩ := h.chain ht nt
  have k1 := (h.s1 ht).2
  have ok8 := i8.2.2.2.2
  unfold r_psec_m
  have e1 : r_goKept_m (r_goFaults_m (r_w6 fr)) 280 7 = r_goFaults_m (r_w6 fr) 280 7 := by
    unfold r_goKept_m
    exact r_goKept_f117_w ok8.2.1.2.2.1 (fun C hC => (ok8.2.2.2.2.2.2.2 C hC).1) ok8.2.2.2.2.2.2.1.2.2 (fun C hC => ⟨(ok8.2.2.2.2.2.2.2 C hC).2.2.2.2.2.2.2.1, (ok8.2.2.2.2.2.2.2 C hC).2.2.2.2.2.2.2.2.1⟩) (Nat.le_refl _) (Or.inl (by decide)) (by decide)
  rw [e1, r_goFaults_w im.2.2.2.2.2.2.2.2.2.2.1.2.1 (by decide)]
  unfold r_w6
  rw [r_meas_mid (by decide), r_mid_lo (by decide) (by decide) (by decide)]
  unfold r_t5
  rw [fl_row_self, upd_ne (by decide), r_goBalance_w (by decide), r_cells_lo (by decide), i2.cur.2 7 (by decide) (fun C _ => by omega), r_goBus_w2, if_neg (by decide), if_neg (by decide), k1]
noncomputable def r_prunN (f : t2_F) : Nat → t2_F
  | 0 => f
  | k + 1 => r_psec_m (r_prunN f k)
def c3_K (fc fr : t2_F) : Prop := c3_I fc fr ∧ c2_J fc ∧ t2_RS fr ∧ fr 277 7 = 1
theorem t3_nt.same (nt : t3_nt f) (e : g 184 = f 184) : t3_nt g := by
  unfold t3_nt
  rw [e]
  exact nt
theorem c3_K.run (h : c3_K fc fr) (nt : t3_nt fc) : ∀ k : Nat, (fr 280 7).toInt + k ≤ 9999 → c3_K (c2_runN fc k) (r_prunN fr k) ∧ (r_prunN fr k 280 7).toInt = (fr 280 7).toInt + k ∧ c2_runN fc k 184 = fc 184 ∧ (∀ p : Nat, p < 181 ∨ 271 ≤ p → c2_runN fc k p = fc p) := by
  intro k
  induction k with
  | zero => intro _; exact ⟨h, by show (fr 280 7).toInt = _; omega, rfl, fun _ _ => rfl⟩
  | succ k ih =>
    intro hk
    obtain ⟨⟨a, b, d, e⟩, t, s, pp⟩ := ih (by omega)
    have ht : (r_prunN fr k 280 7).toInt < 9999 := by omega
    have nk := nt.same s
    obtain ⟨-, -, -, -, -, -, -, -, -, -, q⟩ := a.chain ht nk
    refine ⟨⟨q, c3_J_sec a ht nk b, d.same (r_psec_p (by decide) (by decide) (by decide)), ?_⟩, ?_, ?_, fun p hp => ?_⟩
    · show r_psec_m (r_prunN fr k) 277 7 = 1
      rw [(a.p277 ht nk (by decide) (by decide)).2, e]
    · show (r_psec_m (r_prunN fr k) 280 7).toInt = _
      rw [a.time ht nk]
      omega
    · show c2_sec_m (c2_runN fc k) 184 = _
      rw [a.s184 ht nk, s]
    · show c2_sec_m (c2_runN fc k) p = _
      rw [a.secP ht nk hp, pp p hp]
theorem c3_K.sec (h : c3_K fc fr) (ht : (fr 280 7).toInt < 9999) (nt : t3_nt fc) : c2_sec_v fc = r_psec_v fr := by
  obtain ⟨-, -, -, -, -, -, -, -, ⟨-, q⟩, -, -⟩ := h.1.chain ht nt
  exact q
end C3BEG

end

/-! 95.04.y0.lean.txt -/
section
/-! ===== rest, partBy: both answers ===== -/
def t2_ra (z : Int) : Int := if 0 ≤ z ∧ z ≤ 1000 then t2_rv z.toNat else -1
section T2S
variable {L : Nat} {xs : Nat → Int32} {m : fl_M} {Q : Option fl_V → fl_M → Prop}
theorem t2_x146 {x : Int32} (k : ∀ v : Int32, v.toInt = t2_ra x.toInt → Q (some (.inl v)) m) : fl_Tq (pw_P L xs) 146 0 (fl_args (am_mxl (pw_P L xs) 146) [lx_x, .inl x]) [] m Q := by
  have e0 : (Int32.ofInt 0).toInt = 0 := rfl
  have e1000 : (Int16.ofInt 1000).toInt32.toInt = 1000 := by decide +kernel
  refine fl_Tq.stp rfl rfl (fl_bo rfl) rfl ?_
  refine fl_Tq.stp rfl rfl (fl_bo rfl) rfl ?_
  refine fl_Tq.stp rfl rfl (fl_bo rfl) rfl ?_
  refine fl_Tq.cal rfl rfl (fl_bo rfl) rfl ?_
  refine at_within (fun b hb => ?_)
  rw [e0, e1000] at hb
  rcases hb with ⟨rfl, h1, h2⟩ | ⟨rfl, h⟩
  · refine fl_Tq.zf rfl (fl_bo rfl) (by rw [at_c1]; rfl) rfl ?_
    refine fl_Tq.stp rfl rfl (fl_bo rfl) rfl ?_
    refine fl_Tq.cal rfl rfl (fl_bo rfl) rfl ?_
    refine t2_restBy (p := x.toInt.toNat) (by omega) (fun v hv => ?_)
    refine fl_Tq.stp rfl rfl (fl_bo rfl) rfl ?_
    refine fl_Tq.ret rfl rfl rfl (k v ?_)
    unfold t2_ra
    rw [if_pos ⟨h1, h2⟩]
    exact hv
  · refine fl_Tq.zt rfl (fl_bo rfl) (by rw [at_c1]; rfl) rfl ?_
    refine fl_Tq.stp rfl rfl (fl_bo rfl) rfl ?_
    refine fl_Tq.ret rfl rfl rfl (k _ ?_)
    unfold t2_ra
    rw [if_neg h]
    rfl
theorem t2_m283 {x : Int32} (hX : at_XI m) (k : ∀ v : Int32, v.toInt = t2_ra x.toInt → Q (some (.inl v)) m) : fl_Tq (pw_P L xs) 283 0 (fl_args (am_mxl (pw_P L xs) 283) [at_this, .inl x]) [] m Q := by
  have e0 : (Int32.ofInt 0).toInt = 0 := rfl
  have e1000 : (Int16.ofInt 1000).toInt32.toInt = 1000 := by decide +kernel
  refine fl_Tq.stp rfl rfl (fl_bo rfl) rfl ?_
  refine fl_Tq.stp rfl rfl (fl_bo rfl) rfl ?_
  refine fl_Tq.stp rfl rfl (fl_bo rfl) rfl ?_
  refine fl_Tq.cal rfl rfl (fl_bo rfl) rfl ?_
  refine at_isin (fun b hb => ?_)
  rw [e0, e1000] at hb
  rcases hb with ⟨rfl, h1, h2⟩ | ⟨rfl, h⟩
  · refine fl_Tq.zf rfl (fl_bo rfl) (by rw [at_c1]; rfl) rfl ?_
    refine fl_Tq.stp rfl rfl (fl_bo rfl) rfl ?_
    refine fl_Tq.stp rfl rfl (fl_bo rfl) rfl ?_
    refine fl_Tq.cal rfl rfl (fl_bo rfl) rfl ?_
    refine t2_restOf hX.rs (p := x.toInt.toNat) (by omega) (by omega) (fun v hv => ?_)
    refine fl_Tq.stp rfl rfl (fl_bo rfl) rfl ?_
    refine fl_Tq.ret rfl rfl rfl (k v ?_)
    unfold t2_ra
    rw [if_pos ⟨h1, h2⟩]
    exact hv
  · refine fl_Tq.zt rfl (fl_bo rfl) (by rw [at_c1]; rfl) rfl ?_
    refine fl_Tq.stp rfl rfl (fl_bo rfl) rfl ?_
    refine fl_Tq.ret rfl rfl rfl (k _ ?_)
    unfold t2_ra
    rw [if_neg h]
    rfl
theorem t2_x147 {v : Int32} (k : ∀ (x : Int32) (n : Nat), x.toInt = n → t2_lp v.toInt n → Q (some (.inl x)) m) : fl_Tq (pw_P L xs) 147 0 (fl_args (am_mxl (pw_P L xs) 147) [lx_x, .inl v]) [] m Q := by
  refine fl_Tq.stp rfl rfl (fl_bo rfl) rfl ?_
  refine fl_Tq.cal rfl rfl (fl_bo rfl) rfl ?_
  refine t2_byVolts (fun x n hx hn => ?_)
  exact fl_Tq.ret rfl rfl rfl (k x n hx hn)
theorem t2_m284 {v : Int32} (hX : at_XI m) (k : ∀ (x : Int32) (n : Nat), x.toInt = n → t2_lp v.toInt n → Q (some (.inl x)) m) : fl_Tq (pw_P L xs) 284 0 (fl_args (am_mxl (pw_P L xs) 284) [at_this, .inl v]) [] m Q := by
  refine fl_Tq.stp rfl rfl (fl_bo rfl) rfl ?_
  refine fl_Tq.stp rfl rfl (fl_bo rfl) rfl ?_
  refine fl_Tq.cal rfl rfl (fl_bo rfl) rfl ?_
  refine t2_leastBy hX.rs (fun x n hx hn => ?_)
  exact fl_Tq.ret rfl rfl rfl (k x n hx hn)
end T2S

end

/-! 95.04.y1.lean.txt -/
section
/-! ===== cheapest: what the two tables hold ===== -/
section CHP
variable {p : Nat → Int} {f g : Nat → Int} {c : Int}
def ch_B : Int := 1152921504606846976
def ch_c (p : Nat → Int) (h : Nat) : Int := p h * 16777216 + 2 ^ h
def ch_s (m x : Nat) : Nat := if x = 1 then m else m - 1
/-- with one hour more taken -/
def ch_tk (p : Nat → Int) (h k m x : Nat) (r : Int) : Int := if k = 0 ∨ (x = 0 ∧ m = 0) then -1 else if r = -1 then -1 else r + p h
/-- the reference's table -/
def ch_r (p : Nat → Int) : Nat → Nat → Nat → Nat → Int
  | 0, k, _, _ => if k = 0 then 0 else -1
  | h + 1, k, m, x => if ch_tk p h k m x (ch_r p h (k - 1) (ch_s m x) 1) ≠ -1 ∧ (ch_r p h k m 0 = -1 ∨ ch_tk p h k m x (ch_r p h (k - 1) (ch_s m x) 1) < ch_r p h k m 0) then ch_tk p h k m x (ch_r p h (k - 1) (ch_s m x) 1) else ch_r p h k m 0
/-- the way back through it -/
def ch_g (p : Nat → Int) : Nat → Nat → Nat → Nat → Int
  | 0, _, _, _ => 0
  | h + 1, k, m, x => if ch_r p h k m 0 = ch_r p (h + 1) k m x then ch_g p h k m 0 else 2 ^ h + ch_g p h (k - 1) (ch_s m x) 1
/-- price and hours in one number, the least of all -/
def ch_v (p : Nat → Int) : Nat → Nat → Nat → Nat → Int
  | 0, k, _, _ => if k = 0 then 0 else ch_B
  | h + 1, k, m, x => min (ch_v p h k m 0) (min ((if k = 0 ∨ (x = 0 ∧ m = 0) then ch_B else ch_v p h (k - 1) (ch_s m x) 1) + ch_c p h) ch_B)
theorem ch_pw : ∀ h : Nat, h < 24 → 0 < (2 : Int) ^ h ∧ (2 : Int) ^ (h + 1) = 2 * 2 ^ h ∧ (2 : Int) ^ (h + 1) ≤ 16777216 := by
  intro h hh
  have H : ∀ i : Fin 24, 0 < (2 : Int) ^ i.val ∧ (2 : Int) ^ (i.val + 1) = 2 * 2 ^ i.val ∧ (2 : Int) ^ (i.val + 1) ≤ 16777216 := by decide +kernel
  exact H ⟨h, hh⟩
theorem ch_ok (hp : ∀ h, 0 ≤ p h ∧ p h ≤ 999) : ∀ h : Nat, h ≤ 24 → ∀ k m x : Nat, (ch_v p h k m x = ch_B ∧ ch_r p h k m x = -1) ∨ ((0 ≤ ch_r p h k m x ∧ ch_r p h k m x ≤ 999 * (h : Int)) ∧ (0 ≤ ch_g p h k m x ∧ ch_g p h k m x < 2 ^ h) ∧ ch_v p h k m x = ch_r p h k m x * 16777216 + ch_g p h k m x) := by
  intro h
  induction h with
  | zero =>
    intro _ k m x
    by_cases e : k = 0
    · refine Or.inr ⟨?_, ⟨?_, ?_⟩, ?_⟩
      · unfold ch_r
        rw [if_pos e]
        omega
      · exact Int.le_refl _
      · show (0 : Int) < 2 ^ 0
        decide
      · unfold ch_v ch_r ch_g
        rw [if_pos e, if_pos e]
        rfl
    · refine Or.inl ⟨?_, ?_⟩
      · unfold ch_v
        rw [if_neg e]
      · unfold ch_r
        rw [if_neg e]
  | succ h ih =>
    intro hh k m x
    obtain ⟨w1, w2, w3⟩ := ch_pw h (by omega)
    have A := ih (by omega) k m 0
    have T := ih (by omega) (k - 1) (ch_s m x) 1
    have hph := hp h
    have er : ch_r p (h + 1) k m x = if ch_tk p h k m x (ch_r p h (k - 1) (ch_s m x) 1) ≠ -1 ∧ (ch_r p h k m 0 = -1 ∨ ch_tk p h k m x (ch_r p h (k - 1) (ch_s m x) 1) < ch_r p h k m 0) then ch_tk p h k m x (ch_r p h (k - 1) (ch_s m x) 1) else ch_r p h k m 0 := rfl
    have ev : ch_v p (h + 1) k m x = min (ch_v p h k m 0) (min ((if k = 0 ∨ (x = 0 ∧ m = 0) then ch_B else ch_v p h (k - 1) (ch_s m x) 1) + ch_c p h) ch_B) := rfl
    have eg : ch_g p (h + 1) k m x = if ch_r p h k m 0 = ch_r p (h + 1) k m x then ch_g p h k m 0 else 2 ^ h + ch_g p h (k - 1) (ch_s m x) 1 := rfl
    rw [eg, ev]
    generalize ch_r p (h + 1) k m x = R at *
    unfold ch_tk at er
    unfold ch_c ch_B at *
    generalize ch_r p h k m 0 = rA at *
    generalize ch_v p h k m 0 = vA at *
    generalize ch_g p h k m 0 = gA at *
    generalize ch_r p h (k - 1) (ch_s m x) 1 = rT at *
    generalize ch_v p h (k - 1) (ch_s m x) 1 = vT at *
    generalize ch_g p h (k - 1) (ch_s m x) 1 = gT at *
    rw [w2] at w3 ⊢
    generalize (2 : Int) ^ h = P at *
    by_cases e : k = 0 ∨ (x = 0 ∧ m = 0)
    · rw [if_pos e] at er ⊢
      rw [if_neg (fun q => q.1 rfl)] at er
      subst er
      rw [if_pos rfl]
      rcases A with ⟨a1, a2⟩ | ⟨a1, a2, a3⟩
      · exact Or.inl ⟨by omega, a2⟩
      · exact Or.inr ⟨by omega, by omega, by omega⟩
    · rw [if_neg e] at er ⊢
      rcases T with ⟨t1, t2⟩ | ⟨t1, t2, t3⟩
      · rw [if_pos t2, if_neg (fun q => q.1 rfl)] at er
        subst er
        rw [if_pos rfl]
        rcases A with ⟨a1, a2⟩ | ⟨a1, a2, a3⟩
        · exact Or.inl ⟨by omega, a2⟩
        · exact Or.inr ⟨by omega, by omega, by omega⟩
      · rw [if_neg (by omega : ¬ rT = -1)] at er
        rcases A with ⟨a1, a2⟩ | ⟨a1, a2, a3⟩
        · rw [if_pos ⟨by omega, Or.inl a2⟩] at er
          subst er
          rw [if_neg (by omega)]
          exact Or.inr ⟨by omega, by omega, by omega⟩
        · by_cases lt : rT + p h < rA
          · rw [if_pos ⟨by omega, Or.inr lt⟩] at er
            subst er
            rw [if_neg (by omega)]
            exact Or.inr ⟨by omega, by omega, by omega⟩
          · rw [if_neg (fun q => by omega)] at er
            subst er
            rw [if_pos rfl]
            exact Or.inr ⟨by omega, by omega, by omega⟩
theorem ch_lo (hp : ∀ h, 0 ≤ p h ∧ p h ≤ 999) : ∀ h k m x : Nat, -1 ≤ ch_r p h k m x := by
  intro h
  induction h with
  | zero =>
    intro k m x
    unfold ch_r
    split <;> omega
  | succ h ih =>
    intro k m x
    have hph := hp h
    have t := ih (k - 1) (ch_s m x) 1
    have a := ih k m 0
    have tk : -1 ≤ ch_tk p h k m x (ch_r p h (k - 1) (ch_s m x) 1) := by
      unfold ch_tk
      split
      · omega
      · split <;> omega
    unfold ch_r
    split
    · exact tk
    · exact a
/-- there is a way -/
theorem ch_way (hp : ∀ h, 0 ≤ p h ∧ p h ≤ 999) : ∀ h k m x : Nat, k ≤ h → (k = 0 ∨ 1 ≤ m ∨ x = 1) → 0 ≤ ch_r p h k m x := by
  intro h
  induction h with
  | zero =>
    intro k m x hk _
    unfold ch_r
    rw [if_pos (by omega)]
    exact Int.le_refl _
  | succ h ih =>
    intro k m x hk hm
    have hph := hp h
    have er : ch_r p (h + 1) k m x = if ch_tk p h k m x (ch_r p h (k - 1) (ch_s m x) 1) ≠ -1 ∧ (ch_r p h k m 0 = -1 ∨ ch_tk p h k m x (ch_r p h (k - 1) (ch_s m x) 1) < ch_r p h k m 0) then ch_tk p h k m x (ch_r p h (k - 1) (ch_s m x) 1) else ch_r p h k m 0 := rfl
    rw [er]
    by_cases e : k = 0
    · have a := ih k m 0 (by omega) (Or.inl e)
      unfold ch_tk
      rw [if_pos (Or.inl e), if_neg (fun q => q.1 rfl)]
      exact a
    · have t := ih (k - 1) (ch_s m x) 1 (by omega) (Or.inr (Or.inr rfl))
      have a := ch_lo hp h k m 0
      have tk : ch_tk p h k m x (ch_r p h (k - 1) (ch_s m x) 1) = ch_r p h (k - 1) (ch_s m x) 1 + p h := by
        unfold ch_tk
        rw [if_neg (by omega), if_neg (by omega)]
      rw [tk]
      generalize ch_r p h (k - 1) (ch_s m x) 1 = rT at *
      generalize ch_r p h k m 0 = rA at *
      split <;> omega
/-- the class's two rows: hours and stretches just so many, the last hour left out, or taken -/
def ch_p (p : Nat → Int) : Nat → Nat → Nat → Int × Int
  | 0, t, s => (if t = 0 ∧ s = 0 then 0 else ch_B, ch_B)
  | h + 1, t, s => (min (ch_p p h t s).1 (ch_p p h t s).2, min ((if t = 0 ∨ s = 0 then ch_B else min (ch_p p h (t - 1) s).2 (ch_p p h (t - 1) (s - 1)).1) + ch_c p h) ch_B)
def ch_mn (f : Nat → Int) : Nat → Int
  | 0 => f 0
  | n + 1 => min (ch_mn f n) (f (n + 1))
theorem ch_mn_min : ∀ n : Nat, ch_mn (fun s => min (f s) (g s)) n = min (ch_mn f n) (ch_mn g n) := by
  intro n
  induction n with
  | zero => rfl
  | succ n ih =>
    show min (ch_mn (fun s => min (f s) (g s)) n) (min (f (n + 1)) (g (n + 1))) = min (min (ch_mn f n) (f (n + 1))) (min (ch_mn g n) (g (n + 1)))
    rw [ih]
    omega
theorem ch_mn_B (h : ∀ s, f s = ch_B) : ∀ n : Nat, ch_mn f n = ch_B := by
  intro n
  induction n with
  | zero => exact h 0
  | succ n ih =>
    show min (ch_mn f n) (f (n + 1)) = ch_B
    rw [ih, h]
    omega
theorem ch_mn_st (hc : 0 ≤ c) (n0 : g 0 = ch_B) (ho : ∀ s, f s ≤ ch_B) (hn : ∀ s, g s ≤ ch_B) : ∀ m : Nat, ch_mn (fun s => min ((if s = 0 then ch_B else min (g s) (f (s - 1))) + c) ch_B) (m + 1) = min (min (ch_mn f m) (ch_mn g (m + 1)) + c) ch_B := by
  intro m
  induction m with
  | zero =>
    show min (min ((if (0 : Nat) = 0 then ch_B else min (g 0) (f (0 - 1))) + c) ch_B) (min ((if (0 + 1 : Nat) = 0 then ch_B else min (g (0 + 1)) (f (0 + 1 - 1))) + c) ch_B) = min (min (f 0) (min (g 0) (g (0 + 1))) + c) ch_B
    rw [if_pos rfl, if_neg (by decide), Nat.add_sub_cancel, n0]
    have a := ho 0
    have b := hn (0 + 1)
    omega
  | succ m ih =>
    show min (ch_mn (fun s => min ((if s = 0 then ch_B else min (g s) (f (s - 1))) + c) ch_B) (m + 1)) (min ((if m + 1 + 1 = 0 then ch_B else min (g (m + 1 + 1)) (f (m + 1 + 1 - 1))) + c) ch_B) = min (min (min (ch_mn f m) (f (m + 1))) (min (ch_mn g (m + 1)) (g (m + 1 + 1))) + c) ch_B
    rw [ih, if_neg (by omega), Nat.add_sub_cancel]
    have a := ho (m + 1)
    have b := hn (m + 1 + 1)
    omega
theorem ch_p_b (hp : ∀ h, 0 ≤ p h ∧ p h ≤ 999) : ∀ h t s : Nat, (0 ≤ (ch_p p h t s).1 ∧ (ch_p p h t s).1 ≤ ch_B) ∧ (0 ≤ (ch_p p h t s).2 ∧ (ch_p p h t s).2 ≤ ch_B) ∧ (s = 0 → (ch_p p h t s).2 = ch_B) := by
  intro h
  induction h with
  | zero =>
    intro t s
    refine ⟨?_, ?_, fun _ => rfl⟩
    · show 0 ≤ (if t = 0 ∧ s = 0 then (0 : Int) else ch_B) ∧ (if t = 0 ∧ s = 0 then (0 : Int) else ch_B) ≤ ch_B
      unfold ch_B
      split <;> omega
    · show 0 ≤ ch_B ∧ ch_B ≤ ch_B
      unfold ch_B
      omega
  | succ h ih =>
    intro t s
    have a := ih t s
    have b := ih (t - 1) s
    have d := ih (t - 1) (s - 1)
    have hph := hp h
    have hc : 0 ≤ ch_c p h := by
      unfold ch_c
      have := Int.pow_nonneg (n := 2) (m := h) (by decide)
      omega
    refine ⟨?_, ?_, fun hs => ?_⟩
    · show 0 ≤ min (ch_p p h t s).1 (ch_p p h t s).2 ∧ min (ch_p p h t s).1 (ch_p p h t s).2 ≤ ch_B
      omega
    · show 0 ≤ min ((if t = 0 ∨ s = 0 then ch_B else min (ch_p p h (t - 1) s).2 (ch_p p h (t - 1) (s - 1)).1) + ch_c p h) ch_B ∧ min ((if t = 0 ∨ s = 0 then ch_B else min (ch_p p h (t - 1) s).2 (ch_p p h (t - 1) (s - 1)).1) + ch_c p h) ch_B ≤ ch_B
      have : 0 ≤ ch_B := by decide
      split <;> omega
    · show min ((if t = 0 ∨ s = 0 then ch_B else min (ch_p p h (t - 1) s).2 (ch_p p h (t - 1) (s - 1)).1) + ch_c p h) ch_B = ch_B
      rw [if_pos (Or.inr hs)]
      omega
/-- the least over so many stretches is the least of all -/
theorem ch_all (hp : ∀ h, 0 ≤ p h ∧ p h ≤ 999) : ∀ h k m : Nat, ch_mn (fun s => min (ch_p p h k s).1 (ch_p p h k s).2) m = ch_v p h k m 0 ∧ min (ch_mn (fun s => (ch_p p h k s).1) m) (ch_mn (fun s => (ch_p p h k s).2) (m + 1)) = ch_v p h k m 1 := by
  intro h
  induction h with
  | zero =>
    intro k m
    have e1 : ∀ n, ch_mn (fun s => (ch_p p 0 k s).1) n = if k = 0 then 0 else ch_B := by
      intro n
      induction n with
      | zero =>
        show (if k = 0 ∧ (0 : Nat) = 0 then (0 : Int) else ch_B) = _
        by_cases e : k = 0
        · rw [if_pos ⟨e, rfl⟩, if_pos e]
        · rw [if_neg (fun q => e q.1), if_neg e]
      | succ n ih =>
        show min (ch_mn (fun s => (ch_p p 0 k s).1) n) (if k = 0 ∧ n + 1 = 0 then (0 : Int) else ch_B) = _
        rw [ih, if_neg (c := k = 0 ∧ n + 1 = 0) (fun q => Nat.succ_ne_zero n q.2)]
        unfold ch_B
        split <;> omega
    have e2 : ∀ n, ch_mn (fun s => (ch_p p 0 k s).2) n = ch_B := fun n => ch_mn_B (fun s => rfl) n
    rw [ch_mn_min, e1, e2, e2]
    show min (if k = 0 then (0 : Int) else ch_B) ch_B = (if k = 0 then 0 else ch_B) ∧ min (if k = 0 then (0 : Int) else ch_B) ch_B = (if k = 0 then 0 else ch_B)
    unfold ch_B
    split <;> omega
  | succ h ih =>
    intro k m
    obtain ⟨i1, i2⟩ := ih k m
    have hc : 0 ≤ ch_c p h := by
      have := hp h
      unfold ch_c
      have := Int.pow_nonneg (n := 2) (m := h) (by decide)
      omega
    have eo : ∀ n, ch_mn (fun s => (ch_p p (h + 1) k s).1) n = ch_mn (fun s => min (ch_p p h k s).1 (ch_p p h k s).2) n := fun n => rfl
    have en : ∀ n, ch_mn (fun s => (ch_p p (h + 1) k s).2) n = ch_mn (fun s => min ((if k = 0 ∨ s = 0 then ch_B else min (ch_p p h (k - 1) s).2 (ch_p p h (k - 1) (s - 1)).1) + ch_c p h) ch_B) n := fun n => rfl
    -- with one hour more taken
    have st : ∀ n, ch_mn (fun s => (ch_p p (h + 1) k s).2) (n + 1) = min ((if k = 0 then ch_B else ch_v p h (k - 1) n 1) + ch_c p h) ch_B := by
      intro n
      rw [en]
      by_cases e : k = 0
      · rw [ch_mn_B (fun s => by rw [if_pos (Or.inl e)]; omega), if_pos e]
        omega
      · rw [if_neg e, ← (ih (k - 1) n).2]
        have := ch_mn_st (f := fun s => (ch_p p h (k - 1) s).1) (g := fun s => (ch_p p h (k - 1) s).2) hc ((ch_p_b hp h (k - 1) 0).2.2 rfl) (fun s => (ch_p_b hp h (k - 1) s).1.2) (fun s => (ch_p_b hp h (k - 1) s).2.1.2) n
        rw [← this]
        congr 1
        funext s
        by_cases es : s = 0
        · rw [if_pos (Or.inr es), if_pos es]
        · rw [if_neg (by omega), if_neg es]
    have s0 : ch_mn (fun s => (ch_p p (h + 1) k s).2) m = min ((if k = 0 ∨ ((0 : Nat) = 0 ∧ m = 0) then ch_B else ch_v p h (k - 1) (ch_s m 0) 1) + ch_c p h) ch_B := by
      cases m with
      | zero =>
        show (ch_p p (h + 1) k 0).2 = _
        rw [(ch_p_b hp (h + 1) k 0).2.2 rfl, if_pos (Or.inr ⟨rfl, rfl⟩)]
        omega
      | succ m =>
        rw [st m]
        by_cases e : k = 0
        · rw [if_pos e, if_pos (Or.inl e)]
        · rw [if_neg e, if_neg (by omega)]
          rfl
    have s1 : (if k = 0 ∨ ((1 : Nat) = 0 ∧ m = 0) then ch_B else ch_v p h (k - 1) (ch_s m 1) 1) = (if k = 0 then ch_B else ch_v p h (k - 1) m 1) := by
      by_cases e : k = 0
      · rw [if_pos e, if_pos (Or.inl e)]
      · rw [if_neg e, if_neg (by omega)]
        rfl
    refine ⟨?_, ?_⟩
    · rw [ch_mn_min, eo, i1, s0]
      rfl
    · rw [eo, i1, st m]
      show _ = min (ch_v p h k m 0) (min ((if k = 0 ∨ ((1 : Nat) = 0 ∧ m = 0) then ch_B else ch_v p h (k - 1) (ch_s m 1) 1) + ch_c p h) ch_B)
      rw [s1]
/-- what both answer -/
theorem ch_fin (hp : ∀ h, 0 ≤ p h ∧ p h ≤ 999) {k m : Nat} (hk : k ≤ 24) (hm : 1 ≤ m) : 0 ≤ ch_r p 24 k m 0 ∧ ch_r p 24 k m 0 ≤ 23976 ∧ 0 ≤ ch_g p 24 k m 0 ∧ ch_g p 24 k m 0 < 16777216 ∧ ch_mn (fun s => min (ch_p p 24 k s).1 (ch_p p 24 k s).2) m = ch_r p 24 k m 0 * 16777216 + ch_g p 24 k m 0 := by
  rw [(ch_all hp 24 k m).1]
  have w := ch_way hp 24 k m 0 hk (Or.inr (Or.inl hm))
  rcases ch_ok hp 24 (Nat.le_refl 24) k m 0 with ⟨-, h⟩ | ⟨h1, h2, h3⟩
  · omega
  · have e : (2 : Int) ^ 24 = 16777216 := by decide
    rw [e] at h2
    exact ⟨h1.1, by omega, h2.1, h2.2, h3⟩
end CHP

end

/-! 95.04.y2.lean.txt -/
section
/-! ===== arrays of longs, by hand ===== -/
section LNG
variable {P : am_Pg} {mi pc τ p n k : Nat} {z : Nat × Nat × Nat} {lv : fl_L} {r : List fl_V} {m : fl_M} {i : Int32} {x : Int64} {Q : Option fl_V → fl_M → Prop}
theorem fl_lald_eq (hk : fk_kd τ = .inr (1, n, z)) (hi : i.toInt = k) (hlt : k < n) (hn : n < 2147483648) : fl_lald pc lv (.inl i :: .inr (.inr (.inl (τ, p))) :: r) m = some (pc + 1, lv, .inr (.inl (m.2.1 p k)) :: r, m) := by
  obtain ⟨h1, h2⟩ := at_in_ok (i := i) (n := n) (by omega) (by omega)
  have h3 : i.toNatClampNeg = k := by omega
  show ((match fk_kd τ with
    | .inr (1, n, _) => bif am_in i n then some (pc + 1, lv, .inr (.inl (m.2.1 p i.toNatClampNeg)) :: r, m) else none
    | _ => none) : Option fl_C) = _
  rw [hk]
  show ((bif am_in i n then some (pc + 1, lv, .inr (.inl (m.2.1 p i.toNatClampNeg)) :: r, m) else none) : Option fl_C) = _
  rw [h1, h3]
  rfl
theorem fl_last_eq (hk : fk_kd τ = .inr (1, n, z)) (hi : i.toInt = k) (hlt : k < n) (hn : n < 2147483648) : fl_last pc lv (.inr (.inl x) :: .inl i :: .inr (.inr (.inl (τ, p))) :: r) m = some (pc + 1, lv, r, (m.1, fl_upL m.2.1 p k x, m.2.2)) := by
  obtain ⟨h1, h2⟩ := at_in_ok (i := i) (n := n) (by omega) (by omega)
  have h3 : i.toNatClampNeg = k := by omega
  show ((match fk_kd τ with
    | .inr (1, n, _) => bif am_in i n then some (pc + 1, lv, r, (m.1, fl_upL m.2.1 p i.toNatClampNeg x, m.2.2)) else none
    | _ => none) : Option fl_C) = _
  rw [hk]
  show ((bif am_in i n then some (pc + 1, lv, r, (m.1, fl_upL m.2.1 p i.toNatClampNeg x, m.2.2)) else none) : Option fl_C) = _
  rw [h1, h3]
  rfl
theorem fl_Tq.ldJ (hc : am_code P mi pc = some .laload) (hok : ∀ v ∈ (.inl i :: .inr (.inr (.inl (τ, p))) :: r : List fl_V), fl_ok m.2.2 v) (hk : fk_kd τ = .inr (1, n, z)) (hi : i.toInt = k) (hlt : k < n) (hn : n < 2147483648) (q : fl_Tq P mi (pc + 1) lv (.inr (.inl (m.2.1 p k)) :: r) m Q) : fl_Tq P mi pc lv (.inl i :: .inr (.inr (.inl (τ, p))) :: r) m Q := fl_Tq.stp hc rfl hok (fl_lald_eq hk hi hlt hn) q
theorem fl_Tq.svJ (hc : am_code P mi pc = some .lastore) (hok : ∀ v ∈ (.inr (.inl x) :: .inl i :: .inr (.inr (.inl (τ, p))) :: r : List fl_V), fl_ok m.2.2 v) (hk : fk_kd τ = .inr (1, n, z)) (hi : i.toInt = k) (hlt : k < n) (hn : n < 2147483648) (q : fl_Tq P mi (pc + 1) lv r (m.1, fl_upL m.2.1 p k x, m.2.2) Q) : fl_Tq P mi pc lv (.inr (.inl x) :: .inl i :: .inr (.inr (.inl (τ, p))) :: r) m Q := fl_Tq.stp hc rfl hok (fl_last_eq hk hi hlt hn) q
end LNG
/-! ===== the less of two longs ===== -/
def ch_min (x y : Int64) : Int64 := if 0 < (lg_cmp x y).toInt then y else x
theorem x_min_q {L : Nat} {xs : Nat → Int32} {m : fl_M} {Q : Option fl_V → fl_M → Prop} {x y : Int64} (k : Q (some (fl_j (ch_min x y))) m) : fl_Tq (pw_P L xs) 336 0 [some (fl_j x), none, some (fl_j y), none] [] m Q := by
  unfold ch_min at k
  refine fl_Tq.stp rfl rfl (fl_bo rfl) rfl ?_
  refine fl_Tq.stp rfl rfl (fl_bo rfl) rfl ?_
  refine fl_Tq.stp rfl rfl (fl_bo rfl) rfl ?_
  by_cases h : 0 < (lg_cmp x y).toInt
  · rw [if_pos h] at k
    refine fl_Tq.zt rfl (fl_bo rfl) (by rw [at_c1]; exact decide_eq_true h) rfl ?_
    refine fl_Tq.stp rfl rfl (fl_bo rfl) rfl ?_
    exact fl_Tq.ret rfl rfl rfl k
  · rw [if_neg h] at k
    refine fl_Tq.zf rfl (fl_bo rfl) (by rw [at_c1]; exact decide_eq_false h) rfl ?_
    refine fl_Tq.stp rfl rfl (fl_bo rfl) rfl ?_
    refine fl_Tq.stp rfl rfl (fl_bo rfl) rfl ?_
    exact fl_Tq.ret rfl rfl rfl k
theorem ch_min_i {x y : Int64} : (ch_min x y).toInt = min x.toInt y.toInt := by
  unfold ch_min lg_cmp
  have c0 : (0 : Int32).toInt = 0 := rfl
  have c1 : (1 : Int32).toInt = 1 := by decide +kernel
  have cm : (-1 : Int32).toInt = -1 := by decide +kernel
  by_cases h1 : x > y
  · have h1' : y.toInt < x.toInt := Int64.lt_iff_toInt_lt.mp h1
    rw [if_pos h1, c1, if_pos (by decide)]
    omega
  · have h1' : ¬ y.toInt < x.toInt := fun q => h1 (Int64.lt_iff_toInt_lt.mpr q)
    rw [if_neg h1]
    by_cases h2 : x = y
    · rw [if_pos h2, c0, if_neg (by decide)]
      omega
    · rw [if_neg h2, cm, if_neg (by decide)]
      omega
/-! ===== an array of longs filled with one value: the machine's own loop ===== -/
def ch_fl (f : Nat → Nat → Int64) (p k : Nat) (x : Int64) : Nat → Nat → Int64 := fun q j => if q = p ∧ j < k then x else f q j
theorem ch_fl_0 {f : Nat → Nat → Int64} {p : Nat} {x : Int64} : ch_fl f p 0 x = f := by
  funext q j
  unfold ch_fl
  rw [if_neg (by omega)]
theorem ch_fl_s {f : Nat → Nat → Int64} {p k : Nat} {x : Int64} : fl_upL (ch_fl f p k x) p k x = ch_fl f p (k + 1) x := by
  funext q j
  unfold fl_upL ch_fl
  by_cases h : q = p ∧ j = k
  · rw [if_pos h, if_pos (by omega)]
  · rw [if_neg h]
    by_cases h2 : q = p ∧ j < k
    · rw [if_pos h2, if_pos (by omega)]
    · rw [if_neg h2, if_neg (by omega)]

end
