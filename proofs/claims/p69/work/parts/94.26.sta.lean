/-! ===== block 0: a second, part by part, keeps THE RELATION ===== -/
section C0STA
variable {fc fr fc' fr' f g : t2_F} {C n : Nat} {c x : Int32}
/-- what only (7) and behind it touch -/
def c0_GX (fc fr : t2_F) : Prop := c0_GT fc fr ∧ c0_GW fc fr ∧ c0_Tr fc fr ∧ c0_GM fc fr
theorem c0_GX.congr (h : c0_GX fc fr) (hn : (fr 280 19).toInt ≤ 24) (ep : ∀ p : Nat, (p ≠ 1 ∧ p ≠ 4 ∧ p < 18) ∨ (81 ≤ p ∧ p < 90) → fc' p = fc p) (e : ∀ w : Nat, (w = 6 ∨ (15 ≤ w ∧ w < 34) ∨ (64 ≤ w ∧ w < 444)) → fr' 280 w = fr 280 w) : c0_GX fc' fr' := by
  obtain ⟨h1, h2, h3, h4⟩ := h
  exact ⟨h1.congr hn (ep _ (by decide)) (ep _ (by decide)) (ep _ (by decide)) (ep _ (by decide)) (ep _ (by decide)) (ep _ (by decide)) (fun w hw => e w (by omega)), h2.congr (ep _ (by decide)) (ep _ (by decide)) (ep _ (by decide)) (ep _ (by decide)) (ep _ (by decide)) (fun w hw => e w (by omega)), h3.congr (ep _ (by decide)) (ep _ (by decide)) (fun w hw => e w (by omega)), h4.congr (fun p hp => ep p (Or.inr hp)) (fun w hw => e w (by omega))⟩
/-- the relation, with what the reference's words keep to -/
def c0_I (fc fr : t2_F) : Prop := c0_GS fc fr ∧ c0_Rs fc fr ∧ c0_GX fc fr ∧ (∀ C : Nat, (C : Int) < (fr 280 2).toInt → c0_Rc fc fr C ∧ c0_GC fc fr C) ∧ t2_OK (fr 280)
theorem c0_Rc.c18 (h : c0_Rc fc fr C) (ep : ∀ j : Nat, j < 18 → fc' (18 + 4 * C) j = fc (18 + 4 * C) j) (e18 : fc' (18 + 4 * C) 18 = fr' 280 (444 + 61 * C + 60)) (er : ∀ w : Nat, w < 60 → fr' 280 (444 + 61 * C + w) = fr 280 (444 + 61 * C + w)) : c0_Rc fc' fr' C := by
  unfold c0_Rc r_partOf_v at *
  rw [ep 0 (by decide), ep 1 (by decide), ep 2 (by decide), ep 3 (by decide), ep 4 (by decide), ep 5 (by decide), ep 6 (by decide), ep 7 (by decide), ep 8 (by decide), ep 9 (by decide), er 0 (by omega), er 1 (by omega), er 2 (by omega), er 3 (by omega), er 4 (by omega), er 5 (by omega), er 6 (by omega), er 9 (by omega)]
  obtain ⟨a, b, d, i, j, -⟩ := h
  exact ⟨a, b, d, i, j, e18⟩
/-- the count of cells -/
theorem c0_I.cnt (h : c0_I fc fr) : (fr 280 2).toInt = (((fr 280 2).toInt.toNat : Nat) : Int) ∧ (fr 280 2).toInt.toNat ≤ 16 ∧ (fc 1 5).toInt = (((fr 280 2).toInt.toNat : Nat) : Int) := by
  obtain ⟨⟨⟨h5, -⟩, -⟩, -, -, -, -, ⟨-, -, h2, -⟩, -⟩ := h
  rw [h5]
  omega
theorem c0_I.cell (h : c0_I fc fr) {C : Nat} (hC : C < (fr 280 2).toInt.toNat) : (c0_Rc fc fr C ∧ c0_GC fc fr C) ∧ t2_OC (fr 280) C := by
  have q : (C : Int) < (fr 280 2).toInt := by have := h.cnt; omega
  exact ⟨h.2.2.2.1 C q, h.2.2.2.2.2.2.2.2.2.2.2 C q⟩
theorem c0_I.rl (h : c0_I fc fr) : c0_RL fc fr ((fr 280 2).toInt.toNat) := ⟨⟨h.cnt.2.1, h.cnt.2.2, h.cnt.1⟩, h.2.1, h.2.2.1.1.2.1, h.2.2.2.2.2.2.2.1.1, fun C hC => (h.cell hC).1.1⟩
theorem c0_I.far (h : c0_I fc fr) {C : Nat} (hC : C < (fr 280 2).toInt.toNat) : t2_far (fr 280 5) (fr 280 (444 + 61 * C + 2)) := t2_far_ok h.2.2.2.2.2.1.1 (h.cell hC).2.2.1
/-- TIME -/
noncomputable def c0_s1 (f : t2_F) : t2_F := fl_row f 1 (upd (f 1) 6 (t2_min_v (f 1 6 + (1 : Int32)) (9999 : Int32)))
noncomputable def r_t1 (f : t2_F) : t2_F := fl_row f 280 (upd (f 280) 7 (f 280 7 + (1 : Int32)))
theorem c0_I.s1 (h : c0_I fc fr) (ht : (fr 280 7).toInt < 9999) : c0_I (c0_s1 fc) (r_t1 fr) ∧ (r_t1 fr 280 7).toInt = (fr 280 7).toInt + 1 := by
  have hh := h
  obtain ⟨⟨⟨g5, g6, g7, g8⟩, ⟨g9, g10, g11, g12⟩, g13, g14, g15, g16⟩, rs, gx, cl, ok⟩ := h
  have t0 : 0 ≤ (fr 280 7).toInt := ok.2.1.2.2.2.1
  have c1 : (1 : Int32).toInt = 1 := by decide +kernel
  have c9 : (9999 : Int32).toInt = 9999 := by decide +kernel
  have e7 : (fr 280 7 + (1 : Int32)).toInt = (fr 280 7).toInt + 1 := by rw [at_add32 (by omega) (by omega), c1]
  have P : ∀ p : Nat, p ≠ 1 → c0_s1 fc p = fc p := fun p hp => fl_row_ne hp
  have Q : ∀ j : Nat, j ≠ 6 → c0_s1 fc 1 j = fc 1 j := fun j hj => by unfold c0_s1; rw [fl_row_self, upd_ne hj]
  have W : ∀ w : Nat, w ≠ 7 → r_t1 fr 280 w = fr 280 w := fun w hw => by unfold r_t1; rw [fl_row_self, upd_ne hw]
  have w7 : r_t1 fr 280 7 = fr 280 7 + (1 : Int32) := by unfold r_t1; rw [fl_row_self, upd_self]
  have q6 : c0_s1 fc 1 6 = fr 280 7 + (1 : Int32) := by
    unfold c0_s1
    rw [fl_row_self, upd_self, g6]
    apply Int32.toInt.inj
    rw [t2_min_i]
    omega
  refine ⟨⟨⟨⟨?_, ?_, ?_, ?_⟩, ⟨?_, ?_, ?_, ?_⟩, ?_, ?_, ?_, ?_⟩, rs.congr (P _ (by decide)) (fun k hk => W _ (by omega)), gx.congr ok.2.2.2.2.2.1.1.2 (fun p hp => P p (by omega)) (fun w hw => W w (by omega)), fun C hC => ?_, ?_⟩, by rw [w7, e7]⟩
  · rw [Q 5 (by decide), W 2 (by decide), g5]
  · rw [q6, w7]
  · rw [Q 7 (by decide), W 3 (by decide), g7]
  · rw [Q 8 (by decide), W 4 (by decide), g8]
  · rw [Q 9 (by decide), W 5 (by decide), g9]
  · rw [Q 10 (by decide), W 14 (by decide), g10]
  · rw [Q 11 (by decide), W 8 (by decide), g11]
  · rw [Q 12 (by decide), W 9 (by decide), g12]
  · rw [Q 13 (by decide), W 10 (by decide), g13]
  · rw [Q 14 (by decide), W 11 (by decide), g14]
  · rw [Q 15 (by decide), W 12 (by decide), g15]
  · rw [Q 16 (by decide), W 13 (by decide), g16]
  · rw [W 2 (by decide)] at hC
    exact ⟨(cl C hC).1.congr (P _ (by omega)) (fun k hk => W _ (by omega)), (cl C hC).2.congr (fun j _ _ => by rw [P _ (by omega)]) (fun p hp => P p (by omega)) (fun w hw => W _ (by omega))⟩
  · refine ok.upd (fun w hw => W w (by omega)) (fun k hk => by rw [W _ (by omega)]; exact ok.s hk) (by rw [W 5 (by decide)]; exact ok.2.1.1) (by rw [W 4 (by decide)]; exact ok.2.1.2.1) (by rw [w7, e7]; omega) (by rw [W 16 (by decide), W 20 (by decide), W 21 (by decide)]; exact ok.2.2.2.2.2.2.1) (fun C hC => ?_)
    exact (hh.2.2.2.2.2.2.2.2.2.2.2 C hC).congr (fun w hw => W _ (by omega)) (by rw [w7, e7]; omega)
/-- (1) -/
theorem c0_I.bus (h : c0_I fc fr) : c0_I (c0_moveBus_m fc) (r_goBus_m fr) ∧ c0_moveBus_v fc = r_goBus_m fr 277 4 ∧ (r_goBus_m fr 277 4 = 0 ∨ r_goBus_m fr 277 4 = 1) ∧ ∀ j : Nat, j ≠ 4 → r_goBus_m fr 277 j = fr 277 j := by
  have hh := h
  obtain ⟨⟨⟨g5, g6, g7, g8⟩, ⟨g9, g10, g11, g12⟩, g13, g14, g15, g16⟩, rs, gx, cl, ok⟩ := h
  have cn := hh.cnt
  have bp : -160000 ≤ (r_packCalm_v fr).toInt ∧ (r_packCalm_v fr).toInt ≤ 235200 := by
    have b := r_packCalm_b (f := fr) (n := (fr 280 2).toInt.toNat) cn.2.1 (fun C hC => (hh.cell hC).2.2.2.2.2.1)
    have e : r_packCalm_v fr = r_packCalm_a4 fr ((fr 280 2).toInt.toNat) := rfl
    rw [e]
    omega
  have bb := ok.2.1.2.1
  obtain ⟨hp, hj⟩ := c0_bus_eq (n := (fr 280 2).toInt.toNat) cn.2.2 g5 (fun C hC => (hh.cell hC).1.1) g7 g8 rs gx.1.1 ok.2.2.1 (by omega) (by omega)
  have sl := c0_slow_eq g7 g8 rs hp hj
  refine ⟨?_, sl⟩
  have P : ∀ p : Nat, p ≠ 1 → c0_moveBus_m fc p = fc p := fun p hp => c0_moveBus_fr hp
  have Q : ∀ j : Nat, j ≠ 7 → j ≠ 8 → c0_moveBus_m fc 1 j = fc 1 j := fun j h7 h8 => by rw [c0_moveBus_w, if_neg h8, if_neg h7]
  have W : ∀ w : Nat, w ≠ 3 → w ≠ 4 → r_goBus_m fr 280 w = fr 280 w := fun w h3 h4 => by rw [r_goBus_w2, if_neg h4, if_neg h3]
  have w4 : r_goBus_m fr 280 4 = r_goBus_j16_0 fr := by rw [r_goBus_w2, if_pos rfl]
  have j16 := r_bus_b (f := fr) bb bp (ok.s (k := 7) (by decide))
  refine ⟨⟨⟨?_, ?_, ?_, ?_⟩, ⟨?_, ?_, ?_, ?_⟩, ?_, ?_, ?_, ?_⟩, rs.congr (P _ (by decide)) (fun k hk => W _ (by omega) (by omega)), gx.congr ok.2.2.2.2.2.1.1.2 (fun p hp => P p (by omega)) (fun w hw => W w (by omega) (by omega)), fun C hC => ?_, ?_⟩
  · rw [Q 5 (by decide) (by decide), W 2 (by decide) (by decide), g5]
  · rw [Q 6 (by decide) (by decide), W 7 (by decide) (by decide), g6]
  · rw [c0_moveBus_w, r_goBus_w2, if_neg (by decide : ¬ (7 : Nat) = 8), if_pos rfl, if_neg (by decide : ¬ (3 : Nat) = 4), if_pos rfl, g7, hp, hj, t2_m32 (r_goBus_j16_0 fr) (1000 : Int32)]
  · rw [c0_moveBus_w, if_pos rfl, w4, hj]
  · rw [Q 9 (by decide) (by decide), W 5 (by decide) (by decide), g9]
  · rw [Q 10 (by decide) (by decide), W 14 (by decide) (by decide), g10]
  · rw [Q 11 (by decide) (by decide), W 8 (by decide) (by decide), g11]
  · rw [Q 12 (by decide) (by decide), W 9 (by decide) (by decide), g12]
  · rw [Q 13 (by decide) (by decide), W 10 (by decide) (by decide), g13]
  · rw [Q 14 (by decide) (by decide), W 11 (by decide) (by decide), g14]
  · rw [Q 15 (by decide) (by decide), W 12 (by decide) (by decide), g15]
  · rw [Q 16 (by decide) (by decide), W 13 (by decide) (by decide), g16]
  · rw [W 2 (by decide) (by decide)] at hC
    exact ⟨(cl C hC).1.congr (P _ (by omega)) (fun k hk => W _ (by omega) (by omega)), (cl C hC).2.congr (fun j _ _ => by rw [P _ (by omega)]) (fun p hp => P p (by omega)) (fun w hw => W _ (by omega) (by omega))⟩
  · refine ok.upd (fun w hw => W w (by omega) (by omega)) (fun k hk => by rw [W _ (by omega) (by omega)]; exact ok.s hk) (by rw [W 5 (by decide) (by decide)]; exact ok.2.1.1) (by rw [w4]; exact j16) (by rw [W 7 (by decide) (by decide)]; exact ok.2.1.2.2.2) (by rw [W 16 (by decide) (by decide), W 20 (by decide) (by decide), W 21 (by decide) (by decide)]; exact ok.2.2.2.2.2.2.1) (fun C hC => ?_)
    exact (hh.2.2.2.2.2.2.2.2.2.2.2 C hC).congr (fun w hw => W _ (by omega) (by omega)) (by rw [W 7 (by decide) (by decide)]; exact Int.le_refl _)
/-- (2) -/
theorem c0_I.cur (h : c0_I fc fr) : c0_I (c0_letCurrent_m fc) (r_goCurrent_m fr) ∧ ∀ w : Nat, w ≠ 5 → (∀ C : Nat, C < (fr 280 2).toInt.toNat → w ≠ 444 + 61 * C + 60) → r_goCurrent_m fr 280 w = fr 280 w := by
  have hh := h
  obtain ⟨⟨⟨g5, g6, g7, g8⟩, ⟨g9, g10, g11, g12⟩, g13, g14, g15, g16⟩, rs, gx, cl, ok⟩ := h
  have cn := hh.cnt
  have rl := hh.rl
  have hm0 : t2_lo 4 ≤ (fr 280 38).toInt ∧ (fr 280 38).toInt ≤ t2_hi 4 := ok.s (k := 4) (by decide)
  have l4 : t2_lo 4 = 1 := by decide
  have h4 : t2_hi 4 = 99999 := by decide
  have hm : 0 ≤ (fr 280 38).toInt ∧ (fr 280 38).toInt ≤ 99999 := by omega
  obtain ⟨k1, k2, k3, k4, k5⟩ := c0_cur_eq rl g7 gx.1.1 ok.2.2.1 hm
  refine ⟨?_, k5⟩
  have P : ∀ p : Nat, p ≠ 1 → (∀ C : Nat, C < (fr 280 2).toInt.toNat → p ≠ 18 + 4 * C) → c0_letCurrent_m fc p = fc p := fun p hp hC => funext (fun k => k4 p k (fun q => absurd q hp) (fun C c q => absurd q (hC C c)))
  have Q : ∀ j : Nat, j ≠ 9 → c0_letCurrent_m fc 1 j = fc 1 j := fun j hj => k4 1 j (fun _ => hj) (fun C _ q => absurd q (by omega))
  have W : ∀ w : Nat, w ≠ 5 → w < 444 → r_goCurrent_m fr 280 w = fr 280 w := fun w h5 hw => k5 w h5 (fun C _ => by omega)
  have Wc : ∀ C w : Nat, w < 60 → r_goCurrent_m fr 280 (444 + 61 * C + w) = fr 280 (444 + 61 * C + w) := fun C w hw => k5 _ (by omega) (fun D _ => by omega)
  have cb : -99999 ≤ (r_goCurrent_j9_0 fr).toInt ∧ (r_goCurrent_j9_0 fr).toInt ≤ 99999 := by
    have c0 : (0 : Int32).toInt = 0 := rfl
    have l0 := rl.lim_nn (x := (0 : Int32)) hm
    have l1 := rl.lim_nn (x := (1 : Int32)) hm
    have n1 : (-(r_limitOf_v fr (1 : Int32))).toInt = -(r_limitOf_v fr (1 : Int32)).toInt := by rw [Int32.toInt_neg]; exact Int.bmod_eq_of_le (by omega) (by omega)
    unfold r_goCurrent_j9_0
    split
    · omega
    · have := t2_heldTo_b (v := fr 280 54) (lo := -(r_limitOf_v fr (1 : Int32))) (hi := r_limitOf_v fr (0 : Int32)) (by omega)
      have e : r_held_v (fr 280 54) (-(r_limitOf_v fr (1 : Int32))) (r_limitOf_v fr (0 : Int32)) = t2_heldTo_v (fr 280 54) (-(r_limitOf_v fr (1 : Int32))) (r_limitOf_v fr (0 : Int32)) := rfl
      rw [e]
      omega
  refine ⟨⟨⟨?_, ?_, ?_, ?_⟩, ⟨?_, ?_, ?_, ?_⟩, ?_, ?_, ?_, ?_⟩, rs.congr (P _ (by decide) (fun C _ => by omega)) (fun k hk => W _ (by omega) (by omega)), gx.congr ok.2.2.2.2.2.1.1.2 (fun p hp => P p (by omega) (fun C hC => by omega)) (fun w hw => W w (by omega) (by omega)), fun C hC => ?_, ?_⟩
  · rw [Q 5 (by decide), W 2 (by decide) (by decide), g5]
  · rw [Q 6 (by decide), W 7 (by decide) (by decide), g6]
  · rw [Q 7 (by decide), W 3 (by decide) (by decide), g7]
  · rw [Q 8 (by decide), W 4 (by decide) (by decide), g8]
  · rw [k1, k2]
  · rw [Q 10 (by decide), W 14 (by decide) (by decide), g10]
  · rw [Q 11 (by decide), W 8 (by decide) (by decide), g11]
  · rw [Q 12 (by decide), W 9 (by decide) (by decide), g12]
  · rw [Q 13 (by decide), W 10 (by decide) (by decide), g13]
  · rw [Q 14 (by decide), W 11 (by decide) (by decide), g14]
  · rw [Q 15 (by decide), W 12 (by decide) (by decide), g15]
  · rw [Q 16 (by decide), W 13 (by decide) (by decide), g16]
  · rw [W 2 (by decide) (by decide)] at hC
    have hC' : C < (fr 280 2).toInt.toNat := by omega
    have R : ∀ j : Nat, j ≠ 18 → c0_letCurrent_m fc (18 + 4 * C) j = fc (18 + 4 * C) j := fun j hj => k4 _ j (fun q => absurd q (by omega)) (fun _ _ _ => hj)
    exact ⟨(cl C hC).1.c18 (fun j hj => R j (by omega)) (k3 C hC') (fun w hw => Wc C w hw), (cl C hC).2.congr (fun j _ _ => R j (by omega)) (fun p hp => P p (by omega) (fun D hD => by omega)) (fun w hw => Wc C w (by omega))⟩
  · refine ok.upd (fun w hw => W w (by omega) (by omega)) (fun k hk => by rw [W _ (by omega) (by omega)]; exact ok.s hk) (by rw [k2]; exact cb) (by rw [W 4 (by decide) (by decide)]; exact ok.2.1.2.1) (by rw [W 7 (by decide) (by decide)]; exact ok.2.1.2.2.2) (by rw [W 16 (by decide) (by decide), W 20 (by decide) (by decide), W 21 (by decide) (by decide)]; exact ok.2.2.2.2.2.2.1) (fun C hC => ?_)
    exact (hh.2.2.2.2.2.2.2.2.2.2.2 C hC).congr (fun w hw => Wc C w (by omega)) (by rw [W 7 (by decide) (by decide)]; exact Int.le_refl _)
end C0STA
