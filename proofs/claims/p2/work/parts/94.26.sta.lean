/-! ===== block 0: a second, part by part, keeps THE RELATION ===== -/
section C0STA
variable {fc fr fc' fr' f g : t2_F} {C n : Nat} {c x : Int32}
/-- what only (7) and behind it touch -/
def c0_GX (fc fr : t2_F) : Prop := c0_GT fc fr ∧ c0_GW fc fr ∧ c0_Tr fc fr ∧ c0_GM fc fr
theorem c0_GX.congr (h : c0_GX fc fr) (hn : (fr 280 19).toInt ≤ 24) (ep : ∀ p : Nat, (p ≠ 1 ∧ p ≠ 4 ∧ p < 18) ∨ (82 ≤ p ∧ p < 91) → fc' p = fc p) (e : ∀ w : Nat, (w = 6 ∨ (15 ≤ w ∧ w < 34) ∨ (64 ≤ w ∧ w < 444)) → fr' 280 w = fr 280 w) : c0_GX fc' fr' := by
  obtain ⟨h1, h2, h3, h4⟩ := h
  exact ⟨h1.congr hn (ep _ (by decide)) (ep _ (by decide)) (ep _ (by decide)) (ep _ (by decide)) (ep _ (by decide)) (ep _ (by decide)) (fun w hw => e w (by omega)), h2.congr (ep _ (by decide)) (ep _ (by decide)) (ep _ (by decide)) (ep _ (by decide)) (ep _ (by decide)) (fun w hw => e w (by omega)), h3.congr (ep _ (by decide)) (ep _ (by decide)) (fun w hw => e w (by omega)), h4.congr (fun p hp => ep p (Or.inr hp)) (fun w hw => e w (by omega))⟩
/-- the relation, with what the reference's words keep to -/
def c0_I (fc fr : t2_F) : Prop := c0_GS fc fr ∧ c0_Rs fc fr ∧ c0_GX fc fr ∧ (∀ C : Nat, (C : Int) < (fr 280 2).toInt → c0_Rc fc fr C ∧ c0_GC fc fr C) ∧ t2_OK (fr 280)
theorem c0_Rc.c18 (h : c0_Rc fc fr C) (ep : ∀ j : Nat, j < 10 → fc' (18 + 4 * C) j = fc (18 + 4 * C) j) (e18 : fc' (18 + 4 * C) 18 = fr' 280 (444 + 61 * C + 60)) (er : ∀ w : Nat, (w < 7 ∨ w = 9) → fr' 280 (444 + 61 * C + w) = fr 280 (444 + 61 * C + w)) : c0_Rc fc' fr' C := by
  unfold c0_Rc r_partOf_v at *
  rw [ep 0 (by decide), ep 1 (by decide), ep 2 (by decide), ep 3 (by decide), ep 4 (by decide), ep 5 (by decide), ep 6 (by decide), ep 7 (by decide), ep 8 (by decide), ep 9 (by decide), er 0 (by omega), er 1 (by omega), er 2 (by omega), er 3 (by omega), er 4 (by omega), er 5 (by omega), er 6 (by omega), er 9 (by omega)]
  obtain ⟨a, b, d, i, j, -⟩ := h
  exact ⟨a, b, d, i, j, e18⟩
/-- the count of cells -/
theorem c0_I.cnt (h : c0_I fc fr) : (fr 280 2).toInt = (((fr 280 2).toInt.toNat : Nat) : Int) ∧ (fr 280 2).toInt.toNat ≤ 16 ∧ (fc 1 5).toInt = (((fr 280 2).toInt.toNat : Nat) : Int) := by
  obtain ⟨⟨⟨h5, -⟩, -⟩, -, -, -, -, ⟨-, -, h2, -⟩, -⟩ := h
  rw [h5]
  omega
theorem c0_I.cell (h : c0_I fc fr) {C : Nat} (hC : C < (fr 280 2).toInt.toNat) : (c0_Rc fc fr C ∧ c0_GC fc fr C) ∧ t2_OC (fr 280) C := by
  have q : (C : Int) < (fr 280 2).toInt := by have := h.cnt; omega
  exact ⟨h.2.2.2.1 C q, h.2.2.2.2.2.2.2.2.2.2.2 C q⟩
theorem c0_I.rl (h : c0_I fc fr) : c0_RL fc fr ((fr 280 2).toInt.toNat) := ⟨⟨h.cnt.2.1, h.cnt.2.2, h.cnt.1⟩, h.2.1, h.2.2.1.1.2.1, h.2.2.2.2.2.2.2.1.1, fun C hC => (h.cell hC).1.1⟩
theorem c0_I.far (h : c0_I fc fr) {C : Nat} (hC : C < (fr 280 2).toInt.toNat) : t2_far (fr 280 5) (fr 280 (444 + 61 * C + 2)) := t2_far_ok h.2.2.2.2.2.1.1 (h.cell hC).2.2.1
/-- TIME -/
noncomputable def c0_s1 (f : t2_F) : t2_F := fl_row f 1 (upd (f 1) 6 (t2_min_v (f 1 6 + (1 : Int32)) (9999 : Int32)))
noncomputable def r_t1 (f : t2_F) : t2_F := fl_row f 280 (upd (f 280) 7 (f 280 7 + (1 : Int32)))
theorem c0_I.s1 (h : c0_I fc fr) (ht : (fr 280 7).toInt < 9999) : c0_I (c0_s1 fc) (r_t1 fr) ∧ (r_t1 fr 280 7).toInt = (fr 280 7).toInt + 1 := by
  have hh := h
  obtain ⟨⟨⟨g5, g6, g7, g8⟩, ⟨g9, g10, g11, g12⟩, g13, g14, g15, g16⟩, rs, gx, cl, ok⟩ := h
  have t0 : 0 ≤ (fr 280 7).toInt := ok.2.1.2.2.2.1
  have c1 : (1 : Int32).toInt = 1 := by decide +kernel
  have c9 : (9999 : Int32).toInt = 9999 := by decide +kernel
  have e7 : (fr 280 7 + (1 : Int32)).toInt = (fr 280 7).toInt + 1 := by rw [at_add32 (by omega) (by omega), c1]
  have P : ∀ p : Nat, p ≠ 1 → c0_s1 fc p = fc p := fun p hp => fl_row_ne hp
  have Q : ∀ j : Nat, j ≠ 6 → c0_s1 fc 1 j = fc 1 j := fun j hj => by unfold c0_s1; rw [fl_row_self, upd_ne hj]
  have W : ∀ w : Nat, w ≠ 7 → r_t1 fr 280 w = fr 280 w := fun w hw => by unfold r_t1; rw [fl_row_self, upd_ne hw]
  have w7 : r_t1 fr 280 7 = fr 280 7 + (1 : Int32) := by unfold r_t1; rw [fl_row_self, upd_self]
  have q6 : c0_s1 fc 1 6 = fr 280 7 + (1 : Int32) := by
    unfold c0_s1
    rw [fl_row_self, upd_self, g6]
    apply Int32.toInt.inj
    rw [t2_min_i]
    omega
  refine ⟨⟨⟨⟨?_, ?_, ?_, ?_⟩, ⟨?_, ?_, ?_, ?_⟩, ?_, ?_, ?_, ?_⟩, rs.congr (P _ (by decide)) (fun k hk => W _ (by omega)), gx.congr ok.2.2.2.2.2.1.1.2 (fun p hp => P p (by omega)) (fun w hw => W w (by omega)), fun C hC => ?_, ?_⟩, by rw [w7, e7]⟩
  · rw [Q 5 (by decide), W 2 (by decide), g5]
  · rw [q6, w7]
  · rw [Q 7 (by decide), W 3 (by decide), g7]
  · rw [Q 8 (by decide), W 4 (by decide), g8]
  · rw [Q 9 (by decide), W 5 (by decide), g9]
  · rw [Q 10 (by decide), W 14 (by decide), g10]
  · rw [Q 11 (by decide), W 8 (by decide), g11]
  · rw [Q 12 (by decide), W 9 (by decide), g12]
  · rw [Q 13 (by decide), W 10 (by decide), g13]
  · rw [Q 14 (by decide), W 11 (by decide), g14]
  · rw [Q 15 (by decide), W 12 (by decide), g15]
  · rw [Q 16 (by decide), W 13 (by decide), g16]
  · rw [W 2 (by decide)] at hC
    exact ⟨(cl C hC).1.congr (P _ (by omega)) (fun k hk => W _ (by omega)), (cl C hC).2.congr (fun j _ _ => by rw [P _ (by omega)]) (fun p hp => P p (by omega)) (fun w hw => W _ (by omega))⟩
  · refine ok.upd (fun w hw => W w (by omega)) (fun k hk => by rw [W _ (by omega)]; exact ok.s hk) (by rw [W 5 (by decide)]; exact ok.2.1.1) (by rw [W 4 (by decide)]; exact ok.2.1.2.1) (by rw [w7, e7]; omega) (by rw [W 16 (by decide), W 20 (by decide), W 21 (by decide)]; exact ok.2.2.2.2.2.2.1) (fun C hC => ?_)
    exact (hh.2.2.2.2.2.2.2.2.2.2.2 C hC).congr (fun w hw => W _ (by omega)) (by rw [w7, e7]; omega)
/-- (1) -/
theorem c0_I.bus (h : c0_I fc fr) : c0_I (c0_moveBus_m fc) (r_goBus_m fr) ∧ c0_moveBus_v fc = r_goBus_m fr 277 4 ∧ (r_goBus_m fr 277 4 = 0 ∨ r_goBus_m fr 277 4 = 1) ∧ ∀ j : Nat, j ≠ 4 → r_goBus_m fr 277 j = fr 277 j := by
  have hh := h
  obtain ⟨⟨⟨g5, g6, g7, g8⟩, ⟨g9, g10, g11, g12⟩, g13, g14, g15, g16⟩, rs, gx, cl, ok⟩ := h
  have cn := hh.cnt
  have bp : -160000 ≤ (r_packCalm_v fr).toInt ∧ (r_packCalm_v fr).toInt ≤ 235200 := by
    have b := r_packCalm_b (f := fr) (n := (fr 280 2).toInt.toNat) cn.2.1 (fun C hC => (hh.cell hC).2.2.2.2.2.1)
    have e : r_packCalm_v fr = r_packCalm_a4 fr ((fr 280 2).toInt.toNat) := rfl
    rw [e]
    omega
  have bb := ok.2.1.2.1
  obtain ⟨hp, hj⟩ := c0_bus_eq (n := (fr 280 2).toInt.toNat) cn.2.2 g5 (fun C hC => (hh.cell hC).1.1) g7 g8 rs gx.1.1 ok.2.2.1 (by omega) (by omega)
  have sl := c0_slow_eq g7 g8 rs hp hj
  refine ⟨?_, sl⟩
  have P : ∀ p : Nat, p ≠ 1 → c0_moveBus_m fc p = fc p := fun p hp => c0_moveBus_fr hp
  have Q : ∀ j : Nat, j ≠ 7 → j ≠ 8 → c0_moveBus_m fc 1 j = fc 1 j := fun j h7 h8 => by rw [c0_moveBus_w, if_neg h8, if_neg h7]
  have W : ∀ w : Nat, w ≠ 3 → w ≠ 4 → r_goBus_m fr 280 w = fr 280 w := fun w h3 h4 => by rw [r_goBus_w2, if_neg h4, if_neg h3]
  have w4 : r_goBus_m fr 280 4 = r_goBus_j16_0 fr := by rw [r_goBus_w2, if_pos rfl]
  have j16 := r_bus_b (f := fr) bb bp (ok.s (k := 7) (by decide))
  refine ⟨⟨⟨?_, ?_, ?_, ?_⟩, ⟨?_, ?_, ?_, ?_⟩, ?_, ?_, ?_, ?_⟩, rs.congr (P _ (by decide)) (fun k hk => W _ (by omega) (by omega)), gx.congr ok.2.2.2.2.2.1.1.2 (fun p hp => P p (by omega)) (fun w hw => W w (by omega) (by omega)), fun C hC => ?_, ?_⟩
  · rw [Q 5 (by decide) (by decide), W 2 (by decide) (by decide), g5]
  · rw [Q 6 (by decide) (by decide), W 7 (by decide) (by decide), g6]
  · rw [c0_moveBus_w, r_goBus_w2, if_neg (by decide : ¬ (7 : Nat) = 8), if_pos rfl, if_neg (by decide : ¬ (3 : Nat) = 4), if_pos rfl, g7, hp, hj, t2_m32 (r_goBus_j16_0 fr) (1000 : Int32)]
  · rw [c0_moveBus_w, if_pos rfl, w4, hj]
  · rw [Q 9 (by decide) (by decide), W 5 (by decide) (by decide), g9]
  · rw [Q 10 (by decide) (by decide), W 14 (by decide) (by decide), g10]
  · rw [Q 11 (by decide) (by decide), W 8 (by decide) (by decide), g11]
  · rw [Q 12 (by decide) (by decide), W 9 (by decide) (by decide), g12]
  · rw [Q 13 (by decide) (by decide), W 10 (by decide) (by decide), g13]
  · rw [Q 14 (by decide) (by decide), W 11 (by decide) (by decide), g14]
  · rw [Q 15 (by decide) (by decide), W 12 (by decide) (by decide), g15]
  · rw [Q 16 (by decide) (by decide), W 13 (by decide) (by decide), g16]
  · rw [W 2 (by decide) (by decide)] at hC
    exact ⟨(cl C hC).1.congr (P _ (by omega)) (fun k hk => W _ (by omega) (by omega)), (cl C hC).2.congr (fun j _ _ => by rw [P _ (by omega)]) (fun p hp => P p (by omega)) (fun w hw => W _ (by omega) (by omega))⟩
  · refine ok.upd (fun w hw => W w (by omega) (by omega)) (fun k hk => by rw [W _ (by omega) (by omega)]; exact ok.s hk) (by rw [W 5 (by decide) (by decide)]; exact ok.2.1.1) (by rw [w4]; exact j16) (by rw [W 7 (by decide) (by decide)]; exact ok.2.1.2.2.2) (by rw [W 16 (by decide) (by decide), W 20 (by decide) (by decide), W 21 (by decide) (by decide)]; exact ok.2.2.2.2.2.2.1) (fun C hC => ?_)
    exact (hh.2.2.2.2.2.2.2.2.2.2.2 C hC).congr (fun w hw => W _ (by omega) (by omega)) (by rw [W 7 (by decide) (by decide)]; exact Int.le_refl _)
/-- (2) -/
theorem c0_I.cur (h : c0_I fc fr) : c0_I (c0_letCurrent_m fc) (r_goCurrent_m fr) ∧ ∀ w : Nat, w ≠ 5 → (∀ C : Nat, C < (fr 280 2).toInt.toNat → w ≠ 444 + 61 * C + 60) → r_goCurrent_m fr 280 w = fr 280 w := by
  have hh := h
  obtain ⟨⟨⟨g5, g6, g7, g8⟩, ⟨g9, g10, g11, g12⟩, g13, g14, g15, g16⟩, rs, gx, cl, ok⟩ := h
  have cn := hh.cnt
  have rl := hh.rl
  have hm0 : t2_lo 4 ≤ (fr 280 38).toInt ∧ (fr 280 38).toInt ≤ t2_hi 4 := ok.s (k := 4) (by decide)
  have l4 : t2_lo 4 = 1 := by decide
  have h4 : t2_hi 4 = 99999 := by decide
  have hm : 0 ≤ (fr 280 38).toInt ∧ (fr 280 38).toInt ≤ 99999 := by omega
  obtain ⟨k1, k2, k3, k4, k5⟩ := c0_cur_eq rl g7 gx.1.1 ok.2.2.1 hm
  refine ⟨?_, k5⟩
  have P : ∀ p : Nat, p ≠ 1 → (∀ C : Nat, C < (fr 280 2).toInt.toNat → p ≠ 18 + 4 * C) → c0_letCurrent_m fc p = fc p := fun p hp hC => funext (fun k => k4 p k (fun q => absurd q hp) (fun C c q => absurd q (hC C c)))
  have Q : ∀ j : Nat, j ≠ 9 → c0_letCurrent_m fc 1 j = fc 1 j := fun j hj => k4 1 j (fun _ => hj) (fun C _ q => absurd q (by omega))
  have W : ∀ w : Nat, w ≠ 5 → w < 444 → r_goCurrent_m fr 280 w = fr 280 w := fun w h5 hw => k5 w h5 (fun C _ => by omega)
  have Wc : ∀ C w : Nat, w < 60 → r_goCurrent_m fr 280 (444 + 61 * C + w) = fr 280 (444 + 61 * C + w) := fun C w hw => k5 _ (by omega) (fun D _ => by omega)
  have cb : -99999 ≤ (r_goCurrent_j9_0 fr).toInt ∧ (r_goCurrent_j9_0 fr).toInt ≤ 99999 := by
    have c0 : (0 : Int32).toInt = 0 := rfl
    have l0 := rl.lim_nn (x := (0 : Int32)) hm
    have l1 := rl.lim_nn (x := (1 : Int32)) hm
    have n1 : (-(r_limitOf_v fr (1 : Int32))).toInt = -(r_limitOf_v fr (1 : Int32)).toInt := by rw [Int32.toInt_neg]; exact Int.bmod_eq_of_le (by omega) (by omega)
    unfold r_goCurrent_j9_0
    split
    · omega
    · have := t2_heldTo_b (v := fr 280 54) (lo := -(r_limitOf_v fr (1 : Int32))) (hi := r_limitOf_v fr (0 : Int32)) (by omega)
      have e : r_held_v (fr 280 54) (-(r_limitOf_v fr (1 : Int32))) (r_limitOf_v fr (0 : Int32)) = t2_heldTo_v (fr 280 54) (-(r_limitOf_v fr (1 : Int32))) (r_limitOf_v fr (0 : Int32)) := rfl
      rw [e]
      omega
  refine ⟨⟨⟨?_, ?_, ?_, ?_⟩, ⟨?_, ?_, ?_, ?_⟩, ?_, ?_, ?_, ?_⟩, rs.congr (P _ (by decide) (fun C _ => by omega)) (fun k hk => W _ (by omega) (by omega)), gx.congr ok.2.2.2.2.2.1.1.2 (fun p hp => P p (by omega) (fun C hC => by omega)) (fun w hw => W w (by omega) (by omega)), fun C hC => ?_, ?_⟩
  · rw [Q 5 (by decide), W 2 (by decide) (by decide), g5]
  · rw [Q 6 (by decide), W 7 (by decide) (by decide), g6]
  · rw [Q 7 (by decide), W 3 (by decide) (by decide), g7]
  · rw [Q 8 (by decide), W 4 (by decide) (by decide), g8]
  · rw [k1, k2]
  · rw [Q 10 (by decide), W 14 (by decide) (by decide), g10]
  · rw [Q 11 (by decide), W 8 (by decide) (by decide), g11]
  · rw [Q 12 (by decide), W 9 (by decide) (by decide), g12]
  · rw [Q 13 (by decide), W 10 (by decide) (by decide), g13]
  · rw [Q 14 (by decide), W 11 (by decide) (by decide), g14]
  · rw [Q 15 (by decide), W 12 (by decide) (by decide), g15]
  · rw [Q 16 (by decide), W 13 (by decide) (by decide), g16]
  · rw [W 2 (by decide) (by decide)] at hC
    have hC' : C < (fr 280 2).toInt.toNat := by omega
    have R : ∀ j : Nat, j ≠ 18 → c0_letCurrent_m fc (18 + 4 * C) j = fc (18 + 4 * C) j := fun j hj => k4 _ j (fun q => absurd q (by omega)) (fun _ _ _ => hj)
    exact ⟨(cl C hC).1.c18 (fun j hj => R j (by omega)) (k3 C hC') (fun w hw => Wc C w (by omega)), (cl C hC).2.congr (fun j _ _ => R j (by omega)) (fun p hp => P p (by omega) (fun D hD => by omega)) (fun w hw => Wc C w (by omega))⟩
  · refine ok.upd (fun w hw => W w (by omega) (by omega)) (fun k hk => by rw [W _ (by omega) (by omega)]; exact ok.s hk) (by rw [k2]; exact cb) (by rw [W 4 (by decide) (by decide)]; exact ok.2.1.2.1) (by rw [W 7 (by decide) (by decide)]; exact ok.2.1.2.2.2) (by rw [W 16 (by decide) (by decide), W 20 (by decide) (by decide), W 21 (by decide) (by decide)]; exact ok.2.2.2.2.2.2.1) (fun C hC => ?_)
    exact (hh.2.2.2.2.2.2.2.2.2.2.2 C hC).congr (fun w hw => Wc C w (by omega)) (by rw [W 7 (by decide) (by decide)]; exact Int.le_refl _)
/-- (3): what the class's cell comes to -/
theorem c0_wear_9 {i : Nat} (h0 : 0 ≤ (f (18 + 4 * i) 9).toInt) : 0 ≤ (c0_wear_m f i x (18 + 4 * i) 9).toInt ∧ (c0_wear_m f i x (18 + 4 * i) 9).toInt ≤ (f (18 + 4 * i) 9).toInt := by
  unfold c0_wear_m c0_putReckoned_m
  split
  · split
    · omega
    · rename_i h1 h2
      rw [fl_row_self, upd_ne (by decide), fl_row_self, upd_self]
      generalize f (18 + 4 * i) 9 = t at *
      generalize x * (3600 : Int32) = l at *
      obtain ⟨d1, -, -, -⟩ := t2_irem h0 h1
      have m0 := Int.emod_nonneg t.toInt (show l.toInt ≠ 0 by omega)
      have ml := Int.emod_lt_of_pos t.toInt h1
      rw [d1]
      omega
  · omega
theorem c0_pass_9 {i : Nat} (h0 : 0 ≤ (f (18 + 4 * i) 9 + t2_abs_v x).toInt) : (0 ≤ (c0_pass_m f i x (18 + 4 * i) 9).toInt ∧ (c0_pass_m f i x (18 + 4 * i) 9).toInt ≤ (f (18 + 4 * i) 9 + t2_abs_v x).toInt) ∧ c0_pass_m f i x (18 + 4 * i) 7 = f (18 + 4 * i) 7 + (((x * (f 4 25)) / (1000 : Int32)) - f (18 + 4 * i) 7) / (8 : Int32) := by
  unfold c0_pass_m c0_putReckoned_m c0_putCharge_m
  generalize hM : fl_row f (18 + 4 * i) (upd (upd (upd (f (18 + 4 * i)) 6 (((f (18 + 4 * i) 6) + ((((x / (1000 : Int32)) * (x / (1000 : Int32))) * (f (18 + 4 * i) 5)) / (500 : Int32))) + (((f 4 6) - ((f (18 + 4 * i) 6) + ((((x / (1000 : Int32)) * (x / (1000 : Int32))) * (f (18 + 4 * i) 5)) / (500 : Int32)))) / (32 : Int32)))) 7 ((f (18 + 4 * i) 7) + ((((x * (f 4 25)) / (1000 : Int32)) - (f (18 + 4 * i) 7)) / (8 : Int32)))) 9 ((f (18 + 4 * i) 9) + (t2_abs_v x))) = M1
  have m9 : M1 (18 + 4 * i) 9 = f (18 + 4 * i) 9 + t2_abs_v x := by rw [← hM, fl_row_self, upd_self]
  have m7 : M1 (18 + 4 * i) 7 = f (18 + 4 * i) 7 + (((x * f 4 25) / (1000 : Int32)) - f (18 + 4 * i) 7) / (8 : Int32) := by rw [← hM, fl_row_self, upd_ne (by decide), upd_self]
  refine ⟨?_, ?_⟩
  · simp (disch := omega) only [fl_row_self, upd_ne]
    have := c0_wear_9 (f := M1) (i := i) (x := f 4 24) (by rw [m9]; exact h0)
    rw [m9] at this
    exact this
  · simp (disch := omega) only [fl_row_self, upd_ne]
    rw [c0_wear_o (by decide) (by decide) (by decide), m7]
/-- (3) -/
theorem c0_I.cells (h : c0_I fc fr) (hth : ∀ C : Nat, C < (fr 280 2).toInt.toNat → (fr 280 (444 + 61 * C + 5)).toInt ≤ 99999 * ((fr 280 7).toInt - 1)) : c0_I (c0_passCells_m fc) (r_goCells_m fr) := by
  have hh := h
  obtain ⟨⟨⟨g5, g6, g7, g8⟩, ⟨g9, g10, g11, g12⟩, g13, g14, g15, g16⟩, rs, gx, cl, ok⟩ := h
  have cn := hh.cnt
  generalize hnn : (fr 280 2).toInt.toNat = n at *
  have hM : (fc 1 5).toInt.toNat = n := by omega
  have xb := ok.2.1.1
  have ab := t2_abs_b xb
  have tb := ok.2.1.2.2.2
  have s24 : fc 4 24 = fr 280 58 := rs 24 (by decide)
  have s25 : fc 4 25 = fr 280 59 := rs 25 (by decide)
  have b24 : t2_lo 24 ≤ (fr 280 58).toInt ∧ (fr 280 58).toInt ≤ t2_hi 24 := ok.s (k := 24) (by decide)
  have b25 : t2_lo 25 ≤ (fr 280 59).toInt ∧ (fr 280 59).toInt ≤ t2_hi 25 := ok.s (k := 25) (by decide)
  have q24 : t2_lo 24 = 0 ∧ t2_hi 24 = 9999 ∧ t2_lo 25 = 0 ∧ t2_hi 25 = 99 := by decide
  have c36 : (3600 : Int32).toInt = 3600 := by decide +kernel
  have oc : ∀ C : Nat, C < n → t2_OC (fr 280) C := fun C hC => (hh.cell (by omega)).2
  have rc : ∀ C : Nat, C < n → c0_Rc fc fr C := fun C hC => (hh.cell (by omega)).1.1
  have sum : ∀ C : Nat, C < n → (fc (18 + 4 * C) 9 + t2_abs_v (fr 280 5)).toInt = (fr 280 (444 + 61 * C + 5)).toInt + (t2_abs_v (fr 280 5)).toInt := fun C hC => by
    obtain ⟨-, -, -, t, -, -, -, -⟩ := oc C hC
    have r9 := (rc C hC).2.2.2.2.1
    rw [r9, at_add32 (by omega) (by omega)]
  have key := c0_cells_eq (n := n) hM hnn g9 rs rc (fun C hC => by
    obtain ⟨k1, -, k3, t, -, -, -, -⟩ := oc C hC
    have r0 := (rc C hC).1.1
    have r8 := (rc C hC).2.2.2.1
    refine ⟨by rw [r0]; exact k1.1, by rw [r0, r8]; exact k3, ?_⟩
    rw [sum C hC]
    omega) (by rw [s24, at_mul32] <;> rw [c36] <;> omega)
  have P : ∀ p : Nat, (p < 18 ∨ ∀ C : Nat, C < 16 → p ≠ 18 + 4 * C) → c0_passCells_m fc p = fc p := fun p hp => c0_cells_p hp (by omega)
  have W : ∀ w : Nat, w < 444 → r_goCells_m fr 280 w = fr 280 w := fun w hw => r_cells_lo hw
  have Wc : ∀ C w : Nat, w < 61 → w ≠ 0 ∧ w ≠ 1 ∧ w ≠ 3 ∧ w ≠ 4 ∧ w ≠ 5 ∧ w ≠ 9 → r_goCells_m fr 280 (444 + 61 * C + w) = fr 280 (444 + 61 * C + w) := fun C w hw h => r_cells_o hnn hw h
  have P1 : c0_passCells_m fc 1 = fc 1 := P _ (Or.inl (by decide))
  refine ⟨⟨⟨?_, ?_, ?_, ?_⟩, ⟨?_, ?_, ?_, ?_⟩, ?_, ?_, ?_, ?_⟩, rs.congr (P _ (Or.inl (by decide))) (fun k hk => W _ (by omega)), gx.congr ok.2.2.2.2.2.1.1.2 (fun p hp => P p (by rcases hp with q | q; exact Or.inl (by omega); exact Or.inr (fun C hC => by omega))) (fun w hw => W w (by omega)), fun C hC => ?_, ?_⟩
  · rw [P1, W 2 (by decide), g5]
  · rw [P1, W 7 (by decide), g6]
  · rw [P1, W 3 (by decide), g7]
  · rw [P1, W 4 (by decide), g8]
  · rw [P1, W 5 (by decide), g9]
  · rw [P1, W 14 (by decide), g10]
  · rw [P1, W 8 (by decide), g11]
  · rw [P1, W 9 (by decide), g12]
  · rw [P1, W 10 (by decide), g13]
  · rw [P1, W 11 (by decide), g14]
  · rw [P1, W 12 (by decide), g15]
  · rw [P1, W 13 (by decide), g16]
  · rw [W 2 (by decide)] at hC
    have hC' : C < n := by omega
    exact ⟨(key C hC').1, (cl C hC).2.congr (fun j j1 _ => c0_cells_o hM hC' (Or.inr (Or.inr j1))) (fun p hp => P p (Or.inr (fun D hD => by omega))) (fun w hw => Wc C w (by omega) (by omega))⟩
  · refine ok.upd (fun w hw => W w (by omega)) (fun k hk => by rw [W _ (by omega)]; exact ok.s hk) (by rw [W 5 (by decide)]; exact ok.2.1.1) (by rw [W 4 (by decide)]; exact ok.2.1.2.1) (by rw [W 7 (by decide)]; exact ok.2.1.2.2.2) (by rw [W 16 (by decide), W 20 (by decide), W 21 (by decide)]; exact ok.2.2.2.2.2.2.1) (fun C hC => ?_)
    have hC' : C < n := by omega
    obtain ⟨k1, k2, k3, t, po, k15, k16, ka⟩ := oc C hC'
    obtain ⟨rc', cap⟩ := key C hC'
    obtain ⟨⟨a0, -, -⟩, -, ⟨-, -, a7⟩, a8, a9, -⟩ := rc'
    rw [a0] at cap
    have Rw : ∀ w : Nat, w < 61 → r_goCells_m fr 280 (444 + 61 * C + w) = r_goOld_m (r_goCells_f50 fr C) (Int32.ofNat C) C 280 (444 + 61 * C + w) := by
      intro w hw
      unfold r_goCells_m
      rw [hnn, r_f50_in hw hC']
    obtain ⟨⟨v1, e1⟩, ⟨v4, e4⟩⟩ := r_old_held (f := r_goCells_f50 fr C) (c := Int32.ofNat C) (C := C)
    rw [← Rw 1 (by decide), ← Rw 0 (by decide)] at e1
    rw [← Rw 4 (by decide), ← Rw 0 (by decide)] at e4
    have ck : t2_ck (r_goCells_m fr) C := c0_ck_held cap rfl e1
    have p4 : r_P4 (r_goCells_m fr) C := r_P4_held cap rfl e4
    have FC : c0_passCells_f2 fc C (18 + 4 * C) = fc (18 + 4 * C) := c0_passCells_f2_fr (k := C) (p := 18 + 4 * C) (fun j hj => by omega)
    have F4 : c0_passCells_f2 fc C 4 = fc 4 := c0_passCells_f2_fr (k := C) (p := 4) (fun j hj => by omega)
    have Pj : ∀ j : Nat, j ≠ 6 → c0_passCells_m fc (18 + 4 * C) j = c0_pass_m (c0_passCells_f2 fc C) C (fr 280 5) (18 + 4 * C) j := by
      intro j hj
      unfold c0_passCells_m
      rw [c0_f35_o hj, hM, c0_f2_at hC', g9]
    obtain ⟨u9, u7⟩ := c0_pass_9 (f := c0_passCells_f2 fc C) (i := C) (x := fr 280 5) (by rw [FC, sum C hC']; omega)
    rw [← Pj 9 (by decide), FC, a9, sum C hC'] at u9
    rw [← Pj 7 (by decide), FC, F4, a7, s25, (rc C hC').2.2.1.2.2] at u7
    have th := hth C (by omega)
    refine ⟨ck, ?_, p4.2, ?_, ?_, ?_, ?_, ka.congr (fun w hw => Wc C w (by omega) (by omega))⟩
    · rw [Wc C 2 (by decide) (by decide)]
      exact k2
    · rw [W 7 (by decide)]
      omega
    · rw [u7]
      exact t2_polar_b po xb (by omega)
    · rw [Wc C 15 (by decide) (by decide)]
      exact k15
    · rw [Wc C 16 (by decide) (by decide)]
      exact k16
/-- (4) -/
theorem c0_I.bal (h : c0_I fc fr) : c0_I (c0_balance_m fc) (r_goBalance_m fr) := by
  have hh := h
  obtain ⟨⟨⟨g5, g6, g7, g8⟩, ⟨g9, g10, g11, g12⟩, g13, g14, g15, g16⟩, rs, gx, cl, ok⟩ := h
  have cn := hh.cnt
  generalize hnn : (fr 280 2).toInt.toNat = n at *
  have hM : (fc 1 5).toInt.toNat = n := by omega
  have oc : ∀ C : Nat, C < n → t2_OC (fr 280) C := fun C hC => (hh.cell (by omega)).2
  have rc : ∀ C : Nat, C < n → c0_Rc fc fr C := fun C hC => (hh.cell (by omega)).1.1
  have rb : c0_RB fc fr n := ⟨rs, fun C hC => ⟨rc C hC, by rw [(rc C hC).1.1]; exact (oc C hC).1.1, (oc C hC).1⟩, g14, g15, g11, g13, g16⟩
  have b13 : t2_lo 13 ≤ (fr 280 47).toInt ∧ (fr 280 47).toInt ≤ t2_hi 13 := ok.s (k := 13) (by decide)
  have q13 : t2_lo 13 = 0 ∧ t2_hi 13 = 16 := by decide
  have hl : fc 10 3 = fr 280 6 := gx.2.1.1.1
  obtain ⟨rs', k, e14, e15, e11, e13, e16⟩ := c0_balance_eq hM hnn cn.2.1 rb hl g6 (by omega)
  obtain ⟨P, Q, Pc, Wc⟩ := c0_balance_o hM hnn cn.2.1 rb hl g6 (by omega)
  have W : ∀ w : Nat, (w < 444 ∧ w ≠ 8 ∧ w ≠ 10 ∧ w ≠ 11 ∧ w ≠ 12 ∧ w ≠ 13) → r_goBalance_m fr 280 w = fr 280 w := fun w hw => r_goBalance_w hw
  refine ⟨⟨⟨?_, ?_, ?_, ?_⟩, ⟨?_, ?_, e11, ?_⟩, e13, e14, e15, e16⟩, rs', gx.congr ok.2.2.2.2.2.1.1.2 (fun p hp => P p (by omega) (fun C hC => by omega)) (fun w hw => W w (by omega)), fun C hC => ?_, ?_⟩
  · rw [Q 5 (by decide) (by decide) (by decide) (by decide) (by decide), W 2 (by decide), g5]
  · rw [Q 6 (by decide) (by decide) (by decide) (by decide) (by decide), W 7 (by decide), g6]
  · rw [Q 7 (by decide) (by decide) (by decide) (by decide) (by decide), W 3 (by decide), g7]
  · rw [Q 8 (by decide) (by decide) (by decide) (by decide) (by decide), W 4 (by decide), g8]
  · rw [Q 9 (by decide) (by decide) (by decide) (by decide) (by decide), W 5 (by decide), g9]
  · rw [Q 10 (by decide) (by decide) (by decide) (by decide) (by decide), W 14 (by decide), g10]
  · rw [Q 12 (by decide) (by decide) (by decide) (by decide) (by decide), W 9 (by decide), g12]
  · rw [W 2 (by decide)] at hC
    have hC' : C < n := by omega
    exact ⟨(k C hC').1, (cl C hC).2.congr (fun j j1 _ => Pc C hC' j (by omega) (by omega) (by omega) (by omega)) (fun p hp => P p (by omega) (fun D hD => by omega)) (fun w hw => Wc C hC' w (by omega) (by omega) (by omega))⟩
  · refine ok.upd (fun w hw => W w (by omega)) (fun k hk => by rw [W _ (by omega)]; exact ok.s hk) (by rw [W 5 (by decide)]; exact ok.2.1.1) (by rw [W 4 (by decide)]; exact ok.2.1.2.1) (by rw [W 7 (by decide)]; exact ok.2.1.2.2.2) (by rw [W 16 (by decide), W 20 (by decide), W 21 (by decide)]; exact ok.2.2.2.2.2.2.1) (fun C hC => ?_)
    have hC' : C < n := by omega
    obtain ⟨k1, k2, k3, t, po, k15, k16, ka⟩ := oc C hC'
    have p4 : r_P4 (r_goBalance_m fr) C := r_balance_P4 ⟨k1.1, k3⟩
    refine ⟨(k C hC').2.2, ?_, p4.2, ?_, ?_, ?_, ?_, ka.congr (fun w hw => Wc C hC' w (by omega) (by omega) (by omega))⟩
    · rw [Wc C hC' 2 (by decide) (by decide) (by decide)]
      exact k2
    · rw [W 7 (by decide), Wc C hC' 5 (by decide) (by decide) (by decide)]
      exact t
    · rw [Wc C hC' 9 (by decide) (by decide) (by decide)]
      exact po
    · rw [Wc C hC' 15 (by decide) (by decide) (by decide)]
      exact k15
    · rw [Wc C hC' 16 (by decide) (by decide) (by decide)]
      exact k16
/-- (5) -/
noncomputable def c0_s5 (f : t2_F) : t2_F := fl_row f 1 (upd (f 1) 11 (f 1 11 + (f 4 6 - f 1 11) / (16 : Int32)))
noncomputable def r_t5 (f : t2_F) : t2_F := fl_row f 280 (upd (f 280) 8 (f 280 8 + (f 280 40 - f 280 8) / (16 : Int32)))
theorem c0_I.s5 (h : c0_I fc fr) : c0_I (c0_s5 fc) (r_t5 fr) := by
  have hh := h
  obtain ⟨⟨⟨g5, g6, g7, g8⟩, ⟨g9, g10, g11, g12⟩, g13, g14, g15, g16⟩, rs, gx, cl, ok⟩ := h
  have s6 : fc 4 6 = fr 280 40 := rs 6 (by decide)
  have P : ∀ p : Nat, p ≠ 1 → c0_s5 fc p = fc p := fun p hp => fl_row_ne hp
  have Q : ∀ j : Nat, j ≠ 11 → c0_s5 fc 1 j = fc 1 j := fun j hj => by unfold c0_s5; rw [fl_row_self, upd_ne hj]
  have W : ∀ w : Nat, w ≠ 8 → r_t5 fr 280 w = fr 280 w := fun w hw => by unfold r_t5; rw [fl_row_self, upd_ne hw]
  refine ⟨⟨⟨?_, ?_, ?_, ?_⟩, ⟨?_, ?_, ?_, ?_⟩, ?_, ?_, ?_, ?_⟩, rs.congr (P _ (by decide)) (fun k hk => W _ (by omega)), gx.congr ok.2.2.2.2.2.1.1.2 (fun p hp => P p (by omega)) (fun w hw => W w (by omega)), fun C hC => ?_, ?_⟩
  · rw [Q 5 (by decide), W 2 (by decide), g5]
  · rw [Q 6 (by decide), W 7 (by decide), g6]
  · rw [Q 7 (by decide), W 3 (by decide), g7]
  · rw [Q 8 (by decide), W 4 (by decide), g8]
  · rw [Q 9 (by decide), W 5 (by decide), g9]
  · rw [Q 10 (by decide), W 14 (by decide), g10]
  · unfold c0_s5 r_t5
    rw [fl_row_self, upd_self, fl_row_self, upd_self, s6, g11]
  · rw [Q 12 (by decide), W 9 (by decide), g12]
  · rw [Q 13 (by decide), W 10 (by decide), g13]
  · rw [Q 14 (by decide), W 11 (by decide), g14]
  · rw [Q 15 (by decide), W 12 (by decide), g15]
  · rw [Q 16 (by decide), W 13 (by decide), g16]
  · rw [W 2 (by decide)] at hC
    exact ⟨(cl C hC).1.congr (P _ (by omega)) (fun k hk => W _ (by omega)), (cl C hC).2.congr (fun j _ _ => by rw [P _ (by omega)]) (fun p hp => P p (by omega)) (fun w hw => W _ (by omega))⟩
  · refine ok.upd (fun w hw => W w (by omega)) (fun k hk => by rw [W _ (by omega)]; exact ok.s hk) (by rw [W 5 (by decide)]; exact ok.2.1.1) (by rw [W 4 (by decide)]; exact ok.2.1.2.1) (by rw [W 7 (by decide)]; exact ok.2.1.2.2.2) (by rw [W 16 (by decide), W 20 (by decide), W 21 (by decide)]; exact ok.2.2.2.2.2.2.1) (fun C hC => ?_)
    exact (hh.2.2.2.2.2.2.2.2.2.2.2 C hC).congr (fun w hw => W _ (by omega)) (by rw [W 7 (by decide)]; exact Int.le_refl _)
end C0STA
