/-! ===== block 0: (3) of a second: a cell's pass comes to the reference's warm and old ===== -/
theorem t2_wf_none {h : t2_F → Option t2_F} {n : Nat} {f : t2_F} (e : h f = none) : t2_wf h n f = f := by
  cases n with
  | zero => rfl
  | succ n =>
    unfold t2_wf
    rw [e]
section C0PASSB
variable {fc g M1 G : t2_F} {C n : Nat} {c x fade b : Int32}
theorem c0_wear_old (hb : fade * (3600 : Int32) = b) (hcap : t2_cap (M1 (18 + 4 * C) 0)) (hT : 0 ≤ (M1 (18 + 4 * C) 9).toInt) (hl : 0 ≤ b.toInt) (hr : 0 ≤ (M1 (18 + 4 * C) 8).toInt ∧ (M1 (18 + 4 * C) 8).toInt ≤ 3600 * (M1 (18 + 4 * C) 0).toInt) (hg : 0 ≤ (G 280 (444 + 61 * C + 1)).toInt ∧ (G 280 (444 + 61 * C + 1)).toInt ≤ 3600 * (M1 (18 + 4 * C) 0).toInt) (m0 : M1 (18 + 4 * C) 0 = G 280 (444 + 61 * C + 0)) (m8 : M1 (18 + 4 * C) 8 = G 280 (444 + 61 * C + 4)) (m9 : M1 (18 + 4 * C) 9 = G 280 (444 + 61 * C + 5)) (hn : (M1 (18 + 4 * C) 9).toInt.toNat ≤ n) :
    c0_wear_m M1 C fade (18 + 4 * C) 0 = t2_wf (fun f => r_goOld_g76 f c C b) n G 280 (444 + 61 * C + 0) ∧ c0_wear_m M1 C fade (18 + 4 * C) 8 = t2_wf (fun f => r_goOld_g76 f c C b) n G 280 (444 + 61 * C + 4) ∧ c0_wear_m M1 C fade (18 + 4 * C) 9 = t2_wf (fun f => r_goOld_g76 f c C b) n G 280 (444 + 61 * C + 5) ∧ t2_cap (c0_wear_m M1 C fade (18 + 4 * C) 0) ∧ (t2_wf (fun f => r_goOld_g76 f c C b) n G 280 (444 + 61 * C + 1)).toInt = min (G 280 (444 + 61 * C + 1)).toInt (3600 * (c0_wear_m M1 C fade (18 + 4 * C) 0).toInt) ∧ ∀ j : Nat, j ≠ 0 → j ≠ 8 → j ≠ 9 → c0_wear_m M1 C fade (18 + 4 * C) j = M1 (18 + 4 * C) j := by
  obtain ⟨w1, w2, w3, w4⟩ := c0_wear_w (f := M1) (i := C) (x := fade) hcap hT (by rw [hb]; exact hl) hr
  rw [hb] at w3 w4
  by_cases hz : b.toInt = 0
  · have e1 := w3 hz
    have e2 : t2_wf (fun f => r_goOld_g76 f c C b) n G = G := t2_wf_none (by unfold r_goOld_g76; rw [if_pos hz])
    rw [e1, e2]
    exact ⟨m0, m8, m9, hcap, by omega, fun j _ _ _ => rfl⟩
  · have hp : 0 < b.toInt := by omega
    obtain ⟨a9, a0, a8⟩ := w4 hp
    obtain ⟨b5, b0, b1, b4⟩ := r_old_wf (c := c) (C := C) (b := b) hp n G (by rw [← m9]; exact hn) (by rw [← m9]; exact hT) (by rw [← m0]; exact hcap) (by rw [← m0]; exact hg) (by rw [← m8, ← m0]; exact hr)
    have q0 : c0_wear_m M1 C fade (18 + 4 * C) 0 = t2_wf (fun f => r_goOld_g76 f c C b) n G 280 (444 + 61 * C + 0) := Int32.toInt.inj (by rw [a0, b0, m0, m9])
    exact ⟨q0, Int32.toInt.inj (by rw [a8, b4, q0, m8]), Int32.toInt.inj (by rw [a9, b5, m9]), w2, by rw [b1, q0], w1⟩
theorem c0_pass_old (hcap : t2_cap (fc (18 + 4 * C) 0)) (hr : 0 ≤ (fc (18 + 4 * C) 8).toInt ∧ (fc (18 + 4 * C) 8).toInt ≤ 3600 * (fc (18 + 4 * C) 0).toInt) (hT : 0 ≤ (fc (18 + 4 * C) 9 + t2_abs_v x).toInt) (hl : 0 ≤ (fc 4 24 * (3600 : Int32)).toInt)
    (e0 : g 280 (444 + 61 * C + 0) = fc (18 + 4 * C) 0) (e1 : g 280 (444 + 61 * C + 1) = r_held_v (fc (18 + 4 * C) 2 + x - fc 4 27) (0 : Int32) ((3600 : Int32) * fc (18 + 4 * C) 0)) (e4 : g 280 (444 + 61 * C + 4) = fc (18 + 4 * C) 8) (e5 : g 280 (444 + 61 * C + 5) = fc (18 + 4 * C) 9) (e9 : g 280 (444 + 61 * C + 9) = fc (18 + 4 * C) 7) (s5 : g 280 5 = x) (s58 : g 280 58 = fc 4 24) (s59 : g 280 59 = fc 4 25) (s52 : g 280 52 = fc 4 18) :
    c0_pass_m fc C x (18 + 4 * C) 0 = r_goOld_m g c C 280 (444 + 61 * C + 0) ∧ c0_pass_m fc C x (18 + 4 * C) 2 = r_goOld_m g c C 280 (444 + 61 * C + 1) ∧ c0_pass_m fc C x (18 + 4 * C) 8 = r_goOld_m g c C 280 (444 + 61 * C + 4) ∧ c0_pass_m fc C x (18 + 4 * C) 9 = r_goOld_m g c C 280 (444 + 61 * C + 5) ∧ c0_pass_m fc C x (18 + 4 * C) 7 = r_goOld_m g c C 280 (444 + 61 * C + 9) ∧ t2_cap (c0_pass_m fc C x (18 + 4 * C) 0) ∧ ∀ j : Nat, j = 1 ∨ j = 5 ∨ 10 ≤ j → c0_pass_m fc C x (18 + 4 * C) j = fc (18 + 4 * C) j := by
  have hfo : (fc (18 + 4 * C) 0 * (3600 : Int32)).toInt = 3600 * (fc (18 + 4 * C) 0).toInt := by rw [t2_full_i hcap]; omega
  have hc100 := hcap.1
  unfold c0_pass_m
  generalize hM : fl_row fc (18 + 4 * C) (upd (upd (upd (fc (18 + 4 * C)) 6 (((fc (18 + 4 * C) 6) + ((((x / (1000 : Int32)) * (x / (1000 : Int32))) * (fc (18 + 4 * C) 5)) / (500 : Int32))) + (((fc 4 6) - ((fc (18 + 4 * C) 6) + ((((x / (1000 : Int32)) * (x / (1000 : Int32))) * (fc (18 + 4 * C) 5)) / (500 : Int32)))) / (32 : Int32)))) 7 ((fc (18 + 4 * C) 7) + ((((x * (fc 4 25)) / (1000 : Int32)) - (fc (18 + 4 * C) 7)) / (8 : Int32)))) 9 ((fc (18 + 4 * C) 9) + (t2_abs_v x))) = M1
  unfold r_goOld_m
  generalize hG : fl_row g 280 (upd (upd (g 280) (444 + 61 * C + 9) ((g 280 (444 + 61 * C + 9)) + (((((g 280 5) * (g 280 59)) / (1000 : Int32)) - (g 280 (444 + 61 * C + 9))) / (8 : Int32)))) (444 + 61 * C + 5) ((g 280 (444 + 61 * C + 5)) + (r_size_v (g 280 5)))) = G
  have m0 : M1 (18 + 4 * C) 0 = fc (18 + 4 * C) 0 := by rw [← hM, fl_row_self, upd_ne (by decide), upd_ne (by decide), upd_ne (by decide)]
  have m8 : M1 (18 + 4 * C) 8 = fc (18 + 4 * C) 8 := by rw [← hM, fl_row_self, upd_ne (by decide), upd_ne (by decide), upd_ne (by decide)]
  have m9 : M1 (18 + 4 * C) 9 = fc (18 + 4 * C) 9 + t2_abs_v x := by rw [← hM, fl_row_self, upd_self]
  have m7 : M1 (18 + 4 * C) 7 = fc (18 + 4 * C) 7 + (((x * fc 4 25) / (1000 : Int32)) - fc (18 + 4 * C) 7) / (8 : Int32) := by rw [← hM, fl_row_self, upd_ne (by decide), upd_self]
  have mj : ∀ j : Nat, j = 1 ∨ j = 5 ∨ 10 ≤ j → M1 (18 + 4 * C) j = fc (18 + 4 * C) j := fun j hj => by rw [← hM, fl_row_self, upd_ne (by omega), upd_ne (by omega), upd_ne (by omega)]
  have G0 : G 280 (444 + 61 * C + 0) = fc (18 + 4 * C) 0 := by rw [← hG, fl_row_self, upd_ne (by omega), upd_ne (by omega), e0]
  have G1 : G 280 (444 + 61 * C + 1) = r_held_v (fc (18 + 4 * C) 2 + x - fc 4 27) (0 : Int32) ((3600 : Int32) * fc (18 + 4 * C) 0) := by rw [← hG, fl_row_self, upd_ne (by omega), upd_ne (by omega), e1]
  have G4 : G 280 (444 + 61 * C + 4) = fc (18 + 4 * C) 8 := by rw [← hG, fl_row_self, upd_ne (by omega), upd_ne (by omega), e4]
  have G5 : G 280 (444 + 61 * C + 5) = fc (18 + 4 * C) 9 + t2_abs_v x := by
    rw [← hG, fl_row_self, upd_self, e5, s5]
    rfl
  have G9 : G 280 (444 + 61 * C + 9) = fc (18 + 4 * C) 7 + (((x * fc 4 25) / (1000 : Int32)) - fc (18 + 4 * C) 7) / (8 : Int32) := by rw [← hG, fl_row_self, upd_ne (by omega), upd_self, e9, s5, s59]
  have g1i : (G 280 (444 + 61 * C + 1)).toInt = max 0 (min (fc (18 + 4 * C) 2 + x - fc 4 27).toInt (3600 * (fc (18 + 4 * C) 0).toInt)) := by
    rw [G1, t2_m32, r_held_r (by rw [hfo]; omega), hfo]
  have hb : fc 4 24 * (3600 : Int32) = (3600 : Int32) * (g 280 58) := by rw [s58, t2_m32]
  have bT := at_i32 (fc (18 + 4 * C) 9 + t2_abs_v x)
  have hW := c0_wear_old (M1 := M1) (G := G) (C := C) (n := 2147483647) (c := c) (fade := fc 4 24) (b := (3600 : Int32) * (g 280 58)) hb (by rw [m0]; exact hcap) (by rw [m9]; exact hT) (by rw [← hb]; exact hl) (by rw [m8, m0]; exact hr) (by rw [m0, g1i]; omega) (by rw [m0, G0]) (by rw [m8, G4]) (by rw [m9, G5]) (by rw [m9]; omega)
  have w9 : t2_wf (fun f => r_goOld_g76 f c C ((3600 : Int32) * (g 280 58))) 2147483647 G 280 (444 + 61 * C + 9) = G 280 (444 + 61 * C + 9) := r_goOld_ww (by omega) (by omega) (by omega) (by omega)
  generalize t2_wf (fun f => r_goOld_g76 f c C ((3600 : Int32) * (g 280 58))) 2147483647 G = W' at hW w9 ⊢
  generalize c0_wear_m M1 C (fc 4 24) = W at hW ⊢
  obtain ⟨q0, q8, q9, qc, q1, qj⟩ := hW
  have hfw : (W (18 + 4 * C) 0 * (3600 : Int32)).toInt = 3600 * (W (18 + 4 * C) 0).toInt := by rw [t2_full_i qc]; omega
  have hwc := qc.1
  unfold c0_putReckoned_m c0_putCharge_m
  refine ⟨?_, ?_, ?_, ?_, ?_, ?_, fun j hj => ?_⟩
  · rw [r_hold_0]
    simp only [fl_row_self, upd_ne (by decide : 0 ≠ 8), upd_ne (by decide : 0 ≠ 4), upd_ne (by decide : 0 ≠ 3), upd_ne (by decide : 0 ≠ 2), upd_ne (show 444 + 61 * C + 0 ≠ 444 + 61 * C + 4 by omega)]
    exact q0
  · rw [r_hold_1]
    simp only [fl_row_self, upd_ne (by decide : 2 ≠ 8), upd_ne (by decide : 2 ≠ 4), upd_ne (by decide : 2 ≠ 3), upd_self, upd_ne (show 444 + 61 * C + 0 ≠ 444 + 61 * C + 4 by omega), upd_ne (show 444 + 61 * C + 1 ≠ 444 + 61 * C + 4 by omega)]
    rw [← q0]
    refine Int32.toInt.inj ?_
    rw [t2_heldTo_i (by rw [hfw]; omega), t2_m32 (3600 : Int32), r_held_r (by rw [hfw]; omega), hfw, q1, g1i, t2_heldTo_i (by rw [hfo]; omega), hfo]
    omega
  · rw [r_hold_4]
    simp only [fl_row_self, upd_self, upd_ne (by decide : 8 ≠ 4), upd_ne (by decide : 8 ≠ 3), upd_ne (by decide : 8 ≠ 2), upd_ne (by decide : 0 ≠ 4), upd_ne (by decide : 0 ≠ 3), upd_ne (by decide : 0 ≠ 2), upd_ne (show 444 + 61 * C + 0 ≠ 444 + 61 * C + 4 by omega)]
    rw [← q0, ← q8, s5, s52, t2_m32 (3600 : Int32)]
    rfl
  · rw [r_hold_w (by omega) (by omega)]
    simp only [fl_row_self, upd_ne (by decide : 9 ≠ 8), upd_ne (by decide : 9 ≠ 4), upd_ne (by decide : 9 ≠ 3), upd_ne (by decide : 9 ≠ 2), upd_ne (show 444 + 61 * C + 5 ≠ 444 + 61 * C + 4 by omega)]
    exact q9
  · rw [r_hold_w (by omega) (by omega)]
    simp only [fl_row_self, upd_ne (by decide : 7 ≠ 8), upd_ne (by decide : 7 ≠ 4), upd_ne (by decide : 7 ≠ 3), upd_ne (by decide : 7 ≠ 2), upd_ne (show 444 + 61 * C + 9 ≠ 444 + 61 * C + 4 by omega)]
    rw [qj 7 (by decide) (by decide) (by decide), m7, w9, G9]
  · simp only [fl_row_self, upd_ne (by decide : 0 ≠ 8), upd_ne (by decide : 0 ≠ 4), upd_ne (by decide : 0 ≠ 3), upd_ne (by decide : 0 ≠ 2)]
    exact qc
  · rw [fl_row_self, upd_ne (by omega), fl_row_self, upd_ne (by omega), upd_ne (by omega), upd_ne (by omega), qj j (by omega) (by omega) (by omega)]
    exact mj j hj
end C0PASSB
