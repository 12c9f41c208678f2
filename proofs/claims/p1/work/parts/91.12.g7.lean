noncomputable def r_goOld_g76_j112_0 (f : t2_F) (c : Int32) (C : Nat) (b : Int32) : Int32 := if (100 : Int32).toInt < (f 280 (444 + 61 * C + 0)).toInt then (f 280 (444 + 61 * C + 0)) - (1 : Int32) else f 280 (444 + 61 * C + 0)
noncomputable def r_goOld_g76 (f : t2_F) (c : Int32) (C : Nat) (b : Int32) : Option t2_F := if b.toInt = 0 then none else (if (f 280 (444 + 61 * C + 5)).toInt < b.toInt then none else some (r_hold_m (fl_row f 280 (upd (upd (f 280) (444 + 61 * C + 5) ((f 280 (444 + 61 * C + 5)) - b)) (444 + 61 * C + 0) (r_goOld_g76_j112_0 f c C b))) c C))
theorem r_goOld_g76_q {L : Nat} {xs : Nat → Int32} {f : t2_F} {l : t2_L} {Q : Option fl_V → fl_M → Prop} {c : Int32} {C : Nat} {b : Int32} (hc : c.toInt = (C : Int)) (hC : C < 16) (k0 : r_goOld_g76 f c C b = none → fl_Tq (pw_P L xs) 217 137 [some (.inr (.inr (.inl (76, 277)))), some (.inl c), some (.inl b)] [] (f, l) Q) (k1 : ∀ f' : t2_F, r_goOld_g76 f c C b = some f' → fl_Tq (pw_P L xs) 217 76 [some (.inr (.inr (.inl (76, 277)))), some (.inl c), some (.inl b)] [] (f', l) Q) : fl_Tq (pw_P L xs) 217 76 [some (.inr (.inr (.inl (76, 277)))), some (.inl c), some (.inl b)] [] (f, l) Q := by
  refine fl_Tq.stp (pc' := 77) (lv' := [some (.inr (.inr (.inl (76, 277)))), some (.inl c), some (.inl b)]) (st' := [.inl b]) (m' := (f, l)) rfl rfl (fl_bo rfl) rfl ?_
  by_cases h1 : b.toInt = 0
  · refine fl_Tq.zt rfl (fl_bo rfl) (c1_eq_t h1) rfl ?_
    have eg : r_goOld_g76 f c C b = none := by
      unfold r_goOld_g76
      simp only [if_pos h1]
    have hS := k0 eg
    exact hS
  · refine fl_Tq.zf rfl (fl_bo rfl) (c1_eq_f h1) rfl ?_
    refine fl_Tq.stp (pc' := 81) (lv' := [some (.inr (.inr (.inl (76, 277)))), some (.inl c), some (.inl b)]) (st' := [.inr (.inr (.inl (76, 277)))]) (m' := (f, l)) rfl rfl (fl_bo rfl) rfl ?_
    refine fl_Tq.stp (pc' := 82) (lv' := [some (.inr (.inr (.inl (76, 277)))), some (.inl c), some (.inl b)]) (st' := [.inl c, .inr (.inr (.inl (76, 277)))]) (m' := (f, l)) rfl rfl (fl_bo rfl) rfl ?_
    refine fl_Tq.cI (c := (5 : Int32)) rfl (by decide +kernel) (fl_bo rfl) ?_
    refine fl_Tq.cal rfl rfl (fl_bo rfl) rfl ?_
    refine t2_get (C := C) (W := 5) (v := f 280 (444 + 61 * C + 5)) hc (by decide +kernel) hC (by decide) rfl ?_
    show fl_Tq _ 217 86 [some (.inr (.inr (.inl (76, 277)))), some (.inl c), some (.inl b)] [.inl (f 280 (444 + 61 * C + 5))] (f, l) _
    refine fl_Tq.stp (pc' := 87) (lv' := [some (.inr (.inr (.inl (76, 277)))), some (.inl c), some (.inl b)]) (st' := [.inl b, .inl (f 280 (444 + 61 * C + 5))]) (m' := (f, l)) rfl rfl (fl_bo rfl) rfl ?_
    by_cases h2 : (f 280 (444 + 61 * C + 5)).toInt < b.toInt
    · refine fl_Tq.jt rfl (fl_bo rfl) (c2_lt_t h2) rfl ?_
      have eg : r_goOld_g76 f c C b = none := by
        unfold r_goOld_g76
        simp only [if_neg h1, if_pos h2]
      have hS := k0 eg
      exact hS
    · refine fl_Tq.jf rfl (fl_bo rfl) (c2_lt_f h2) rfl ?_
      refine fl_Tq.stp (pc' := 91) (lv' := [some (.inr (.inr (.inl (76, 277)))), some (.inl c), some (.inl b)]) (st' := [.inr (.inr (.inl (76, 277)))]) (m' := (f, l)) rfl rfl (fl_bo rfl) rfl ?_
      refine fl_Tq.stp (pc' := 92) (lv' := [some (.inr (.inr (.inl (76, 277)))), some (.inl c), some (.inl b)]) (st' := [.inl c, .inr (.inr (.inl (76, 277)))]) (m' := (f, l)) rfl rfl (fl_bo rfl) rfl ?_
      refine fl_Tq.cI (c := (5 : Int32)) rfl (by decide +kernel) (fl_bo rfl) ?_
      refine fl_Tq.stp (pc' := 94) (lv' := [some (.inr (.inr (.inl (76, 277)))), some (.inl c), some (.inl b)]) (st' := [.inr (.inr (.inl (76, 277))), .inl (5 : Int32), .inl c, .inr (.inr (.inl (76, 277)))]) (m' := (f, l)) rfl rfl (fl_bo rfl) rfl ?_
      refine fl_Tq.stp (pc' := 95) (lv' := [some (.inr (.inr (.inl (76, 277)))), some (.inl c), some (.inl b)]) (st' := [.inl c, .inr (.inr (.inl (76, 277))), .inl (5 : Int32), .inl c, .inr (.inr (.inl (76, 277)))]) (m' := (f, l)) rfl rfl (fl_bo rfl) rfl ?_
      refine fl_Tq.cI (c := (5 : Int32)) rfl (by decide +kernel) (fl_bo rfl) ?_
      refine fl_Tq.cal rfl rfl (fl_bo rfl) rfl ?_
      refine t2_get (C := C) (W := 5) (v := f 280 (444 + 61 * C + 5)) hc (by decide +kernel) hC (by decide) rfl ?_
      show fl_Tq _ 217 99 [some (.inr (.inr (.inl (76, 277)))), some (.inl c), some (.inl b)] [.inl (f 280 (444 + 61 * C + 5)), .inl (5 : Int32), .inl c, .inr (.inr (.inl (76, 277)))] (f, l) _
      refine fl_Tq.stp (pc' := 100) (lv' := [some (.inr (.inr (.inl (76, 277)))), some (.inl c), some (.inl b)]) (st' := [.inl b, .inl (f 280 (444 + 61 * C + 5)), .inl (5 : Int32), .inl c, .inr (.inr (.inl (76, 277)))]) (m' := (f, l)) rfl rfl (fl_bo rfl) rfl ?_
      refine fl_Tq.stp (pc' := 101) (lv' := [some (.inr (.inr (.inl (76, 277)))), some (.inl c), some (.inl b)]) (st' := [.inl ((f 280 (444 + 61 * C + 5)) - b), .inl (5 : Int32), .inl c, .inr (.inr (.inl (76, 277)))]) (m' := (f, l)) rfl rfl (fl_bo rfl) rfl ?_
      refine fl_Tq.cal rfl rfl (fl_bo rfl) rfl ?_
      refine t2_let (C := C) (W := 5) (m' := (fl_row f 280 (upd (f 280) (444 + 61 * C + 5) ((f 280 (444 + 61 * C + 5)) - b)), l)) hc (by decide +kernel) hC (by decide) (t2_upn rfl) ?_
      show fl_Tq _ 217 104 [some (.inr (.inr (.inl (76, 277)))), some (.inl c), some (.inl b)] [] (fl_row f 280 (upd (f 280) (444 + 61 * C + 5) ((f 280 (444 + 61 * C + 5)) - b)), l) _
      refine fl_Tq.stp (pc' := 105) (lv' := [some (.inr (.inr (.inl (76, 277)))), some (.inl c), some (.inl b)]) (st' := [.inr (.inr (.inl (76, 277)))]) (m' := (fl_row f 280 (upd (f 280) (444 + 61 * C + 5) ((f 280 (444 + 61 * C + 5)) - b)), l)) rfl rfl (fl_bo rfl) rfl ?_
      refine fl_Tq.stp (pc' := 106) (lv' := [some (.inr (.inr (.inl (76, 277)))), some (.inl c), some (.inl b)]) (st' := [.inl c, .inr (.inr (.inl (76, 277)))]) (m' := (fl_row f 280 (upd (f 280) (444 + 61 * C + 5) ((f 280 (444 + 61 * C + 5)) - b)), l)) rfl rfl (fl_bo rfl) rfl ?_
      refine fl_Tq.cI (c := (0 : Int32)) rfl (by decide +kernel) (fl_bo rfl) ?_
      refine fl_Tq.cal rfl rfl (fl_bo rfl) rfl ?_
      refine t2_get (C := C) (W := 0) (v := f 280 (444 + 61 * C + 0)) hc (by decide +kernel) hC (by decide) (by simp only [fl_row_self, upd_ne (by omega : 444 + 61 * C + 0 ≠ 444 + 61 * C + 5)]) ?_
      show fl_Tq _ 217 110 [some (.inr (.inr (.inl (76, 277)))), some (.inl c), some (.inl b)] [.inl (f 280 (444 + 61 * C + 0))] (fl_row f 280 (upd (f 280) (444 + 61 * C + 5) ((f 280 (444 + 61 * C + 5)) - b)), l) _
      refine fl_Tq.cB (c := (100 : Int32)) rfl (by decide +kernel) (fl_bo rfl) ?_
      have hj85 : fl_Tq (pw_P L xs) 217 129 [some (.inr (.inr (.inl (76, 277)))), some (.inl c), some (.inl b)] [] (fl_row f 280 (upd (upd (f 280) (444 + 61 * C + 5) ((f 280 (444 + 61 * C + 5)) - b)) (444 + 61 * C + 0) (r_goOld_g76_j112_0 f c C b)), l) Q → fl_Tq (pw_P L xs) 217 112 [some (.inr (.inr (.inl (76, 277)))), some (.inl c), some (.inl b)] [.inl (100 : Int32), .inl (f 280 (444 + 61 * C + 0))] (fl_row f 280 (upd (f 280) (444 + 61 * C + 5) ((f 280 (444 + 61 * C + 5)) - b)), l) Q := by
        intro hJ
        by_cases h3 : (100 : Int32).toInt < (f 280 (444 + 61 * C + 0)).toInt
        · refine fl_Tq.jf rfl (fl_bo rfl) (c2_le_f h3) rfl ?_
          refine fl_Tq.stp (pc' := 116) (lv' := [some (.inr (.inr (.inl (76, 277)))), some (.inl c), some (.inl b)]) (st' := [.inr (.inr (.inl (76, 277)))]) (m' := (fl_row f 280 (upd (f 280) (444 + 61 * C + 5) ((f 280 (444 + 61 * C + 5)) - b)), l)) rfl rfl (fl_bo rfl) rfl ?_
          refine fl_Tq.stp (pc' := 117) (lv' := [some (.inr (.inr (.inl (76, 277)))), some (.inl c), some (.inl b)]) (st' := [.inl c, .inr (.inr (.inl (76, 277)))]) (m' := (fl_row f 280 (upd (f 280) (444 + 61 * C + 5) ((f 280 (444 + 61 * C + 5)) - b)), l)) rfl rfl (fl_bo rfl) rfl ?_
          refine fl_Tq.cI (c := (0 : Int32)) rfl (by decide +kernel) (fl_bo rfl) ?_
          refine fl_Tq.stp (pc' := 119) (lv' := [some (.inr (.inr (.inl (76, 277)))), some (.inl c), some (.inl b)]) (st' := [.inr (.inr (.inl (76, 277))), .inl (0 : Int32), .inl c, .inr (.inr (.inl (76, 277)))]) (m' := (fl_row f 280 (upd (f 280) (444 + 61 * C + 5) ((f 280 (444 + 61 * C + 5)) - b)), l)) rfl rfl (fl_bo rfl) rfl ?_
          refine fl_Tq.stp (pc' := 120) (lv' := [some (.inr (.inr (.inl (76, 277)))), some (.inl c), some (.inl b)]) (st' := [.inl c, .inr (.inr (.inl (76, 277))), .inl (0 : Int32), .inl c, .inr (.inr (.inl (76, 277)))]) (m' := (fl_row f 280 (upd (f 280) (444 + 61 * C + 5) ((f 280 (444 + 61 * C + 5)) - b)), l)) rfl rfl (fl_bo rfl) rfl ?_
          refine fl_Tq.cI (c := (0 : Int32)) rfl (by decide +kernel) (fl_bo rfl) ?_
          refine fl_Tq.cal rfl rfl (fl_bo rfl) rfl ?_
          refine t2_get (C := C) (W := 0) (v := f 280 (444 + 61 * C + 0)) hc (by decide +kernel) hC (by decide) (by simp only [fl_row_self, upd_ne (by omega : 444 + 61 * C + 0 ≠ 444 + 61 * C + 5)]) ?_
          show fl_Tq _ 217 124 [some (.inr (.inr (.inl (76, 277)))), some (.inl c), some (.inl b)] [.inl (f 280 (444 + 61 * C + 0)), .inl (0 : Int32), .inl c, .inr (.inr (.inl (76, 277)))] (fl_row f 280 (upd (f 280) (444 + 61 * C + 5) ((f 280 (444 + 61 * C + 5)) - b)), l) _
          refine fl_Tq.cI (c := (1 : Int32)) rfl (by decide +kernel) (fl_bo rfl) ?_
          refine fl_Tq.stp (pc' := 126) (lv' := [some (.inr (.inr (.inl (76, 277)))), some (.inl c), some (.inl b)]) (st' := [.inl ((f 280 (444 + 61 * C + 0)) - (1 : Int32)), .inl (0 : Int32), .inl c, .inr (.inr (.inl (76, 277)))]) (m' := (fl_row f 280 (upd (f 280) (444 + 61 * C + 5) ((f 280 (444 + 61 * C + 5)) - b)), l)) rfl rfl (fl_bo rfl) rfl ?_
          refine fl_Tq.cal rfl rfl (fl_bo rfl) rfl ?_
          refine t2_let (C := C) (W := 0) (m' := (fl_row f 280 (upd (upd (f 280) (444 + 61 * C + 5) ((f 280 (444 + 61 * C + 5)) - b)) (444 + 61 * C + 0) ((f 280 (444 + 61 * C + 0)) - (1 : Int32))), l)) hc (by decide +kernel) hC (by decide) (t2_upr) ?_
          show fl_Tq _ 217 129 [some (.inr (.inr (.inl (76, 277)))), some (.inl c), some (.inl b)] [] (fl_row f 280 (upd (upd (f 280) (444 + 61 * C + 5) ((f 280 (444 + 61 * C + 5)) - b)) (444 + 61 * C + 0) ((f 280 (444 + 61 * C + 0)) - (1 : Int32))), l) _
          have e0 : (fl_row f 280 (upd (upd (f 280) (444 + 61 * C + 5) ((f 280 (444 + 61 * C + 5)) - b)) (444 + 61 * C + 0) (r_goOld_g76_j112_0 f c C b))) = fl_row f 280 (upd (upd (f 280) (444 + 61 * C + 5) ((f 280 (444 + 61 * C + 5)) - b)) (444 + 61 * C + 0) ((f 280 (444 + 61 * C + 0)) - (1 : Int32))) := by
            simp only [r_goOld_g76_j112_0, if_pos h3]
          rw [e0] at hJ
          exact hJ
        · refine fl_Tq.jt rfl (fl_bo rfl) (c2_le_t h3) rfl ?_
          have e0 : (fl_row f 280 (upd (upd (f 280) (444 + 61 * C + 5) ((f 280 (444 + 61 * C + 5)) - b)) (444 + 61 * C + 0) (r_goOld_g76_j112_0 f c C b))) = fl_row f 280 (upd (f 280) (444 + 61 * C + 5) ((f 280 (444 + 61 * C + 5)) - b)) := by
            simp only [r_goOld_g76_j112_0, if_neg h3]
            funext q j
            simp only [fl_row, upd]
            repeat' split
            all_goals first | rfl | simp_all
          rw [e0] at hJ
          exact hJ
      refine hj85 ?_
      show fl_Tq _ 217 129 [some (.inr (.inr (.inl (76, 277)))), some (.inl c), some (.inl b)] [] (fl_row f 280 (upd (upd (f 280) (444 + 61 * C + 5) ((f 280 (444 + 61 * C + 5)) - b)) (444 + 61 * C + 0) (r_goOld_g76_j112_0 f c C b)), l) _
      refine fl_Tq.stp (pc' := 130) (lv' := [some (.inr (.inr (.inl (76, 277)))), some (.inl c), some (.inl b)]) (st' := [.inr (.inr (.inl (76, 277)))]) (m' := (fl_row f 280 (upd (upd (f 280) (444 + 61 * C + 5) ((f 280 (444 + 61 * C + 5)) - b)) (444 + 61 * C + 0) (r_goOld_g76_j112_0 f c C b)), l)) rfl rfl (fl_bo rfl) rfl ?_
      refine fl_Tq.stp (pc' := 131) (lv' := [some (.inr (.inr (.inl (76, 277)))), some (.inl c), some (.inl b)]) (st' := [.inl c, .inr (.inr (.inl (76, 277)))]) (m' := (fl_row f 280 (upd (upd (f 280) (444 + 61 * C + 5) ((f 280 (444 + 61 * C + 5)) - b)) (444 + 61 * C + 0) (r_goOld_g76_j112_0 f c C b)), l)) rfl rfl (fl_bo rfl) rfl ?_
      refine fl_Tq.cal rfl rfl (fl_bo rfl) rfl ?_
      refine r_hold_q hc hC ?_
      show fl_Tq _ 217 134 [some (.inr (.inr (.inl (76, 277)))), some (.inl c), some (.inl b)] [] (r_hold_m (fl_row f 280 (upd (upd (f 280) (444 + 61 * C + 5) ((f 280 (444 + 61 * C + 5)) - b)) (444 + 61 * C + 0) (r_goOld_g76_j112_0 f c C b))) c C, l) _
      refine fl_Tq.stp (pc' := 76) (lv' := [some (.inr (.inr (.inl (76, 277)))), some (.inl c), some (.inl b)]) (st' := []) (m' := (r_hold_m (fl_row f 280 (upd (upd (f 280) (444 + 61 * C + 5) ((f 280 (444 + 61 * C + 5)) - b)) (444 + 61 * C + 0) (r_goOld_g76_j112_0 f c C b))) c C, l)) rfl rfl (fl_bo rfl) rfl ?_
      have eg : r_goOld_g76 f c C b = some (r_hold_m (fl_row f 280 (upd (upd (f 280) (444 + 61 * C + 5) ((f 280 (444 + 61 * C + 5)) - b)) (444 + 61 * C + 0) (r_goOld_g76_j112_0 f c C b))) c C) := by
        unfold r_goOld_g76
        simp only [if_neg h1, if_neg h2]
      have hS := k1 _ eg
      exact hS
theorem r_goOld_dec {f f' : t2_F} {c : Int32} {C : Nat} {b : Int32} (hb : 0 ≤ b.toInt) (e : r_goOld_g76 f c C b = some f') : (f' 280 (444 + 61 * C + 5)).toInt.toNat < (f 280 (444 + 61 * C + 5)).toInt.toNat := by
  have hx := at_i32 (f 280 (444 + 61 * C + 5))
  unfold r_goOld_g76 at e
  split at e
  · cases e
  · rename_i h1
    split at e
    · cases e
    · rename_i h2
      have e5 : f' 280 (444 + 61 * C + 5) = f 280 (444 + 61 * C + 5) - b := by
        cases e
        simp only [r_hold_w (show 444 + 61 * C + 5 ≠ 444 + 61 * C + 1 by omega) (show 444 + 61 * C + 5 ≠ 444 + 61 * C + 4 by omega), fl_row_self, upd_ne (show 444 + 61 * C + 5 ≠ 444 + 61 * C + 0 by omega), upd_self]
      rw [e5, at_sub32 (by omega) (by omega)]
      omega
theorem r_goOld_ww {c : Int32} {C : Nat} {b : Int32} {n w : Nat} {f : t2_F} (e0 : w ≠ 444 + 61 * C + 0) (e1 : w ≠ 444 + 61 * C + 1) (e2 : w ≠ 444 + 61 * C + 4) (e3 : w ≠ 444 + 61 * C + 5) : t2_wf (fun f => r_goOld_g76 f c C b) n f 280 w = f 280 w := by
  refine t2_wf_k (fun f f' e => ?_) n f
  unfold r_goOld_g76 at e
  split at e
  · cases e
  · split at e
    · cases e
    · cases e
      simp only [r_hold_w e1 e2, fl_row_self, upd_ne e0, upd_ne e3]
theorem r_goOld_wfr {c : Int32} {C : Nat} {b : Int32} {n p : Nat} {f : t2_F} (e280 : p ≠ 280) : t2_wf (fun f => r_goOld_g76 f c C b) n f p = f p := by
  refine t2_wf_p (fun f f' e => ?_) n f
  unfold r_goOld_g76 at e
  split at e
  · cases e
  · split at e
    · cases e
    · cases e
      simp only [r_hold_fr e280, fl_row_ne e280]
noncomputable def r_goOld_m (f : t2_F) (c : Int32) (C : Nat) : t2_F := r_hold_m (fl_row (t2_wf (fun f' => r_goOld_g76 f' c C ((3600 : Int32) * (f 280 58))) 2147483647 (fl_row f 280 (upd (upd (f 280) (444 + 61 * C + 9) ((f 280 (444 + 61 * C + 9)) + (((((f 280 5) * (f 280 59)) / (1000 : Int32)) - (f 280 (444 + 61 * C + 9))) / (8 : Int32)))) (444 + 61 * C + 5) ((f 280 (444 + 61 * C + 5)) + (r_size_v (f 280 5)))))) 280 (upd ((t2_wf (fun f' => r_goOld_g76 f' c C ((3600 : Int32) * (f 280 58))) 2147483647 (fl_row f 280 (upd (upd (f 280) (444 + 61 * C + 9) ((f 280 (444 + 61 * C + 9)) + (((((f 280 5) * (f 280 59)) / (1000 : Int32)) - (f 280 (444 + 61 * C + 9))) / (8 : Int32)))) (444 + 61 * C + 5) ((f 280 (444 + 61 * C + 5)) + (r_size_v (f 280 5)))))) 280) (444 + 61 * C + 4) ((((t2_wf (fun f' => r_goOld_g76 f' c C ((3600 : Int32) * (f 280 58))) 2147483647 (fl_row f 280 (upd (upd (f 280) (444 + 61 * C + 9) ((f 280 (444 + 61 * C + 9)) + (((((f 280 5) * (f 280 59)) / (1000 : Int32)) - (f 280 (444 + 61 * C + 9))) / (8 : Int32)))) (444 + 61 * C + 5) ((f 280 (444 + 61 * C + 5)) + (r_size_v (f 280 5)))))) 280 (444 + 61 * C + 4)) + (f 280 5)) + (f 280 52)))) c C
theorem r_goOld_fr {f : t2_F} {c : Int32} {C : Nat} {p : Nat}  (e280 : p ≠ 280) : r_goOld_m f c C p = f p := by
  unfold r_goOld_m
  repeat' split
  all_goals first | rfl | simp only [fl_row_ne e280, r_hold_fr e280, r_goOld_wfr e280]
theorem r_goOld_w {f : t2_F} {c : Int32} {C : Nat} {w : Nat} (e0 : w ≠ 444 + 61 * C + 1) (e1 : w ≠ 444 + 61 * C + 4) (e2 : w ≠ 444 + 61 * C + 0) (e3 : w ≠ 444 + 61 * C + 5) (e4 : w ≠ 444 + 61 * C + 9) : r_goOld_m f c C 280 w = f 280 w := by
  unfold r_goOld_m
  repeat' split
  all_goals first | rfl | simp only [fl_row_self, upd_ne e0, upd_ne e1, upd_ne e2, upd_ne e3, upd_ne e4, r_hold_w e0 e1, r_goOld_ww e2 e0 e1 e3]
theorem r_goOld_q {L : Nat} {xs : Nat → Int32} {f : t2_F} {l : t2_L} {Q : Option fl_V → fl_M → Prop} {c : Int32} {C : Nat} (hc : c.toInt = (C : Int)) (hC : C < 16) (hb : 0 ≤ ((3600 : Int32) * (f 280 58)).toInt) (k : Q none (r_goOld_m f c C, l)) : fl_Tq (pw_P L xs) 217 0 (fl_args (am_mxl (pw_P L xs) 217) [.inr (.inr (.inl (76, 277))), .inl c]) [] (f, l) Q := by
  refine fl_Tq.stp (pc' := 1) (lv' := [some (.inr (.inr (.inl (76, 277)))), some (.inl c), none]) (st' := [.inr (.inr (.inl (76, 277)))]) (m' := (f, l)) rfl rfl (fl_bo rfl) rfl ?_
  refine fl_Tq.stp (pc' := 2) (lv' := [some (.inr (.inr (.inl (76, 277)))), some (.inl c), none]) (st' := [.inl c, .inr (.inr (.inl (76, 277)))]) (m' := (f, l)) rfl rfl (fl_bo rfl) rfl ?_
  refine fl_Tq.cB (c := (9 : Int32)) rfl (by decide +kernel) (fl_bo rfl) ?_
  refine fl_Tq.stp (pc' := 5) (lv' := [some (.inr (.inr (.inl (76, 277)))), some (.inl c), none]) (st' := [.inr (.inr (.inl (76, 277))), .inl (9 : Int32), .inl c, .inr (.inr (.inl (76, 277)))]) (m' := (f, l)) rfl rfl (fl_bo rfl) rfl ?_
  refine fl_Tq.stp (pc' := 6) (lv' := [some (.inr (.inr (.inl (76, 277)))), some (.inl c), none]) (st' := [.inl c, .inr (.inr (.inl (76, 277))), .inl (9 : Int32), .inl c, .inr (.inr (.inl (76, 277)))]) (m' := (f, l)) rfl rfl (fl_bo rfl) rfl ?_
  refine fl_Tq.cB (c := (9 : Int32)) rfl (by decide +kernel) (fl_bo rfl) ?_
  refine fl_Tq.cal rfl rfl (fl_bo rfl) rfl ?_
  refine t2_get (C := C) (W := 9) (v := f 280 (444 + 61 * C + 9)) hc (by decide +kernel) hC (by decide) rfl ?_
  show fl_Tq _ 217 11 [some (.inr (.inr (.inl (76, 277)))), some (.inl c), none] [.inl (f 280 (444 + 61 * C + 9)), .inl (9 : Int32), .inl c, .inr (.inr (.inl (76, 277)))] (f, l) _
  refine fl_Tq.stp (pc' := 12) (lv' := [some (.inr (.inr (.inl (76, 277)))), some (.inl c), none]) (st' := [.inr (.inr (.inl (76, 277))), .inl (f 280 (444 + 61 * C + 9)), .inl (9 : Int32), .inl c, .inr (.inr (.inl (76, 277)))]) (m' := (f, l)) rfl rfl (fl_bo rfl) rfl ?_
  refine fl_Tq.stp (pc' := 15) (lv' := [some (.inr (.inr (.inl (76, 277)))), some (.inl c), none]) (st' := [.inr (.inr (.inl (79, 280))), .inl (f 280 (444 + 61 * C + 9)), .inl (9 : Int32), .inl c, .inr (.inr (.inl (76, 277)))]) (m' := (f, l)) rfl rfl (fl_bo rfl) rfl ?_
  refine fl_Tq.cI (c := (5 : Int32)) rfl (by decide +kernel) (fl_bo rfl) ?_
  refine fl_Tq.ldV (p := 280) (τ := 79) (n := 29780) (z := (0, 0, 0)) (k := 5) (v := f 280 5) rfl (fl_bo rfl) rfl (by decide +kernel) (by decide) rfl ?_
  refine fl_Tq.stp (pc' := 18) (lv' := [some (.inr (.inr (.inl (76, 277)))), some (.inl c), none]) (st' := [.inr (.inr (.inl (76, 277))), .inl (f 280 5), .inl (f 280 (444 + 61 * C + 9)), .inl (9 : Int32), .inl c, .inr (.inr (.inl (76, 277)))]) (m' := (f, l)) rfl rfl (fl_bo rfl) rfl ?_
  refine fl_Tq.cB (c := (25 : Int32)) rfl (by decide +kernel) (fl_bo rfl) ?_
  refine fl_Tq.cal rfl rfl (fl_bo rfl) rfl ?_
  refine t2_its (W := 25) (v := f 280 59) (by decide +kernel) (by decide) rfl ?_
  show fl_Tq _ 217 23 [some (.inr (.inr (.inl (76, 277)))), some (.inl c), none] [.inl (f 280 59), .inl (f 280 5), .inl (f 280 (444 + 61 * C + 9)), .inl (9 : Int32), .inl c, .inr (.inr (.inl (76, 277)))] (f, l) _
  refine fl_Tq.stp (pc' := 24) (lv' := [some (.inr (.inr (.inl (76, 277)))), some (.inl c), none]) (st' := [.inl ((f 280 5) * (f 280 59)), .inl (f 280 (444 + 61 * C + 9)), .inl (9 : Int32), .inl c, .inr (.inr (.inl (76, 277)))]) (m' := (f, l)) rfl rfl (fl_bo rfl) rfl ?_
  refine fl_Tq.cS (c := (1000 : Int32)) rfl (by decide +kernel) (fl_bo rfl) ?_
  refine fl_Tq.dv rfl (fl_bo rfl) (by decide +kernel) ?_
  refine fl_Tq.stp (pc' := 29) (lv' := [some (.inr (.inr (.inl (76, 277)))), some (.inl c), none]) (st' := [.inr (.inr (.inl (76, 277))), .inl (((f 280 5) * (f 280 59)) / (1000 : Int32)), .inl (f 280 (444 + 61 * C + 9)), .inl (9 : Int32), .inl c, .inr (.inr (.inl (76, 277)))]) (m' := (f, l)) rfl rfl (fl_bo rfl) rfl ?_
  refine fl_Tq.stp (pc' := 30) (lv' := [some (.inr (.inr (.inl (76, 277)))), some (.inl c), none]) (st' := [.inl c, .inr (.inr (.inl (76, 277))), .inl (((f 280 5) * (f 280 59)) / (1000 : Int32)), .inl (f 280 (444 + 61 * C + 9)), .inl (9 : Int32), .inl c, .inr (.inr (.inl (76, 277)))]) (m' := (f, l)) rfl rfl (fl_bo rfl) rfl ?_
  refine fl_Tq.cB (c := (9 : Int32)) rfl (by decide +kernel) (fl_bo rfl) ?_
  refine fl_Tq.cal rfl rfl (fl_bo rfl) rfl ?_
  refine t2_get (C := C) (W := 9) (v := f 280 (444 + 61 * C + 9)) hc (by decide +kernel) hC (by decide) rfl ?_
  show fl_Tq _ 217 35 [some (.inr (.inr (.inl (76, 277)))), some (.inl c), none] [.inl (f 280 (444 + 61 * C + 9)), .inl (((f 280 5) * (f 280 59)) / (1000 : Int32)), .inl (f 280 (444 + 61 * C + 9)), .inl (9 : Int32), .inl c, .inr (.inr (.inl (76, 277)))] (f, l) _
  refine fl_Tq.stp (pc' := 36) (lv' := [some (.inr (.inr (.inl (76, 277)))), some (.inl c), none]) (st' := [.inl ((((f 280 5) * (f 280 59)) / (1000 : Int32)) - (f 280 (444 + 61 * C + 9))), .inl (f 280 (444 + 61 * C + 9)), .inl (9 : Int32), .inl c, .inr (.inr (.inl (76, 277)))]) (m' := (f, l)) rfl rfl (fl_bo rfl) rfl ?_
  refine fl_Tq.cB (c := (8 : Int32)) rfl (by decide +kernel) (fl_bo rfl) ?_
  refine fl_Tq.dv rfl (fl_bo rfl) (by decide +kernel) ?_
  refine fl_Tq.stp (pc' := 40) (lv' := [some (.inr (.inr (.inl (76, 277)))), some (.inl c), none]) (st' := [.inl ((f 280 (444 + 61 * C + 9)) + (((((f 280 5) * (f 280 59)) / (1000 : Int32)) - (f 280 (444 + 61 * C + 9))) / (8 : Int32))), .inl (9 : Int32), .inl c, .inr (.inr (.inl (76, 277)))]) (m' := (f, l)) rfl rfl (fl_bo rfl) rfl ?_
  refine fl_Tq.cal rfl rfl (fl_bo rfl) rfl ?_
  refine t2_let (C := C) (W := 9) (m' := (fl_row f 280 (upd (f 280) (444 + 61 * C + 9) ((f 280 (444 + 61 * C + 9)) + (((((f 280 5) * (f 280 59)) / (1000 : Int32)) - (f 280 (444 + 61 * C + 9))) / (8 : Int32)))), l)) hc (by decide +kernel) hC (by decide) (t2_upn rfl) ?_
  show fl_Tq _ 217 43 [some (.inr (.inr (.inl (76, 277)))), some (.inl c), none] [] (fl_row f 280 (upd (f 280) (444 + 61 * C + 9) ((f 280 (444 + 61 * C + 9)) + (((((f 280 5) * (f 280 59)) / (1000 : Int32)) - (f 280 (444 + 61 * C + 9))) / (8 : Int32)))), l) _
  refine fl_Tq.stp (pc' := 44) (lv' := [some (.inr (.inr (.inl (76, 277)))), some (.inl c), none]) (st' := [.inr (.inr (.inl (76, 277)))]) (m' := (fl_row f 280 (upd (f 280) (444 + 61 * C + 9) ((f 280 (444 + 61 * C + 9)) + (((((f 280 5) * (f 280 59)) / (1000 : Int32)) - (f 280 (444 + 61 * C + 9))) / (8 : Int32)))), l)) rfl rfl (fl_bo rfl) rfl ?_
  refine fl_Tq.stp (pc' := 45) (lv' := [some (.inr (.inr (.inl (76, 277)))), some (.inl c), none]) (st' := [.inl c, .inr (.inr (.inl (76, 277)))]) (m' := (fl_row f 280 (upd (f 280) (444 + 61 * C + 9) ((f 280 (444 + 61 * C + 9)) + (((((f 280 5) * (f 280 59)) / (1000 : Int32)) - (f 280 (444 + 61 * C + 9))) / (8 : Int32)))), l)) rfl rfl (fl_bo rfl) rfl ?_
  refine fl_Tq.cI (c := (5 : Int32)) rfl (by decide +kernel) (fl_bo rfl) ?_
  refine fl_Tq.stp (pc' := 47) (lv' := [some (.inr (.inr (.inl (76, 277)))), some (.inl c), none]) (st' := [.inr (.inr (.inl (76, 277))), .inl (5 : Int32), .inl c, .inr (.inr (.inl (76, 277)))]) (m' := (fl_row f 280 (upd (f 280) (444 + 61 * C + 9) ((f 280 (444 + 61 * C + 9)) + (((((f 280 5) * (f 280 59)) / (1000 : Int32)) - (f 280 (444 + 61 * C + 9))) / (8 : Int32)))), l)) rfl rfl (fl_bo rfl) rfl ?_
  refine fl_Tq.stp (pc' := 48) (lv' := [some (.inr (.inr (.inl (76, 277)))), some (.inl c), none]) (st' := [.inl c, .inr (.inr (.inl (76, 277))), .inl (5 : Int32), .inl c, .inr (.inr (.inl (76, 277)))]) (m' := (fl_row f 280 (upd (f 280) (444 + 61 * C + 9) ((f 280 (444 + 61 * C + 9)) + (((((f 280 5) * (f 280 59)) / (1000 : Int32)) - (f 280 (444 + 61 * C + 9))) / (8 : Int32)))), l)) rfl rfl (fl_bo rfl) rfl ?_
  refine fl_Tq.cI (c := (5 : Int32)) rfl (by decide +kernel) (fl_bo rfl) ?_
  refine fl_Tq.cal rfl rfl (fl_bo rfl) rfl ?_
  refine t2_get (C := C) (W := 5) (v := f 280 (444 + 61 * C + 5)) hc (by decide +kernel) hC (by decide) (by simp only [fl_row_self, upd_ne (by omega : 444 + 61 * C + 5 ≠ 444 + 61 * C + 9)]) ?_
  show fl_Tq _ 217 52 [some (.inr (.inr (.inl (76, 277)))), some (.inl c), none] [.inl (f 280 (444 + 61 * C + 5)), .inl (5 : Int32), .inl c, .inr (.inr (.inl (76, 277)))] (fl_row f 280 (upd (f 280) (444 + 61 * C + 9) ((f 280 (444 + 61 * C + 9)) + (((((f 280 5) * (f 280 59)) / (1000 : Int32)) - (f 280 (444 + 61 * C + 9))) / (8 : Int32)))), l) _
  refine fl_Tq.stp (pc' := 53) (lv' := [some (.inr (.inr (.inl (76, 277)))), some (.inl c), none]) (st' := [.inr (.inr (.inl (76, 277))), .inl (f 280 (444 + 61 * C + 5)), .inl (5 : Int32), .inl c, .inr (.inr (.inl (76, 277)))]) (m' := (fl_row f 280 (upd (f 280) (444 + 61 * C + 9) ((f 280 (444 + 61 * C + 9)) + (((((f 280 5) * (f 280 59)) / (1000 : Int32)) - (f 280 (444 + 61 * C + 9))) / (8 : Int32)))), l)) rfl rfl (fl_bo rfl) rfl ?_
  refine fl_Tq.stp (pc' := 56) (lv' := [some (.inr (.inr (.inl (76, 277)))), some (.inl c), none]) (st' := [.inr (.inr (.inl (79, 280))), .inl (f 280 (444 + 61 * C + 5)), .inl (5 : Int32), .inl c, .inr (.inr (.inl (76, 277)))]) (m' := (fl_row f 280 (upd (f 280) (444 + 61 * C + 9) ((f 280 (444 + 61 * C + 9)) + (((((f 280 5) * (f 280 59)) / (1000 : Int32)) - (f 280 (444 + 61 * C + 9))) / (8 : Int32)))), l)) rfl rfl (fl_bo rfl) rfl ?_
  refine fl_Tq.cI (c := (5 : Int32)) rfl (by decide +kernel) (fl_bo rfl) ?_
  refine fl_Tq.ldV (p := 280) (τ := 79) (n := 29780) (z := (0, 0, 0)) (k := 5) (v := f 280 5) rfl (fl_bo rfl) rfl (by decide +kernel) (by decide) (by simp only [fl_row_self, upd_ne (by omega : 5 ≠ 444 + 61 * C + 9)]) ?_
  refine fl_Tq.cal rfl rfl (fl_bo rfl) rfl ?_
  refine r_size_q  ?_
  show fl_Tq _ 217 61 [some (.inr (.inr (.inl (76, 277)))), some (.inl c), none] [.inl (r_size_v (f 280 5)), .inl (f 280 (444 + 61 * C + 5)), .inl (5 : Int32), .inl c, .inr (.inr (.inl (76, 277)))] (fl_row f 280 (upd (f 280) (444 + 61 * C + 9) ((f 280 (444 + 61 * C + 9)) + (((((f 280 5) * (f 280 59)) / (1000 : Int32)) - (f 280 (444 + 61 * C + 9))) / (8 : Int32)))), l) _
  refine fl_Tq.stp (pc' := 62) (lv' := [some (.inr (.inr (.inl (76, 277)))), some (.inl c), none]) (st' := [.inl ((f 280 (444 + 61 * C + 5)) + (r_size_v (f 280 5))), .inl (5 : Int32), .inl c, .inr (.inr (.inl (76, 277)))]) (m' := (fl_row f 280 (upd (f 280) (444 + 61 * C + 9) ((f 280 (444 + 61 * C + 9)) + (((((f 280 5) * (f 280 59)) / (1000 : Int32)) - (f 280 (444 + 61 * C + 9))) / (8 : Int32)))), l)) rfl rfl (fl_bo rfl) rfl ?_
  refine fl_Tq.cal rfl rfl (fl_bo rfl) rfl ?_
  refine t2_let (C := C) (W := 5) (m' := (fl_row f 280 (upd (upd (f 280) (444 + 61 * C + 9) ((f 280 (444 + 61 * C + 9)) + (((((f 280 5) * (f 280 59)) / (1000 : Int32)) - (f 280 (444 + 61 * C + 9))) / (8 : Int32)))) (444 + 61 * C + 5) ((f 280 (444 + 61 * C + 5)) + (r_size_v (f 280 5)))), l)) hc (by decide +kernel) hC (by decide) (t2_upr) ?_
  show fl_Tq _ 217 65 [some (.inr (.inr (.inl (76, 277)))), some (.inl c), none] [] (fl_row f 280 (upd (upd (f 280) (444 + 61 * C + 9) ((f 280 (444 + 61 * C + 9)) + (((((f 280 5) * (f 280 59)) / (1000 : Int32)) - (f 280 (444 + 61 * C + 9))) / (8 : Int32)))) (444 + 61 * C + 5) ((f 280 (444 + 61 * C + 5)) + (r_size_v (f 280 5)))), l) _
  refine fl_Tq.cS (c := (3600 : Int32)) rfl (by decide +kernel) (fl_bo rfl) ?_
  refine fl_Tq.stp (pc' := 69) (lv' := [some (.inr (.inr (.inl (76, 277)))), some (.inl c), none]) (st' := [.inr (.inr (.inl (76, 277))), .inl (3600 : Int32)]) (m' := (fl_row f 280 (upd (upd (f 280) (444 + 61 * C + 9) ((f 280 (444 + 61 * C + 9)) + (((((f 280 5) * (f 280 59)) / (1000 : Int32)) - (f 280 (444 + 61 * C + 9))) / (8 : Int32)))) (444 + 61 * C + 5) ((f 280 (444 + 61 * C + 5)) + (r_size_v (f 280 5)))), l)) rfl rfl (fl_bo rfl) rfl ?_
  refine fl_Tq.cB (c := (24 : Int32)) rfl (by decide +kernel) (fl_bo rfl) ?_
  refine fl_Tq.cal rfl rfl (fl_bo rfl) rfl ?_
  refine t2_its (W := 24) (v := f 280 58) (by decide +kernel) (by decide) (by simp only [fl_row_self, upd_ne (by omega : 58 ≠ 444 + 61 * C + 5), upd_ne (by omega : 58 ≠ 444 + 61 * C + 9)]) ?_
  show fl_Tq _ 217 74 [some (.inr (.inr (.inl (76, 277)))), some (.inl c), none] [.inl (f 280 58), .inl (3600 : Int32)] (fl_row f 280 (upd (upd (f 280) (444 + 61 * C + 9) ((f 280 (444 + 61 * C + 9)) + (((((f 280 5) * (f 280 59)) / (1000 : Int32)) - (f 280 (444 + 61 * C + 9))) / (8 : Int32)))) (444 + 61 * C + 5) ((f 280 (444 + 61 * C + 5)) + (r_size_v (f 280 5)))), l) _
  refine fl_Tq.stp (pc' := 75) (lv' := [some (.inr (.inr (.inl (76, 277)))), some (.inl c), none]) (st' := [.inl ((3600 : Int32) * (f 280 58))]) (m' := (fl_row f 280 (upd (upd (f 280) (444 + 61 * C + 9) ((f 280 (444 + 61 * C + 9)) + (((((f 280 5) * (f 280 59)) / (1000 : Int32)) - (f 280 (444 + 61 * C + 9))) / (8 : Int32)))) (444 + 61 * C + 5) ((f 280 (444 + 61 * C + 5)) + (r_size_v (f 280 5)))), l)) rfl rfl (fl_bo rfl) rfl ?_
  refine fl_Tq.stp (pc' := 76) (lv' := [some (.inr (.inr (.inl (76, 277)))), some (.inl c), some (.inl ((3600 : Int32) * (f 280 58)))]) (st' := []) (m' := (fl_row f 280 (upd (upd (f 280) (444 + 61 * C + 9) ((f 280 (444 + 61 * C + 9)) + (((((f 280 5) * (f 280 59)) / (1000 : Int32)) - (f 280 (444 + 61 * C + 9))) / (8 : Int32)))) (444 + 61 * C + 5) ((f 280 (444 + 61 * C + 5)) + (r_size_v (f 280 5)))), l)) rfl rfl (fl_bo rfl) rfl ?_
  refine t2_wh (g := (fun f' => r_goOld_g76 f' c C ((3600 : Int32) * (f 280 58)))) (I := (fun _ => True)) (μ := (fun f => (f 280 (444 + 61 * C + 5)).toInt.toNat)) (S := fun f' => fl_Tq (pw_P L xs) 217 76 [some (.inr (.inr (.inl (76, 277)))), some (.inl c), some (.inl ((3600 : Int32) * (f 280 58)))] [] (f', l) Q) (E := fun f' => fl_Tq (pw_P L xs) 217 137 [some (.inr (.inr (.inl (76, 277)))), some (.inl c), some (.inl ((3600 : Int32) * (f 280 58)))] [] (f', l) Q) (fun f f' _ e => ⟨True.intro, r_goOld_dec hb e⟩) (fun f' hI k0 k1 => r_goOld_g76_q hc hC k0 k1) 2147483647 _ True.intro (t2_tn _) ?_
  show fl_Tq _ 217 137 [some (.inr (.inr (.inl (76, 277)))), some (.inl c), some (.inl ((3600 : Int32) * (f 280 58)))] [] (t2_wf (fun f' => r_goOld_g76 f' c C ((3600 : Int32) * (f 280 58))) 2147483647 (fl_row f 280 (upd (upd (f 280) (444 + 61 * C + 9) ((f 280 (444 + 61 * C + 9)) + (((((f 280 5) * (f 280 59)) / (1000 : Int32)) - (f 280 (444 + 61 * C + 9))) / (8 : Int32)))) (444 + 61 * C + 5) ((f 280 (444 + 61 * C + 5)) + (r_size_v (f 280 5))))), l) _
  refine fl_Tq.stp (pc' := 138) (lv' := [some (.inr (.inr (.inl (76, 277)))), some (.inl c), some (.inl ((3600 : Int32) * (f 280 58)))]) (st' := [.inr (.inr (.inl (76, 277)))]) (m' := (t2_wf (fun f' => r_goOld_g76 f' c C ((3600 : Int32) * (f 280 58))) 2147483647 (fl_row f 280 (upd (upd (f 280) (444 + 61 * C + 9) ((f 280 (444 + 61 * C + 9)) + (((((f 280 5) * (f 280 59)) / (1000 : Int32)) - (f 280 (444 + 61 * C + 9))) / (8 : Int32)))) (444 + 61 * C + 5) ((f 280 (444 + 61 * C + 5)) + (r_size_v (f 280 5))))), l)) rfl rfl (fl_bo rfl) rfl ?_
  refine fl_Tq.stp (pc' := 139) (lv' := [some (.inr (.inr (.inl (76, 277)))), some (.inl c), some (.inl ((3600 : Int32) * (f 280 58)))]) (st' := [.inl c, .inr (.inr (.inl (76, 277)))]) (m' := (t2_wf (fun f' => r_goOld_g76 f' c C ((3600 : Int32) * (f 280 58))) 2147483647 (fl_row f 280 (upd (upd (f 280) (444 + 61 * C + 9) ((f 280 (444 + 61 * C + 9)) + (((((f 280 5) * (f 280 59)) / (1000 : Int32)) - (f 280 (444 + 61 * C + 9))) / (8 : Int32)))) (444 + 61 * C + 5) ((f 280 (444 + 61 * C + 5)) + (r_size_v (f 280 5))))), l)) rfl rfl (fl_bo rfl) rfl ?_
  refine fl_Tq.cI (c := (4 : Int32)) rfl (by decide +kernel) (fl_bo rfl) ?_
  refine fl_Tq.stp (pc' := 141) (lv' := [some (.inr (.inr (.inl (76, 277)))), some (.inl c), some (.inl ((3600 : Int32) * (f 280 58)))]) (st' := [.inr (.inr (.inl (76, 277))), .inl (4 : Int32), .inl c, .inr (.inr (.inl (76, 277)))]) (m' := (t2_wf (fun f' => r_goOld_g76 f' c C ((3600 : Int32) * (f 280 58))) 2147483647 (fl_row f 280 (upd (upd (f 280) (444 + 61 * C + 9) ((f 280 (444 + 61 * C + 9)) + (((((f 280 5) * (f 280 59)) / (1000 : Int32)) - (f 280 (444 + 61 * C + 9))) / (8 : Int32)))) (444 + 61 * C + 5) ((f 280 (444 + 61 * C + 5)) + (r_size_v (f 280 5))))), l)) rfl rfl (fl_bo rfl) rfl ?_
  refine fl_Tq.stp (pc' := 142) (lv' := [some (.inr (.inr (.inl (76, 277)))), some (.inl c), some (.inl ((3600 : Int32) * (f 280 58)))]) (st' := [.inl c, .inr (.inr (.inl (76, 277))), .inl (4 : Int32), .inl c, .inr (.inr (.inl (76, 277)))]) (m' := (t2_wf (fun f' => r_goOld_g76 f' c C ((3600 : Int32) * (f 280 58))) 2147483647 (fl_row f 280 (upd (upd (f 280) (444 + 61 * C + 9) ((f 280 (444 + 61 * C + 9)) + (((((f 280 5) * (f 280 59)) / (1000 : Int32)) - (f 280 (444 + 61 * C + 9))) / (8 : Int32)))) (444 + 61 * C + 5) ((f 280 (444 + 61 * C + 5)) + (r_size_v (f 280 5))))), l)) rfl rfl (fl_bo rfl) rfl ?_
  refine fl_Tq.cI (c := (4 : Int32)) rfl (by decide +kernel) (fl_bo rfl) ?_
  refine fl_Tq.cal rfl rfl (fl_bo rfl) rfl ?_
  refine t2_get (C := C) (W := 4) (v := (t2_wf (fun f' => r_goOld_g76 f' c C ((3600 : Int32) * (f 280 58))) 2147483647 (fl_row f 280 (upd (upd (f 280) (444 + 61 * C + 9) ((f 280 (444 + 61 * C + 9)) + (((((f 280 5) * (f 280 59)) / (1000 : Int32)) - (f 280 (444 + 61 * C + 9))) / (8 : Int32)))) (444 + 61 * C + 5) ((f 280 (444 + 61 * C + 5)) + (r_size_v (f 280 5)))))) 280 (444 + 61 * C + 4)) hc (by decide +kernel) hC (by decide) rfl ?_
  show fl_Tq _ 217 146 [some (.inr (.inr (.inl (76, 277)))), some (.inl c), some (.inl ((3600 : Int32) * (f 280 58)))] [.inl ((t2_wf (fun f' => r_goOld_g76 f' c C ((3600 : Int32) * (f 280 58))) 2147483647 (fl_row f 280 (upd (upd (f 280) (444 + 61 * C + 9) ((f 280 (444 + 61 * C + 9)) + (((((f 280 5) * (f 280 59)) / (1000 : Int32)) - (f 280 (444 + 61 * C + 9))) / (8 : Int32)))) (444 + 61 * C + 5) ((f 280 (444 + 61 * C + 5)) + (r_size_v (f 280 5)))))) 280 (444 + 61 * C + 4)), .inl (4 : Int32), .inl c, .inr (.inr (.inl (76, 277)))] (t2_wf (fun f' => r_goOld_g76 f' c C ((3600 : Int32) * (f 280 58))) 2147483647 (fl_row f 280 (upd (upd (f 280) (444 + 61 * C + 9) ((f 280 (444 + 61 * C + 9)) + (((((f 280 5) * (f 280 59)) / (1000 : Int32)) - (f 280 (444 + 61 * C + 9))) / (8 : Int32)))) (444 + 61 * C + 5) ((f 280 (444 + 61 * C + 5)) + (r_size_v (f 280 5))))), l) _
  refine fl_Tq.stp (pc' := 147) (lv' := [some (.inr (.inr (.inl (76, 277)))), some (.inl c), some (.inl ((3600 : Int32) * (f 280 58)))]) (st' := [.inr (.inr (.inl (76, 277))), .inl ((t2_wf (fun f' => r_goOld_g76 f' c C ((3600 : Int32) * (f 280 58))) 2147483647 (fl_row f 280 (upd (upd (f 280) (444 + 61 * C + 9) ((f 280 (444 + 61 * C + 9)) + (((((f 280 5) * (f 280 59)) / (1000 : Int32)) - (f 280 (444 + 61 * C + 9))) / (8 : Int32)))) (444 + 61 * C + 5) ((f 280 (444 + 61 * C + 5)) + (r_size_v (f 280 5)))))) 280 (444 + 61 * C + 4)), .inl (4 : Int32), .inl c, .inr (.inr (.inl (76, 277)))]) (m' := (t2_wf (fun f' => r_goOld_g76 f' c C ((3600 : Int32) * (f 280 58))) 2147483647 (fl_row f 280 (upd (upd (f 280) (444 + 61 * C + 9) ((f 280 (444 + 61 * C + 9)) + (((((f 280 5) * (f 280 59)) / (1000 : Int32)) - (f 280 (444 + 61 * C + 9))) / (8 : Int32)))) (444 + 61 * C + 5) ((f 280 (444 + 61 * C + 5)) + (r_size_v (f 280 5))))), l)) rfl rfl (fl_bo rfl) rfl ?_
  refine fl_Tq.stp (pc' := 150) (lv' := [some (.inr (.inr (.inl (76, 277)))), some (.inl c), some (.inl ((3600 : Int32) * (f 280 58)))]) (st' := [.inr (.inr (.inl (79, 280))), .inl ((t2_wf (fun f' => r_goOld_g76 f' c C ((3600 : Int32) * (f 280 58))) 2147483647 (fl_row f 280 (upd (upd (f 280) (444 + 61 * C + 9) ((f 280 (444 + 61 * C + 9)) + (((((f 280 5) * (f 280 59)) / (1000 : Int32)) - (f 280 (444 + 61 * C + 9))) / (8 : Int32)))) (444 + 61 * C + 5) ((f 280 (444 + 61 * C + 5)) + (r_size_v (f 280 5)))))) 280 (444 + 61 * C + 4)), .inl (4 : Int32), .inl c, .inr (.inr (.inl (76, 277)))]) (m' := (t2_wf (fun f' => r_goOld_g76 f' c C ((3600 : Int32) * (f 280 58))) 2147483647 (fl_row f 280 (upd (upd (f 280) (444 + 61 * C + 9) ((f 280 (444 + 61 * C + 9)) + (((((f 280 5) * (f 280 59)) / (1000 : Int32)) - (f 280 (444 + 61 * C + 9))) / (8 : Int32)))) (444 + 61 * C + 5) ((f 280 (444 + 61 * C + 5)) + (r_size_v (f 280 5))))), l)) rfl rfl (fl_bo rfl) rfl ?_
  refine fl_Tq.cI (c := (5 : Int32)) rfl (by decide +kernel) (fl_bo rfl) ?_
  refine fl_Tq.ldV (p := 280) (τ := 79) (n := 29780) (z := (0, 0, 0)) (k := 5) (v := f 280 5) rfl (fl_bo rfl) rfl (by decide +kernel) (by decide) (by simp only [r_goOld_ww (w := 5) (by omega : 5 ≠ 444 + 61 * C + 0) (by omega : 5 ≠ 444 + 61 * C + 1) (by omega : 5 ≠ 444 + 61 * C + 4) (by omega : 5 ≠ 444 + 61 * C + 5), fl_row_self, upd_ne (by omega : 5 ≠ 444 + 61 * C + 5), upd_ne (by omega : 5 ≠ 444 + 61 * C + 9)]) ?_
  refine fl_Tq.stp (pc' := 153) (lv' := [some (.inr (.inr (.inl (76, 277)))), some (.inl c), some (.inl ((3600 : Int32) * (f 280 58)))]) (st' := [.inl (((t2_wf (fun f' => r_goOld_g76 f' c C ((3600 : Int32) * (f 280 58))) 2147483647 (fl_row f 280 (upd (upd (f 280) (444 + 61 * C + 9) ((f 280 (444 + 61 * C + 9)) + (((((f 280 5) * (f 280 59)) / (1000 : Int32)) - (f 280 (444 + 61 * C + 9))) / (8 : Int32)))) (444 + 61 * C + 5) ((f 280 (444 + 61 * C + 5)) + (r_size_v (f 280 5)))))) 280 (444 + 61 * C + 4)) + (f 280 5)), .inl (4 : Int32), .inl c, .inr (.inr (.inl (76, 277)))]) (m' := (t2_wf (fun f' => r_goOld_g76 f' c C ((3600 : Int32) * (f 280 58))) 2147483647 (fl_row f 280 (upd (upd (f 280) (444 + 61 * C + 9) ((f 280 (444 + 61 * C + 9)) + (((((f 280 5) * (f 280 59)) / (1000 : Int32)) - (f 280 (444 + 61 * C + 9))) / (8 : Int32)))) (444 + 61 * C + 5) ((f 280 (444 + 61 * C + 5)) + (r_size_v (f 280 5))))), l)) rfl rfl (fl_bo rfl) rfl ?_
  refine fl_Tq.stp (pc' := 154) (lv' := [some (.inr (.inr (.inl (76, 277)))), some (.inl c), some (.inl ((3600 : Int32) * (f 280 58)))]) (st' := [.inr (.inr (.inl (76, 277))), .inl (((t2_wf (fun f' => r_goOld_g76 f' c C ((3600 : Int32) * (f 280 58))) 2147483647 (fl_row f 280 (upd (upd (f 280) (444 + 61 * C + 9) ((f 280 (444 + 61 * C + 9)) + (((((f 280 5) * (f 280 59)) / (1000 : Int32)) - (f 280 (444 + 61 * C + 9))) / (8 : Int32)))) (444 + 61 * C + 5) ((f 280 (444 + 61 * C + 5)) + (r_size_v (f 280 5)))))) 280 (444 + 61 * C + 4)) + (f 280 5)), .inl (4 : Int32), .inl c, .inr (.inr (.inl (76, 277)))]) (m' := (t2_wf (fun f' => r_goOld_g76 f' c C ((3600 : Int32) * (f 280 58))) 2147483647 (fl_row f 280 (upd (upd (f 280) (444 + 61 * C + 9) ((f 280 (444 + 61 * C + 9)) + (((((f 280 5) * (f 280 59)) / (1000 : Int32)) - (f 280 (444 + 61 * C + 9))) / (8 : Int32)))) (444 + 61 * C + 5) ((f 280 (444 + 61 * C + 5)) + (r_size_v (f 280 5))))), l)) rfl rfl (fl_bo rfl) rfl ?_
  refine fl_Tq.cB (c := (18 : Int32)) rfl (by decide +kernel) (fl_bo rfl) ?_
  refine fl_Tq.cal rfl rfl (fl_bo rfl) rfl ?_
  refine t2_its (W := 18) (v := f 280 52) (by decide +kernel) (by decide) (by simp only [r_goOld_ww (w := 52) (by omega : 52 ≠ 444 + 61 * C + 0) (by omega : 52 ≠ 444 + 61 * C + 1) (by omega : 52 ≠ 444 + 61 * C + 4) (by omega : 52 ≠ 444 + 61 * C + 5), fl_row_self, upd_ne (by omega : 52 ≠ 444 + 61 * C + 5), upd_ne (by omega : 52 ≠ 444 + 61 * C + 9)]) ?_
  show fl_Tq _ 217 159 [some (.inr (.inr (.inl (76, 277)))), some (.inl c), some (.inl ((3600 : Int32) * (f 280 58)))] [.inl (f 280 52), .inl (((t2_wf (fun f' => r_goOld_g76 f' c C ((3600 : Int32) * (f 280 58))) 2147483647 (fl_row f 280 (upd (upd (f 280) (444 + 61 * C + 9) ((f 280 (444 + 61 * C + 9)) + (((((f 280 5) * (f 280 59)) / (1000 : Int32)) - (f 280 (444 + 61 * C + 9))) / (8 : Int32)))) (444 + 61 * C + 5) ((f 280 (444 + 61 * C + 5)) + (r_size_v (f 280 5)))))) 280 (444 + 61 * C + 4)) + (f 280 5)), .inl (4 : Int32), .inl c, .inr (.inr (.inl (76, 277)))] (t2_wf (fun f' => r_goOld_g76 f' c C ((3600 : Int32) * (f 280 58))) 2147483647 (fl_row f 280 (upd (upd (f 280) (444 + 61 * C + 9) ((f 280 (444 + 61 * C + 9)) + (((((f 280 5) * (f 280 59)) / (1000 : Int32)) - (f 280 (444 + 61 * C + 9))) / (8 : Int32)))) (444 + 61 * C + 5) ((f 280 (444 + 61 * C + 5)) + (r_size_v (f 280 5))))), l) _
  refine fl_Tq.stp (pc' := 160) (lv' := [some (.inr (.inr (.inl (76, 277)))), some (.inl c), some (.inl ((3600 : Int32) * (f 280 58)))]) (st' := [.inl ((((t2_wf (fun f' => r_goOld_g76 f' c C ((3600 : Int32) * (f 280 58))) 2147483647 (fl_row f 280 (upd (upd (f 280) (444 + 61 * C + 9) ((f 280 (444 + 61 * C + 9)) + (((((f 280 5) * (f 280 59)) / (1000 : Int32)) - (f 280 (444 + 61 * C + 9))) / (8 : Int32)))) (444 + 61 * C + 5) ((f 280 (444 + 61 * C + 5)) + (r_size_v (f 280 5)))))) 280 (444 + 61 * C + 4)) + (f 280 5)) + (f 280 52)), .inl (4 : Int32), .inl c, .inr (.inr (.inl (76, 277)))]) (m' := (t2_wf (fun f' => r_goOld_g76 f' c C ((3600 : Int32) * (f 280 58))) 2147483647 (fl_row f 280 (upd (upd (f 280) (444 + 61 * C + 9) ((f 280 (444 + 61 * C + 9)) + (((((f 280 5) * (f 280 59)) / (1000 : Int32)) - (f 280 (444 + 61 * C + 9))) / (8 : Int32)))) (444 + 61 * C + 5) ((f 280 (444 + 61 * C + 5)) + (r_size_v (f 280 5))))), l)) rfl rfl (fl_bo rfl) rfl ?_
  refine fl_Tq.cal rfl rfl (fl_bo rfl) rfl ?_
  refine t2_let (C := C) (W := 4) (m' := (fl_row (t2_wf (fun f' => r_goOld_g76 f' c C ((3600 : Int32) * (f 280 58))) 2147483647 (fl_row f 280 (upd (upd (f 280) (444 + 61 * C + 9) ((f 280 (444 + 61 * C + 9)) + (((((f 280 5) * (f 280 59)) / (1000 : Int32)) - (f 280 (444 + 61 * C + 9))) / (8 : Int32)))) (444 + 61 * C + 5) ((f 280 (444 + 61 * C + 5)) + (r_size_v (f 280 5)))))) 280 (upd ((t2_wf (fun f' => r_goOld_g76 f' c C ((3600 : Int32) * (f 280 58))) 2147483647 (fl_row f 280 (upd (upd (f 280) (444 + 61 * C + 9) ((f 280 (444 + 61 * C + 9)) + (((((f 280 5) * (f 280 59)) / (1000 : Int32)) - (f 280 (444 + 61 * C + 9))) / (8 : Int32)))) (444 + 61 * C + 5) ((f 280 (444 + 61 * C + 5)) + (r_size_v (f 280 5)))))) 280) (444 + 61 * C + 4) ((((t2_wf (fun f' => r_goOld_g76 f' c C ((3600 : Int32) * (f 280 58))) 2147483647 (fl_row f 280 (upd (upd (f 280) (444 + 61 * C + 9) ((f 280 (444 + 61 * C + 9)) + (((((f 280 5) * (f 280 59)) / (1000 : Int32)) - (f 280 (444 + 61 * C + 9))) / (8 : Int32)))) (444 + 61 * C + 5) ((f 280 (444 + 61 * C + 5)) + (r_size_v (f 280 5)))))) 280 (444 + 61 * C + 4)) + (f 280 5)) + (f 280 52))), l)) hc (by decide +kernel) hC (by decide) (t2_upn rfl) ?_
  show fl_Tq _ 217 163 [some (.inr (.inr (.inl (76, 277)))), some (.inl c), some (.inl ((3600 : Int32) * (f 280 58)))] [] (fl_row (t2_wf (fun f' => r_goOld_g76 f' c C ((3600 : Int32) * (f 280 58))) 2147483647 (fl_row f 280 (upd (upd (f 280) (444 + 61 * C + 9) ((f 280 (444 + 61 * C + 9)) + (((((f 280 5) * (f 280 59)) / (1000 : Int32)) - (f 280 (444 + 61 * C + 9))) / (8 : Int32)))) (444 + 61 * C + 5) ((f 280 (444 + 61 * C + 5)) + (r_size_v (f 280 5)))))) 280 (upd ((t2_wf (fun f' => r_goOld_g76 f' c C ((3600 : Int32) * (f 280 58))) 2147483647 (fl_row f 280 (upd (upd (f 280) (444 + 61 * C + 9) ((f 280 (444 + 61 * C + 9)) + (((((f 280 5) * (f 280 59)) / (1000 : Int32)) - (f 280 (444 + 61 * C + 9))) / (8 : Int32)))) (444 + 61 * C + 5) ((f 280 (444 + 61 * C + 5)) + (r_size_v (f 280 5)))))) 280) (444 + 61 * C + 4) ((((t2_wf (fun f' => r_goOld_g76 f' c C ((3600 : Int32) * (f 280 58))) 2147483647 (fl_row f 280 (upd (upd (f 280) (444 + 61 * C + 9) ((f 280 (444 + 61 * C + 9)) + (((((f 280 5) * (f 280 59)) / (1000 : Int32)) - (f 280 (444 + 61 * C + 9))) / (8 : Int32)))) (444 + 61 * C + 5) ((f 280 (444 + 61 * C + 5)) + (r_size_v (f 280 5)))))) 280 (444 + 61 * C + 4)) + (f 280 5)) + (f 280 52))), l) _
  refine fl_Tq.stp (pc' := 164) (lv' := [some (.inr (.inr (.inl (76, 277)))), some (.inl c), some (.inl ((3600 : Int32) * (f 280 58)))]) (st' := [.inr (.inr (.inl (76, 277)))]) (m' := (fl_row (t2_wf (fun f' => r_goOld_g76 f' c C ((3600 : Int32) * (f 280 58))) 2147483647 (fl_row f 280 (upd (upd (f 280) (444 + 61 * C + 9) ((f 280 (444 + 61 * C + 9)) + (((((f 280 5) * (f 280 59)) / (1000 : Int32)) - (f 280 (444 + 61 * C + 9))) / (8 : Int32)))) (444 + 61 * C + 5) ((f 280 (444 + 61 * C + 5)) + (r_size_v (f 280 5)))))) 280 (upd ((t2_wf (fun f' => r_goOld_g76 f' c C ((3600 : Int32) * (f 280 58))) 2147483647 (fl_row f 280 (upd (upd (f 280) (444 + 61 * C + 9) ((f 280 (444 + 61 * C + 9)) + (((((f 280 5) * (f 280 59)) / (1000 : Int32)) - (f 280 (444 + 61 * C + 9))) / (8 : Int32)))) (444 + 61 * C + 5) ((f 280 (444 + 61 * C + 5)) + (r_size_v (f 280 5)))))) 280) (444 + 61 * C + 4) ((((t2_wf (fun f' => r_goOld_g76 f' c C ((3600 : Int32) * (f 280 58))) 2147483647 (fl_row f 280 (upd (upd (f 280) (444 + 61 * C + 9) ((f 280 (444 + 61 * C + 9)) + (((((f 280 5) * (f 280 59)) / (1000 : Int32)) - (f 280 (444 + 61 * C + 9))) / (8 : Int32)))) (444 + 61 * C + 5) ((f 280 (444 + 61 * C + 5)) + (r_size_v (f 280 5)))))) 280 (444 + 61 * C + 4)) + (f 280 5)) + (f 280 52))), l)) rfl rfl (fl_bo rfl) rfl ?_
  refine fl_Tq.stp (pc' := 165) (lv' := [some (.inr (.inr (.inl (76, 277)))), some (.inl c), some (.inl ((3600 : Int32) * (f 280 58)))]) (st' := [.inl c, .inr (.inr (.inl (76, 277)))]) (m' := (fl_row (t2_wf (fun f' => r_goOld_g76 f' c C ((3600 : Int32) * (f 280 58))) 2147483647 (fl_row f 280 (upd (upd (f 280) (444 + 61 * C + 9) ((f 280 (444 + 61 * C + 9)) + (((((f 280 5) * (f 280 59)) / (1000 : Int32)) - (f 280 (444 + 61 * C + 9))) / (8 : Int32)))) (444 + 61 * C + 5) ((f 280 (444 + 61 * C + 5)) + (r_size_v (f 280 5)))))) 280 (upd ((t2_wf (fun f' => r_goOld_g76 f' c C ((3600 : Int32) * (f 280 58))) 2147483647 (fl_row f 280 (upd (upd (f 280) (444 + 61 * C + 9) ((f 280 (444 + 61 * C + 9)) + (((((f 280 5) * (f 280 59)) / (1000 : Int32)) - (f 280 (444 + 61 * C + 9))) / (8 : Int32)))) (444 + 61 * C + 5) ((f 280 (444 + 61 * C + 5)) + (r_size_v (f 280 5)))))) 280) (444 + 61 * C + 4) ((((t2_wf (fun f' => r_goOld_g76 f' c C ((3600 : Int32) * (f 280 58))) 2147483647 (fl_row f 280 (upd (upd (f 280) (444 + 61 * C + 9) ((f 280 (444 + 61 * C + 9)) + (((((f 280 5) * (f 280 59)) / (1000 : Int32)) - (f 280 (444 + 61 * C + 9))) / (8 : Int32)))) (444 + 61 * C + 5) ((f 280 (444 + 61 * C + 5)) + (r_size_v (f 280 5)))))) 280 (444 + 61 * C + 4)) + (f 280 5)) + (f 280 52))), l)) rfl rfl (fl_bo rfl) rfl ?_
  refine fl_Tq.cal rfl rfl (fl_bo rfl) rfl ?_
  refine r_hold_q hc hC ?_
  show fl_Tq _ 217 168 [some (.inr (.inr (.inl (76, 277)))), some (.inl c), some (.inl ((3600 : Int32) * (f 280 58)))] [] (r_hold_m (fl_row (t2_wf (fun f' => r_goOld_g76 f' c C ((3600 : Int32) * (f 280 58))) 2147483647 (fl_row f 280 (upd (upd (f 280) (444 + 61 * C + 9) ((f 280 (444 + 61 * C + 9)) + (((((f 280 5) * (f 280 59)) / (1000 : Int32)) - (f 280 (444 + 61 * C + 9))) / (8 : Int32)))) (444 + 61 * C + 5) ((f 280 (444 + 61 * C + 5)) + (r_size_v (f 280 5)))))) 280 (upd ((t2_wf (fun f' => r_goOld_g76 f' c C ((3600 : Int32) * (f 280 58))) 2147483647 (fl_row f 280 (upd (upd (f 280) (444 + 61 * C + 9) ((f 280 (444 + 61 * C + 9)) + (((((f 280 5) * (f 280 59)) / (1000 : Int32)) - (f 280 (444 + 61 * C + 9))) / (8 : Int32)))) (444 + 61 * C + 5) ((f 280 (444 + 61 * C + 5)) + (r_size_v (f 280 5)))))) 280) (444 + 61 * C + 4) ((((t2_wf (fun f' => r_goOld_g76 f' c C ((3600 : Int32) * (f 280 58))) 2147483647 (fl_row f 280 (upd (upd (f 280) (444 + 61 * C + 9) ((f 280 (444 + 61 * C + 9)) + (((((f 280 5) * (f 280 59)) / (1000 : Int32)) - (f 280 (444 + 61 * C + 9))) / (8 : Int32)))) (444 + 61 * C + 5) ((f 280 (444 + 61 * C + 5)) + (r_size_v (f 280 5)))))) 280 (444 + 61 * C + 4)) + (f 280 5)) + (f 280 52)))) c C, l) _
  exact fl_Tq.ret rfl rfl rfl k
noncomputable def r_goCells_b2_m (f : t2_F) (k : Nat) : t2_F := r_goWarm_m f (Int32.ofNat k) k
theorem r_goCells_b2_fr {f : t2_F} {k : Nat} {p : Nat}  (e280 : p ≠ 280) : r_goCells_b2_m f k p = f p := by
  unfold r_goCells_b2_m
  repeat' split
  all_goals first | rfl | simp only [fl_row_ne e280, r_goWarm_fr e280]
theorem r_goCells_b2_w {f : t2_F} {k : Nat} {w : Nat} (e0 : w ≠ 444 + 61 * k + 1) (e1 : w ≠ 444 + 61 * k + 3) : r_goCells_b2_m f k 280 w = f 280 w := by
  unfold r_goCells_b2_m
  repeat' split
  all_goals first | rfl | simp only [fl_row_self, upd_ne e0, upd_ne e1, r_goWarm_w e0 e1]
theorem r_goCells_b2_q {L : Nat} {xs : Nat → Int32} {f : t2_F} {l : t2_L} {Q : Option fl_V → fl_M → Prop} {k : Nat} {n : Nat} (hkn : k < n) (hb : (f 280 2).toInt = (n : Int)) (h16 : n ≤ 16) (hS : fl_Tq (pw_P L xs) 218 2 [some (.inr (.inr (.inl (76, 277)))), some (.inl (Int32.ofNat (k + 1)))] [] (r_goCells_b2_m f k, l) Q) : fl_Tq (pw_P L xs) 218 2 [some (.inr (.inr (.inl (76, 277)))), some (.inl (Int32.ofNat k))] [] (f, l) Q := by
  refine fl_Tq.stp (pc' := 3) (lv' := [some (.inr (.inr (.inl (76, 277)))), some (.inl (Int32.ofNat k))]) (st' := [.inl (Int32.ofNat k)]) (m' := (f, l)) rfl rfl (fl_bo rfl) rfl ?_
  refine fl_Tq.stp (pc' := 4) (lv' := [some (.inr (.inr (.inl (76, 277)))), some (.inl (Int32.ofNat k))]) (st' := [.inr (.inr (.inl (76, 277))), .inl (Int32.ofNat k)]) (m' := (f, l)) rfl rfl (fl_bo rfl) rfl ?_
  refine fl_Tq.stp (pc' := 7) (lv' := [some (.inr (.inr (.inl (76, 277)))), some (.inl (Int32.ofNat k))]) (st' := [.inr (.inr (.inl (79, 280))), .inl (Int32.ofNat k)]) (m' := (f, l)) rfl rfl (fl_bo rfl) rfl ?_
  refine fl_Tq.cI (c := (2 : Int32)) rfl (by decide +kernel) (fl_bo rfl) ?_
  refine fl_Tq.ldV (p := 280) (τ := 79) (n := 29780) (z := (0, 0, 0)) (k := 2) (v := f 280 2) rfl (fl_bo rfl) rfl (by decide +kernel) (by decide) rfl ?_
  refine fl_Tq.jf rfl (fl_bo rfl) (c2_ge_f (t2_lk hkn hb)) rfl ?_
  refine fl_Tq.stp (pc' := 13) (lv' := [some (.inr (.inr (.inl (76, 277)))), some (.inl (Int32.ofNat k))]) (st' := [.inr (.inr (.inl (76, 277)))]) (m' := (f, l)) rfl rfl (fl_bo rfl) rfl ?_
  refine fl_Tq.stp (pc' := 14) (lv' := [some (.inr (.inr (.inl (76, 277)))), some (.inl (Int32.ofNat k))]) (st' := [.inl (Int32.ofNat k), .inr (.inr (.inl (76, 277)))]) (m' := (f, l)) rfl rfl (fl_bo rfl) rfl ?_
  refine fl_Tq.cal rfl rfl (fl_bo rfl) rfl ?_
  refine r_goWarm_q (at_ofN (by omega)) (by omega) ?_
  show fl_Tq _ 218 17 [some (.inr (.inr (.inl (76, 277)))), some (.inl (Int32.ofNat k))] [] (r_goWarm_m f (Int32.ofNat k) k, l) _
  refine fl_Tq.stp (pc' := 20) (lv' := [some (.inr (.inr (.inl (76, 277)))), some (.inl ((Int32.ofNat k) + (1 : Int32)))]) (st' := []) (m' := (r_goWarm_m f (Int32.ofNat k) k, l)) rfl rfl (fl_bo rfl) rfl ?_
  refine fl_Tq.stp (pc' := 2) (lv' := [some (.inr (.inr (.inl (76, 277)))), some (.inl ((Int32.ofNat k) + (1 : Int32)))]) (st' := []) (m' := (r_goWarm_m f (Int32.ofNat k) k, l)) rfl rfl (fl_bo rfl) rfl ?_
  have em : r_goCells_b2_m f k = r_goWarm_m f (Int32.ofNat k) k := rfl
  rw [em, ← t2_k1] at hS
  exact hS
noncomputable def r_goCells_f2 (f : t2_F)  : Nat → t2_F
  | 0 => f
  | k + 1 => r_goCells_b2_m (r_goCells_f2 f k) k
theorem r_goCells_f2_fr {f : t2_F}  {p : Nat} : ∀ {k : Nat}  (e280 : p ≠ 280), r_goCells_f2 f k p = f p := by
  intro k
  induction k with
  | zero => intros; rfl
  | succ k ih =>
    intro  e280
    exact (r_goCells_b2_fr  e280).trans (ih  e280)
theorem r_goCells_f2_w {f : t2_F}  {w : Nat} : ∀ {k : Nat} (e0 : ∀ j : Nat, j < k → w ≠ 444 + 61 * j + 1) (e1 : ∀ j : Nat, j < k → w ≠ 444 + 61 * j + 3), r_goCells_f2 f k 280 w = f 280 w := by
  intro k
  induction k with
  | zero => intros; rfl
  | succ k ih =>
    intro e0 e1
    exact (r_goCells_b2_w (e0 k (by omega)) (e1 k (by omega))).trans (ih (fun j hj => e0 j (by omega)) (fun j hj => e1 j (by omega)))
noncomputable def r_goCells_b25_m (f : t2_F) (k : Nat) : t2_F := r_touch_m f (Int32.ofNat k) k
theorem r_goCells_b25_fr {f : t2_F} {k : Nat} {p : Nat}  (e280 : p ≠ 280) : r_goCells_b25_m f k p = f p := by
  unfold r_goCells_b25_m
  repeat' split
  all_goals first | rfl | simp only [fl_row_ne e280, r_touch_fr e280]
theorem r_goCells_b25_w {f : t2_F} {k : Nat} {w : Nat} (e0 : w ≠ 444 + 61 * k + 3) (e1 : w ≠ 444 + 61 * (k + 1) + 3) : r_goCells_b25_m f k 280 w = f 280 w := by
  unfold r_goCells_b25_m
  repeat' split
  all_goals first | rfl | simp only [fl_row_self, upd_ne e0, upd_ne e1, r_touch_w e0 e1]
theorem r_goCells_b25_q {L : Nat} {xs : Nat → Int32} {f : t2_F} {l : t2_L} {Q : Option fl_V → fl_M → Prop} {k : Nat} {n : Nat} (hkn : k < n) (hb : (n : Int) = max ((f 280 2).toInt - 1) 0) (h16 : n ≤ 15) (hS : fl_Tq (pw_P L xs) 218 25 [some (.inr (.inr (.inl (76, 277)))), some (.inl (Int32.ofNat (k + 1)))] [] (r_goCells_b25_m f k, l) Q) : fl_Tq (pw_P L xs) 218 25 [some (.inr (.inr (.inl (76, 277)))), some (.inl (Int32.ofNat k))] [] (f, l) Q := by
  refine fl_Tq.stp (pc' := 26) (lv' := [some (.inr (.inr (.inl (76, 277)))), some (.inl (Int32.ofNat k))]) (st' := [.inl (Int32.ofNat k)]) (m' := (f, l)) rfl rfl (fl_bo rfl) rfl ?_
  refine fl_Tq.cI (c := (1 : Int32)) rfl (by decide +kernel) (fl_bo rfl) ?_
  refine fl_Tq.stp (pc' := 28) (lv' := [some (.inr (.inr (.inl (76, 277)))), some (.inl (Int32.ofNat k))]) (st' := [.inl ((Int32.ofNat k) + (1 : Int32))]) (m' := (f, l)) rfl rfl (fl_bo rfl) rfl ?_
  refine fl_Tq.stp (pc' := 29) (lv' := [some (.inr (.inr (.inl (76, 277)))), some (.inl (Int32.ofNat k))]) (st' := [.inr (.inr (.inl (76, 277))), .inl ((Int32.ofNat k) + (1 : Int32))]) (m' := (f, l)) rfl rfl (fl_bo rfl) rfl ?_
  refine fl_Tq.stp (pc' := 32) (lv' := [some (.inr (.inr (.inl (76, 277)))), some (.inl (Int32.ofNat k))]) (st' := [.inr (.inr (.inl (79, 280))), .inl ((Int32.ofNat k) + (1 : Int32))]) (m' := (f, l)) rfl rfl (fl_bo rfl) rfl ?_
  refine fl_Tq.cI (c := (2 : Int32)) rfl (by decide +kernel) (fl_bo rfl) ?_
  refine fl_Tq.ldV (p := 280) (τ := 79) (n := 29780) (z := (0, 0, 0)) (k := 2) (v := f 280 2) rfl (fl_bo rfl) rfl (by decide +kernel) (by decide) rfl ?_
  refine fl_Tq.jf rfl (fl_bo rfl) (c2_ge_f (by have e1 : (1 : Int32).toInt = 1 := (by decide +kernel); have e2 : (Int32.ofNat k).toInt = ((k : Nat) : Int) := at_ofN (by omega); rw [at_add32] <;> rw [e2, e1] <;> omega)) rfl ?_
  refine fl_Tq.stp (pc' := 38) (lv' := [some (.inr (.inr (.inl (76, 277)))), some (.inl (Int32.ofNat k))]) (st' := [.inr (.inr (.inl (76, 277)))]) (m' := (f, l)) rfl rfl (fl_bo rfl) rfl ?_
  refine fl_Tq.stp (pc' := 39) (lv' := [some (.inr (.inr (.inl (76, 277)))), some (.inl (Int32.ofNat k))]) (st' := [.inl (Int32.ofNat k), .inr (.inr (.inl (76, 277)))]) (m' := (f, l)) rfl rfl (fl_bo rfl) rfl ?_
  refine fl_Tq.cal rfl rfl (fl_bo rfl) rfl ?_
  refine r_touch_q (at_ofN (by omega)) (by omega) (by omega) ?_
  show fl_Tq _ 218 42 [some (.inr (.inr (.inl (76, 277)))), some (.inl (Int32.ofNat k))] [] (r_touch_m f (Int32.ofNat k) k, l) _
  refine fl_Tq.stp (pc' := 45) (lv' := [some (.inr (.inr (.inl (76, 277)))), some (.inl ((Int32.ofNat k) + (1 : Int32)))]) (st' := []) (m' := (r_touch_m f (Int32.ofNat k) k, l)) rfl rfl (fl_bo rfl) rfl ?_
  refine fl_Tq.stp (pc' := 25) (lv' := [some (.inr (.inr (.inl (76, 277)))), some (.inl ((Int32.ofNat k) + (1 : Int32)))]) (st' := []) (m' := (r_touch_m f (Int32.ofNat k) k, l)) rfl rfl (fl_bo rfl) rfl ?_
  have em : r_goCells_b25_m f k = r_touch_m f (Int32.ofNat k) k := rfl
  rw [em, ← t2_k1] at hS
  exact hS
noncomputable def r_goCells_f25 (f : t2_F)  : Nat → t2_F
  | 0 => r_goCells_f2 f ((f 280 2).toInt.toNat)
  | k + 1 => r_goCells_b25_m (r_goCells_f25 f k) k
theorem r_goCells_f25_fr {f : t2_F}  {p : Nat} : ∀ {k : Nat}  (e280 : p ≠ 280), r_goCells_f25 f k p = (r_goCells_f2 f ((f 280 2).toInt.toNat)) p := by
  intro k
  induction k with
  | zero => intros; rfl
  | succ k ih =>
    intro  e280
    exact (r_goCells_b25_fr  e280).trans (ih  e280)
theorem r_goCells_f25_w {f : t2_F}  {w : Nat} : ∀ {k : Nat} (e0 : ∀ j : Nat, j < k → w ≠ 444 + 61 * j + 3) (e1 : ∀ j : Nat, j < k → w ≠ 444 + 61 * (j + 1) + 3), r_goCells_f25 f k 280 w = (r_goCells_f2 f ((f 280 2).toInt.toNat)) 280 w := by
  intro k
  induction k with
  | zero => intros; rfl
  | succ k ih =>
    intro e0 e1
    exact (r_goCells_b25_w (e0 k (by omega)) (e1 k (by omega))).trans (ih (fun j hj => e0 j (by omega)) (fun j hj => e1 j (by omega)))
noncomputable def r_goCells_b50_m (f : t2_F) (k : Nat) : t2_F := r_goOld_m f (Int32.ofNat k) k
theorem r_goCells_b50_fr {f : t2_F} {k : Nat} {p : Nat}  (e280 : p ≠ 280) : r_goCells_b50_m f k p = f p := by
  unfold r_goCells_b50_m
  repeat' split
  all_goals first | rfl | simp only [fl_row_ne e280, r_goOld_fr e280]
theorem r_goCells_b50_w {f : t2_F} {k : Nat} {w : Nat} (e0 : w ≠ 444 + 61 * k + 1) (e1 : w ≠ 444 + 61 * k + 4) (e2 : w ≠ 444 + 61 * k + 0) (e3 : w ≠ 444 + 61 * k + 5) (e4 : w ≠ 444 + 61 * k + 9) : r_goCells_b50_m f k 280 w = f 280 w := by
  unfold r_goCells_b50_m
  repeat' split
  all_goals first | rfl | simp only [fl_row_self, upd_ne e0, upd_ne e1, upd_ne e2, upd_ne e3, upd_ne e4, r_goOld_w e0 e1 e2 e3 e4]
theorem r_goCells_b50_q {L : Nat} {xs : Nat → Int32} {f : t2_F} {l : t2_L} {Q : Option fl_V → fl_M → Prop} {k : Nat} {n : Nat} (hkn : k < n) (hb : (f 280 2).toInt = (n : Int)) (h16 : n ≤ 16) (hbb : 0 ≤ ((3600 : Int32) * (f 280 58)).toInt) (hS : fl_Tq (pw_P L xs) 218 50 [some (.inr (.inr (.inl (76, 277)))), some (.inl (Int32.ofNat (k + 1)))] [] (r_goCells_b50_m f k, l) Q) : fl_Tq (pw_P L xs) 218 50 [some (.inr (.inr (.inl (76, 277)))), some (.inl (Int32.ofNat k))] [] (f, l) Q := by
  refine fl_Tq.stp (pc' := 51) (lv' := [some (.inr (.inr (.inl (76, 277)))), some (.inl (Int32.ofNat k))]) (st' := [.inl (Int32.ofNat k)]) (m' := (f, l)) rfl rfl (fl_bo rfl) rfl ?_
  refine fl_Tq.stp (pc' := 52) (lv' := [some (.inr (.inr (.inl (76, 277)))), some (.inl (Int32.ofNat k))]) (st' := [.inr (.inr (.inl (76, 277))), .inl (Int32.ofNat k)]) (m' := (f, l)) rfl rfl (fl_bo rfl) rfl ?_
  refine fl_Tq.stp (pc' := 55) (lv' := [some (.inr (.inr (.inl (76, 277)))), some (.inl (Int32.ofNat k))]) (st' := [.inr (.inr (.inl (79, 280))), .inl (Int32.ofNat k)]) (m' := (f, l)) rfl rfl (fl_bo rfl) rfl ?_
  refine fl_Tq.cI (c := (2 : Int32)) rfl (by decide +kernel) (fl_bo rfl) ?_
  refine fl_Tq.ldV (p := 280) (τ := 79) (n := 29780) (z := (0, 0, 0)) (k := 2) (v := f 280 2) rfl (fl_bo rfl) rfl (by decide +kernel) (by decide) rfl ?_
  refine fl_Tq.jf rfl (fl_bo rfl) (c2_ge_f (t2_lk hkn hb)) rfl ?_
  refine fl_Tq.stp (pc' := 61) (lv' := [some (.inr (.inr (.inl (76, 277)))), some (.inl (Int32.ofNat k))]) (st' := [.inr (.inr (.inl (76, 277)))]) (m' := (f, l)) rfl rfl (fl_bo rfl) rfl ?_
  refine fl_Tq.stp (pc' := 62) (lv' := [some (.inr (.inr (.inl (76, 277)))), some (.inl (Int32.ofNat k))]) (st' := [.inl (Int32.ofNat k), .inr (.inr (.inl (76, 277)))]) (m' := (f, l)) rfl rfl (fl_bo rfl) rfl ?_
  refine fl_Tq.cal rfl rfl (fl_bo rfl) rfl ?_
  refine r_goOld_q (at_ofN (by omega)) (by omega) hbb ?_
  show fl_Tq _ 218 65 [some (.inr (.inr (.inl (76, 277)))), some (.inl (Int32.ofNat k))] [] (r_goOld_m f (Int32.ofNat k) k, l) _
  refine fl_Tq.stp (pc' := 68) (lv' := [some (.inr (.inr (.inl (76, 277)))), some (.inl ((Int32.ofNat k) + (1 : Int32)))]) (st' := []) (m' := (r_goOld_m f (Int32.ofNat k) k, l)) rfl rfl (fl_bo rfl) rfl ?_
  refine fl_Tq.stp (pc' := 50) (lv' := [some (.inr (.inr (.inl (76, 277)))), some (.inl ((Int32.ofNat k) + (1 : Int32)))]) (st' := []) (m' := (r_goOld_m f (Int32.ofNat k) k, l)) rfl rfl (fl_bo rfl) rfl ?_
  have em : r_goCells_b50_m f k = r_goOld_m f (Int32.ofNat k) k := rfl
  rw [em, ← t2_k1] at hS
  exact hS
noncomputable def r_goCells_f50 (f : t2_F)  : Nat → t2_F
  | 0 => r_goCells_f25 f ((f 280 2).toInt.toNat - 1)
  | k + 1 => r_goCells_b50_m (r_goCells_f50 f k) k
theorem r_goCells_f50_fr {f : t2_F}  {p : Nat} : ∀ {k : Nat}  (e280 : p ≠ 280), r_goCells_f50 f k p = (r_goCells_f25 f ((f 280 2).toInt.toNat - 1)) p := by
  intro k
  induction k with
  | zero => intros; rfl
  | succ k ih =>
    intro  e280
    exact (r_goCells_b50_fr  e280).trans (ih  e280)
theorem r_goCells_f50_w {f : t2_F}  {w : Nat} : ∀ {k : Nat} (e0 : ∀ j : Nat, j < k → w ≠ 444 + 61 * j + 1) (e1 : ∀ j : Nat, j < k → w ≠ 444 + 61 * j + 4) (e2 : ∀ j : Nat, j < k → w ≠ 444 + 61 * j + 0) (e3 : ∀ j : Nat, j < k → w ≠ 444 + 61 * j + 5) (e4 : ∀ j : Nat, j < k → w ≠ 444 + 61 * j + 9), r_goCells_f50 f k 280 w = (r_goCells_f25 f ((f 280 2).toInt.toNat - 1)) 280 w := by
  intro k
  induction k with
  | zero => intros; rfl
  | succ k ih =>
    intro e0 e1 e2 e3 e4
    exact (r_goCells_b50_w (e0 k (by omega)) (e1 k (by omega)) (e2 k (by omega)) (e3 k (by omega)) (e4 k (by omega))).trans (ih (fun j hj => e0 j (by omega)) (fun j hj => e1 j (by omega)) (fun j hj => e2 j (by omega)) (fun j hj => e3 j (by omega)) (fun j hj => e4 j (by omega)))
noncomputable def r_goCells_m (f : t2_F) : t2_F := r_goCells_f50 f ((f 280 2).toInt.toNat)
theorem r_goCells_fr {f : t2_F}  {p : Nat}  (e280 : p ≠ 280) : r_goCells_m f p = f p := by
  unfold r_goCells_m
  repeat' split
  all_goals first | rfl | simp only [fl_row_ne e280, r_goCells_f50_fr (k := (f 280 2).toInt.toNat) e280, r_goCells_f25_fr (k := (f 280 2).toInt.toNat - 1) e280, r_goCells_f2_fr (k := (f 280 2).toInt.toNat) e280]
theorem r_goCells_w {f : t2_F}  {w : Nat} (e0 : ∀ j : Nat, w ≠ 444 + 61 * j + 1) (e1 : ∀ j : Nat, w ≠ 444 + 61 * j + 4) (e2 : ∀ j : Nat, w ≠ 444 + 61 * j + 0) (e3 : ∀ j : Nat, w ≠ 444 + 61 * j + 5) (e4 : ∀ j : Nat, w ≠ 444 + 61 * j + 9) (e5 : ∀ j : Nat, w ≠ 444 + 61 * j + 3) (e6 : ∀ j : Nat, w ≠ 444 + 61 * (j + 1) + 3) : r_goCells_m f 280 w = f 280 w := by
  unfold r_goCells_m
  repeat' split
  all_goals first | rfl | simp only [fl_row_self, r_goCells_f50_w (k := (f 280 2).toInt.toNat) (fun j hj => e0 j) (fun j hj => e1 j) (fun j hj => e2 j) (fun j hj => e3 j) (fun j hj => e4 j), r_goCells_f25_w (k := (f 280 2).toInt.toNat - 1) (fun j hj => e5 j) (fun j hj => e6 j), r_goCells_f2_w (k := (f 280 2).toInt.toNat) (fun j hj => e0 j) (fun j hj => e5 j)]
theorem r_goCells_q {L : Nat} {xs : Nat → Int32} {f : t2_F} {l : t2_L} {Q : Option fl_V → fl_M → Prop}  (hn : 0 ≤ (f 280 2).toInt ∧ (f 280 2).toInt ≤ 16) (hb : 0 ≤ ((3600 : Int32) * (f 280 58)).toInt) (k : Q none (r_goCells_m f, l)) : fl_Tq (pw_P L xs) 218 0 (fl_args (am_mxl (pw_P L xs) 218) [.inr (.inr (.inl (76, 277)))]) [] (f, l) Q := by
  refine fl_Tq.cI (c := (0 : Int32)) rfl (by decide +kernel) (fl_bo rfl) ?_
  refine fl_Tq.stp (pc' := 2) (lv' := [some (.inr (.inr (.inl (76, 277)))), some (.inl (0 : Int32))]) (st' := []) (m' := (f, l)) rfl rfl (fl_bo rfl) rfl ?_
  have hs2 : ∀ k : Nat, k < (f 280 2).toInt.toNat → fl_Tq (pw_P L xs) 218 2 [some (.inr (.inr (.inl (76, 277)))), some (.inl (Int32.ofNat (k + 1)))] [] (r_goCells_f2 f (k + 1), l) Q → fl_Tq (pw_P L xs) 218 2 [some (.inr (.inr (.inl (76, 277)))), some (.inl (Int32.ofNat k))] [] (r_goCells_f2 f k, l) Q := fun k hkn hS => r_goCells_b2_q hkn (by simp only [r_goCells_f2_w (k := k) (w := 2) (fun j hj => by omega) (fun j hj => by omega)]; exact (t2_nn hn.1)) (by omega) hS
  refine t2_for (S := fun k => fl_Tq (pw_P L xs) 218 2 [some (.inr (.inr (.inl (76, 277)))), some (.inl (Int32.ofNat k))] [] (r_goCells_f2 f k, l) Q) hs2 ?_
  show fl_Tq (pw_P L xs) 218 2 [some (.inr (.inr (.inl (76, 277)))), some (.inl (Int32.ofNat ((f 280 2).toInt.toNat)))] [] (r_goCells_f2 f ((f 280 2).toInt.toNat), l) _
  refine fl_Tq.stp (pc' := 3) (lv' := [some (.inr (.inr (.inl (76, 277)))), some (.inl (Int32.ofNat ((f 280 2).toInt.toNat)))]) (st' := [.inl (Int32.ofNat ((f 280 2).toInt.toNat))]) (m' := (r_goCells_f2 f ((f 280 2).toInt.toNat), l)) rfl rfl (fl_bo rfl) rfl ?_
  refine fl_Tq.stp (pc' := 4) (lv' := [some (.inr (.inr (.inl (76, 277)))), some (.inl (Int32.ofNat ((f 280 2).toInt.toNat)))]) (st' := [.inr (.inr (.inl (76, 277))), .inl (Int32.ofNat ((f 280 2).toInt.toNat))]) (m' := (r_goCells_f2 f ((f 280 2).toInt.toNat), l)) rfl rfl (fl_bo rfl) rfl ?_
  refine fl_Tq.stp (pc' := 7) (lv' := [some (.inr (.inr (.inl (76, 277)))), some (.inl (Int32.ofNat ((f 280 2).toInt.toNat)))]) (st' := [.inr (.inr (.inl (79, 280))), .inl (Int32.ofNat ((f 280 2).toInt.toNat))]) (m' := (r_goCells_f2 f ((f 280 2).toInt.toNat), l)) rfl rfl (fl_bo rfl) rfl ?_
  refine fl_Tq.cI (c := (2 : Int32)) rfl (by decide +kernel) (fl_bo rfl) ?_
  refine fl_Tq.ldV (p := 280) (τ := 79) (n := 29780) (z := (0, 0, 0)) (k := 2) (v := f 280 2) rfl (fl_bo rfl) rfl (by decide +kernel) (by decide) (by simp only [r_goCells_f2_w (k := (f 280 2).toInt.toNat) (w := 2) (fun j hj => by omega) (fun j hj => by omega)]) ?_
  refine fl_Tq.jt rfl (fl_bo rfl) (c2_ge_t (t2_ln (t2_nn hn.1))) rfl ?_
  refine fl_Tq.cI (c := (0 : Int32)) rfl (by decide +kernel) (fl_bo rfl) ?_
  refine fl_Tq.stp (pc' := 25) (lv' := [some (.inr (.inr (.inl (76, 277)))), some (.inl (0 : Int32))]) (st' := []) (m' := (r_goCells_f2 f ((f 280 2).toInt.toNat), l)) rfl rfl (fl_bo rfl) rfl ?_
  have hs25 : ∀ k : Nat, k < (f 280 2).toInt.toNat - 1 → fl_Tq (pw_P L xs) 218 25 [some (.inr (.inr (.inl (76, 277)))), some (.inl (Int32.ofNat (k + 1)))] [] (r_goCells_f25 f (k + 1), l) Q → fl_Tq (pw_P L xs) 218 25 [some (.inr (.inr (.inl (76, 277)))), some (.inl (Int32.ofNat k))] [] (r_goCells_f25 f k, l) Q := fun k hkn hS => r_goCells_b25_q hkn (by simp only [r_goCells_f25_w (k := k) (w := 2) (fun j hj => by omega) (fun j hj => by omega), r_goCells_f2_w (k := (f 280 2).toInt.toNat) (w := 2) (fun j hj => by omega) (fun j hj => by omega)]; exact (show ((((f 280 2).toInt.toNat - 1 : Nat)) : Int) = max ((f 280 2).toInt - 1) 0 by omega)) (by omega) hS
  refine t2_for (S := fun k => fl_Tq (pw_P L xs) 218 25 [some (.inr (.inr (.inl (76, 277)))), some (.inl (Int32.ofNat k))] [] (r_goCells_f25 f k, l) Q) hs25 ?_
  show fl_Tq (pw_P L xs) 218 25 [some (.inr (.inr (.inl (76, 277)))), some (.inl (Int32.ofNat ((f 280 2).toInt.toNat - 1)))] [] (r_goCells_f25 f ((f 280 2).toInt.toNat - 1), l) _
  refine fl_Tq.stp (pc' := 26) (lv' := [some (.inr (.inr (.inl (76, 277)))), some (.inl (Int32.ofNat ((f 280 2).toInt.toNat - 1)))]) (st' := [.inl (Int32.ofNat ((f 280 2).toInt.toNat - 1))]) (m' := (r_goCells_f25 f ((f 280 2).toInt.toNat - 1), l)) rfl rfl (fl_bo rfl) rfl ?_
  refine fl_Tq.cI (c := (1 : Int32)) rfl (by decide +kernel) (fl_bo rfl) ?_
  refine fl_Tq.stp (pc' := 28) (lv' := [some (.inr (.inr (.inl (76, 277)))), some (.inl (Int32.ofNat ((f 280 2).toInt.toNat - 1)))]) (st' := [.inl ((Int32.ofNat ((f 280 2).toInt.toNat - 1)) + (1 : Int32))]) (m' := (r_goCells_f25 f ((f 280 2).toInt.toNat - 1), l)) rfl rfl (fl_bo rfl) rfl ?_
  refine fl_Tq.stp (pc' := 29) (lv' := [some (.inr (.inr (.inl (76, 277)))), some (.inl (Int32.ofNat ((f 280 2).toInt.toNat - 1)))]) (st' := [.inr (.inr (.inl (76, 277))), .inl ((Int32.ofNat ((f 280 2).toInt.toNat - 1)) + (1 : Int32))]) (m' := (r_goCells_f25 f ((f 280 2).toInt.toNat - 1), l)) rfl rfl (fl_bo rfl) rfl ?_
  refine fl_Tq.stp (pc' := 32) (lv' := [some (.inr (.inr (.inl (76, 277)))), some (.inl (Int32.ofNat ((f 280 2).toInt.toNat - 1)))]) (st' := [.inr (.inr (.inl (79, 280))), .inl ((Int32.ofNat ((f 280 2).toInt.toNat - 1)) + (1 : Int32))]) (m' := (r_goCells_f25 f ((f 280 2).toInt.toNat - 1), l)) rfl rfl (fl_bo rfl) rfl ?_
  refine fl_Tq.cI (c := (2 : Int32)) rfl (by decide +kernel) (fl_bo rfl) ?_
  refine fl_Tq.ldV (p := 280) (τ := 79) (n := 29780) (z := (0, 0, 0)) (k := 2) (v := f 280 2) rfl (fl_bo rfl) rfl (by decide +kernel) (by decide) (by simp only [r_goCells_f25_w (k := (f 280 2).toInt.toNat - 1) (w := 2) (fun j hj => by omega) (fun j hj => by omega), r_goCells_f2_w (k := (f 280 2).toInt.toNat) (w := 2) (fun j hj => by omega) (fun j hj => by omega)]) ?_
  refine fl_Tq.jt rfl (fl_bo rfl) (c2_ge_t (by have e1 : (1 : Int32).toInt = 1 := (by decide +kernel); have e2 : (Int32.ofNat ((f 280 2).toInt.toNat - 1)).toInt = (((f 280 2).toInt.toNat - 1 : Nat) : Int) := at_ofN (by omega); rw [at_add32] <;> rw [e2, e1] <;> omega)) rfl ?_
  refine fl_Tq.cI (c := (0 : Int32)) rfl (by decide +kernel) (fl_bo rfl) ?_
  refine fl_Tq.stp (pc' := 50) (lv' := [some (.inr (.inr (.inl (76, 277)))), some (.inl (0 : Int32))]) (st' := []) (m' := (r_goCells_f25 f ((f 280 2).toInt.toNat - 1), l)) rfl rfl (fl_bo rfl) rfl ?_
  have hs50 : ∀ k : Nat, k < (f 280 2).toInt.toNat → fl_Tq (pw_P L xs) 218 50 [some (.inr (.inr (.inl (76, 277)))), some (.inl (Int32.ofNat (k + 1)))] [] (r_goCells_f50 f (k + 1), l) Q → fl_Tq (pw_P L xs) 218 50 [some (.inr (.inr (.inl (76, 277)))), some (.inl (Int32.ofNat k))] [] (r_goCells_f50 f k, l) Q := fun k hkn hS => r_goCells_b50_q hkn (by simp only [r_goCells_f50_w (k := k) (w := 2) (fun j hj => by omega) (fun j hj => by omega) (fun j hj => by omega) (fun j hj => by omega) (fun j hj => by omega), r_goCells_f25_w (k := (f 280 2).toInt.toNat - 1) (w := 2) (fun j hj => by omega) (fun j hj => by omega), r_goCells_f2_w (k := (f 280 2).toInt.toNat) (w := 2) (fun j hj => by omega) (fun j hj => by omega)]; exact (t2_nn hn.1)) (by omega) (by simp only [r_goCells_f50_w (k := k) (w := 58) (fun j hj => by omega) (fun j hj => by omega) (fun j hj => by omega) (fun j hj => by omega) (fun j hj => by omega), r_goCells_f25_w (k := (f 280 2).toInt.toNat - 1) (w := 58) (fun j hj => by omega) (fun j hj => by omega), r_goCells_f2_w (k := (f 280 2).toInt.toNat) (w := 58) (fun j hj => by omega) (fun j hj => by omega)]; exact hb) hS
  refine t2_for (S := fun k => fl_Tq (pw_P L xs) 218 50 [some (.inr (.inr (.inl (76, 277)))), some (.inl (Int32.ofNat k))] [] (r_goCells_f50 f k, l) Q) hs50 ?_
  show fl_Tq (pw_P L xs) 218 50 [some (.inr (.inr (.inl (76, 277)))), some (.inl (Int32.ofNat ((f 280 2).toInt.toNat)))] [] (r_goCells_f50 f ((f 280 2).toInt.toNat), l) _
  refine fl_Tq.stp (pc' := 51) (lv' := [some (.inr (.inr (.inl (76, 277)))), some (.inl (Int32.ofNat ((f 280 2).toInt.toNat)))]) (st' := [.inl (Int32.ofNat ((f 280 2).toInt.toNat))]) (m' := (r_goCells_f50 f ((f 280 2).toInt.toNat), l)) rfl rfl (fl_bo rfl) rfl ?_
  refine fl_Tq.stp (pc' := 52) (lv' := [some (.inr (.inr (.inl (76, 277)))), some (.inl (Int32.ofNat ((f 280 2).toInt.toNat)))]) (st' := [.inr (.inr (.inl (76, 277))), .inl (Int32.ofNat ((f 280 2).toInt.toNat))]) (m' := (r_goCells_f50 f ((f 280 2).toInt.toNat), l)) rfl rfl (fl_bo rfl) rfl ?_
  refine fl_Tq.stp (pc' := 55) (lv' := [some (.inr (.inr (.inl (76, 277)))), some (.inl (Int32.ofNat ((f 280 2).toInt.toNat)))]) (st' := [.inr (.inr (.inl (79, 280))), .inl (Int32.ofNat ((f 280 2).toInt.toNat))]) (m' := (r_goCells_f50 f ((f 280 2).toInt.toNat), l)) rfl rfl (fl_bo rfl) rfl ?_
  refine fl_Tq.cI (c := (2 : Int32)) rfl (by decide +kernel) (fl_bo rfl) ?_
  refine fl_Tq.ldV (p := 280) (τ := 79) (n := 29780) (z := (0, 0, 0)) (k := 2) (v := f 280 2) rfl (fl_bo rfl) rfl (by decide +kernel) (by decide) (by simp only [r_goCells_f50_w (k := (f 280 2).toInt.toNat) (w := 2) (fun j hj => by omega) (fun j hj => by omega) (fun j hj => by omega) (fun j hj => by omega) (fun j hj => by omega), r_goCells_f25_w (k := (f 280 2).toInt.toNat - 1) (w := 2) (fun j hj => by omega) (fun j hj => by omega), r_goCells_f2_w (k := (f 280 2).toInt.toNat) (w := 2) (fun j hj => by omega) (fun j hj => by omega)]) ?_
  refine fl_Tq.jt rfl (fl_bo rfl) (c2_ge_t (t2_ln (t2_nn hn.1))) rfl ?_
  exact fl_Tq.ret rfl rfl rfl k
