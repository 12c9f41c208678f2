/-! 94.31.many.lean.txt -/
section
/-! ===== block 0: many seconds ===== -/
section C0MANY
variable {fc fr f g : t2_F} {C n : Nat} {c x : Int32}
noncomputable def c0_runN (f : t2_F) : Nat → t2_F
  | 0 => f
  | k + 1 => c0_sec_m (c0_runN f k)
noncomputable def c0_runV (f : t2_F) (v : Int32) : Nat → Int32
  | 0 => v
  | k + 1 => c0_runV f v k + c0_sec_v (c0_runN f k)
noncomputable def r_runN (f : t2_F) : Nat → t2_F
  | 0 => f
  | k + 1 => r_sec_m (r_runN f k)
noncomputable def r_runV (f : t2_F) (v : Int32) : Nat → Int32
  | 0 => v
  | k + 1 => r_runV f v k + r_sec_v (r_runN f k)
theorem c0_I.time (h : c0_I fc fr) (ht : (fr 280 7).toInt < 9999) : (r_sec_m fr 280 7).toInt = (fr 280 7).toInt + 1 := by
  obtain ⟨i1, i2, i3, i4, i5, i6, im, -, ⟨i8, -⟩, ik, -⟩ := h.chain ht
  have k1 := (h.s1 ht).2
  have ok8 := i8.2.2.2.2
  have okk := ik.2.2.2.2
  unfold r_sec_m
  rw [r_goRules_w okk.2.2.2.2.1.1 okk.2.2.2.2.1.2.1 (by decide)]
  have e1 : r_goKept_m (r_goFaults_m (r_v6 fr)) 280 7 = r_goFaults_m (r_v6 fr) 280 7 := by
    unfold r_goKept_m
    exact r_goKept_f117_w ok8.2.1.2.2.1 (fun C hC => (ok8.2.2.2.2.2.2.2 C hC).1) ok8.2.2.2.2.2.2.1.2.2 (fun C hC => ⟨(ok8.2.2.2.2.2.2.2 C hC).2.2.2.2.2.2.2.1, (ok8.2.2.2.2.2.2.2 C hC).2.2.2.2.2.2.2.2.1⟩) (Nat.le_refl _) (Or.inl (by decide)) (by decide)
  rw [e1, r_goFaults_w im.2.2.2.2.2.2.2.2.2.2.1.2.1 (by decide), r_v6_w, r_goTaper_w (by decide)]
  unfold r_w6
  rw [r_meas_mid (by decide), r_mid_lo (by decide) (by decide) (by decide)]
  unfold r_t5
  rw [fl_row_self, upd_ne (by decide), r_goBalance_w (by decide), r_cells_lo (by decide), i2.cur.2 7 (by decide) (fun C _ => by omega), r_goBus_w2, if_neg (by decide), if_neg (by decide), k1]
theorem c0_I.run (h : c0_I fc fr) (hj : c0_J fc) (hr : t2_RS fr) (hp : fr 277 7 = 0) (v : Int32) : ∀ k : Nat, (fr 280 7).toInt + k ≤ 9999 → (c0_I (c0_runN fc k) (r_runN fr k) ∧ c0_J (c0_runN fc k) ∧ t2_RS (r_runN fr k) ∧ r_runN fr k 277 7 = 0) ∧ (r_runN fr k 280 7).toInt = (fr 280 7).toInt + k ∧ c0_runV fc v k = r_runV fr v k := by
  intro k
  induction k with
  | zero => intro _; exact ⟨⟨h, hj, hr, hp⟩, by show (fr 280 7).toInt = _; omega, rfl⟩
  | succ k ih =>
    intro hk
    obtain ⟨⟨a, b, d, e⟩, t, s⟩ := ih (by omega)
    have ht : (r_runN fr k 280 7).toInt < 9999 := by omega
    obtain ⟨q1, q2⟩ := a.sec ht
    refine ⟨⟨q1, b.sec a ht, d.same (r_sec_p (by decide) (by decide) (by decide)), ?_⟩, ?_, ?_⟩
    · show r_sec_m (r_runN fr k) 277 7 = 0
      rw [(a.p277 ht (by decide) (by decide)).2.2, e]
    · show (r_sec_m (r_runN fr k) 280 7).toInt = _
      rw [a.time ht]
      omega
    · show c0_runV fc v k + c0_sec_v (c0_runN fc k) = r_runV fr v k + r_sec_v (r_runN fr k)
      rw [s, q2]
/-- passSeconds -/
theorem c0_passSeconds_q {L : Nat} {xs : Nat → Int32} {l : t2_L} {Q : Option fl_V → fl_M → Prop} {x : Int32} (h : c0_I fc fr) (hj : c0_J fc) (hr : t2_RS fr) (hp : fr 277 7 = 0) (hx : 0 ≤ x.toInt) (ht : (fr 280 7).toInt + x.toInt ≤ 9999) (k : Q (some (.inl (c0_runV fc (0 : Int32) x.toInt.toNat))) (c0_runN fc x.toInt.toNat, l)) : fl_Tq (pw_P L xs) 55 0 (fl_args (am_mxl (pw_P L xs) 55) [.inr (.inr (.inl (1, 1))), .inl x]) [] (fc, l) Q := by
  have R := h.run hj hr hp (0 : Int32)
  refine c0_secsA ?_
  refine t2_for (n := x.toInt.toNat) (S := fun k => fl_Tq (pw_P L xs) 55 4 [some (.inr (.inr (.inl (1, 1)))), some (.inl x), some (.inl (c0_runV fc (0 : Int32) k)), some (.inl (Int32.ofNat k))] [] (c0_runN fc k, l) Q) (fun k hk hS => ?_) ?_
  · obtain ⟨⟨a, b, -, -⟩, t, -⟩ := R k (by omega)
    refine c0_secsB a (by omega) b (t2_lk hk (by omega)) ?_
    rw [t2_k1]
    exact hS
  · exact c0_secsC (t2_ln (by omega)) k
/-- secondsNow -/
theorem c0_secondsNow_q {L : Nat} {xs : Nat → Int32} {l : t2_L} {Q : Option fl_V → fl_M → Prop} {x : Int32} (h : c0_I fc fr) (hj : c0_J fc) (hr : t2_RS fr) (hp : fr 277 7 = 0) (hx : 0 ≤ x.toInt) (ht : (fr 280 7).toInt + x.toInt ≤ 9999) (k : Q (some (.inl (r_runV fr (0 : Int32) x.toInt.toNat))) (r_runN fr x.toInt.toNat, l)) : fl_Tq (pw_P L xs) 248 0 (fl_args (am_mxl (pw_P L xs) 248) [.inr (.inr (.inl (76, 277))), .inl x]) [] (fr, l) Q := by
  have R := h.run hj hr hp (0 : Int32)
  refine r_secsA ?_
  refine t2_for (n := x.toInt.toNat) (S := fun k => fl_Tq (pw_P L xs) 248 4 [some (.inr (.inr (.inl (76, 277)))), some (.inl x), some (.inl (r_runV fr (0 : Int32) k)), some (.inl (Int32.ofNat k))] [] (r_runN fr k, l) Q) (fun k hk hS => ?_) ?_
  · obtain ⟨⟨a, -, d, e⟩, t, -⟩ := R k (by omega)
    refine r_secsB (f := r_runN fr k) a (by omega) d e (t2_lk hk (by omega)) ?_
    rw [t2_k1]
    exact hS
  · exact r_secsC (t2_ln (by omega)) k
end C0MANY

end

/-! 94.32.g18.lean.txt -/
section
theorem c0_drA {L : Nat} {xs : Nat → Int32} {f : t2_F} {l : t2_L} {Q : Option fl_V → fl_M → Prop}   (k : fl_Tq (pw_P L xs) 56 4 [some (.inr (.inr (.inl (1, 1)))), some (.inl (0 : Int32)), some (.inl (0 : Int32)), none, none] [] (f, l) Q) : fl_Tq (pw_P L xs) 56 0 [some (.inr (.inr (.inl (1, 1)))), none, none, none, none] [] (f, l) Q := by
  refine fl_Tq.cI (c := (0 : Int32)) rfl (by decide +kernel) (fl_bo rfl) ?_
  refine fl_Tq.stp (pc' := 2) (lv' := [some (.inr (.inr (.inl (1, 1)))), some (.inl (0 : Int32)), none, none, none]) (st' := []) (m' := (f, l)) rfl rfl (fl_bo rfl) rfl ?_
  refine fl_Tq.cI (c := (0 : Int32)) rfl (by decide +kernel) (fl_bo rfl) ?_
  refine fl_Tq.stp (pc' := 4) (lv' := [some (.inr (.inr (.inl (1, 1)))), some (.inl (0 : Int32)), some (.inl (0 : Int32)), none, none]) (st' := []) (m' := (f, l)) rfl rfl (fl_bo rfl) rfl ?_
  exact k
theorem c0_drB {L : Nat} {xs : Nat → Int32} {f : t2_F} {l : t2_L} {Q : Option fl_V → fl_M → Prop} {mo : Int32} {j : Nat} (hj : j < 24) (hk : (Int32.ofNat j).toInt < (f 3 7).toInt) (k : fl_Tq (pw_P L xs) 56 64 [some (.inr (.inr (.inl (1, 1)))), some (.inl mo), some (.inl (Int32.ofNat j)), some (.inl (t2_min_v (f 8 ((j * 2) + 1)) ((9999 : Int32) - (f 1 6)))), some (.inl (0 : Int32))] [] (fl_row f 4 (upd (f 4) 20 (f 8 (j * 2))), l) Q) : fl_Tq (pw_P L xs) 56 4 [some (.inr (.inr (.inl (1, 1)))), some (.inl mo), some (.inl (Int32.ofNat j)), none, none] [] (f, l) Q := by
  refine fl_Tq.stp (pc' := 5) (lv' := [some (.inr (.inr (.inl (1, 1)))), some (.inl mo), some (.inl (Int32.ofNat j)), none, none]) (st' := [.inl (Int32.ofNat j)]) (m' := (f, l)) rfl rfl (fl_bo rfl) rfl ?_
  refine fl_Tq.stp (pc' := 6) (lv' := [some (.inr (.inr (.inl (1, 1)))), some (.inl mo), some (.inl (Int32.ofNat j)), none, none]) (st' := [.inr (.inr (.inl (1, 1))), .inl (Int32.ofNat j)]) (m' := (f, l)) rfl rfl (fl_bo rfl) rfl ?_
  refine fl_Tq.stp (pc' := 9) (lv' := [some (.inr (.inr (.inl (1, 1)))), some (.inl mo), some (.inl (Int32.ofNat j)), none, none]) (st' := [.inr (.inr (.inl (3, 3))), .inl (Int32.ofNat j)]) (m' := (f, l)) rfl rfl (fl_bo rfl) rfl ?_
  refine fl_Tq.gfV (k := 7) (v := f 3 7) rfl (fl_bo rfl) rfl rfl ?_
  refine fl_Tq.jf rfl (fl_bo rfl) (c2_ge_f hk) rfl ?_
  refine fl_Tq.stp (pc' := 16) (lv' := [some (.inr (.inr (.inl (1, 1)))), some (.inl mo), some (.inl (Int32.ofNat j)), none, none]) (st' := [.inr (.inr (.inl (1, 1)))]) (m' := (f, l)) rfl rfl (fl_bo rfl) rfl ?_
  refine fl_Tq.stp (pc' := 19) (lv' := [some (.inr (.inr (.inl (1, 1)))), some (.inl mo), some (.inl (Int32.ofNat j)), none, none]) (st' := [.inr (.inr (.inl (3, 3)))]) (m' := (f, l)) rfl rfl (fl_bo rfl) rfl ?_
  refine fl_Tq.stp (pc' := 22) (lv' := [some (.inr (.inr (.inl (1, 1)))), some (.inl mo), some (.inl (Int32.ofNat j)), none, none]) (st' := [.inr (.inr (.inl (4, 4)))]) (m' := (f, l)) rfl rfl (fl_bo rfl) rfl ?_
  refine fl_Tq.cB (c := (20 : Int32)) rfl (by decide +kernel) (fl_bo rfl) ?_
  refine fl_Tq.stp (pc' := 25) (lv' := [some (.inr (.inr (.inl (1, 1)))), some (.inl mo), some (.inl (Int32.ofNat j)), none, none]) (st' := [.inr (.inr (.inl (1, 1))), .inl (20 : Int32), .inr (.inr (.inl (4, 4)))]) (m' := (f, l)) rfl rfl (fl_bo rfl) rfl ?_
  refine fl_Tq.stp (pc' := 28) (lv' := [some (.inr (.inr (.inl (1, 1)))), some (.inl mo), some (.inl (Int32.ofNat j)), none, none]) (st' := [.inr (.inr (.inl (3, 3))), .inl (20 : Int32), .inr (.inr (.inl (4, 4)))]) (m' := (f, l)) rfl rfl (fl_bo rfl) rfl ?_
  refine fl_Tq.stp (pc' := 31) (lv' := [some (.inr (.inr (.inl (1, 1)))), some (.inl mo), some (.inl (Int32.ofNat j)), none, none]) (st' := [.inr (.inr (.inl (8, 8))), .inl (20 : Int32), .inr (.inr (.inl (4, 4)))]) (m' := (f, l)) rfl rfl (fl_bo rfl) rfl ?_
  refine fl_Tq.stp (pc' := 32) (lv' := [some (.inr (.inr (.inl (1, 1)))), some (.inl mo), some (.inl (Int32.ofNat j)), none, none]) (st' := [.inl (Int32.ofNat j), .inr (.inr (.inl (8, 8))), .inl (20 : Int32), .inr (.inr (.inl (4, 4)))]) (m' := (f, l)) rfl rfl (fl_bo rfl) rfl ?_
  refine fl_Tq.cI (c := (2 : Int32)) rfl (by decide +kernel) (fl_bo rfl) ?_
  refine fl_Tq.stp (pc' := 34) (lv' := [some (.inr (.inr (.inl (1, 1)))), some (.inl mo), some (.inl (Int32.ofNat j)), none, none]) (st' := [.inl ((Int32.ofNat j) * (2 : Int32)), .inr (.inr (.inl (8, 8))), .inl (20 : Int32), .inr (.inr (.inl (4, 4)))]) (m' := (f, l)) rfl rfl (fl_bo rfl) rfl ?_
  refine fl_Tq.ldV (p := 8) (τ := 8) (n := 48) (z := (0, 0, 0)) (k := j * 2) (v := f 8 (j * 2)) rfl (fl_bo rfl) rfl (t2_im (at_ofN (by omega)) (by decide +kernel) (by omega)) (by omega) rfl ?_
  refine fl_Tq.svV (p := 4) (τ := 4) (n := 30) (z := (0, 0, 0)) (k := 20) (m' := (fl_row f 4 (upd (f 4) 20 (f 8 (j * 2))), l)) rfl (fl_bo rfl) rfl (by decide +kernel) (by decide) (t2_upn rfl) ?_
  refine fl_Tq.stp (pc' := 37) (lv' := [some (.inr (.inr (.inl (1, 1)))), some (.inl mo), some (.inl (Int32.ofNat j)), none, none]) (st' := [.inr (.inr (.inl (1, 1)))]) (m' := (fl_row f 4 (upd (f 4) 20 (f 8 (j * 2))), l)) rfl rfl (fl_bo rfl) rfl ?_
  refine fl_Tq.stp (pc' := 40) (lv' := [some (.inr (.inr (.inl (1, 1)))), some (.inl mo), some (.inl (Int32.ofNat j)), none, none]) (st' := [.inr (.inr (.inl (3, 3)))]) (m' := (fl_row f 4 (upd (f 4) 20 (f 8 (j * 2))), l)) rfl rfl (fl_bo rfl) rfl ?_
  refine fl_Tq.stp (pc' := 43) (lv' := [some (.inr (.inr (.inl (1, 1)))), some (.inl mo), some (.inl (Int32.ofNat j)), none, none]) (st' := [.inr (.inr (.inl (8, 8)))]) (m' := (fl_row f 4 (upd (f 4) 20 (f 8 (j * 2))), l)) rfl rfl (fl_bo rfl) rfl ?_
  refine fl_Tq.stp (pc' := 44) (lv' := [some (.inr (.inr (.inl (1, 1)))), some (.inl mo), some (.inl (Int32.ofNat j)), none, none]) (st' := [.inl (Int32.ofNat j), .inr (.inr (.inl (8, 8)))]) (m' := (fl_row f 4 (upd (f 4) 20 (f 8 (j * 2))), l)) rfl rfl (fl_bo rfl) rfl ?_
  refine fl_Tq.cI (c := (2 : Int32)) rfl (by decide +kernel) (fl_bo rfl) ?_
  refine fl_Tq.stp (pc' := 46) (lv' := [some (.inr (.inr (.inl (1, 1)))), some (.inl mo), some (.inl (Int32.ofNat j)), none, none]) (st' := [.inl ((Int32.ofNat j) * (2 : Int32)), .inr (.inr (.inl (8, 8)))]) (m' := (fl_row f 4 (upd (f 4) 20 (f 8 (j * 2))), l)) rfl rfl (fl_bo rfl) rfl ?_
  refine fl_Tq.cI (c := (1 : Int32)) rfl (by decide +kernel) (fl_bo rfl) ?_
  refine fl_Tq.stp (pc' := 48) (lv' := [some (.inr (.inr (.inl (1, 1)))), some (.inl mo), some (.inl (Int32.ofNat j)), none, none]) (st' := [.inl (((Int32.ofNat j) * (2 : Int32)) + (1 : Int32)), .inr (.inr (.inl (8, 8)))]) (m' := (fl_row f 4 (upd (f 4) 20 (f 8 (j * 2))), l)) rfl rfl (fl_bo rfl) rfl ?_
  refine fl_Tq.ldV (p := 8) (τ := 8) (n := 48) (z := (0, 0, 0)) (k := (j * 2) + 1) (v := f 8 ((j * 2) + 1)) rfl (fl_bo rfl) rfl (t2_ia (t2_im (at_ofN (by omega)) (by decide +kernel) (by omega)) (by decide +kernel) (by omega)) (by omega) (by simp only [fl_row_ne (by decide : 8 ≠ 4)]) ?_
  refine fl_Tq.cS (c := (9999 : Int32)) rfl (by decide +kernel) (fl_bo rfl) ?_
  refine fl_Tq.stp (pc' := 53) (lv' := [some (.inr (.inr (.inl (1, 1)))), some (.inl mo), some (.inl (Int32.ofNat j)), none, none]) (st' := [.inr (.inr (.inl (1, 1))), .inl (9999 : Int32), .inl (f 8 ((j * 2) + 1))]) (m' := (fl_row f 4 (upd (f 4) 20 (f 8 (j * 2))), l)) rfl rfl (fl_bo rfl) rfl ?_
  refine fl_Tq.gfV (k := 6) (v := f 1 6) rfl (fl_bo rfl) rfl (by simp only [fl_row_ne (by decide : 1 ≠ 4)]) ?_
  refine fl_Tq.stp (pc' := 57) (lv' := [some (.inr (.inr (.inl (1, 1)))), some (.inl mo), some (.inl (Int32.ofNat j)), none, none]) (st' := [.inl ((9999 : Int32) - (f 1 6)), .inl (f 8 ((j * 2) + 1))]) (m' := (fl_row f 4 (upd (f 4) 20 (f 8 (j * 2))), l)) rfl rfl (fl_bo rfl) rfl ?_
  refine fl_Tq.cal rfl rfl (fl_bo rfl) rfl ?_
  refine t2_min_q  ?_
  show fl_Tq _ 56 60 [some (.inr (.inr (.inl (1, 1)))), some (.inl mo), some (.inl (Int32.ofNat j)), none, none] [.inl (t2_min_v (f 8 ((j * 2) + 1)) ((9999 : Int32) - (f 1 6)))] (fl_row f 4 (upd (f 4) 20 (f 8 (j * 2))), l) _
  refine fl_Tq.stp (pc' := 61) (lv' := [some (.inr (.inr (.inl (1, 1)))), some (.inl mo), some (.inl (Int32.ofNat j)), some (.inl (t2_min_v (f 8 ((j * 2) + 1)) ((9999 : Int32) - (f 1 6)))), none]) (st' := []) (m' := (fl_row f 4 (upd (f 4) 20 (f 8 (j * 2))), l)) rfl rfl (fl_bo rfl) rfl ?_
  refine fl_Tq.cI (c := (0 : Int32)) rfl (by decide +kernel) (fl_bo rfl) ?_
  refine fl_Tq.stp (pc' := 64) (lv' := [some (.inr (.inr (.inl (1, 1)))), some (.inl mo), some (.inl (Int32.ofNat j)), some (.inl (t2_min_v (f 8 ((j * 2) + 1)) ((9999 : Int32) - (f 1 6)))), some (.inl (0 : Int32))]) (st' := []) (m' := (fl_row f 4 (upd (f 4) 20 (f 8 (j * 2))), l)) rfl rfl (fl_bo rfl) rfl ?_
  exact k
theorem c0_drE {L : Nat} {xs : Nat → Int32} {f : t2_F} {l : t2_L} {Q : Option fl_V → fl_M → Prop} {mo : Int32} {j : Nat} (hk : ¬ ((Int32.ofNat j).toInt < (f 3 7).toInt)) (k : Q (some (.inl mo)) (f, l)) : fl_Tq (pw_P L xs) 56 4 [some (.inr (.inr (.inl (1, 1)))), some (.inl mo), some (.inl (Int32.ofNat j)), none, none] [] (f, l) Q := by
  refine fl_Tq.stp (pc' := 5) (lv' := [some (.inr (.inr (.inl (1, 1)))), some (.inl mo), some (.inl (Int32.ofNat j)), none, none]) (st' := [.inl (Int32.ofNat j)]) (m' := (f, l)) rfl rfl (fl_bo rfl) rfl ?_
  refine fl_Tq.stp (pc' := 6) (lv' := [some (.inr (.inr (.inl (1, 1)))), some (.inl mo), some (.inl (Int32.ofNat j)), none, none]) (st' := [.inr (.inr (.inl (1, 1))), .inl (Int32.ofNat j)]) (m' := (f, l)) rfl rfl (fl_bo rfl) rfl ?_
  refine fl_Tq.stp (pc' := 9) (lv' := [some (.inr (.inr (.inl (1, 1)))), some (.inl mo), some (.inl (Int32.ofNat j)), none, none]) (st' := [.inr (.inr (.inl (3, 3))), .inl (Int32.ofNat j)]) (m' := (f, l)) rfl rfl (fl_bo rfl) rfl ?_
  refine fl_Tq.gfV (k := 7) (v := f 3 7) rfl (fl_bo rfl) rfl rfl ?_
  refine fl_Tq.jt rfl (fl_bo rfl) (c2_ge_t hk) rfl ?_
  refine fl_Tq.stp (pc' := 90) (lv' := [some (.inr (.inr (.inl (1, 1)))), some (.inl mo), some (.inl (Int32.ofNat j)), none, none]) (st' := [.inl mo]) (m' := (f, l)) rfl rfl (fl_bo rfl) rfl ?_
  exact fl_Tq.ret rfl rfl rfl k
theorem c0_drC {L : Nat} {xs : Nat → Int32} {f : t2_F} {l : t2_L} {Q : Option fl_V → fl_M → Prop} {mo n : Int32} {j i : Nat} {fr : t2_F} (h : c0_I f fr) (ht : (fr 280 7).toInt < 9999) (hj : c0_J f) (hk : (Int32.ofNat i).toInt < n.toInt) (k : fl_Tq (pw_P L xs) 56 64 [some (.inr (.inr (.inl (1, 1)))), some (.inl (mo + (c0_sec_v f))), some (.inl (Int32.ofNat j)), some (.inl n), some (.inl ((Int32.ofNat i) + (1 : Int32)))] [] (c0_sec_m f, l) Q) : fl_Tq (pw_P L xs) 56 64 [some (.inr (.inr (.inl (1, 1)))), some (.inl mo), some (.inl (Int32.ofNat j)), some (.inl n), some (.inl (Int32.ofNat i))] [] (f, l) Q := by
  refine fl_Tq.stp (pc' := 66) (lv' := [some (.inr (.inr (.inl (1, 1)))), some (.inl mo), some (.inl (Int32.ofNat j)), some (.inl n), some (.inl (Int32.ofNat i))]) (st' := [.inl (Int32.ofNat i)]) (m' := (f, l)) rfl rfl (fl_bo rfl) rfl ?_
  refine fl_Tq.stp (pc' := 67) (lv' := [some (.inr (.inr (.inl (1, 1)))), some (.inl mo), some (.inl (Int32.ofNat j)), some (.inl n), some (.inl (Int32.ofNat i))]) (st' := [.inl n, .inl (Int32.ofNat i)]) (m' := (f, l)) rfl rfl (fl_bo rfl) rfl ?_
  refine fl_Tq.jf rfl (fl_bo rfl) (c2_ge_f hk) rfl ?_
  refine fl_Tq.stp (pc' := 71) (lv' := [some (.inr (.inr (.inl (1, 1)))), some (.inl mo), some (.inl (Int32.ofNat j)), some (.inl n), some (.inl (Int32.ofNat i))]) (st' := [.inl mo]) (m' := (f, l)) rfl rfl (fl_bo rfl) rfl ?_
  refine fl_Tq.stp (pc' := 72) (lv' := [some (.inr (.inr (.inl (1, 1)))), some (.inl mo), some (.inl (Int32.ofNat j)), some (.inl n), some (.inl (Int32.ofNat i))]) (st' := [.inr (.inr (.inl (1, 1))), .inl mo]) (m' := (f, l)) rfl rfl (fl_bo rfl) rfl ?_
  refine fl_Tq.cal rfl rfl (fl_bo rfl) rfl ?_
  refine c0_sec_q h ht hj ?_
  show fl_Tq _ 56 75 [some (.inr (.inr (.inl (1, 1)))), some (.inl mo), some (.inl (Int32.ofNat j)), some (.inl n), some (.inl (Int32.ofNat i))] [.inl (c0_sec_v f), .inl mo] (c0_sec_m f, l) _
  refine fl_Tq.stp (pc' := 76) (lv' := [some (.inr (.inr (.inl (1, 1)))), some (.inl mo), some (.inl (Int32.ofNat j)), some (.inl n), some (.inl (Int32.ofNat i))]) (st' := [.inl (mo + (c0_sec_v f))]) (m' := (c0_sec_m f, l)) rfl rfl (fl_bo rfl) rfl ?_
  refine fl_Tq.stp (pc' := 77) (lv' := [some (.inr (.inr (.inl (1, 1)))), some (.inl (mo + (c0_sec_v f))), some (.inl (Int32.ofNat j)), some (.inl n), some (.inl (Int32.ofNat i))]) (st' := []) (m' := (c0_sec_m f, l)) rfl rfl (fl_bo rfl) rfl ?_
  refine fl_Tq.stp (pc' := 80) (lv' := [some (.inr (.inr (.inl (1, 1)))), some (.inl (mo + (c0_sec_v f))), some (.inl (Int32.ofNat j)), some (.inl n), some (.inl ((Int32.ofNat i) + (1 : Int32)))]) (st' := []) (m' := (c0_sec_m f, l)) rfl rfl (fl_bo rfl) rfl ?_
  refine fl_Tq.stp (pc' := 64) (lv' := [some (.inr (.inr (.inl (1, 1)))), some (.inl (mo + (c0_sec_v f))), some (.inl (Int32.ofNat j)), some (.inl n), some (.inl ((Int32.ofNat i) + (1 : Int32)))]) (st' := []) (m' := (c0_sec_m f, l)) rfl rfl (fl_bo rfl) rfl ?_
  exact k
theorem c0_drD {L : Nat} {xs : Nat → Int32} {f : t2_F} {l : t2_L} {Q : Option fl_V → fl_M → Prop} {mo n : Int32} {j i : Nat} (hk : ¬ ((Int32.ofNat i).toInt < n.toInt)) (k : fl_Tq (pw_P L xs) 56 4 [some (.inr (.inr (.inl (1, 1)))), some (.inl mo), some (.inl ((Int32.ofNat j) + (1 : Int32))), some (.inl n), some (.inl (Int32.ofNat i))] [] (f, l) Q) : fl_Tq (pw_P L xs) 56 64 [some (.inr (.inr (.inl (1, 1)))), some (.inl mo), some (.inl (Int32.ofNat j)), some (.inl n), some (.inl (Int32.ofNat i))] [] (f, l) Q := by
  refine fl_Tq.stp (pc' := 66) (lv' := [some (.inr (.inr (.inl (1, 1)))), some (.inl mo), some (.inl (Int32.ofNat j)), some (.inl n), some (.inl (Int32.ofNat i))]) (st' := [.inl (Int32.ofNat i)]) (m' := (f, l)) rfl rfl (fl_bo rfl) rfl ?_
  refine fl_Tq.stp (pc' := 67) (lv' := [some (.inr (.inr (.inl (1, 1)))), some (.inl mo), some (.inl (Int32.ofNat j)), some (.inl n), some (.inl (Int32.ofNat i))]) (st' := [.inl n, .inl (Int32.ofNat i)]) (m' := (f, l)) rfl rfl (fl_bo rfl) rfl ?_
  refine fl_Tq.jt rfl (fl_bo rfl) (c2_ge_t hk) rfl ?_
  refine fl_Tq.stp (pc' := 86) (lv' := [some (.inr (.inr (.inl (1, 1)))), some (.inl mo), some (.inl ((Int32.ofNat j) + (1 : Int32))), some (.inl n), some (.inl (Int32.ofNat i))]) (st' := []) (m' := (f, l)) rfl rfl (fl_bo rfl) rfl ?_
  refine fl_Tq.stp (pc' := 4) (lv' := [some (.inr (.inr (.inl (1, 1)))), some (.inl mo), some (.inl ((Int32.ofNat j) + (1 : Int32))), some (.inl n), some (.inl (Int32.ofNat i))]) (st' := []) (m' := (f, l)) rfl rfl (fl_bo rfl) rfl ?_
  exact k
theorem r_drA {L : Nat} {xs : Nat → Int32} {f : t2_F} {l : t2_L} {Q : Option fl_V → fl_M → Prop}   (k : fl_Tq (pw_P L xs) 266 4 [some (.inr (.inr (.inl (76, 277)))), some (.inl (0 : Int32)), some (.inl (0 : Int32)), none] [] (f, l) Q) : fl_Tq (pw_P L xs) 266 0 [some (.inr (.inr (.inl (76, 277)))), none, none, none] [] (f, l) Q := by
  refine fl_Tq.cI (c := (0 : Int32)) rfl (by decide +kernel) (fl_bo rfl) ?_
  refine fl_Tq.stp (pc' := 2) (lv' := [some (.inr (.inr (.inl (76, 277)))), some (.inl (0 : Int32)), none, none]) (st' := []) (m' := (f, l)) rfl rfl (fl_bo rfl) rfl ?_
  refine fl_Tq.cI (c := (0 : Int32)) rfl (by decide +kernel) (fl_bo rfl) ?_
  refine fl_Tq.stp (pc' := 4) (lv' := [some (.inr (.inr (.inl (76, 277)))), some (.inl (0 : Int32)), some (.inl (0 : Int32)), none]) (st' := []) (m' := (f, l)) rfl rfl (fl_bo rfl) rfl ?_
  exact k
theorem r_drB {L : Nat} {xs : Nat → Int32} {f : t2_F} {l : t2_L} {Q : Option fl_V → fl_M → Prop} {mo : Int32} {j : Nat} (hj : j < 24) (hk : (Int32.ofNat j).toInt < (f 280 19).toInt) (k : fl_Tq (pw_P L xs) 266 35 [some (.inr (.inr (.inl (76, 277)))), some (.inl mo), some (.inl (Int32.ofNat j)), some (.inl (0 : Int32))] [] (fl_row f 280 (upd (f 280) 54 (f 280 (119 + (2 * j)))), l) Q) : fl_Tq (pw_P L xs) 266 4 [some (.inr (.inr (.inl (76, 277)))), some (.inl mo), some (.inl (Int32.ofNat j)), none] [] (f, l) Q := by
  refine fl_Tq.stp (pc' := 5) (lv' := [some (.inr (.inr (.inl (76, 277)))), some (.inl mo), some (.inl (Int32.ofNat j)), none]) (st' := [.inl (Int32.ofNat j)]) (m' := (f, l)) rfl rfl (fl_bo rfl) rfl ?_
  refine fl_Tq.stp (pc' := 6) (lv' := [some (.inr (.inr (.inl (76, 277)))), some (.inl mo), some (.inl (Int32.ofNat j)), none]) (st' := [.inr (.inr (.inl (76, 277))), .inl (Int32.ofNat j)]) (m' := (f, l)) rfl rfl (fl_bo rfl) rfl ?_
  refine fl_Tq.stp (pc' := 9) (lv' := [some (.inr (.inr (.inl (76, 277)))), some (.inl mo), some (.inl (Int32.ofNat j)), none]) (st' := [.inr (.inr (.inl (79, 280))), .inl (Int32.ofNat j)]) (m' := (f, l)) rfl rfl (fl_bo rfl) rfl ?_
  refine fl_Tq.cB (c := (19 : Int32)) rfl (by decide +kernel) (fl_bo rfl) ?_
  refine fl_Tq.ldV (p := 280) (τ := 79) (n := 29780) (z := (0, 0, 0)) (k := 19) (v := f 280 19) rfl (fl_bo rfl) rfl (by decide +kernel) (by decide) rfl ?_
  refine fl_Tq.jf rfl (fl_bo rfl) (c2_ge_f hk) rfl ?_
  refine fl_Tq.stp (pc' := 16) (lv' := [some (.inr (.inr (.inl (76, 277)))), some (.inl mo), some (.inl (Int32.ofNat j)), none]) (st' := [.inr (.inr (.inl (76, 277)))]) (m' := (f, l)) rfl rfl (fl_bo rfl) rfl ?_
  refine fl_Tq.stp (pc' := 19) (lv' := [some (.inr (.inr (.inl (76, 277)))), some (.inl mo), some (.inl (Int32.ofNat j)), none]) (st' := [.inr (.inr (.inl (79, 280)))]) (m' := (f, l)) rfl rfl (fl_bo rfl) rfl ?_
  refine fl_Tq.cB (c := (54 : Int32)) rfl (by decide +kernel) (fl_bo rfl) ?_
  refine fl_Tq.stp (pc' := 22) (lv' := [some (.inr (.inr (.inl (76, 277)))), some (.inl mo), some (.inl (Int32.ofNat j)), none]) (st' := [.inr (.inr (.inl (76, 277))), .inl (54 : Int32), .inr (.inr (.inl (79, 280)))]) (m' := (f, l)) rfl rfl (fl_bo rfl) rfl ?_
  refine fl_Tq.stp (pc' := 25) (lv' := [some (.inr (.inr (.inl (76, 277)))), some (.inl mo), some (.inl (Int32.ofNat j)), none]) (st' := [.inr (.inr (.inl (79, 280))), .inl (54 : Int32), .inr (.inr (.inl (79, 280)))]) (m' := (f, l)) rfl rfl (fl_bo rfl) rfl ?_
  refine fl_Tq.cB (c := (119 : Int32)) rfl (by decide +kernel) (fl_bo rfl) ?_
  refine fl_Tq.cI (c := (2 : Int32)) rfl (by decide +kernel) (fl_bo rfl) ?_
  refine fl_Tq.stp (pc' := 29) (lv' := [some (.inr (.inr (.inl (76, 277)))), some (.inl mo), some (.inl (Int32.ofNat j)), none]) (st' := [.inl (Int32.ofNat j), .inl (2 : Int32), .inl (119 : Int32), .inr (.inr (.inl (79, 280))), .inl (54 : Int32), .inr (.inr (.inl (79, 280)))]) (m' := (f, l)) rfl rfl (fl_bo rfl) rfl ?_
  refine fl_Tq.stp (pc' := 30) (lv' := [some (.inr (.inr (.inl (76, 277)))), some (.inl mo), some (.inl (Int32.ofNat j)), none]) (st' := [.inl ((2 : Int32) * (Int32.ofNat j)), .inl (119 : Int32), .inr (.inr (.inl (79, 280))), .inl (54 : Int32), .inr (.inr (.inl (79, 280)))]) (m' := (f, l)) rfl rfl (fl_bo rfl) rfl ?_
  refine fl_Tq.stp (pc' := 31) (lv' := [some (.inr (.inr (.inl (76, 277)))), some (.inl mo), some (.inl (Int32.ofNat j)), none]) (st' := [.inl ((119 : Int32) + ((2 : Int32) * (Int32.ofNat j))), .inr (.inr (.inl (79, 280))), .inl (54 : Int32), .inr (.inr (.inl (79, 280)))]) (m' := (f, l)) rfl rfl (fl_bo rfl) rfl ?_
  refine fl_Tq.ldV (p := 280) (τ := 79) (n := 29780) (z := (0, 0, 0)) (k := 119 + (2 * j)) (v := f 280 (119 + (2 * j))) rfl (fl_bo rfl) rfl (t2_ia (by decide +kernel) (t2_im (by decide +kernel) (at_ofN (by omega)) (by omega)) (by omega)) (by omega) rfl ?_
  refine fl_Tq.svV (p := 280) (τ := 79) (n := 29780) (z := (0, 0, 0)) (k := 54) (m' := (fl_row f 280 (upd (f 280) 54 (f 280 (119 + (2 * j)))), l)) rfl (fl_bo rfl) rfl (by decide +kernel) (by decide) (t2_upn rfl) ?_
  refine fl_Tq.cI (c := (0 : Int32)) rfl (by decide +kernel) (fl_bo rfl) ?_
  refine fl_Tq.stp (pc' := 35) (lv' := [some (.inr (.inr (.inl (76, 277)))), some (.inl mo), some (.inl (Int32.ofNat j)), some (.inl (0 : Int32))]) (st' := []) (m' := (fl_row f 280 (upd (f 280) 54 (f 280 (119 + (2 * j)))), l)) rfl rfl (fl_bo rfl) rfl ?_
  exact k
theorem r_drE {L : Nat} {xs : Nat → Int32} {f : t2_F} {l : t2_L} {Q : Option fl_V → fl_M → Prop} {mo : Int32} {j : Nat} (hk : ¬ ((Int32.ofNat j).toInt < (f 280 19).toInt)) (k : Q (some (.inl mo)) (f, l)) : fl_Tq (pw_P L xs) 266 4 [some (.inr (.inr (.inl (76, 277)))), some (.inl mo), some (.inl (Int32.ofNat j)), none] [] (f, l) Q := by
  refine fl_Tq.stp (pc' := 5) (lv' := [some (.inr (.inr (.inl (76, 277)))), some (.inl mo), some (.inl (Int32.ofNat j)), none]) (st' := [.inl (Int32.ofNat j)]) (m' := (f, l)) rfl rfl (fl_bo rfl) rfl ?_
  refine fl_Tq.stp (pc' := 6) (lv' := [some (.inr (.inr (.inl (76, 277)))), some (.inl mo), some (.inl (Int32.ofNat j)), none]) (st' := [.inr (.inr (.inl (76, 277))), .inl (Int32.ofNat j)]) (m' := (f, l)) rfl rfl (fl_bo rfl) rfl ?_
  refine fl_Tq.stp (pc' := 9) (lv' := [some (.inr (.inr (.inl (76, 277)))), some (.inl mo), some (.inl (Int32.ofNat j)), none]) (st' := [.inr (.inr (.inl (79, 280))), .inl (Int32.ofNat j)]) (m' := (f, l)) rfl rfl (fl_bo rfl) rfl ?_
  refine fl_Tq.cB (c := (19 : Int32)) rfl (by decide +kernel) (fl_bo rfl) ?_
  refine fl_Tq.ldV (p := 280) (τ := 79) (n := 29780) (z := (0, 0, 0)) (k := 19) (v := f 280 19) rfl (fl_bo rfl) rfl (by decide +kernel) (by decide) rfl ?_
  refine fl_Tq.jt rfl (fl_bo rfl) (c2_ge_t hk) rfl ?_
  refine fl_Tq.stp (pc' := 85) (lv' := [some (.inr (.inr (.inl (76, 277)))), some (.inl mo), some (.inl (Int32.ofNat j)), none]) (st' := [.inl mo]) (m' := (f, l)) rfl rfl (fl_bo rfl) rfl ?_
  exact fl_Tq.ret rfl rfl rfl k
theorem r_drC {L : Nat} {xs : Nat → Int32} {f : t2_F} {l : t2_L} {Q : Option fl_V → fl_M → Prop} {mo : Int32} {j i : Nat} {fc : t2_F} (hj : j < 24) (h : c0_I fc f) (ht : (f 280 7).toInt < 9999) (hr : t2_RS f) (hp : f 277 7 = 0) (hk : (Int32.ofNat i).toInt < (f 280 ((119 + (2 * j)) + 1)).toInt) (hl : (f 280 7).toInt < (9999 : Int32).toInt) (k : fl_Tq (pw_P L xs) 266 35 [some (.inr (.inr (.inl (76, 277)))), some (.inl (mo + (r_sec_v f))), some (.inl (Int32.ofNat j)), some (.inl ((Int32.ofNat i) + (1 : Int32)))] [] (r_sec_m f, l) Q) : fl_Tq (pw_P L xs) 266 35 [some (.inr (.inr (.inl (76, 277)))), some (.inl mo), some (.inl (Int32.ofNat j)), some (.inl (Int32.ofNat i))] [] (f, l) Q := by
  refine fl_Tq.stp (pc' := 36) (lv' := [some (.inr (.inr (.inl (76, 277)))), some (.inl mo), some (.inl (Int32.ofNat j)), some (.inl (Int32.ofNat i))]) (st' := [.inl (Int32.ofNat i)]) (m' := (f, l)) rfl rfl (fl_bo rfl) rfl ?_
  refine fl_Tq.stp (pc' := 37) (lv' := [some (.inr (.inr (.inl (76, 277)))), some (.inl mo), some (.inl (Int32.ofNat j)), some (.inl (Int32.ofNat i))]) (st' := [.inr (.inr (.inl (76, 277))), .inl (Int32.ofNat i)]) (m' := (f, l)) rfl rfl (fl_bo rfl) rfl ?_
  refine fl_Tq.stp (pc' := 40) (lv' := [some (.inr (.inr (.inl (76, 277)))), some (.inl mo), some (.inl (Int32.ofNat j)), some (.inl (Int32.ofNat i))]) (st' := [.inr (.inr (.inl (79, 280))), .inl (Int32.ofNat i)]) (m' := (f, l)) rfl rfl (fl_bo rfl) rfl ?_
  refine fl_Tq.cB (c := (119 : Int32)) rfl (by decide +kernel) (fl_bo rfl) ?_
  refine fl_Tq.cI (c := (2 : Int32)) rfl (by decide +kernel) (fl_bo rfl) ?_
  refine fl_Tq.stp (pc' := 44) (lv' := [some (.inr (.inr (.inl (76, 277)))), some (.inl mo), some (.inl (Int32.ofNat j)), some (.inl (Int32.ofNat i))]) (st' := [.inl (Int32.ofNat j), .inl (2 : Int32), .inl (119 : Int32), .inr (.inr (.inl (79, 280))), .inl (Int32.ofNat i)]) (m' := (f, l)) rfl rfl (fl_bo rfl) rfl ?_
  refine fl_Tq.stp (pc' := 45) (lv' := [some (.inr (.inr (.inl (76, 277)))), some (.inl mo), some (.inl (Int32.ofNat j)), some (.inl (Int32.ofNat i))]) (st' := [.inl ((2 : Int32) * (Int32.ofNat j)), .inl (119 : Int32), .inr (.inr (.inl (79, 280))), .inl (Int32.ofNat i)]) (m' := (f, l)) rfl rfl (fl_bo rfl) rfl ?_
  refine fl_Tq.stp (pc' := 46) (lv' := [some (.inr (.inr (.inl (76, 277)))), some (.inl mo), some (.inl (Int32.ofNat j)), some (.inl (Int32.ofNat i))]) (st' := [.inl ((119 : Int32) + ((2 : Int32) * (Int32.ofNat j))), .inr (.inr (.inl (79, 280))), .inl (Int32.ofNat i)]) (m' := (f, l)) rfl rfl (fl_bo rfl) rfl ?_
  refine fl_Tq.cI (c := (1 : Int32)) rfl (by decide +kernel) (fl_bo rfl) ?_
  refine fl_Tq.stp (pc' := 48) (lv' := [some (.inr (.inr (.inl (76, 277)))), some (.inl mo), some (.inl (Int32.ofNat j)), some (.inl (Int32.ofNat i))]) (st' := [.inl (((119 : Int32) + ((2 : Int32) * (Int32.ofNat j))) + (1 : Int32)), .inr (.inr (.inl (79, 280))), .inl (Int32.ofNat i)]) (m' := (f, l)) rfl rfl (fl_bo rfl) rfl ?_
  refine fl_Tq.ldV (p := 280) (τ := 79) (n := 29780) (z := (0, 0, 0)) (k := (119 + (2 * j)) + 1) (v := f 280 ((119 + (2 * j)) + 1)) rfl (fl_bo rfl) rfl (t2_ia (t2_ia (by decide +kernel) (t2_im (by decide +kernel) (at_ofN (by omega)) (by omega)) (by omega)) (by decide +kernel) (by omega)) (by omega) rfl ?_
  refine fl_Tq.jf rfl (fl_bo rfl) (c2_ge_f hk) rfl ?_
  refine fl_Tq.stp (pc' := 53) (lv' := [some (.inr (.inr (.inl (76, 277)))), some (.inl mo), some (.inl (Int32.ofNat j)), some (.inl (Int32.ofNat i))]) (st' := [.inr (.inr (.inl (76, 277)))]) (m' := (f, l)) rfl rfl (fl_bo rfl) rfl ?_
  refine fl_Tq.stp (pc' := 56) (lv' := [some (.inr (.inr (.inl (76, 277)))), some (.inl mo), some (.inl (Int32.ofNat j)), some (.inl (Int32.ofNat i))]) (st' := [.inr (.inr (.inl (79, 280)))]) (m' := (f, l)) rfl rfl (fl_bo rfl) rfl ?_
  refine fl_Tq.cB (c := (7 : Int32)) rfl (by decide +kernel) (fl_bo rfl) ?_
  refine fl_Tq.ldV (p := 280) (τ := 79) (n := 29780) (z := (0, 0, 0)) (k := 7) (v := f 280 7) rfl (fl_bo rfl) rfl (by decide +kernel) (by decide) rfl ?_
  refine fl_Tq.cS (c := (9999 : Int32)) rfl (by decide +kernel) (fl_bo rfl) ?_
  refine fl_Tq.jf rfl (fl_bo rfl) (c2_ge_f hl) rfl ?_
  refine fl_Tq.stp (pc' := 66) (lv' := [some (.inr (.inr (.inl (76, 277)))), some (.inl mo), some (.inl (Int32.ofNat j)), some (.inl (Int32.ofNat i))]) (st' := [.inl mo]) (m' := (f, l)) rfl rfl (fl_bo rfl) rfl ?_
  refine fl_Tq.stp (pc' := 67) (lv' := [some (.inr (.inr (.inl (76, 277)))), some (.inl mo), some (.inl (Int32.ofNat j)), some (.inl (Int32.ofNat i))]) (st' := [.inr (.inr (.inl (76, 277))), .inl mo]) (m' := (f, l)) rfl rfl (fl_bo rfl) rfl ?_
  refine fl_Tq.cal rfl rfl (fl_bo rfl) rfl ?_
  refine c0_rsec_q h ht hr hp ?_
  show fl_Tq _ 266 70 [some (.inr (.inr (.inl (76, 277)))), some (.inl mo), some (.inl (Int32.ofNat j)), some (.inl (Int32.ofNat i))] [.inl (r_sec_v f), .inl mo] (r_sec_m f, l) _
  refine fl_Tq.stp (pc' := 71) (lv' := [some (.inr (.inr (.inl (76, 277)))), some (.inl mo), some (.inl (Int32.ofNat j)), some (.inl (Int32.ofNat i))]) (st' := [.inl (mo + (r_sec_v f))]) (m' := (r_sec_m f, l)) rfl rfl (fl_bo rfl) rfl ?_
  refine fl_Tq.stp (pc' := 72) (lv' := [some (.inr (.inr (.inl (76, 277)))), some (.inl (mo + (r_sec_v f))), some (.inl (Int32.ofNat j)), some (.inl (Int32.ofNat i))]) (st' := []) (m' := (r_sec_m f, l)) rfl rfl (fl_bo rfl) rfl ?_
  refine fl_Tq.stp (pc' := 75) (lv' := [some (.inr (.inr (.inl (76, 277)))), some (.inl (mo + (r_sec_v f))), some (.inl (Int32.ofNat j)), some (.inl ((Int32.ofNat i) + (1 : Int32)))]) (st' := []) (m' := (r_sec_m f, l)) rfl rfl (fl_bo rfl) rfl ?_
  refine fl_Tq.stp (pc' := 35) (lv' := [some (.inr (.inr (.inl (76, 277)))), some (.inl (mo + (r_sec_v f))), some (.inl (Int32.ofNat j)), some (.inl ((Int32.ofNat i) + (1 : Int32)))]) (st' := []) (m' := (r_sec_m f, l)) rfl rfl (fl_bo rfl) rfl ?_
  exact k
theorem r_drD {L : Nat} {xs : Nat → Int32} {f : t2_F} {l : t2_L} {Q : Option fl_V → fl_M → Prop} {mo : Int32} {j i : Nat} (hj : j < 24) (hk : ¬ ((Int32.ofNat i).toInt < (f 280 ((119 + (2 * j)) + 1)).toInt)) (k : fl_Tq (pw_P L xs) 266 4 [some (.inr (.inr (.inl (76, 277)))), some (.inl mo), some (.inl ((Int32.ofNat j) + (1 : Int32))), some (.inl (Int32.ofNat i))] [] (f, l) Q) : fl_Tq (pw_P L xs) 266 35 [some (.inr (.inr (.inl (76, 277)))), some (.inl mo), some (.inl (Int32.ofNat j)), some (.inl (Int32.ofNat i))] [] (f, l) Q := by
  refine fl_Tq.stp (pc' := 36) (lv' := [some (.inr (.inr (.inl (76, 277)))), some (.inl mo), some (.inl (Int32.ofNat j)), some (.inl (Int32.ofNat i))]) (st' := [.inl (Int32.ofNat i)]) (m' := (f, l)) rfl rfl (fl_bo rfl) rfl ?_
  refine fl_Tq.stp (pc' := 37) (lv' := [some (.inr (.inr (.inl (76, 277)))), some (.inl mo), some (.inl (Int32.ofNat j)), some (.inl (Int32.ofNat i))]) (st' := [.inr (.inr (.inl (76, 277))), .inl (Int32.ofNat i)]) (m' := (f, l)) rfl rfl (fl_bo rfl) rfl ?_
  refine fl_Tq.stp (pc' := 40) (lv' := [some (.inr (.inr (.inl (76, 277)))), some (.inl mo), some (.inl (Int32.ofNat j)), some (.inl (Int32.ofNat i))]) (st' := [.inr (.inr (.inl (79, 280))), .inl (Int32.ofNat i)]) (m' := (f, l)) rfl rfl (fl_bo rfl) rfl ?_
  refine fl_Tq.cB (c := (119 : Int32)) rfl (by decide +kernel) (fl_bo rfl) ?_
  refine fl_Tq.cI (c := (2 : Int32)) rfl (by decide +kernel) (fl_bo rfl) ?_
  refine fl_Tq.stp (pc' := 44) (lv' := [some (.inr (.inr (.inl (76, 277)))), some (.inl mo), some (.inl (Int32.ofNat j)), some (.inl (Int32.ofNat i))]) (st' := [.inl (Int32.ofNat j), .inl (2 : Int32), .inl (119 : Int32), .inr (.inr (.inl (79, 280))), .inl (Int32.ofNat i)]) (m' := (f, l)) rfl rfl (fl_bo rfl) rfl ?_
  refine fl_Tq.stp (pc' := 45) (lv' := [some (.inr (.inr (.inl (76, 277)))), some (.inl mo), some (.inl (Int32.ofNat j)), some (.inl (Int32.ofNat i))]) (st' := [.inl ((2 : Int32) * (Int32.ofNat j)), .inl (119 : Int32), .inr (.inr (.inl (79, 280))), .inl (Int32.ofNat i)]) (m' := (f, l)) rfl rfl (fl_bo rfl) rfl ?_
  refine fl_Tq.stp (pc' := 46) (lv' := [some (.inr (.inr (.inl (76, 277)))), some (.inl mo), some (.inl (Int32.ofNat j)), some (.inl (Int32.ofNat i))]) (st' := [.inl ((119 : Int32) + ((2 : Int32) * (Int32.ofNat j))), .inr (.inr (.inl (79, 280))), .inl (Int32.ofNat i)]) (m' := (f, l)) rfl rfl (fl_bo rfl) rfl ?_
  refine fl_Tq.cI (c := (1 : Int32)) rfl (by decide +kernel) (fl_bo rfl) ?_
  refine fl_Tq.stp (pc' := 48) (lv' := [some (.inr (.inr (.inl (76, 277)))), some (.inl mo), some (.inl (Int32.ofNat j)), some (.inl (Int32.ofNat i))]) (st' := [.inl (((119 : Int32) + ((2 : Int32) * (Int32.ofNat j))) + (1 : Int32)), .inr (.inr (.inl (79, 280))), .inl (Int32.ofNat i)]) (m' := (f, l)) rfl rfl (fl_bo rfl) rfl ?_
  refine fl_Tq.ldV (p := 280) (τ := 79) (n := 29780) (z := (0, 0, 0)) (k := (119 + (2 * j)) + 1) (v := f 280 ((119 + (2 * j)) + 1)) rfl (fl_bo rfl) rfl (t2_ia (t2_ia (by decide +kernel) (t2_im (by decide +kernel) (at_ofN (by omega)) (by omega)) (by omega)) (by decide +kernel) (by omega)) (by omega) rfl ?_
  refine fl_Tq.jt rfl (fl_bo rfl) (c2_ge_t hk) rfl ?_
  refine fl_Tq.stp (pc' := 81) (lv' := [some (.inr (.inr (.inl (76, 277)))), some (.inl mo), some (.inl ((Int32.ofNat j) + (1 : Int32))), some (.inl (Int32.ofNat i))]) (st' := []) (m' := (f, l)) rfl rfl (fl_bo rfl) rfl ?_
  refine fl_Tq.stp (pc' := 4) (lv' := [some (.inr (.inr (.inl (76, 277)))), some (.inl mo), some (.inl ((Int32.ofNat j) + (1 : Int32))), some (.inl (Int32.ofNat i))]) (st' := []) (m' := (f, l)) rfl rfl (fl_bo rfl) rfl ?_
  exact k
theorem r_drD2 {L : Nat} {xs : Nat → Int32} {f : t2_F} {l : t2_L} {Q : Option fl_V → fl_M → Prop} {mo : Int32} {j i : Nat} (hj : j < 24) (hk : (Int32.ofNat i).toInt < (f 280 ((119 + (2 * j)) + 1)).toInt) (hl : ¬ ((f 280 7).toInt < (9999 : Int32).toInt)) (k : fl_Tq (pw_P L xs) 266 4 [some (.inr (.inr (.inl (76, 277)))), some (.inl mo), some (.inl ((Int32.ofNat j) + (1 : Int32))), some (.inl (Int32.ofNat i))] [] (f, l) Q) : fl_Tq (pw_P L xs) 266 35 [some (.inr (.inr (.inl (76, 277)))), some (.inl mo), some (.inl (Int32.ofNat j)), some (.inl (Int32.ofNat i))] [] (f, l) Q := by
  refine fl_Tq.stp (pc' := 36) (lv' := [some (.inr (.inr (.inl (76, 277)))), some (.inl mo), some (.inl (Int32.ofNat j)), some (.inl (Int32.ofNat i))]) (st' := [.inl (Int32.ofNat i)]) (m' := (f, l)) rfl rfl (fl_bo rfl) rfl ?_
  refine fl_Tq.stp (pc' := 37) (lv' := [some (.inr (.inr (.inl (76, 277)))), some (.inl mo), some (.inl (Int32.ofNat j)), some (.inl (Int32.ofNat i))]) (st' := [.inr (.inr (.inl (76, 277))), .inl (Int32.ofNat i)]) (m' := (f, l)) rfl rfl (fl_bo rfl) rfl ?_
  refine fl_Tq.stp (pc' := 40) (lv' := [some (.inr (.inr (.inl (76, 277)))), some (.inl mo), some (.inl (Int32.ofNat j)), some (.inl (Int32.ofNat i))]) (st' := [.inr (.inr (.inl (79, 280))), .inl (Int32.ofNat i)]) (m' := (f, l)) rfl rfl (fl_bo rfl) rfl ?_
  refine fl_Tq.cB (c := (119 : Int32)) rfl (by decide +kernel) (fl_bo rfl) ?_
  refine fl_Tq.cI (c := (2 : Int32)) rfl (by decide +kernel) (fl_bo rfl) ?_
  refine fl_Tq.stp (pc' := 44) (lv' := [some (.inr (.inr (.inl (76, 277)))), some (.inl mo), some (.inl (Int32.ofNat j)), some (.inl (Int32.ofNat i))]) (st' := [.inl (Int32.ofNat j), .inl (2 : Int32), .inl (119 : Int32), .inr (.inr (.inl (79, 280))), .inl (Int32.ofNat i)]) (m' := (f, l)) rfl rfl (fl_bo rfl) rfl ?_
  refine fl_Tq.stp (pc' := 45) (lv' := [some (.inr (.inr (.inl (76, 277)))), some (.inl mo), some (.inl (Int32.ofNat j)), some (.inl (Int32.ofNat i))]) (st' := [.inl ((2 : Int32) * (Int32.ofNat j)), .inl (119 : Int32), .inr (.inr (.inl (79, 280))), .inl (Int32.ofNat i)]) (m' := (f, l)) rfl rfl (fl_bo rfl) rfl ?_
  refine fl_Tq.stp (pc' := 46) (lv' := [some (.inr (.inr (.inl (76, 277)))), some (.inl mo), some (.inl (Int32.ofNat j)), some (.inl (Int32.ofNat i))]) (st' := [.inl ((119 : Int32) + ((2 : Int32) * (Int32.ofNat j))), .inr (.inr (.inl (79, 280))), .inl (Int32.ofNat i)]) (m' := (f, l)) rfl rfl (fl_bo rfl) rfl ?_
  refine fl_Tq.cI (c := (1 : Int32)) rfl (by decide +kernel) (fl_bo rfl) ?_
  refine fl_Tq.stp (pc' := 48) (lv' := [some (.inr (.inr (.inl (76, 277)))), some (.inl mo), some (.inl (Int32.ofNat j)), some (.inl (Int32.ofNat i))]) (st' := [.inl (((119 : Int32) + ((2 : Int32) * (Int32.ofNat j))) + (1 : Int32)), .inr (.inr (.inl (79, 280))), .inl (Int32.ofNat i)]) (m' := (f, l)) rfl rfl (fl_bo rfl) rfl ?_
  refine fl_Tq.ldV (p := 280) (τ := 79) (n := 29780) (z := (0, 0, 0)) (k := (119 + (2 * j)) + 1) (v := f 280 ((119 + (2 * j)) + 1)) rfl (fl_bo rfl) rfl (t2_ia (t2_ia (by decide +kernel) (t2_im (by decide +kernel) (at_ofN (by omega)) (by omega)) (by omega)) (by decide +kernel) (by omega)) (by omega) rfl ?_
  refine fl_Tq.jf rfl (fl_bo rfl) (c2_ge_f hk) rfl ?_
  refine fl_Tq.stp (pc' := 53) (lv' := [some (.inr (.inr (.inl (76, 277)))), some (.inl mo), some (.inl (Int32.ofNat j)), some (.inl (Int32.ofNat i))]) (st' := [.inr (.inr (.inl (76, 277)))]) (m' := (f, l)) rfl rfl (fl_bo rfl) rfl ?_
  refine fl_Tq.stp (pc' := 56) (lv' := [some (.inr (.inr (.inl (76, 277)))), some (.inl mo), some (.inl (Int32.ofNat j)), some (.inl (Int32.ofNat i))]) (st' := [.inr (.inr (.inl (79, 280)))]) (m' := (f, l)) rfl rfl (fl_bo rfl) rfl ?_
  refine fl_Tq.cB (c := (7 : Int32)) rfl (by decide +kernel) (fl_bo rfl) ?_
  refine fl_Tq.ldV (p := 280) (τ := 79) (n := 29780) (z := (0, 0, 0)) (k := 7) (v := f 280 7) rfl (fl_bo rfl) rfl (by decide +kernel) (by decide) rfl ?_
  refine fl_Tq.cS (c := (9999 : Int32)) rfl (by decide +kernel) (fl_bo rfl) ?_
  refine fl_Tq.jt rfl (fl_bo rfl) (c2_ge_t hl) rfl ?_
  refine fl_Tq.stp (pc' := 81) (lv' := [some (.inr (.inr (.inl (76, 277)))), some (.inl mo), some (.inl ((Int32.ofNat j) + (1 : Int32))), some (.inl (Int32.ofNat i))]) (st' := []) (m' := (f, l)) rfl rfl (fl_bo rfl) rfl ?_
  refine fl_Tq.stp (pc' := 4) (lv' := [some (.inr (.inr (.inl (76, 277)))), some (.inl mo), some (.inl ((Int32.ofNat j) + (1 : Int32))), some (.inl (Int32.ofNat i))]) (st' := []) (m' := (f, l)) rfl rfl (fl_bo rfl) rfl ?_
  exact k

end

/-! 94.33.drv.lean.txt -/
section
/-! ===== block 0: a setting; a drive ===== -/
section C0DRV
variable {fc fr f g : t2_F} {C n : Nat} {c x v : Int32}
noncomputable def c0_set (f : t2_F) (k : Nat) (v : Int32) : t2_F := fl_row f 4 (upd (f 4) k v)
noncomputable def r_set (f : t2_F) (k : Nat) (v : Int32) : t2_F := fl_row f 280 (upd (f 280) (34 + k) v)
theorem c0_I.set (h : c0_I fc fr) {k : Nat} (hk : k < 30) (hv : t2_lo k ≤ v.toInt ∧ v.toInt ≤ t2_hi k) : c0_I (c0_set fc k v) (r_set fr k v) := by
  obtain ⟨⟨⟨g5, g6, g7, g8⟩, ⟨g9, g10, g11, g12⟩, g13, g14, g15, g16⟩, rs, gx, cl, ok⟩ := h
  have P : ∀ p : Nat, p ≠ 4 → c0_set fc k v p = fc p := fun p hp => fl_row_ne hp
  have W : ∀ w : Nat, (w < 34 ∨ 64 ≤ w) → r_set fr k v 280 w = fr 280 w := fun w hw => by unfold r_set; rw [fl_row_self, upd_ne (by omega)]
  have P1 : c0_set fc k v 1 = fc 1 := P _ (by decide)
  refine ⟨⟨⟨?_, ?_, ?_, ?_⟩, ⟨?_, ?_, ?_, ?_⟩, ?_, ?_, ?_, ?_⟩, fun j hj => ?_, gx.congr ok.2.2.2.2.2.1.1.2 (fun p hp => P p (by omega)) (fun w hw => W w (by omega)), fun C hC => ?_, ?_⟩
  · rw [P1, W 2 (by decide), g5]
  · rw [P1, W 7 (by decide), g6]
  · rw [P1, W 3 (by decide), g7]
  · rw [P1, W 4 (by decide), g8]
  · rw [P1, W 5 (by decide), g9]
  · rw [P1, W 14 (by decide), g10]
  · rw [P1, W 8 (by decide), g11]
  · rw [P1, W 9 (by decide), g12]
  · rw [P1, W 10 (by decide), g13]
  · rw [P1, W 11 (by decide), g14]
  · rw [P1, W 12 (by decide), g15]
  · rw [P1, W 13 (by decide), g16]
  · unfold c0_set r_set
    rw [fl_row_self, fl_row_self]
    by_cases e : j = k
    · subst e
      rw [upd_self, upd_self]
    · rw [upd_ne e, upd_ne (by omega)]
      exact rs j hj
  · rw [W 2 (by decide)] at hC
    exact ⟨(cl C hC).1.congr (P _ (by omega)) (fun k hk => W _ (by omega)), (cl C hC).2.congr (fun j _ _ => by rw [P _ (by omega)]) (fun p hp => P p (by omega)) (fun w hw => W _ (by omega))⟩
  · refine ok.upd (fun w hw => W w (by omega)) (fun j hj => ?_) (by rw [W 5 (by decide)]; exact ok.2.1.1) (by rw [W 4 (by decide)]; exact ok.2.1.2.1) (by rw [W 7 (by decide)]; exact ok.2.1.2.2.2) (by rw [W 16 (by decide), W 20 (by decide), W 21 (by decide)]; exact ok.2.2.2.2.2.2.1) (fun C hC => ?_)
    · unfold r_set
      rw [fl_row_self]
      by_cases e : j = k
      · subst e
        rw [upd_self]
        exact hv
      · rw [upd_ne (by omega)]
        exact ok.s hj
    · exact (ok.2.2.2.2.2.2.2 C hC).congr (fun w hw => W _ (by omega)) (by rw [W 7 (by decide)]; exact Int.le_refl _)
/-- the words that no second touches -/
theorem c0_I.sec_w (h : c0_I fc fr) (ht : (fr 280 7).toInt < 9999) {w : Nat} (hw : (17 ≤ w ∧ w < 20) ∨ (64 ≤ w ∧ w < 167)) : r_sec_m fr 280 w = fr 280 w := by
  obtain ⟨i1, i2, i3, i4, i5, i6, im, -, ⟨i8, -⟩, ik, -⟩ := h.chain ht
  have ok8 := i8.2.2.2.2
  have okk := ik.2.2.2.2
  unfold r_sec_m
  rw [r_goRules_w okk.2.2.2.2.1.1 okk.2.2.2.2.1.2.1 (by omega)]
  have e1 : r_goKept_m (r_goFaults_m (r_v6 fr)) 280 w = r_goFaults_m (r_v6 fr) 280 w := by
    unfold r_goKept_m
    exact r_goKept_f117_w ok8.2.1.2.2.1 (fun C hC => (ok8.2.2.2.2.2.2.2 C hC).1) ok8.2.2.2.2.2.2.1.2.2 (fun C hC => ⟨(ok8.2.2.2.2.2.2.2 C hC).2.2.2.2.2.2.2.1, (ok8.2.2.2.2.2.2.2 C hC).2.2.2.2.2.2.2.2.1⟩) (Nat.le_refl _) (Or.inl (by omega)) (by omega)
  rw [e1, r_goFaults_w im.2.2.2.2.2.2.2.2.2.2.1.2.1 (by omega), r_v6_w, r_goTaper_w (by omega)]
  unfold r_w6
  rw [r_meas_mid (by omega), r_mid_lo (by omega) (by omega) (by omega)]
  unfold r_t5
  rw [fl_row_self, upd_ne (by omega), r_goBalance_w (by omega), r_cells_lo (by omega), i2.cur.2 w (by omega) (fun C _ => by omega), r_goBus_w2, if_neg (by omega), if_neg (by omega)]
  unfold r_t1
  rw [fl_row_self, upd_ne (by omega)]
theorem c0_I.run_w (h : c0_I fc fr) (hj : c0_J fc) (hr : t2_RS fr) (hp : fr 277 7 = 0) {w : Nat} (hw : (17 ≤ w ∧ w < 20) ∨ (64 ≤ w ∧ w < 167)) : ∀ k : Nat, (fr 280 7).toInt + k ≤ 9999 → r_runN fr k 280 w = fr 280 w := by
  intro k
  induction k with
  | zero => intro _; rfl
  | succ k ih =>
    intro hk
    obtain ⟨⟨a, -⟩, t, -⟩ := h.run hj hr hp (0 : Int32) k (by omega)
    show r_sec_m (r_runN fr k) 280 w = _
    rw [a.sec_w (by omega) hw, ih (by omega)]
/-- how many seconds a piece takes -/
noncomputable def r_pn (f : t2_F) (j : Nat) : Nat := (min (f 280 (119 + 2 * j + 1)).toInt (9999 - (f 280 7).toInt)).toNat
noncomputable def c0_pn (f : t2_F) (j : Nat) : Int32 := t2_min_v (f 8 ((j * 2) + 1)) ((9999 : Int32) - (f 1 6))
/-- a drive, j pieces of it -/
noncomputable def c0_drv (f : t2_F) : Nat → t2_F × Int32
  | 0 => (f, (0 : Int32))
  | j + 1 => (c0_runN (c0_set (c0_drv f j).1 20 ((c0_drv f j).1 8 (j * 2))) (c0_pn (c0_drv f j).1 j).toInt.toNat, c0_runV (c0_set (c0_drv f j).1 20 ((c0_drv f j).1 8 (j * 2))) (c0_drv f j).2 (c0_pn (c0_drv f j).1 j).toInt.toNat)
noncomputable def r_drv (f : t2_F) : Nat → t2_F × Int32
  | 0 => (f, (0 : Int32))
  | j + 1 => (r_runN (r_set (r_drv f j).1 20 ((r_drv f j).1 280 (119 + 2 * j))) (r_pn (r_drv f j).1 j), r_runV (r_set (r_drv f j).1 20 ((r_drv f j).1 280 (119 + 2 * j))) (r_drv f j).2 (r_pn (r_drv f j).1 j))
def c0_K (fc fr : t2_F) : Prop := c0_I fc fr ∧ c0_J fc ∧ t2_RS fr ∧ fr 277 7 = 0
theorem c0_K.set (h : c0_K fc fr) {k : Nat} (hk : k < 30) (hv : t2_lo k ≤ v.toInt ∧ v.toInt ≤ t2_hi k) : c0_K (c0_set fc k v) (r_set fr k v) := by
  obtain ⟨a, b, d, e⟩ := h
  refine ⟨a.set hk hv, b.congr (fun p hp => fl_row_ne (by omega)), d.same (fl_row_ne (by decide)), ?_⟩
  unfold r_set
  rw [fl_row_ne (by decide)]
  exact e
theorem c0_K.pn (h : c0_K fc fr) {j : Nat} (hj : (j : Int) < (fr 280 19).toInt) : (c0_pn fc j).toInt.toNat = r_pn fr j ∧ 0 ≤ (c0_pn fc j).toInt ∧ (fr 280 7).toInt + r_pn fr j ≤ 9999 ∧ fc 8 (j * 2) = fr 280 (119 + 2 * j) ∧ (-99999 ≤ (fr 280 (119 + 2 * j)).toInt ∧ (fr 280 (119 + 2 * j)).toInt ≤ 99999) ∧ (1 ≤ (fr 280 (119 + 2 * j + 1)).toInt ∧ (fr 280 (119 + 2 * j + 1)).toInt ≤ 99) := by
  obtain ⟨⟨⟨⟨g5, g6, -⟩, -⟩, -, ⟨⟨-, -, -, -, -, gp⟩, -⟩, -, ok⟩, -⟩ := h
  have b := ok.2.2.2.2.2.1.2 j hj
  have t := ok.2.1.2.2.2
  have e8 : fc 8 ((j * 2) + 1) = fr 280 (119 + 2 * j + 1) := by
    rw [gp (j * 2 + 1) (by omega)]
    congr 1
    omega
  have e80 : fc 8 (j * 2) = fr 280 (119 + 2 * j) := by
    rw [gp (j * 2) (by omega)]
    congr 1
    omega
  have c9 : (9999 : Int32).toInt = 9999 := by decide +kernel
  have s : ((9999 : Int32) - fr 280 7).toInt = 9999 - (fr 280 7).toInt := by rw [at_sub32 (by omega) (by omega), c9]
  have m : (c0_pn fc j).toInt = min (fr 280 (119 + 2 * j + 1)).toInt (9999 - (fr 280 7).toInt) := by
    unfold c0_pn
    rw [t2_min_i, e8, g6, s]
  unfold r_pn
  rw [m]
  refine ⟨rfl, by omega, by omega, e80, b.1, b.2⟩
theorem c0_K.run (h : c0_K fc fr) (v : Int32) {k : Nat} (hk : (fr 280 7).toInt + k ≤ 9999) : c0_K (c0_runN fc k) (r_runN fr k) ∧ (r_runN fr k 280 7).toInt = (fr 280 7).toInt + k ∧ c0_runV fc v k = r_runV fr v k := h.1.run h.2.1 h.2.2.1 h.2.2.2 v k hk
theorem c0_K.drv (h : c0_K fc fr) : ∀ j : Nat, (j : Int) ≤ (fr 280 19).toInt → c0_K (c0_drv fc j).1 (r_drv fr j).1 ∧ (r_drv fr j).1 280 19 = fr 280 19 ∧ (c0_drv fc j).2 = (r_drv fr j).2 := by
  have q20 : t2_lo 20 = -99999 ∧ t2_hi 20 = 99999 := by decide
  intro j
  induction j with
  | zero => intro _; exact ⟨h, rfl, rfl⟩
  | succ j ih =>
    intro hj
    obtain ⟨a, b, d⟩ := ih (by omega)
    obtain ⟨p1, p2, p3, p4, p5, p6⟩ := a.pn (j := j) (by rw [b]; omega)
    have s := a.set (k := 20) (v := (r_drv fr j).1 280 (119 + 2 * j)) (by decide) (by omega)
    have t7 : r_set (r_drv fr j).1 20 ((r_drv fr j).1 280 (119 + 2 * j)) 280 7 = (r_drv fr j).1 280 7 := by unfold r_set; rw [fl_row_self, upd_ne (by decide)]
    obtain ⟨r1, r2, r3⟩ := s.run (r_drv fr j).2 (k := r_pn (r_drv fr j).1 j) (by rw [t7]; omega)
    refine ⟨?_, ?_, ?_⟩
    · show c0_K (c0_runN (c0_set (c0_drv fc j).1 20 ((c0_drv fc j).1 8 (j * 2))) (c0_pn (c0_drv fc j).1 j).toInt.toNat) (r_runN (r_set (r_drv fr j).1 20 ((r_drv fr j).1 280 (119 + 2 * j))) (r_pn (r_drv fr j).1 j))
      rw [p1, p4]
      exact r1
    · show r_runN (r_set (r_drv fr j).1 20 ((r_drv fr j).1 280 (119 + 2 * j))) (r_pn (r_drv fr j).1 j) 280 19 = _
      rw [s.1.run_w s.2.1 s.2.2.1 s.2.2.2 (Or.inl (by decide)) _ (by rw [t7]; omega)]
      unfold r_set
      rw [fl_row_self, upd_ne (by decide), b]
    · show c0_runV (c0_set (c0_drv fc j).1 20 ((c0_drv fc j).1 8 (j * 2))) (c0_drv fc j).2 (c0_pn (c0_drv fc j).1 j).toInt.toNat = r_runV (r_set (r_drv fr j).1 20 ((r_drv fr j).1 280 (119 + 2 * j))) (r_drv fr j).2 (r_pn (r_drv fr j).1 j)
      rw [p1, p4, d]
      exact r3
/-- passDrive -/
theorem c0_passDrive_q {L : Nat} {xs : Nat → Int32} {l : t2_L} {Q : Option fl_V → fl_M → Prop} (h : c0_K fc fr) (k : Q (some (.inl (c0_drv fc (fr 280 19).toInt.toNat).2)) ((c0_drv fc (fr 280 19).toInt.toNat).1, l)) : fl_Tq (pw_P L xs) 56 0 (fl_args (am_mxl (pw_P L xs) 56) [.inr (.inr (.inl (1, 1)))]) [] (fc, l) Q := by
  have n19 := h.1.2.2.2.2.2.2.2.2.2.1.1
  have q20 : t2_lo 20 = -99999 ∧ t2_hi 20 = 99999 := by decide
  have cnt : ∀ j : Nat, (j : Int) ≤ (fr 280 19).toInt → ((c0_drv fc j).1 3 7).toInt = (((fr 280 19).toInt.toNat : Nat) : Int) := fun j hj => by
    obtain ⟨a, b, -⟩ := h.drv j hj
    rw [a.1.2.2.1.1.2.2.2.2.1, b]
    omega
  refine c0_drA ?_
  refine t2_for (n := (fr 280 19).toInt.toNat) (S := fun j => fl_Tq (pw_P L xs) 56 4 [some (.inr (.inr (.inl (1, 1)))), some (.inl (c0_drv fc j).2), some (.inl (Int32.ofNat j)), none, none] [] ((c0_drv fc j).1, l) Q) (fun j hj hS => ?_) ?_
  · obtain ⟨a, b, -⟩ := h.drv j (by omega)
    obtain ⟨p1, p2, p3, p4, p5, p6⟩ := a.pn (j := j) (by rw [b]; omega)
    have s := a.set (k := 20) (v := (r_drv fr j).1 280 (119 + 2 * j)) (by decide) (by omega)
    have t7 : r_set (r_drv fr j).1 20 ((r_drv fr j).1 280 (119 + 2 * j)) 280 7 = (r_drv fr j).1 280 7 := by unfold r_set; rw [fl_row_self, upd_ne (by decide)]
    rw [← p4] at s
    refine c0_drB (by omega) (t2_lk hj (cnt j (by omega))) ?_
    refine t2_for (n := (c0_pn (c0_drv fc j).1 j).toInt.toNat) (S := fun i => fl_Tq (pw_P L xs) 56 64 [some (.inr (.inr (.inl (1, 1)))), some (.inl (c0_runV (c0_set (c0_drv fc j).1 20 ((c0_drv fc j).1 8 (j * 2))) (c0_drv fc j).2 i)), some (.inl (Int32.ofNat j)), some (.inl (c0_pn (c0_drv fc j).1 j)), some (.inl (Int32.ofNat i))] [] (c0_runN (c0_set (c0_drv fc j).1 20 ((c0_drv fc j).1 8 (j * 2))) i, l) Q) (fun i hi hS2 => ?_) ?_
    · obtain ⟨r1, r2, -⟩ := s.run (0 : Int32) (k := i) (by rw [p4, t7]; omega)
      rw [p4, t7] at r2
      refine c0_drC r1.1 (by rw [p4]; omega) r1.2.1 (t2_lk hi (by omega)) ?_
      rw [t2_k1]
      exact hS2
    · refine c0_drD (t2_ln (by omega)) ?_
      rw [t2_k1]
      exact fl_Tq.fg hS ⟨rfl, rfl, rfl, True.intro⟩
  · exact c0_drE (t2_ln (cnt _ (by omega))) k
/-- driveNow -/
theorem c0_driveNow_q {L : Nat} {xs : Nat → Int32} {l : t2_L} {Q : Option fl_V → fl_M → Prop} (h : c0_K fc fr) (k : Q (some (.inl (r_drv fr (fr 280 19).toInt.toNat).2)) ((r_drv fr (fr 280 19).toInt.toNat).1, l)) : fl_Tq (pw_P L xs) 266 0 (fl_args (am_mxl (pw_P L xs) 266) [.inr (.inr (.inl (76, 277)))]) [] (fr, l) Q := by
  have n19 := h.1.2.2.2.2.2.2.2.2.2.1.1
  have c9 : (9999 : Int32).toInt = 9999 := by decide +kernel
  have q20 : t2_lo 20 = -99999 ∧ t2_hi 20 = 99999 := by decide
  have cnt : ∀ j : Nat, (j : Int) ≤ (fr 280 19).toInt → ((r_drv fr j).1 280 19).toInt = (((fr 280 19).toInt.toNat : Nat) : Int) := fun j hj => by
    obtain ⟨-, b, -⟩ := h.drv j hj
    rw [b]
    omega
  refine r_drA ?_
  refine t2_for (n := (fr 280 19).toInt.toNat) (S := fun j => fl_Tq (pw_P L xs) 266 4 [some (.inr (.inr (.inl (76, 277)))), some (.inl (r_drv fr j).2), some (.inl (Int32.ofNat j)), none] [] ((r_drv fr j).1, l) Q) (fun j hj hS => ?_) ?_
  · obtain ⟨a, b, -⟩ := h.drv j (by omega)
    obtain ⟨p1, p2, p3, p4, p5, p6⟩ := a.pn (j := j) (by rw [b]; omega)
    have s := a.set (k := 20) (v := (r_drv fr j).1 280 (119 + 2 * j)) (by decide) (by omega)
    have t7 : ∀ w : Nat, w ≠ 54 → r_set (r_drv fr j).1 20 ((r_drv fr j).1 280 (119 + 2 * j)) 280 w = (r_drv fr j).1 280 w := fun w hw => by unfold r_set; rw [fl_row_self, upd_ne (by omega)]
    have W : ∀ i : Nat, i ≤ r_pn (r_drv fr j).1 j → r_runN (r_set (r_drv fr j).1 20 ((r_drv fr j).1 280 (119 + 2 * j))) i 280 ((119 + 2 * j) + 1) = (r_drv fr j).1 280 (119 + 2 * j + 1) := fun i hi => by
      rw [s.1.run_w s.2.1 s.2.2.1 s.2.2.2 (w := (119 + 2 * j) + 1) (Or.inr (by omega)) i (by rw [t7 7 (by decide)]; omega), t7 _ (by omega)]
    have pe : (r_pn (r_drv fr j).1 j : Int) = min ((r_drv fr j).1 280 (119 + 2 * j + 1)).toInt (9999 - ((r_drv fr j).1 280 7).toInt) := by
      have tb := a.1.2.2.2.2.2.1.2.2.2
      unfold r_pn
      omega
    refine r_drB (by omega) (t2_lk hj (cnt j (by omega))) ?_
    refine t2_for (n := r_pn (r_drv fr j).1 j) (S := fun i => fl_Tq (pw_P L xs) 266 35 [some (.inr (.inr (.inl (76, 277)))), some (.inl (r_runV (r_set (r_drv fr j).1 20 ((r_drv fr j).1 280 (119 + 2 * j))) (r_drv fr j).2 i)), some (.inl (Int32.ofNat j)), some (.inl (Int32.ofNat i))] [] (r_runN (r_set (r_drv fr j).1 20 ((r_drv fr j).1 280 (119 + 2 * j))) i, l) Q) (fun i hi hS2 => ?_) ?_
    · obtain ⟨r1, r2, -⟩ := s.run (0 : Int32) (k := i) (by rw [t7 7 (by decide)]; omega)
      rw [t7 7 (by decide)] at r2
      have ei : (Int32.ofNat i).toInt = i := at_ofN (by omega)
      refine r_drC (f := r_runN (r_set (r_drv fr j).1 20 ((r_drv fr j).1 280 (119 + 2 * j))) i) (by omega) r1.1 (by omega) r1.2.2.1 r1.2.2.2 (by rw [W i (by omega)]; omega) (by omega) ?_
      rw [t2_k1]
      exact hS2
    · obtain ⟨-, r2, -⟩ := s.run (0 : Int32) (k := r_pn (r_drv fr j).1 j) (by rw [t7 7 (by decide)]; omega)
      rw [t7 7 (by decide)] at r2
      have ei : (Int32.ofNat (r_pn (r_drv fr j).1 j)).toInt = (r_pn (r_drv fr j).1 j : Nat) := at_ofN (by omega)
      have hS' := fl_Tq.fg (lv' := [some (.inr (.inr (.inl (76, 277)))), some (.inl (r_drv fr (j + 1)).2), some (.inl (Int32.ofNat (j + 1))), some (.inl (Int32.ofNat (r_pn (r_drv fr j).1 j)))]) hS ⟨rfl, rfl, rfl, True.intro⟩
      rw [← t2_k1] at hS'
      by_cases e : (Int32.ofNat (r_pn (r_drv fr j).1 j)).toInt < ((r_drv fr j).1 280 (119 + 2 * j + 1)).toInt
      · exact r_drD2 (f := r_runN (r_set (r_drv fr j).1 20 ((r_drv fr j).1 280 (119 + 2 * j))) (r_pn (r_drv fr j).1 j)) (by omega) (by rw [W _ (Nat.le_refl _)]; exact e) (by omega) hS'
      · exact r_drD (f := r_runN (r_set (r_drv fr j).1 20 ((r_drv fr j).1 280 (119 + 2 * j))) (r_pn (r_drv fr j).1 j)) (by omega) (by rw [W _ (Nat.le_refl _)]; exact e) hS'
  · exact r_drE (t2_ln (cnt _ (by omega))) k
end C0DRV

end

/-! 94.34.sta24.lean.txt -/
section
/-! ===== stateAt as a function: the state that is there, or one made now ===== -/
section T2STA
variable {L : Nat} {xs : Nat → Int32} {m : fl_M} {Q : Option fl_V → fl_M → Prop}
theorem t2_stateAt_q {p i : Nat} {ii : Int32} (hg : at_Good at_XI m) (hkp : fk_K p = 73) (hi : ii.toInt = i) (hi2 : i < 20)
    (k0 : ∀ j : Nat, j < m.2.2 → (m.1 (p + 1) i).toInt = 285 + 90 * (j : Int) → Q (some (.inr (.inr (.inl (25, 285 + 90 * j))))) m)
    (k1 : ∀ x : Int32, m.1 (p + 1) i = 0 → x.toInt = 285 + 90 * (m.2.2 : Int) → at_Good at_XI (fl_up m.1 (p + 1) i x, m.2.1, m.2.2 + 1) → m.2.2 < 40 → Q (some (.inr (.inr (.inl (25, 285 + 90 * m.2.2))))) (fl_up m.1 (p + 1) i x, m.2.1, m.2.2 + 1)) :
    fl_Tq (pw_P L xs) 24 0 (fl_args (am_mxl (pw_P L xs) 24) [.inr (.inr (.inl (73, p))), .inl ii]) [] m Q := by
  have hp := at_K73 (h := 0) hkp
  have hpl : p < 285 := by omega
  have hq : p + 1 = 272 ∨ p + 1 = 274 := by omega
  have hkq : fk_K (p + 1) = 74 := by rcases hp with rfl | rfl <;> decide +kernel
  refine fl_Tq.stp rfl rfl (fl_bo rfl) rfl ?_
  refine fl_Tq.stp rfl rfl (fl_oks_ok ⟨fl_okp hkp hpl, True.intro⟩) rfl ?_
  refine fl_Tq.stp rfl rfl (fl_oks_ok ⟨fl_okp hkq (by show p + 1 < 285; omega), True.intro⟩) rfl ?_
  have e := fun la => at_row (m := m) (pc := 4 + 1) (r := []) (la := la) hq hi hi2
  by_cases h0 : m.1 (p + 1) i = 0
  · -- made now
    rw [if_pos h0] at e
    have k9 : ∀ Q : Option fl_V → fl_M → Prop, fl_Tq (pw_P L xs) 24 9 [some (.inr (.inr (.inl (73, p)))), some (.inl ii)] [] m Q → fl_Tq (pw_P L xs) 24 5 [some (.inr (.inr (.inl (73, p)))), some (.inl ii)] [.inl ii, .inr (.inr (.inl (74, p + 1)))] m Q := fun Q k la hl =>
      am_To.stp (ins := .aaload) (pc := 5) (lv := la) (st := [.int ii, .ref (p + 1)]) (M := fl_H m) (pc' := 6) (lv' := la) (st' := [.null]) (M' := fl_H m) rfl rfl rfl (e la) (am_To.stp (ins := .ifnonnull 16) (pc := 6) (lv := la) (st := [.null]) (M := fl_H m) (pc' := 9) (lv' := la) (st' := []) (M' := fl_H m) rfl rfl rfl rfl (k la hl))
    refine k9 _ ?_
    refine fl_Tq.stp rfl rfl (fl_bo rfl) rfl ?_
    refine fl_Tq.stp rfl rfl (fl_oks_ok ⟨fl_okp hkp hpl, True.intro⟩) rfl ?_
    refine fl_Tq.stp rfl rfl (fl_oks_ok ⟨fl_okp hkq (by show p + 1 < 285; omega), True.intro⟩) rfl ?_
    have hN : (fl_H m).1.length = 285 + 90 * m.2.2 := by unfold fl_H fl_N; simp
    have hh40 := hg.2.2.h40
    obtain ⟨x, hx⟩ : ∃ x : Int32, x.toInt = 285 + 90 * (m.2.2 : Int) := ⟨Int32.ofNat (285 + 90 * m.2.2), by rw [at_ofN (by omega)]; omega⟩
    obtain ⟨g1, g2, g3⟩ := at_made hg hq hi2 h0 hx
    obtain ⟨H, eH, l1, l2, l3⟩ := nw_state1 g1
    have em := at_more hg.2.2 l1 l2 l3
    intro la hl
    refine am_To.stp (ins := .new 9) (pc' := 17) (lv' := la) (st' := [.ref (fl_H m).1.length, .int ii, .ref (p + 1)]) (M' := nw_h (fl_H m) ([nw_obj0], 17)) rfl rfl rfl rfl ?_
    refine am_To.stp (ins := .dup) (pc' := 18) (lv' := la) (st' := [.ref (fl_H m).1.length, .ref (fl_H m).1.length, .int ii, .ref (p + 1)]) (M' := nw_h (fl_H m) ([nw_obj0], 17)) rfl rfl rfl rfl ?_
    refine am_To.cal (ins := .invokespecial 36) (mj := 32) (n := 1) rfl rfl rfl ?_
    refine ⟨2000, none, nw_h (fl_H m) H, nw_ev_ok (B := fl_H m) 2000 32 0 _ [] _ none H ?_, ?_⟩
    · rw [hN]
      exact eH
    · rw [em]
      have hrow := at_hrow (m := ((m.1, m.2.1, m.2.2 + 1) : fl_M)) hq
      obtain ⟨n1, n2⟩ := at_in_ok (i := ii) (n := 20) (by omega) (by omega)
      have n3 : ii.toNatClampNeg = i := by omega
      have hN2 : (fl_H (m.1, m.2.1, m.2.2 + 1)).1[285 + 90 * m.2.2]? = some (fl_ob (fk_kd (fk_K (285 + 90 * m.2.2))) (285 + 90 * m.2.2) (m.1 (285 + 90 * m.2.2)) (m.2.1 (285 + 90 * m.2.2))) := fl_get (m := (m.1, m.2.1, m.2.2 + 1)) (by show _ < fl_N (m.2.2 + 1); unfold fl_N; omega)
      rw [at_K25] at hN2
      have exN : x.toNatClampNeg = 285 + 90 * m.2.2 := by
        have : x.toNatClampNeg = x.toInt.toNat := rfl
        omega
      have hxne : x ≠ 0 := fun h => by
        rw [h] at hx
        have : (0 : Int32).toInt = 0 := rfl
        omega
      have es : am_qast (pw_P L xs) 21 la [.ref (285 + 90 * m.2.2), .int ii, .ref (p + 1)] (fl_H (m.1, m.2.1, m.2.2 + 1)) = some (22, la, [], fl_H (fl_up m.1 (p + 1) i x, m.2.1, m.2.2 + 1)) := by
        show ((match (fl_H (m.1, m.2.1, m.2.2 + 1)).1[p + 1]?, (fl_H (m.1, m.2.1, m.2.2 + 1)).1[285 + 90 * m.2.2]? with
          | some (.inl (t, n, .inr (.inr (.inr (.inr f))))), some (.inr (cj, _)) => bif decide (2 ≤ t ∧ t < 5) && (decide (pw_elt t = cj) && am_in ii n) then some (21 + 1, la, [], ((fl_H (m.1, m.2.1, m.2.2 + 1)).1.set (p + 1) (.inl (t, n, .inr (.inr (.inr (.inr (va_up f ii.toNatClampNeg (some (285 + 90 * m.2.2)))))))), (fl_H (m.1, m.2.1, m.2.2 + 1)).2)) else none
          | _, _ => none) : Option am_C) = _
        rw [hrow, hN2]
        show ((bif decide (2 ≤ 4 ∧ 4 < 5) && (decide (pw_elt 4 = 4) && am_in ii 20) then some (21 + 1, la, [], ((fl_H (m.1, m.2.1, m.2.2 + 1)).1.set (p + 1) (.inl (4, 20, .inr (.inr (.inr (.inr (va_up (fun i => if i < 20 then (if m.1 (p + 1) i = 0 then none else some (m.1 (p + 1) i).toNatClampNeg) else none) ii.toNatClampNeg (some (285 + 90 * m.2.2)))))))), (fl_H (m.1, m.2.1, m.2.2 + 1)).2)) else none) : Option am_C) = _
        rw [n1, n3]
        have ef : va_up (fun i => if i < 20 then (if m.1 (p + 1) i = 0 then none else some (m.1 (p + 1) i).toNatClampNeg) else none) i (some (285 + 90 * m.2.2)) = (fun j => if j < 20 then (if upd (m.1 (p + 1)) i x j = 0 then none else some (upd (m.1 (p + 1)) i x j).toNatClampNeg) else none) := by
          funext j
          unfold va_up upd
          by_cases hj : j = i
          · rw [if_pos hj, if_pos hj, if_pos (by omega), if_neg hxne, exN]
          · rw [if_neg hj, if_neg hj]
        rw [ef]
        have hset := fl_setR (m := ((m.1, m.2.1, m.2.2 + 1) : fl_M)) (p := p + 1) (w := upd (m.1 (p + 1)) i x) (by show p + 1 < fl_N (m.2.2 + 1); unfold fl_N; omega)
        rw [hkq] at hset
        rw [fl_up_row]
        show some (22, la, [], ((fl_H (m.1, m.2.1, m.2.2 + 1)).1.set (p + 1) (fl_ob (fk_kd 74) (p + 1) (upd (m.1 (p + 1)) i x) (m.2.1 (p + 1))), (fl_H (m.1, m.2.1, m.2.2 + 1)).2)) = _
        rw [hset]
      refine am_To.stp (ins := .aastore) (pc' := 22) (lv' := la) (st' := []) (M' := fl_H (fl_up m.1 (p + 1) i x, m.2.1, m.2.2 + 1)) rfl rfl rfl ?_ ?_
      · rw [hN]
        exact es
      · refine at_t22 (m := (fl_up m.1 (p + 1) i x, m.2.1, m.2.2 + 1)) (x := 285 + 90 * m.2.2) hkp hpl hkq hq hi hi2 ?_ ?_ (k1 x h0 hx g2 g1) la hl
        · show fl_up m.1 (p + 1) i x (p + 1) i ≠ 0
          rw [bl_ue]
          exact hxne
        · show (fl_up m.1 (p + 1) i x (p + 1) i).toInt = _
          rw [bl_ue, hx]
          omega
  · -- there already
    rw [if_neg h0] at e
    obtain ⟨j, hj, hx⟩ : ∃ j, j < m.2.2 ∧ (m.1 (p + 1) i).toInt = 285 + 90 * (j : Int) := by
      rcases hg.2.2.1 (p + 1) hq i hi2 with h | h
      · exact absurd h h0
      · exact h
    have ex : (m.1 (p + 1) i).toNatClampNeg = 285 + 90 * j := by
      have : (m.1 (p + 1) i).toNatClampNeg = (m.1 (p + 1) i).toInt.toNat := rfl
      omega
    rw [ex] at e
    refine fl_Tq.gen (ins := .aaload) (pc' := 6) (lv' := [some (.inr (.inr (.inl (73, p)))), some (.inl ii)]) (st' := [.inr (.inr (.inl (25, 285 + 90 * j)))]) rfl rfl rfl (fun la hl => ⟨la, e la, hl⟩) ?_
    refine fl_Tq.gen (ins := .ifnonnull 16) (pc' := 22) (lv' := [some (.inr (.inr (.inl (73, p)))), some (.inl ii)]) (st' := []) rfl rfl rfl (fun la hl => ⟨la, rfl, hl⟩) ?_
    have h40 := hg.2.2.h40
    refine at_t22 (x := 285 + 90 * j) hkp hpl hkq hq hi hi2 h0 (by omega) (k0 j hj hx)
end T2STA

end
