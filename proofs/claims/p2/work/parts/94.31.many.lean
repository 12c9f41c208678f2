/-! ===== block 0: many seconds ===== -/
section C0MANY
variable {fc fr f g : t2_F} {C n : Nat} {c x : Int32}
noncomputable def c0_runN (f : t2_F) : Nat → t2_F
  | 0 => f
  | k + 1 => c0_sec_m (c0_runN f k)
noncomputable def c0_runV (f : t2_F) (v : Int32) : Nat → Int32
  | 0 => v
  | k + 1 => c0_runV f v k + c0_sec_v (c0_runN f k)
noncomputable def r_runN (f : t2_F) : Nat → t2_F
  | 0 => f
  | k + 1 => r_sec_m (r_runN f k)
noncomputable def r_runV (f : t2_F) (v : Int32) : Nat → Int32
  | 0 => v
  | k + 1 => r_runV f v k + r_sec_v (r_runN f k)
theorem c0_I.time (h : c0_I fc fr) (ht : (fr 280 7).toInt < 9999) : (r_sec_m fr 280 7).toInt = (fr 280 7).toInt + 1 := by
  obtain ⟨i1, i2, i3, i4, i5, i6, im, -, ⟨i8, -⟩, ik, -⟩ := h.chain ht
  have k1 := (h.s1 ht).2
  have ok8 := i8.2.2.2.2
  have okk := ik.2.2.2.2
  unfold r_sec_m
  rw [r_goRules_w okk.2.2.2.2.1.1 okk.2.2.2.2.1.2.1 (by decide)]
  have e1 : r_goKept_m (r_goFaults_m (r_v6 fr)) 280 7 = r_goFaults_m (r_v6 fr) 280 7 := by
    unfold r_goKept_m
    exact r_goKept_f117_w ok8.2.1.2.2.1 (fun C hC => (ok8.2.2.2.2.2.2.2 C hC).1) ok8.2.2.2.2.2.2.1.2.2 (fun C hC => ⟨(ok8.2.2.2.2.2.2.2 C hC).2.2.2.2.2.2.2.1, (ok8.2.2.2.2.2.2.2 C hC).2.2.2.2.2.2.2.2.1⟩) (Nat.le_refl _) (Or.inl (by decide)) (by decide)
  rw [e1, r_goFaults_w im.2.2.2.2.2.2.2.2.2.2.1.2.1 (by decide), r_v6_w, r_goTaper_w (by decide)]
  unfold r_w6
  rw [r_meas_mid (by decide), r_mid_lo (by decide) (by decide) (by decide)]
  unfold r_t5
  rw [fl_row_self, upd_ne (by decide), r_goBalance_w (by decide), r_cells_lo (by decide), i2.cur.2 7 (by decide) (fun C _ => by omega), r_goBus_w2, if_neg (by decide), if_neg (by decide), k1]
theorem c0_I.run (h : c0_I fc fr) (hj : c0_J fc) (hr : t2_RS fr) (hp : fr 277 7 = 0) (v : Int32) : ∀ k : Nat, (fr 280 7).toInt + k ≤ 9999 → (c0_I (c0_runN fc k) (r_runN fr k) ∧ c0_J (c0_runN fc k) ∧ t2_RS (r_runN fr k) ∧ r_runN fr k 277 7 = 0) ∧ (r_runN fr k 280 7).toInt = (fr 280 7).toInt + k ∧ c0_runV fc v k = r_runV fr v k := by
  intro k
  induction k with
  | zero => intro _; exact ⟨⟨h, hj, hr, hp⟩, by show (fr 280 7).toInt = _; omega, rfl⟩
  | succ k ih =>
    intro hk
    obtain ⟨⟨a, b, d, e⟩, t, s⟩ := ih (by omega)
    have ht : (r_runN fr k 280 7).toInt < 9999 := by omega
    obtain ⟨q1, q2⟩ := a.sec ht
    refine ⟨⟨q1, b.sec a ht, d.same (r_sec_p (by decide) (by decide) (by decide)), ?_⟩, ?_, ?_⟩
    · show r_sec_m (r_runN fr k) 277 7 = 0
      rw [(a.p277 ht (by decide) (by decide)).2.2, e]
    · show (r_sec_m (r_runN fr k) 280 7).toInt = _
      rw [a.time ht]
      omega
    · show c0_runV fc v k + c0_sec_v (c0_runN fc k) = r_runV fr v k + r_sec_v (r_runN fr k)
      rw [s, q2]
/-- passSeconds -/
theorem c0_passSeconds_q {L : Nat} {xs : Nat → Int32} {l : t2_L} {Q : Option fl_V → fl_M → Prop} {x : Int32} (h : c0_I fc fr) (hj : c0_J fc) (hr : t2_RS fr) (hp : fr 277 7 = 0) (hx : 0 ≤ x.toInt) (ht : (fr 280 7).toInt + x.toInt ≤ 9999) (k : Q (some (.inl (c0_runV fc (0 : Int32) x.toInt.toNat))) (c0_runN fc x.toInt.toNat, l)) : fl_Tq (pw_P L xs) 55 0 (fl_args (am_mxl (pw_P L xs) 55) [.inr (.inr (.inl (1, 1))), .inl x]) [] (fc, l) Q := by
  have R := h.run hj hr hp (0 : Int32)
  refine c0_secsA ?_
  refine t2_for (n := x.toInt.toNat) (S := fun k => fl_Tq (pw_P L xs) 55 4 [some (.inr (.inr (.inl (1, 1)))), some (.inl x), some (.inl (c0_runV fc (0 : Int32) k)), some (.inl (Int32.ofNat k))] [] (c0_runN fc k, l) Q) (fun k hk hS => ?_) ?_
  · obtain ⟨⟨a, b, -, -⟩, t, -⟩ := R k (by omega)
    refine c0_secsB a (by omega) b (t2_lk hk (by omega)) ?_
    rw [t2_k1]
    exact hS
  · exact c0_secsC (t2_ln (by omega)) k
/-- secondsNow -/
theorem c0_secondsNow_q {L : Nat} {xs : Nat → Int32} {l : t2_L} {Q : Option fl_V → fl_M → Prop} {x : Int32} (h : c0_I fc fr) (hj : c0_J fc) (hr : t2_RS fr) (hp : fr 277 7 = 0) (hx : 0 ≤ x.toInt) (ht : (fr 280 7).toInt + x.toInt ≤ 9999) (k : Q (some (.inl (r_runV fr (0 : Int32) x.toInt.toNat))) (r_runN fr x.toInt.toNat, l)) : fl_Tq (pw_P L xs) 248 0 (fl_args (am_mxl (pw_P L xs) 248) [.inr (.inr (.inl (76, 277))), .inl x]) [] (fr, l) Q := by
  have R := h.run hj hr hp (0 : Int32)
  refine r_secsA ?_
  refine t2_for (n := x.toInt.toNat) (S := fun k => fl_Tq (pw_P L xs) 248 4 [some (.inr (.inr (.inl (76, 277)))), some (.inl x), some (.inl (r_runV fr (0 : Int32) k)), some (.inl (Int32.ofNat k))] [] (r_runN fr k, l) Q) (fun k hk hS => ?_) ?_
  · obtain ⟨⟨a, -, d, e⟩, t, -⟩ := R k (by omega)
    refine r_secsB (f := r_runN fr k) a (by omega) d e (t2_lk hk (by omega)) ?_
    rw [t2_k1]
    exact hS
  · exact r_secsC (t2_ln (by omega)) k
end C0MANY
