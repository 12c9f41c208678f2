theorem t2_k2 (X k : Nat) : Int32.ofNat (X + 2 * (k + 1)) = Int32.ofNat (X + 2 * k) + (2 : Int32) := by
  have : X + 2 * (k + 1) = (X + 2 * k + 1) + 1 := by omega
  rw [this, ← t2_k1, ← t2_k1, Int32.add_assoc]
  rfl
theorem t2_e0 {x : Int32} (h : x = 0 ∨ x = 1) : x = Int32.ofNat (x.toInt.toNat + 2 * 0) := by
  rcases h with h | h <;> rw [h] <;> decide +kernel
theorem c0_shuttle_k {f : t2_F} {i j : Nat} (h1 : j ≠ 14) (h2 : j ≠ 15) : c0_shuttle_m f i 1 j = f 1 j := by
  unfold c0_shuttle_m
  repeat' split
  all_goals first | rfl | (rw [fl_row_self, upd_ne h2, upd_ne h1]; simp only [c0_takeOrGive_fr (p := 1) (i := i) (show 1 ≠ 18 + 4 * i by omega), c0_takeOrGive_fr (p := 1) (i := i + 1) (show 1 ≠ 18 + 4 * (i + 1) by omega)])
theorem c0_bal_n {a : Int32} {X : Nat} (h : 0 ≤ a.toInt) : (((a.toInt.toNat - X) / 2 : Nat) : Int) = max (a.toInt - X) 0 / 2 := by omega
noncomputable def c0_balance_j58_0 (f : t2_F)  : Int32 := if ((f 1 6) - (f 1 6) / (2 : Int32) * (2 : Int32)).toInt = (1 : Int32).toInt then (0 : Int32) else (1 : Int32)
noncomputable def c0_balance_b67_m (f : t2_F) (X : Nat) (k : Nat) : t2_F := c0_shuttle_m f (X + 2 * k)
theorem c0_balance_b67_fr {f : t2_F} {X : Nat} {k : Nat} {p : Nat} (e0 : p ≠ 1) (e1 : p ≠ 18 + 4 * ((X + 2 * k) + 1)) (e2 : p ≠ 18 + 4 * (X + 2 * k)) : c0_balance_b67_m f X k p = f p := by
  unfold c0_balance_b67_m
  repeat' split
  all_goals first | rfl | simp only [fl_row_ne e0, fl_row_ne e1, fl_row_ne e2, c0_shuttle_fr e0 e1 e2]
theorem c0_balance_b67_q {L : Nat} {xs : Nat → Int32} {f : t2_F} {l : t2_L} {Q : Option fl_V → fl_M → Prop} {X : Nat} {k : Nat} {n : Nat} (hkn : k < n) (hb : (n : Int) = max ((f 1 5).toInt - X) 0 / 2) (h16 : X + 2 * n ≤ 16) (hk : ∀ i : Nat, i = X + 2 * k ∨ i = X + 2 * k + 1 → t2_cap (f (18 + 4 * i) 0)) (hS : fl_Tq (pw_P L xs) 62 67 [some (.inr (.inr (.inl (1, 1)))), some (.inl (Int32.ofNat (X + 2 * (k + 1))))] [] (c0_balance_b67_m f X k, l) Q) : fl_Tq (pw_P L xs) 62 67 [some (.inr (.inr (.inl (1, 1)))), some (.inl (Int32.ofNat (X + 2 * k)))] [] (f, l) Q := by
  refine fl_Tq.stp (pc' := 68) (lv' := [some (.inr (.inr (.inl (1, 1)))), some (.inl (Int32.ofNat (X + 2 * k)))]) (st' := [.inl (Int32.ofNat (X + 2 * k))]) (m' := (f, l)) rfl rfl (fl_bo rfl) rfl ?_
  refine fl_Tq.cI (c := (1 : Int32)) rfl (by decide +kernel) (fl_bo rfl) ?_
  refine fl_Tq.stp (pc' := 70) (lv' := [some (.inr (.inr (.inl (1, 1)))), some (.inl (Int32.ofNat (X + 2 * k)))]) (st' := [.inl ((Int32.ofNat (X + 2 * k)) + (1 : Int32))]) (m' := (f, l)) rfl rfl (fl_bo rfl) rfl ?_
  refine fl_Tq.stp (pc' := 71) (lv' := [some (.inr (.inr (.inl (1, 1)))), some (.inl (Int32.ofNat (X + 2 * k)))]) (st' := [.inr (.inr (.inl (1, 1))), .inl ((Int32.ofNat (X + 2 * k)) + (1 : Int32))]) (m' := (f, l)) rfl rfl (fl_bo rfl) rfl ?_
  refine fl_Tq.gfV (k := 5) (v := f 1 5) rfl (fl_bo rfl) rfl rfl ?_
  refine fl_Tq.jf rfl (fl_bo rfl) (c2_ge_f (by have e1 : (1 : Int32).toInt = 1 := (by decide +kernel); have e2 : (Int32.ofNat (X + 2 * k)).toInt = ((X + 2 * k : Nat) : Int) := at_ofN (by omega); rw [at_add32] <;> rw [e2, e1] <;> omega)) rfl ?_
  refine fl_Tq.stp (pc' := 78) (lv' := [some (.inr (.inr (.inl (1, 1)))), some (.inl (Int32.ofNat (X + 2 * k)))]) (st' := [.inr (.inr (.inl (1, 1)))]) (m' := (f, l)) rfl rfl (fl_bo rfl) rfl ?_
  refine fl_Tq.stp (pc' := 79) (lv' := [some (.inr (.inr (.inl (1, 1)))), some (.inl (Int32.ofNat (X + 2 * k)))]) (st' := [.inr (.inr (.inl (1, 1))), .inr (.inr (.inl (1, 1)))]) (m' := (f, l)) rfl rfl (fl_bo rfl) rfl ?_
  refine fl_Tq.stp (pc' := 82) (lv' := [some (.inr (.inr (.inl (1, 1)))), some (.inl (Int32.ofNat (X + 2 * k)))]) (st' := [.inr (.inr (.inl (2, 2))), .inr (.inr (.inl (1, 1)))]) (m' := (f, l)) rfl rfl (fl_bo rfl) rfl ?_
  refine fl_Tq.stp (pc' := 83) (lv' := [some (.inr (.inr (.inl (1, 1)))), some (.inl (Int32.ofNat (X + 2 * k)))]) (st' := [.inl (Int32.ofNat (X + 2 * k)), .inr (.inr (.inl (2, 2))), .inr (.inr (.inl (1, 1)))]) (m' := (f, l)) rfl rfl (fl_bo rfl) rfl ?_
  refine fl_Tq.qld (p := 2) (τ := 2) (n := 16) (t := 18) (b := 16) (d := 3) (k := X + 2 * k) rfl (fl_bo rfl) rfl (at_ofN (by omega)) (by omega) ?_
  show fl_Tq _ 62 84 [some (.inr (.inr (.inl (1, 1)))), some (.inl (Int32.ofNat (X + 2 * k)))] [.inr (.inr (.inl (18, 18 + 4 * (X + 2 * k)))), .inr (.inr (.inl (1, 1)))] (f, l) _
  refine fl_Tq.stp (pc' := 85) (lv' := [some (.inr (.inr (.inl (1, 1)))), some (.inl (Int32.ofNat (X + 2 * k)))]) (st' := [.inr (.inr (.inl (1, 1))), .inr (.inr (.inl (18, 18 + 4 * (X + 2 * k)))), .inr (.inr (.inl (1, 1)))]) (m' := (f, l)) rfl rfl (fl_oks_ok ⟨(t2_kc0 (by omega)), fl_okp (by decide +kernel) (by decide), True.intro⟩) rfl ?_
  refine fl_Tq.stp (pc' := 88) (lv' := [some (.inr (.inr (.inl (1, 1)))), some (.inl (Int32.ofNat (X + 2 * k)))]) (st' := [.inr (.inr (.inl (2, 2))), .inr (.inr (.inl (18, 18 + 4 * (X + 2 * k)))), .inr (.inr (.inl (1, 1)))]) (m' := (f, l)) rfl rfl (fl_oks_ok ⟨fl_okp (by decide +kernel) (by decide), (t2_kc0 (by omega)), fl_okp (by decide +kernel) (by decide), True.intro⟩) rfl ?_
  refine fl_Tq.stp (pc' := 89) (lv' := [some (.inr (.inr (.inl (1, 1)))), some (.inl (Int32.ofNat (X + 2 * k)))]) (st' := [.inl (Int32.ofNat (X + 2 * k)), .inr (.inr (.inl (2, 2))), .inr (.inr (.inl (18, 18 + 4 * (X + 2 * k)))), .inr (.inr (.inl (1, 1)))]) (m' := (f, l)) rfl rfl (fl_oks_ok ⟨fl_okp (by decide +kernel) (by decide), (t2_kc0 (by omega)), fl_okp (by decide +kernel) (by decide), True.intro⟩) rfl ?_
  refine fl_Tq.cI (c := (1 : Int32)) rfl (by decide +kernel) (fl_oks_ok ⟨True.intro, fl_okp (by decide +kernel) (by decide), (t2_kc0 (by omega)), fl_okp (by decide +kernel) (by decide), True.intro⟩) ?_
  refine fl_Tq.stp (pc' := 91) (lv' := [some (.inr (.inr (.inl (1, 1)))), some (.inl (Int32.ofNat (X + 2 * k)))]) (st' := [.inl ((Int32.ofNat (X + 2 * k)) + (1 : Int32)), .inr (.inr (.inl (2, 2))), .inr (.inr (.inl (18, 18 + 4 * (X + 2 * k)))), .inr (.inr (.inl (1, 1)))]) (m' := (f, l)) rfl rfl (fl_oks_ok ⟨True.intro, True.intro, fl_okp (by decide +kernel) (by decide), (t2_kc0 (by omega)), fl_okp (by decide +kernel) (by decide), True.intro⟩) rfl ?_
  refine fl_Tq.qld (p := 2) (τ := 2) (n := 16) (t := 18) (b := 16) (d := 3) (k := (X + 2 * k + 1)) rfl (fl_oks_ok ⟨True.intro, fl_okp (by decide +kernel) (by decide), (t2_kc0 (by omega)), fl_okp (by decide +kernel) (by decide), True.intro⟩) rfl (by have e1 : (1 : Int32).toInt = 1 := (by decide +kernel); have e2 : (Int32.ofNat (X + 2 * k)).toInt = ((X + 2 * k : Nat) : Int) := at_ofN (by omega); rw [at_add32] <;> rw [e2, e1] <;> omega) (by omega) ?_
  show fl_Tq _ 62 92 [some (.inr (.inr (.inl (1, 1)))), some (.inl (Int32.ofNat (X + 2 * k)))] [.inr (.inr (.inl (18, 18 + 4 * (X + 2 * k + 1)))), .inr (.inr (.inl (18, 18 + 4 * (X + 2 * k)))), .inr (.inr (.inl (1, 1)))] (f, l) _
  refine fl_Tq.cal rfl rfl (fl_oks_ok ⟨(t2_kc0 (by omega)), (t2_kc0 (by omega)), fl_okp (by decide +kernel) (by decide), True.intro⟩) rfl ?_
  refine c0_shuttle_q (by omega) (by omega) hk ?_
  show fl_Tq _ 62 95 [some (.inr (.inr (.inl (1, 1)))), some (.inl (Int32.ofNat (X + 2 * k)))] [] (c0_shuttle_m f (X + 2 * k), l) _
  refine fl_Tq.stp (pc' := 98) (lv' := [some (.inr (.inr (.inl (1, 1)))), some (.inl ((Int32.ofNat (X + 2 * k)) + (2 : Int32)))]) (st' := []) (m' := (c0_shuttle_m f (X + 2 * k), l)) rfl rfl (fl_bo rfl) rfl ?_
  refine fl_Tq.stp (pc' := 67) (lv' := [some (.inr (.inr (.inl (1, 1)))), some (.inl ((Int32.ofNat (X + 2 * k)) + (2 : Int32)))]) (st' := []) (m' := (c0_shuttle_m f (X + 2 * k), l)) rfl rfl (fl_bo rfl) rfl ?_
  have em : c0_balance_b67_m f X k = c0_shuttle_m f (X + 2 * k) := rfl
  have ek : Int32.ofNat (X + 2 * (k + 1)) = (Int32.ofNat (X + 2 * k)) + (2 : Int32) := t2_k2 X k
  rw [em, ek] at hS
  exact hS
noncomputable def c0_balance_f67 (f : t2_F)  : Nat → t2_F
  | 0 => fl_row f 1 (upd (f 1) 16 (0 : Int32))
  | k + 1 => c0_balance_b67_m (c0_balance_f67 f k) ((c0_balance_j58_0 f).toInt.toNat) k
theorem c0_balance_f67_fr {f : t2_F}  {p : Nat} : ∀ {k : Nat} (e0 : ∀ j : Nat, j < k → p ≠ 1) (e1 : ∀ j : Nat, j < k → p ≠ 18 + 4 * ((((c0_balance_j58_0 f).toInt.toNat) + 2 * j) + 1)) (e2 : ∀ j : Nat, j < k → p ≠ 18 + 4 * (((c0_balance_j58_0 f).toInt.toNat) + 2 * j)), c0_balance_f67 f k p = (fl_row f 1 (upd (f 1) 16 (0 : Int32))) p := by
  intro k
  induction k with
  | zero => intros; rfl
  | succ k ih =>
    intro e0 e1 e2
    exact (c0_balance_b67_fr (X := (c0_balance_j58_0 f).toInt.toNat) (k := k) (e0 k (by omega)) (e1 k (by omega)) (e2 k (by omega))).trans (ih (fun j hj => e0 j (by omega)) (fun j hj => e1 j (by omega)) (fun j hj => e2 j (by omega)))
theorem c0_balance_f67_k {f : t2_F} {j : Nat} (h1 : j ≠ 14) (h2 : j ≠ 15) : ∀ {k : Nat}, c0_balance_f67 f k 1 j = (fl_row f 1 (upd (f 1) 16 (0 : Int32))) 1 j := by
  intro k
  induction k with
  | zero => rfl
  | succ k ih => exact (c0_shuttle_k h1 h2).trans ih
theorem c0_bal_h (f : t2_F) : c0_balance_j58_0 f = 0 ∨ c0_balance_j58_0 f = 1 := by
  unfold c0_balance_j58_0
  split
  · exact Or.inl rfl
  · exact Or.inr rfl
theorem c0_bal_b (f : t2_F) : (c0_balance_j58_0 f).toInt.toNat ≤ 1 := by
  rcases c0_bal_h f with h | h <;> rw [h] <;> decide +kernel
noncomputable def c0_balance_m (f : t2_F) : t2_F := if (f 10 3).toInt = 0 then (if (f 4 11).toInt = (1 : Int32).toInt then c0_shuntCells_m (fl_row f 1 (upd (f 1) 16 (0 : Int32))) else (if (f 4 11).toInt = (2 : Int32).toInt then c0_balance_f67 f (((f 1 5).toInt.toNat - (c0_balance_j58_0 f).toInt.toNat) / 2) else fl_row f 1 (upd (f 1) 16 (0 : Int32)))) else fl_row f 1 (upd (f 1) 16 (0 : Int32))
theorem c0_balance_q {L : Nat} {xs : Nat → Int32} {f : t2_F} {l : t2_L} {Q : Option fl_V → fl_M → Prop}  (hc : 0 ≤ (f 1 5).toInt ∧ (f 1 5).toInt ≤ 16) (hk : ∀ i : Nat, (i : Int) < (f 1 5).toInt → t2_cap (f (18 + 4 * i) 0)) (ho : 0 ≤ (f 4 13).toInt ∧ (f 4 13).toInt ≤ 16) (k : Q none (c0_balance_m f, l)) : fl_Tq (pw_P L xs) 62 0 (fl_args (am_mxl (pw_P L xs) 62) [.inr (.inr (.inl (1, 1)))]) [] (f, l) Q := by
  refine fl_Tq.stp (pc' := 1) (lv' := [some (.inr (.inr (.inl (1, 1)))), none]) (st' := [.inr (.inr (.inl (1, 1)))]) (m' := (f, l)) rfl rfl (fl_bo rfl) rfl ?_
  refine fl_Tq.cI (c := (0 : Int32)) rfl (by decide +kernel) (fl_bo rfl) ?_
  refine fl_Tq.pfV (k := 16) (m' := (fl_row f 1 (upd (f 1) 16 (0 : Int32)), l)) rfl (fl_bo rfl) rfl (t2_upn rfl) ?_
  refine fl_Tq.stp (pc' := 6) (lv' := [some (.inr (.inr (.inl (1, 1)))), none]) (st' := [.inr (.inr (.inl (1, 1)))]) (m' := (fl_row f 1 (upd (f 1) 16 (0 : Int32)), l)) rfl rfl (fl_bo rfl) rfl ?_
  refine fl_Tq.stp (pc' := 9) (lv' := [some (.inr (.inr (.inl (1, 1)))), none]) (st' := [.inr (.inr (.inl (10, 10)))]) (m' := (fl_row f 1 (upd (f 1) 16 (0 : Int32)), l)) rfl rfl (fl_bo rfl) rfl ?_
  refine fl_Tq.gfV (k := 3) (v := f 10 3) rfl (fl_bo rfl) rfl (by simp only [fl_row_ne (by decide : 10 ≠ 1)]) ?_
  by_cases h1 : (f 10 3).toInt = 0
  · refine fl_Tq.zt rfl (fl_bo rfl) (c1_eq_t h1) rfl ?_
    refine fl_Tq.stp (pc' := 17) (lv' := [some (.inr (.inr (.inl (1, 1)))), none]) (st' := [.inr (.inr (.inl (1, 1)))]) (m' := (fl_row f 1 (upd (f 1) 16 (0 : Int32)), l)) rfl rfl (fl_bo rfl) rfl ?_
    refine fl_Tq.stp (pc' := 20) (lv' := [some (.inr (.inr (.inl (1, 1)))), none]) (st' := [.inr (.inr (.inl (3, 3)))]) (m' := (fl_row f 1 (upd (f 1) 16 (0 : Int32)), l)) rfl rfl (fl_bo rfl) rfl ?_
    refine fl_Tq.stp (pc' := 23) (lv' := [some (.inr (.inr (.inl (1, 1)))), none]) (st' := [.inr (.inr (.inl (4, 4)))]) (m' := (fl_row f 1 (upd (f 1) 16 (0 : Int32)), l)) rfl rfl (fl_bo rfl) rfl ?_
    refine fl_Tq.cB (c := (11 : Int32)) rfl (by decide +kernel) (fl_bo rfl) ?_
    refine fl_Tq.ldV (p := 4) (τ := 4) (n := 30) (z := (0, 0, 0)) (k := 11) (v := f 4 11) rfl (fl_bo rfl) rfl (by decide +kernel) (by decide) (by simp only [fl_row_ne (by decide : 4 ≠ 1)]) ?_
    refine fl_Tq.cI (c := (1 : Int32)) rfl (by decide +kernel) (fl_bo rfl) ?_
    by_cases h2 : (f 4 11).toInt = (1 : Int32).toInt
    · refine fl_Tq.jf rfl (fl_bo rfl) (c2_ne_f h2) rfl ?_
      refine fl_Tq.stp (pc' := 31) (lv' := [some (.inr (.inr (.inl (1, 1)))), none]) (st' := [.inr (.inr (.inl (1, 1)))]) (m' := (fl_row f 1 (upd (f 1) 16 (0 : Int32)), l)) rfl rfl (fl_bo rfl) rfl ?_
      refine fl_Tq.cal rfl rfl (fl_bo rfl) rfl ?_
      refine c0_shuntCells_q (by simp only [fl_row_self, upd_ne (by decide : 5 ≠ 16)]; exact hc) (fun i h => by rw [fl_row_self, upd_ne (by decide : 5 ≠ 16)] at h; rw [fl_row_ne (show 18 + 4 * i ≠ 1 by omega)]; exact hk i h) (by rw [fl_row_ne (by decide : 4 ≠ 1)]; exact ho) ?_
      show fl_Tq _ 62 34 [some (.inr (.inr (.inl (1, 1)))), none] [] (c0_shuntCells_m (fl_row f 1 (upd (f 1) 16 (0 : Int32))), l) _
      refine fl_Tq.stp (pc' := 101) (lv' := [some (.inr (.inr (.inl (1, 1)))), none]) (st' := []) (m' := (c0_shuntCells_m (fl_row f 1 (upd (f 1) 16 (0 : Int32))), l)) rfl rfl (fl_bo rfl) rfl ?_
      refine fl_Tq.ret rfl rfl rfl ?_
      unfold c0_balance_m at k
      simp only [if_pos h1, if_pos h2] at k
      exact k
    · refine fl_Tq.jt rfl (fl_bo rfl) (c2_ne_t h2) rfl ?_
      refine fl_Tq.stp (pc' := 38) (lv' := [some (.inr (.inr (.inl (1, 1)))), none]) (st' := [.inr (.inr (.inl (1, 1)))]) (m' := (fl_row f 1 (upd (f 1) 16 (0 : Int32)), l)) rfl rfl (fl_bo rfl) rfl ?_
      refine fl_Tq.stp (pc' := 41) (lv' := [some (.inr (.inr (.inl (1, 1)))), none]) (st' := [.inr (.inr (.inl (3, 3)))]) (m' := (fl_row f 1 (upd (f 1) 16 (0 : Int32)), l)) rfl rfl (fl_bo rfl) rfl ?_
      refine fl_Tq.stp (pc' := 44) (lv' := [some (.inr (.inr (.inl (1, 1)))), none]) (st' := [.inr (.inr (.inl (4, 4)))]) (m' := (fl_row f 1 (upd (f 1) 16 (0 : Int32)), l)) rfl rfl (fl_bo rfl) rfl ?_
      refine fl_Tq.cB (c := (11 : Int32)) rfl (by decide +kernel) (fl_bo rfl) ?_
      refine fl_Tq.ldV (p := 4) (τ := 4) (n := 30) (z := (0, 0, 0)) (k := 11) (v := f 4 11) rfl (fl_bo rfl) rfl (by decide +kernel) (by decide) (by simp only [fl_row_ne (by decide : 4 ≠ 1)]) ?_
      refine fl_Tq.cI (c := (2 : Int32)) rfl (by decide +kernel) (fl_bo rfl) ?_
      by_cases h3 : (f 4 11).toInt = (2 : Int32).toInt
      · refine fl_Tq.jf rfl (fl_bo rfl) (c2_ne_f h3) rfl ?_
        refine fl_Tq.stp (pc' := 52) (lv' := [some (.inr (.inr (.inl (1, 1)))), none]) (st' := [.inr (.inr (.inl (1, 1)))]) (m' := (fl_row f 1 (upd (f 1) 16 (0 : Int32)), l)) rfl rfl (fl_bo rfl) rfl ?_
        refine fl_Tq.gfV (k := 6) (v := f 1 6) rfl (fl_bo rfl) rfl (by simp only [fl_row_self, upd_ne (by decide : 6 ≠ 16)]) ?_
        refine fl_Tq.cI (c := (2 : Int32)) rfl (by decide +kernel) (fl_bo rfl) ?_
        refine fl_Tq.rm rfl (fl_bo rfl) (by decide +kernel) ?_
        refine fl_Tq.cI (c := (1 : Int32)) rfl (by decide +kernel) (fl_bo rfl) ?_
        have hj160 : fl_Tq (pw_P L xs) 62 66 [some (.inr (.inr (.inl (1, 1)))), none] [.inl (c0_balance_j58_0 f)] (fl_row f 1 (upd (f 1) 16 (0 : Int32)), l) Q → fl_Tq (pw_P L xs) 62 58 [some (.inr (.inr (.inl (1, 1)))), none] [.inl (1 : Int32), .inl ((f 1 6) - (f 1 6) / (2 : Int32) * (2 : Int32))] (fl_row f 1 (upd (f 1) 16 (0 : Int32)), l) Q := by
          intro hJ
          by_cases h4 : ((f 1 6) - (f 1 6) / (2 : Int32) * (2 : Int32)).toInt = (1 : Int32).toInt
          · refine fl_Tq.jf rfl (fl_bo rfl) (c2_ne_f h4) rfl ?_
            refine fl_Tq.cI (c := (0 : Int32)) rfl (by decide +kernel) (fl_bo rfl) ?_
            refine fl_Tq.stp (pc' := 66) (lv' := [some (.inr (.inr (.inl (1, 1)))), none]) (st' := [.inl (0 : Int32)]) (m' := (fl_row f 1 (upd (f 1) 16 (0 : Int32)), l)) rfl rfl (fl_bo rfl) rfl ?_
            have e0 : (c0_balance_j58_0 f) = (0 : Int32) := by simp only [c0_balance_j58_0, if_pos h4]
            rw [e0] at hJ
            exact hJ
          · refine fl_Tq.jt rfl (fl_bo rfl) (c2_ne_t h4) rfl ?_
            refine fl_Tq.cI (c := (1 : Int32)) rfl (by decide +kernel) (fl_bo rfl) ?_
            have e0 : (c0_balance_j58_0 f) = (1 : Int32) := by simp only [c0_balance_j58_0, if_neg h4]
            rw [e0] at hJ
            exact hJ
        refine hj160 ?_
        show fl_Tq _ 62 66 [some (.inr (.inr (.inl (1, 1)))), none] [.inl (c0_balance_j58_0 f)] (fl_row f 1 (upd (f 1) 16 (0 : Int32)), l) _
        refine fl_Tq.stp (pc' := 67) (lv' := [some (.inr (.inr (.inl (1, 1)))), some (.inl (c0_balance_j58_0 f))]) (st' := []) (m' := (fl_row f 1 (upd (f 1) 16 (0 : Int32)), l)) rfl rfl (fl_bo rfl) rfl ?_
        have hs67 : ∀ k : Nat, k < ((f 1 5).toInt.toNat - (c0_balance_j58_0 f).toInt.toNat) / 2 → fl_Tq (pw_P L xs) 62 67 [some (.inr (.inr (.inl (1, 1)))), some (.inl (Int32.ofNat (((c0_balance_j58_0 f).toInt.toNat) + 2 * (k + 1))))] [] (c0_balance_f67 f (k + 1), l) Q → fl_Tq (pw_P L xs) 62 67 [some (.inr (.inr (.inl (1, 1)))), some (.inl (Int32.ofNat (((c0_balance_j58_0 f).toInt.toNat) + 2 * k)))] [] (c0_balance_f67 f k, l) Q := fun k hkn hS => c0_balance_b67_q hkn (by simp only [c0_balance_f67_k (k := k) (by decide : 5 ≠ 14) (by decide : 5 ≠ 15), fl_row_self, upd_ne (by decide : 5 ≠ 16)]; exact (c0_bal_n hc.1)) (by have := c0_bal_b f; omega) (fun i e => by rw [c0_balance_f67_fr (k := k) (p := 18 + 4 * i) (fun j hj => by omega) (fun j hj => by omega) (fun j hj => by omega), fl_row_ne (show 18 + 4 * i ≠ 1 by omega)]; exact hk i (by have := c0_bal_b f; omega)) hS
        refine (congrArg (fun z : Int32 => fl_Tq (pw_P L xs) 62 67 [some (.inr (.inr (.inl (1, 1)))), some (.inl z)] [] (fl_row f 1 (upd (f 1) 16 (0 : Int32)), l) Q) (t2_e0 (c0_bal_h f))).mpr ?_
        refine t2_for (S := fun k => fl_Tq (pw_P L xs) 62 67 [some (.inr (.inr (.inl (1, 1)))), some (.inl (Int32.ofNat (((c0_balance_j58_0 f).toInt.toNat) + 2 * k)))] [] (c0_balance_f67 f k, l) Q) hs67 ?_
        show fl_Tq (pw_P L xs) 62 67 [some (.inr (.inr (.inl (1, 1)))), some (.inl (Int32.ofNat (((c0_balance_j58_0 f).toInt.toNat) + 2 * (((f 1 5).toInt.toNat - (c0_balance_j58_0 f).toInt.toNat) / 2))))] [] (c0_balance_f67 f (((f 1 5).toInt.toNat - (c0_balance_j58_0 f).toInt.toNat) / 2), l) _
        refine fl_Tq.stp (pc' := 68) (lv' := [some (.inr (.inr (.inl (1, 1)))), some (.inl (Int32.ofNat (((c0_balance_j58_0 f).toInt.toNat) + 2 * (((f 1 5).toInt.toNat - (c0_balance_j58_0 f).toInt.toNat) / 2))))]) (st' := [.inl (Int32.ofNat (((c0_balance_j58_0 f).toInt.toNat) + 2 * (((f 1 5).toInt.toNat - (c0_balance_j58_0 f).toInt.toNat) / 2)))]) (m' := (c0_balance_f67 f (((f 1 5).toInt.toNat - (c0_balance_j58_0 f).toInt.toNat) / 2), l)) rfl rfl (fl_bo rfl) rfl ?_
        refine fl_Tq.cI (c := (1 : Int32)) rfl (by decide +kernel) (fl_bo rfl) ?_
        refine fl_Tq.stp (pc' := 70) (lv' := [some (.inr (.inr (.inl (1, 1)))), some (.inl (Int32.ofNat (((c0_balance_j58_0 f).toInt.toNat) + 2 * (((f 1 5).toInt.toNat - (c0_balance_j58_0 f).toInt.toNat) / 2))))]) (st' := [.inl ((Int32.ofNat (((c0_balance_j58_0 f).toInt.toNat) + 2 * (((f 1 5).toInt.toNat - (c0_balance_j58_0 f).toInt.toNat) / 2))) + (1 : Int32))]) (m' := (c0_balance_f67 f (((f 1 5).toInt.toNat - (c0_balance_j58_0 f).toInt.toNat) / 2), l)) rfl rfl (fl_bo rfl) rfl ?_
        refine fl_Tq.stp (pc' := 71) (lv' := [some (.inr (.inr (.inl (1, 1)))), some (.inl (Int32.ofNat (((c0_balance_j58_0 f).toInt.toNat) + 2 * (((f 1 5).toInt.toNat - (c0_balance_j58_0 f).toInt.toNat) / 2))))]) (st' := [.inr (.inr (.inl (1, 1))), .inl ((Int32.ofNat (((c0_balance_j58_0 f).toInt.toNat) + 2 * (((f 1 5).toInt.toNat - (c0_balance_j58_0 f).toInt.toNat) / 2))) + (1 : Int32))]) (m' := (c0_balance_f67 f (((f 1 5).toInt.toNat - (c0_balance_j58_0 f).toInt.toNat) / 2), l)) rfl rfl (fl_bo rfl) rfl ?_
        refine fl_Tq.gfV (k := 5) (v := f 1 5) rfl (fl_bo rfl) rfl (by simp only [c0_balance_f67_k (k := (((f 1 5).toInt.toNat - (c0_balance_j58_0 f).toInt.toNat) / 2)) (by decide : 5 ≠ 14) (by decide : 5 ≠ 15), fl_row_self, upd_ne (by decide : 5 ≠ 16)]) ?_
        refine fl_Tq.jt rfl (fl_bo rfl) (c2_ge_t (by have := c0_bal_b f; have e1 : (1 : Int32).toInt = 1 := (by decide +kernel); have e2 : (Int32.ofNat (((c0_balance_j58_0 f).toInt.toNat) + 2 * (((f 1 5).toInt.toNat - (c0_balance_j58_0 f).toInt.toNat) / 2))).toInt = ((((c0_balance_j58_0 f).toInt.toNat) + 2 * (((f 1 5).toInt.toNat - (c0_balance_j58_0 f).toInt.toNat) / 2) : Nat) : Int) := at_ofN (by omega); rw [at_add32] <;> rw [e2, e1] <;> omega)) rfl ?_
        refine fl_Tq.ret rfl rfl rfl ?_
        unfold c0_balance_m at k
        simp only [if_pos h1, if_neg h2, if_pos h3] at k
        exact k
      · refine fl_Tq.jt rfl (fl_bo rfl) (c2_ne_t h3) rfl ?_
        refine fl_Tq.ret rfl rfl rfl ?_
        unfold c0_balance_m at k
        simp only [if_pos h1, if_neg h2, if_neg h3] at k
        exact k
  · refine fl_Tq.zf rfl (fl_bo rfl) (c1_eq_f h1) rfl ?_
    refine fl_Tq.ret rfl rfl rfl ?_
    unfold c0_balance_m at k
    simp only [if_neg h1] at k
    exact k
theorem c2_shuttle_k {f : t2_F} {i j : Nat} (h1 : j ≠ 14) (h2 : j ≠ 15) : c2_shuttle_m f i 181 j = f 181 j := by
  unfold c2_shuttle_m
  repeat' split
  all_goals first | rfl | (rw [fl_row_self, upd_ne h2, upd_ne h1]; simp only [c2_takeOrGive_fr (p := 181) (i := i) (show 181 ≠ 198 + 4 * i by omega), c2_takeOrGive_fr (p := 181) (i := i + 1) (show 181 ≠ 198 + 4 * (i + 1) by omega)])
theorem c2_bal_n {a : Int32} {X : Nat} (h : 0 ≤ a.toInt) : (((a.toInt.toNat - X) / 2 : Nat) : Int) = max (a.toInt - X) 0 / 2 := by omega
noncomputable def c2_balance_j58_0 (f : t2_F)  : Int32 := if ((f 181 6) - (f 181 6) / (2 : Int32) * (2 : Int32)).toInt = (1 : Int32).toInt then (0 : Int32) else (1 : Int32)
noncomputable def c2_balance_b67_m (f : t2_F) (X : Nat) (k : Nat) : t2_F := c2_shuttle_m f (X + 2 * k)
theorem c2_balance_b67_fr {f : t2_F} {X : Nat} {k : Nat} {p : Nat} (e0 : p ≠ 181) (e1 : p ≠ 198 + 4 * ((X + 2 * k) + 1)) (e2 : p ≠ 198 + 4 * (X + 2 * k)) : c2_balance_b67_m f X k p = f p := by
  unfold c2_balance_b67_m
  repeat' split
  all_goals first | rfl | simp only [fl_row_ne e0, fl_row_ne e1, fl_row_ne e2, c2_shuttle_fr e0 e1 e2]
theorem c2_balance_b67_q {L : Nat} {xs : Nat → Int32} {f : t2_F} {l : t2_L} {Q : Option fl_V → fl_M → Prop} {X : Nat} {k : Nat} {n : Nat} (hkn : k < n) (hb : (n : Int) = max ((f 181 5).toInt - X) 0 / 2) (h16 : X + 2 * n ≤ 16) (hk : ∀ i : Nat, i = X + 2 * k ∨ i = X + 2 * k + 1 → t2_cap (f (198 + 4 * i) 0)) (hS : fl_Tq (pw_P L xs) 62 67 [some (.inr (.inr (.inl (49, 181)))), some (.inl (Int32.ofNat (X + 2 * (k + 1))))] [] (c2_balance_b67_m f X k, l) Q) : fl_Tq (pw_P L xs) 62 67 [some (.inr (.inr (.inl (49, 181)))), some (.inl (Int32.ofNat (X + 2 * k)))] [] (f, l) Q := by
  refine fl_Tq.stp (pc' := 68) (lv' := [some (.inr (.inr (.inl (49, 181)))), some (.inl (Int32.ofNat (X + 2 * k)))]) (st' := [.inl (Int32.ofNat (X + 2 * k))]) (m' := (f, l)) rfl rfl (fl_bo rfl) rfl ?_
  refine fl_Tq.cI (c := (1 : Int32)) rfl (by decide +kernel) (fl_bo rfl) ?_
  refine fl_Tq.stp (pc' := 70) (lv' := [some (.inr (.inr (.inl (49, 181)))), some (.inl (Int32.ofNat (X + 2 * k)))]) (st' := [.inl ((Int32.ofNat (X + 2 * k)) + (1 : Int32))]) (m' := (f, l)) rfl rfl (fl_bo rfl) rfl ?_
  refine fl_Tq.stp (pc' := 71) (lv' := [some (.inr (.inr (.inl (49, 181)))), some (.inl (Int32.ofNat (X + 2 * k)))]) (st' := [.inr (.inr (.inl (49, 181))), .inl ((Int32.ofNat (X + 2 * k)) + (1 : Int32))]) (m' := (f, l)) rfl rfl (fl_bo rfl) rfl ?_
  refine fl_Tq.gfV (k := 5) (v := f 181 5) rfl (fl_bo rfl) rfl rfl ?_
  refine fl_Tq.jf rfl (fl_bo rfl) (c2_ge_f (by have e1 : (1 : Int32).toInt = 1 := (by decide +kernel); have e2 : (Int32.ofNat (X + 2 * k)).toInt = ((X + 2 * k : Nat) : Int) := at_ofN (by omega); rw [at_add32] <;> rw [e2, e1] <;> omega)) rfl ?_
  refine fl_Tq.stp (pc' := 78) (lv' := [some (.inr (.inr (.inl (49, 181)))), some (.inl (Int32.ofNat (X + 2 * k)))]) (st' := [.inr (.inr (.inl (49, 181)))]) (m' := (f, l)) rfl rfl (fl_bo rfl) rfl ?_
  refine fl_Tq.stp (pc' := 79) (lv' := [some (.inr (.inr (.inl (49, 181)))), some (.inl (Int32.ofNat (X + 2 * k)))]) (st' := [.inr (.inr (.inl (49, 181))), .inr (.inr (.inl (49, 181)))]) (m' := (f, l)) rfl rfl (fl_bo rfl) rfl ?_
  refine fl_Tq.stp (pc' := 82) (lv' := [some (.inr (.inr (.inl (49, 181)))), some (.inl (Int32.ofNat (X + 2 * k)))]) (st' := [.inr (.inr (.inl (50, 182))), .inr (.inr (.inl (49, 181)))]) (m' := (f, l)) rfl rfl (fl_bo rfl) rfl ?_
  refine fl_Tq.stp (pc' := 83) (lv' := [some (.inr (.inr (.inl (49, 181)))), some (.inl (Int32.ofNat (X + 2 * k)))]) (st' := [.inl (Int32.ofNat (X + 2 * k)), .inr (.inr (.inl (50, 182))), .inr (.inr (.inl (49, 181)))]) (m' := (f, l)) rfl rfl (fl_bo rfl) rfl ?_
  refine fl_Tq.qld (p := 182) (τ := 50) (n := 16) (t := 66) (b := 16) (d := 3) (k := X + 2 * k) rfl (fl_bo rfl) rfl (at_ofN (by omega)) (by omega) ?_
  show fl_Tq _ 62 84 [some (.inr (.inr (.inl (49, 181)))), some (.inl (Int32.ofNat (X + 2 * k)))] [.inr (.inr (.inl (66, 198 + 4 * (X + 2 * k)))), .inr (.inr (.inl (49, 181)))] (f, l) _
  refine fl_Tq.stp (pc' := 85) (lv' := [some (.inr (.inr (.inl (49, 181)))), some (.inl (Int32.ofNat (X + 2 * k)))]) (st' := [.inr (.inr (.inl (49, 181))), .inr (.inr (.inl (66, 198 + 4 * (X + 2 * k)))), .inr (.inr (.inl (49, 181)))]) (m' := (f, l)) rfl rfl (fl_oks_ok ⟨(t2_kc2 (by omega)), fl_okp (by decide +kernel) (by decide), True.intro⟩) rfl ?_
  refine fl_Tq.stp (pc' := 88) (lv' := [some (.inr (.inr (.inl (49, 181)))), some (.inl (Int32.ofNat (X + 2 * k)))]) (st' := [.inr (.inr (.inl (50, 182))), .inr (.inr (.inl (66, 198 + 4 * (X + 2 * k)))), .inr (.inr (.inl (49, 181)))]) (m' := (f, l)) rfl rfl (fl_oks_ok ⟨fl_okp (by decide +kernel) (by decide), (t2_kc2 (by omega)), fl_okp (by decide +kernel) (by decide), True.intro⟩) rfl ?_
  refine fl_Tq.stp (pc' := 89) (lv' := [some (.inr (.inr (.inl (49, 181)))), some (.inl (Int32.ofNat (X + 2 * k)))]) (st' := [.inl (Int32.ofNat (X + 2 * k)), .inr (.inr (.inl (50, 182))), .inr (.inr (.inl (66, 198 + 4 * (X + 2 * k)))), .inr (.inr (.inl (49, 181)))]) (m' := (f, l)) rfl rfl (fl_oks_ok ⟨fl_okp (by decide +kernel) (by decide), (t2_kc2 (by omega)), fl_okp (by decide +kernel) (by decide), True.intro⟩) rfl ?_
  refine fl_Tq.cI (c := (1 : Int32)) rfl (by decide +kernel) (fl_oks_ok ⟨True.intro, fl_okp (by decide +kernel) (by decide), (t2_kc2 (by omega)), fl_okp (by decide +kernel) (by decide), True.intro⟩) ?_
  refine fl_Tq.stp (pc' := 91) (lv' := [some (.inr (.inr (.inl (49, 181)))), some (.inl (Int32.ofNat (X + 2 * k)))]) (st' := [.inl ((Int32.ofNat (X + 2 * k)) + (1 : Int32)), .inr (.inr (.inl (50, 182))), .inr (.inr (.inl (66, 198 + 4 * (X + 2 * k)))), .inr (.inr (.inl (49, 181)))]) (m' := (f, l)) rfl rfl (fl_oks_ok ⟨True.intro, True.intro, fl_okp (by decide +kernel) (by decide), (t2_kc2 (by omega)), fl_okp (by decide +kernel) (by decide), True.intro⟩) rfl ?_
  refine fl_Tq.qld (p := 182) (τ := 50) (n := 16) (t := 66) (b := 16) (d := 3) (k := (X + 2 * k + 1)) rfl (fl_oks_ok ⟨True.intro, fl_okp (by decide +kernel) (by decide), (t2_kc2 (by omega)), fl_okp (by decide +kernel) (by decide), True.intro⟩) rfl (by have e1 : (1 : Int32).toInt = 1 := (by decide +kernel); have e2 : (Int32.ofNat (X + 2 * k)).toInt = ((X + 2 * k : Nat) : Int) := at_ofN (by omega); rw [at_add32] <;> rw [e2, e1] <;> omega) (by omega) ?_
  show fl_Tq _ 62 92 [some (.inr (.inr (.inl (49, 181)))), some (.inl (Int32.ofNat (X + 2 * k)))] [.inr (.inr (.inl (66, 198 + 4 * (X + 2 * k + 1)))), .inr (.inr (.inl (66, 198 + 4 * (X + 2 * k)))), .inr (.inr (.inl (49, 181)))] (f, l) _
  refine fl_Tq.cal rfl rfl (fl_oks_ok ⟨(t2_kc2 (by omega)), (t2_kc2 (by omega)), fl_okp (by decide +kernel) (by decide), True.intro⟩) rfl ?_
  refine c2_shuttle_q (by omega) (by omega) hk ?_
  show fl_Tq _ 62 95 [some (.inr (.inr (.inl (49, 181)))), some (.inl (Int32.ofNat (X + 2 * k)))] [] (c2_shuttle_m f (X + 2 * k), l) _
  refine fl_Tq.stp (pc' := 98) (lv' := [some (.inr (.inr (.inl (49, 181)))), some (.inl ((Int32.ofNat (X + 2 * k)) + (2 : Int32)))]) (st' := []) (m' := (c2_shuttle_m f (X + 2 * k), l)) rfl rfl (fl_bo rfl) rfl ?_
  refine fl_Tq.stp (pc' := 67) (lv' := [some (.inr (.inr (.inl (49, 181)))), some (.inl ((Int32.ofNat (X + 2 * k)) + (2 : Int32)))]) (st' := []) (m' := (c2_shuttle_m f (X + 2 * k), l)) rfl rfl (fl_bo rfl) rfl ?_
  have em : c2_balance_b67_m f X k = c2_shuttle_m f (X + 2 * k) := rfl
  have ek : Int32.ofNat (X + 2 * (k + 1)) = (Int32.ofNat (X + 2 * k)) + (2 : Int32) := t2_k2 X k
  rw [em, ek] at hS
  exact hS
noncomputable def c2_balance_f67 (f : t2_F)  : Nat → t2_F
  | 0 => fl_row f 181 (upd (f 181) 16 (0 : Int32))
  | k + 1 => c2_balance_b67_m (c2_balance_f67 f k) ((c2_balance_j58_0 f).toInt.toNat) k
theorem c2_balance_f67_fr {f : t2_F}  {p : Nat} : ∀ {k : Nat} (e0 : ∀ j : Nat, j < k → p ≠ 181) (e1 : ∀ j : Nat, j < k → p ≠ 198 + 4 * ((((c2_balance_j58_0 f).toInt.toNat) + 2 * j) + 1)) (e2 : ∀ j : Nat, j < k → p ≠ 198 + 4 * (((c2_balance_j58_0 f).toInt.toNat) + 2 * j)), c2_balance_f67 f k p = (fl_row f 181 (upd (f 181) 16 (0 : Int32))) p := by
  intro k
  induction k with
  | zero => intros; rfl
  | succ k ih =>
    intro e0 e1 e2
    exact (c2_balance_b67_fr (X := (c2_balance_j58_0 f).toInt.toNat) (k := k) (e0 k (by omega)) (e1 k (by omega)) (e2 k (by omega))).trans (ih (fun j hj => e0 j (by omega)) (fun j hj => e1 j (by omega)) (fun j hj => e2 j (by omega)))
theorem c2_balance_f67_k {f : t2_F} {j : Nat} (h1 : j ≠ 14) (h2 : j ≠ 15) : ∀ {k : Nat}, c2_balance_f67 f k 181 j = (fl_row f 181 (upd (f 181) 16 (0 : Int32))) 181 j := by
  intro k
  induction k with
  | zero => rfl
  | succ k ih => exact (c2_shuttle_k h1 h2).trans ih
theorem c2_bal_h (f : t2_F) : c2_balance_j58_0 f = 0 ∨ c2_balance_j58_0 f = 1 := by
  unfold c2_balance_j58_0
  split
  · exact Or.inl rfl
  · exact Or.inr rfl
theorem c2_bal_b (f : t2_F) : (c2_balance_j58_0 f).toInt.toNat ≤ 1 := by
  rcases c2_bal_h f with h | h <;> rw [h] <;> decide +kernel
noncomputable def c2_balance_m (f : t2_F) : t2_F := if (f 190 3).toInt = 0 then (if (f 184 11).toInt = (1 : Int32).toInt then c2_shuntCells_m (fl_row f 181 (upd (f 181) 16 (0 : Int32))) else (if (f 184 11).toInt = (2 : Int32).toInt then c2_balance_f67 f (((f 181 5).toInt.toNat - (c2_balance_j58_0 f).toInt.toNat) / 2) else fl_row f 181 (upd (f 181) 16 (0 : Int32)))) else fl_row f 181 (upd (f 181) 16 (0 : Int32))
theorem c2_balance_q {L : Nat} {xs : Nat → Int32} {f : t2_F} {l : t2_L} {Q : Option fl_V → fl_M → Prop}  (hc : 0 ≤ (f 181 5).toInt ∧ (f 181 5).toInt ≤ 16) (hk : ∀ i : Nat, (i : Int) < (f 181 5).toInt → t2_cap (f (198 + 4 * i) 0)) (ho : 0 ≤ (f 184 13).toInt ∧ (f 184 13).toInt ≤ 16) (k : Q none (c2_balance_m f, l)) : fl_Tq (pw_P L xs) 62 0 (fl_args (am_mxl (pw_P L xs) 62) [.inr (.inr (.inl (49, 181)))]) [] (f, l) Q := by
  refine fl_Tq.stp (pc' := 1) (lv' := [some (.inr (.inr (.inl (49, 181)))), none]) (st' := [.inr (.inr (.inl (49, 181)))]) (m' := (f, l)) rfl rfl (fl_bo rfl) rfl ?_
  refine fl_Tq.cI (c := (0 : Int32)) rfl (by decide +kernel) (fl_bo rfl) ?_
  refine fl_Tq.pfV (k := 16) (m' := (fl_row f 181 (upd (f 181) 16 (0 : Int32)), l)) rfl (fl_bo rfl) rfl (t2_upn rfl) ?_
  refine fl_Tq.stp (pc' := 6) (lv' := [some (.inr (.inr (.inl (49, 181)))), none]) (st' := [.inr (.inr (.inl (49, 181)))]) (m' := (fl_row f 181 (upd (f 181) 16 (0 : Int32)), l)) rfl rfl (fl_bo rfl) rfl ?_
  refine fl_Tq.stp (pc' := 9) (lv' := [some (.inr (.inr (.inl (49, 181)))), none]) (st' := [.inr (.inr (.inl (58, 190)))]) (m' := (fl_row f 181 (upd (f 181) 16 (0 : Int32)), l)) rfl rfl (fl_bo rfl) rfl ?_
  refine fl_Tq.gfV (k := 3) (v := f 190 3) rfl (fl_bo rfl) rfl (by simp only [fl_row_ne (by decide : 190 ≠ 181)]) ?_
  by_cases h1 : (f 190 3).toInt = 0
  · refine fl_Tq.zt rfl (fl_bo rfl) (c1_eq_t h1) rfl ?_
    refine fl_Tq.stp (pc' := 17) (lv' := [some (.inr (.inr (.inl (49, 181)))), none]) (st' := [.inr (.inr (.inl (49, 181)))]) (m' := (fl_row f 181 (upd (f 181) 16 (0 : Int32)), l)) rfl rfl (fl_bo rfl) rfl ?_
    refine fl_Tq.stp (pc' := 20) (lv' := [some (.inr (.inr (.inl (49, 181)))), none]) (st' := [.inr (.inr (.inl (51, 183)))]) (m' := (fl_row f 181 (upd (f 181) 16 (0 : Int32)), l)) rfl rfl (fl_bo rfl) rfl ?_
    refine fl_Tq.stp (pc' := 23) (lv' := [some (.inr (.inr (.inl (49, 181)))), none]) (st' := [.inr (.inr (.inl (52, 184)))]) (m' := (fl_row f 181 (upd (f 181) 16 (0 : Int32)), l)) rfl rfl (fl_bo rfl) rfl ?_
    refine fl_Tq.cB (c := (11 : Int32)) rfl (by decide +kernel) (fl_bo rfl) ?_
    refine fl_Tq.ldV (p := 184) (τ := 52) (n := 30) (z := (0, 0, 0)) (k := 11) (v := f 184 11) rfl (fl_bo rfl) rfl (by decide +kernel) (by decide) (by simp only [fl_row_ne (by decide : 184 ≠ 181)]) ?_
    refine fl_Tq.cI (c := (1 : Int32)) rfl (by decide +kernel) (fl_bo rfl) ?_
    by_cases h2 : (f 184 11).toInt = (1 : Int32).toInt
    · refine fl_Tq.jf rfl (fl_bo rfl) (c2_ne_f h2) rfl ?_
      refine fl_Tq.stp (pc' := 31) (lv' := [some (.inr (.inr (.inl (49, 181)))), none]) (st' := [.inr (.inr (.inl (49, 181)))]) (m' := (fl_row f 181 (upd (f 181) 16 (0 : Int32)), l)) rfl rfl (fl_bo rfl) rfl ?_
      refine fl_Tq.cal rfl rfl (fl_bo rfl) rfl ?_
      refine c2_shuntCells_q (by simp only [fl_row_self, upd_ne (by decide : 5 ≠ 16)]; exact hc) (fun i h => by rw [fl_row_self, upd_ne (by decide : 5 ≠ 16)] at h; rw [fl_row_ne (show 198 + 4 * i ≠ 181 by omega)]; exact hk i h) (by rw [fl_row_ne (by decide : 184 ≠ 181)]; exact ho) ?_
      show fl_Tq _ 62 34 [some (.inr (.inr (.inl (49, 181)))), none] [] (c2_shuntCells_m (fl_row f 181 (upd (f 181) 16 (0 : Int32))), l) _
      refine fl_Tq.stp (pc' := 101) (lv' := [some (.inr (.inr (.inl (49, 181)))), none]) (st' := []) (m' := (c2_shuntCells_m (fl_row f 181 (upd (f 181) 16 (0 : Int32))), l)) rfl rfl (fl_bo rfl) rfl ?_
      refine fl_Tq.ret rfl rfl rfl ?_
      unfold c2_balance_m at k
      simp only [if_pos h1, if_pos h2] at k
      exact k
    · refine fl_Tq.jt rfl (fl_bo rfl) (c2_ne_t h2) rfl ?_
      refine fl_Tq.stp (pc' := 38) (lv' := [some (.inr (.inr (.inl (49, 181)))), none]) (st' := [.inr (.inr (.inl (49, 181)))]) (m' := (fl_row f 181 (upd (f 181) 16 (0 : Int32)), l)) rfl rfl (fl_bo rfl) rfl ?_
      refine fl_Tq.stp (pc' := 41) (lv' := [some (.inr (.inr (.inl (49, 181)))), none]) (st' := [.inr (.inr (.inl (51, 183)))]) (m' := (fl_row f 181 (upd (f 181) 16 (0 : Int32)), l)) rfl rfl (fl_bo rfl) rfl ?_
      refine fl_Tq.stp (pc' := 44) (lv' := [some (.inr (.inr (.inl (49, 181)))), none]) (st' := [.inr (.inr (.inl (52, 184)))]) (m' := (fl_row f 181 (upd (f 181) 16 (0 : Int32)), l)) rfl rfl (fl_bo rfl) rfl ?_
      refine fl_Tq.cB (c := (11 : Int32)) rfl (by decide +kernel) (fl_bo rfl) ?_
      refine fl_Tq.ldV (p := 184) (τ := 52) (n := 30) (z := (0, 0, 0)) (k := 11) (v := f 184 11) rfl (fl_bo rfl) rfl (by decide +kernel) (by decide) (by simp only [fl_row_ne (by decide : 184 ≠ 181)]) ?_
      refine fl_Tq.cI (c := (2 : Int32)) rfl (by decide +kernel) (fl_bo rfl) ?_
      by_cases h3 : (f 184 11).toInt = (2 : Int32).toInt
      · refine fl_Tq.jf rfl (fl_bo rfl) (c2_ne_f h3) rfl ?_
        refine fl_Tq.stp (pc' := 52) (lv' := [some (.inr (.inr (.inl (49, 181)))), none]) (st' := [.inr (.inr (.inl (49, 181)))]) (m' := (fl_row f 181 (upd (f 181) 16 (0 : Int32)), l)) rfl rfl (fl_bo rfl) rfl ?_
        refine fl_Tq.gfV (k := 6) (v := f 181 6) rfl (fl_bo rfl) rfl (by simp only [fl_row_self, upd_ne (by decide : 6 ≠ 16)]) ?_
        refine fl_Tq.cI (c := (2 : Int32)) rfl (by decide +kernel) (fl_bo rfl) ?_
        refine fl_Tq.rm rfl (fl_bo rfl) (by decide +kernel) ?_
        refine fl_Tq.cI (c := (1 : Int32)) rfl (by decide +kernel) (fl_bo rfl) ?_
        have hj161 : fl_Tq (pw_P L xs) 62 66 [some (.inr (.inr (.inl (49, 181)))), none] [.inl (c2_balance_j58_0 f)] (fl_row f 181 (upd (f 181) 16 (0 : Int32)), l) Q → fl_Tq (pw_P L xs) 62 58 [some (.inr (.inr (.inl (49, 181)))), none] [.inl (1 : Int32), .inl ((f 181 6) - (f 181 6) / (2 : Int32) * (2 : Int32))] (fl_row f 181 (upd (f 181) 16 (0 : Int32)), l) Q := by
          intro hJ
          by_cases h4 : ((f 181 6) - (f 181 6) / (2 : Int32) * (2 : Int32)).toInt = (1 : Int32).toInt
          · refine fl_Tq.jf rfl (fl_bo rfl) (c2_ne_f h4) rfl ?_
            refine fl_Tq.cI (c := (0 : Int32)) rfl (by decide +kernel) (fl_bo rfl) ?_
            refine fl_Tq.stp (pc' := 66) (lv' := [some (.inr (.inr (.inl (49, 181)))), none]) (st' := [.inl (0 : Int32)]) (m' := (fl_row f 181 (upd (f 181) 16 (0 : Int32)), l)) rfl rfl (fl_bo rfl) rfl ?_
            have e0 : (c2_balance_j58_0 f) = (0 : Int32) := by simp only [c2_balance_j58_0, if_pos h4]
            rw [e0] at hJ
            exact hJ
          · refine fl_Tq.jt rfl (fl_bo rfl) (c2_ne_t h4) rfl ?_
            refine fl_Tq.cI (c := (1 : Int32)) rfl (by decide +kernel) (fl_bo rfl) ?_
            have e0 : (c2_balance_j58_0 f) = (1 : Int32) := by simp only [c2_balance_j58_0, if_neg h4]
            rw [e0] at hJ
            exact hJ
        refine hj161 ?_
        show fl_Tq _ 62 66 [some (.inr (.inr (.inl (49, 181)))), none] [.inl (c2_balance_j58_0 f)] (fl_row f 181 (upd (f 181) 16 (0 : Int32)), l) _
        refine fl_Tq.stp (pc' := 67) (lv' := [some (.inr (.inr (.inl (49, 181)))), some (.inl (c2_balance_j58_0 f))]) (st' := []) (m' := (fl_row f 181 (upd (f 181) 16 (0 : Int32)), l)) rfl rfl (fl_bo rfl) rfl ?_
        have hs67 : ∀ k : Nat, k < ((f 181 5).toInt.toNat - (c2_balance_j58_0 f).toInt.toNat) / 2 → fl_Tq (pw_P L xs) 62 67 [some (.inr (.inr (.inl (49, 181)))), some (.inl (Int32.ofNat (((c2_balance_j58_0 f).toInt.toNat) + 2 * (k + 1))))] [] (c2_balance_f67 f (k + 1), l) Q → fl_Tq (pw_P L xs) 62 67 [some (.inr (.inr (.inl (49, 181)))), some (.inl (Int32.ofNat (((c2_balance_j58_0 f).toInt.toNat) + 2 * k)))] [] (c2_balance_f67 f k, l) Q := fun k hkn hS => c2_balance_b67_q hkn (by simp only [c2_balance_f67_k (k := k) (by decide : 5 ≠ 14) (by decide : 5 ≠ 15), fl_row_self, upd_ne (by decide : 5 ≠ 16)]; exact (c2_bal_n hc.1)) (by have := c2_bal_b f; omega) (fun i e => by rw [c2_balance_f67_fr (k := k) (p := 198 + 4 * i) (fun j hj => by omega) (fun j hj => by omega) (fun j hj => by omega), fl_row_ne (show 198 + 4 * i ≠ 181 by omega)]; exact hk i (by have := c2_bal_b f; omega)) hS
        refine (congrArg (fun z : Int32 => fl_Tq (pw_P L xs) 62 67 [some (.inr (.inr (.inl (49, 181)))), some (.inl z)] [] (fl_row f 181 (upd (f 181) 16 (0 : Int32)), l) Q) (t2_e0 (c2_bal_h f))).mpr ?_
        refine t2_for (S := fun k => fl_Tq (pw_P L xs) 62 67 [some (.inr (.inr (.inl (49, 181)))), some (.inl (Int32.ofNat (((c2_balance_j58_0 f).toInt.toNat) + 2 * k)))] [] (c2_balance_f67 f k, l) Q) hs67 ?_
        show fl_Tq (pw_P L xs) 62 67 [some (.inr (.inr (.inl (49, 181)))), some (.inl (Int32.ofNat (((c2_balance_j58_0 f).toInt.toNat) + 2 * (((f 181 5).toInt.toNat - (c2_balance_j58_0 f).toInt.toNat) / 2))))] [] (c2_balance_f67 f (((f 181 5).toInt.toNat - (c2_balance_j58_0 f).toInt.toNat) / 2), l) _
        refine fl_Tq.stp (pc' := 68) (lv' := [some (.inr (.inr (.inl (49, 181)))), some (.inl (Int32.ofNat (((c2_balance_j58_0 f).toInt.toNat) + 2 * (((f 181 5).toInt.toNat - (c2_balance_j58_0 f).toInt.toNat) / 2))))]) (st' := [.inl (Int32.ofNat (((c2_balance_j58_0 f).toInt.toNat) + 2 * (((f 181 5).toInt.toNat - (c2_balance_j58_0 f).toInt.toNat) / 2)))]) (m' := (c2_balance_f67 f (((f 181 5).toInt.toNat - (c2_balance_j58_0 f).toInt.toNat) / 2), l)) rfl rfl (fl_bo rfl) rfl ?_
        refine fl_Tq.cI (c := (1 : Int32)) rfl (by decide +kernel) (fl_bo rfl) ?_
        refine fl_Tq.stp (pc' := 70) (lv' := [some (.inr (.inr (.inl (49, 181)))), some (.inl (Int32.ofNat (((c2_balance_j58_0 f).toInt.toNat) + 2 * (((f 181 5).toInt.toNat - (c2_balance_j58_0 f).toInt.toNat) / 2))))]) (st' := [.inl ((Int32.ofNat (((c2_balance_j58_0 f).toInt.toNat) + 2 * (((f 181 5).toInt.toNat - (c2_balance_j58_0 f).toInt.toNat) / 2))) + (1 : Int32))]) (m' := (c2_balance_f67 f (((f 181 5).toInt.toNat - (c2_balance_j58_0 f).toInt.toNat) / 2), l)) rfl rfl (fl_bo rfl) rfl ?_
        refine fl_Tq.stp (pc' := 71) (lv' := [some (.inr (.inr (.inl (49, 181)))), some (.inl (Int32.ofNat (((c2_balance_j58_0 f).toInt.toNat) + 2 * (((f 181 5).toInt.toNat - (c2_balance_j58_0 f).toInt.toNat) / 2))))]) (st' := [.inr (.inr (.inl (49, 181))), .inl ((Int32.ofNat (((c2_balance_j58_0 f).toInt.toNat) + 2 * (((f 181 5).toInt.toNat - (c2_balance_j58_0 f).toInt.toNat) / 2))) + (1 : Int32))]) (m' := (c2_balance_f67 f (((f 181 5).toInt.toNat - (c2_balance_j58_0 f).toInt.toNat) / 2), l)) rfl rfl (fl_bo rfl) rfl ?_
        refine fl_Tq.gfV (k := 5) (v := f 181 5) rfl (fl_bo rfl) rfl (by simp only [c2_balance_f67_k (k := (((f 181 5).toInt.toNat - (c2_balance_j58_0 f).toInt.toNat) / 2)) (by decide : 5 ≠ 14) (by decide : 5 ≠ 15), fl_row_self, upd_ne (by decide : 5 ≠ 16)]) ?_
        refine fl_Tq.jt rfl (fl_bo rfl) (c2_ge_t (by have := c2_bal_b f; have e1 : (1 : Int32).toInt = 1 := (by decide +kernel); have e2 : (Int32.ofNat (((c2_balance_j58_0 f).toInt.toNat) + 2 * (((f 181 5).toInt.toNat - (c2_balance_j58_0 f).toInt.toNat) / 2))).toInt = ((((c2_balance_j58_0 f).toInt.toNat) + 2 * (((f 181 5).toInt.toNat - (c2_balance_j58_0 f).toInt.toNat) / 2) : Nat) : Int) := at_ofN (by omega); rw [at_add32] <;> rw [e2, e1] <;> omega)) rfl ?_
        refine fl_Tq.ret rfl rfl rfl ?_
        unfold c2_balance_m at k
        simp only [if_pos h1, if_neg h2, if_pos h3] at k
        exact k
      · refine fl_Tq.jt rfl (fl_bo rfl) (c2_ne_t h3) rfl ?_
        refine fl_Tq.ret rfl rfl rfl ?_
        unfold c2_balance_m at k
        simp only [if_pos h1, if_neg h2, if_neg h3] at k
        exact k
  · refine fl_Tq.zf rfl (fl_bo rfl) (c1_eq_f h1) rfl ?_
    refine fl_Tq.ret rfl rfl rfl ?_
    unfold c2_balance_m at k
    simp only [if_neg h1] at k
    exact k
