noncomputable def c0_passCells_b2_m (f : t2_F) (k : Nat) : t2_F := c0_pass_m f k (f 1 9)
theorem c0_passCells_b2_fr {f : t2_F} {k : Nat} {p : Nat} (e0 : p ≠ 18 + 4 * k) : c0_passCells_b2_m f k p = f p := by
  unfold c0_passCells_b2_m
  repeat' split
  all_goals first | rfl | simp only [fl_row_ne e0, c0_pass_fr e0]
theorem c0_passCells_b2_q {L : Nat} {xs : Nat → Int32} {f : t2_F} {l : t2_L} {Q : Option fl_V → fl_M → Prop} {k : Nat} {n : Nat} (hkn : k < n) (hb : (f 1 5).toInt = (n : Int)) (h16 : n ≤ 16) (hk : ∀ i : Nat, i = k → t2_cap (f (18 + 4 * i) 0)) (hS : fl_Tq (pw_P L xs) 61 2 [some (.inr (.inr (.inl (1, 1)))), some (.inl (Int32.ofNat (k + 1))), none] [] (c0_passCells_b2_m f k, l) Q) : fl_Tq (pw_P L xs) 61 2 [some (.inr (.inr (.inl (1, 1)))), some (.inl (Int32.ofNat k)), none] [] (f, l) Q := by
  refine fl_Tq.stp (pc' := 3) (lv' := [some (.inr (.inr (.inl (1, 1)))), some (.inl (Int32.ofNat k)), none]) (st' := [.inl (Int32.ofNat k)]) (m' := (f, l)) rfl rfl (fl_bo rfl) rfl ?_
  refine fl_Tq.stp (pc' := 4) (lv' := [some (.inr (.inr (.inl (1, 1)))), some (.inl (Int32.ofNat k)), none]) (st' := [.inr (.inr (.inl (1, 1))), .inl (Int32.ofNat k)]) (m' := (f, l)) rfl rfl (fl_bo rfl) rfl ?_
  refine fl_Tq.gfV (k := 5) (v := f 1 5) rfl (fl_bo rfl) rfl rfl ?_
  refine fl_Tq.jf rfl (fl_bo rfl) (c2_ge_f (t2_lk hkn hb)) rfl ?_
  refine fl_Tq.stp (pc' := 11) (lv' := [some (.inr (.inr (.inl (1, 1)))), some (.inl (Int32.ofNat k)), none]) (st' := [.inr (.inr (.inl (1, 1)))]) (m' := (f, l)) rfl rfl (fl_bo rfl) rfl ?_
  refine fl_Tq.stp (pc' := 14) (lv' := [some (.inr (.inr (.inl (1, 1)))), some (.inl (Int32.ofNat k)), none]) (st' := [.inr (.inr (.inl (2, 2)))]) (m' := (f, l)) rfl rfl (fl_bo rfl) rfl ?_
  refine fl_Tq.stp (pc' := 15) (lv' := [some (.inr (.inr (.inl (1, 1)))), some (.inl (Int32.ofNat k)), none]) (st' := [.inl (Int32.ofNat k), .inr (.inr (.inl (2, 2)))]) (m' := (f, l)) rfl rfl (fl_bo rfl) rfl ?_
  refine fl_Tq.qld (p := 2) (τ := 2) (n := 16) (t := 18) (b := 16) (d := 3) (k := k) rfl (fl_bo rfl) rfl (at_ofN (by omega)) (by omega) ?_
  show fl_Tq _ 61 16 [some (.inr (.inr (.inl (1, 1)))), some (.inl (Int32.ofNat k)), none] [.inr (.inr (.inl (18, 18 + 4 * k)))] (f, l) _
  refine fl_Tq.stp (pc' := 17) (lv' := [some (.inr (.inr (.inl (1, 1)))), some (.inl (Int32.ofNat k)), none]) (st' := [.inr (.inr (.inl (1, 1))), .inr (.inr (.inl (18, 18 + 4 * k)))]) (m' := (f, l)) rfl rfl (fl_oks_ok ⟨(t2_kc0 (by omega)), True.intro⟩) rfl ?_
  refine fl_Tq.gfV (k := 9) (v := f 1 9) rfl (fl_oks_ok ⟨fl_okp (by decide +kernel) (by decide), (t2_kc0 (by omega)), True.intro⟩) rfl rfl ?_
  refine fl_Tq.stp (pc' := 21) (lv' := [some (.inr (.inr (.inl (1, 1)))), some (.inl (Int32.ofNat k)), none]) (st' := [.inr (.inr (.inl (1, 1))), .inl (f 1 9), .inr (.inr (.inl (18, 18 + 4 * k)))]) (m' := (f, l)) rfl rfl (fl_oks_ok ⟨True.intro, (t2_kc0 (by omega)), True.intro⟩) rfl ?_
  refine fl_Tq.stp (pc' := 24) (lv' := [some (.inr (.inr (.inl (1, 1)))), some (.inl (Int32.ofNat k)), none]) (st' := [.inr (.inr (.inl (3, 3))), .inl (f 1 9), .inr (.inr (.inl (18, 18 + 4 * k)))]) (m' := (f, l)) rfl rfl (fl_oks_ok ⟨fl_okp (by decide +kernel) (by decide), True.intro, (t2_kc0 (by omega)), True.intro⟩) rfl ?_
  refine fl_Tq.cal rfl rfl (fl_oks_ok ⟨fl_okp (by decide +kernel) (by decide), True.intro, (t2_kc0 (by omega)), True.intro⟩) rfl ?_
  refine c0_pass_q (by omega) (hk k (by omega)) ?_
  show fl_Tq _ 61 27 [some (.inr (.inr (.inl (1, 1)))), some (.inl (Int32.ofNat k)), none] [] (c0_pass_m f k (f 1 9), l) _
  refine fl_Tq.stp (pc' := 30) (lv' := [some (.inr (.inr (.inl (1, 1)))), some (.inl ((Int32.ofNat k) + (1 : Int32))), none]) (st' := []) (m' := (c0_pass_m f k (f 1 9), l)) rfl rfl (fl_bo rfl) rfl ?_
  refine fl_Tq.stp (pc' := 2) (lv' := [some (.inr (.inr (.inl (1, 1)))), some (.inl ((Int32.ofNat k) + (1 : Int32))), none]) (st' := []) (m' := (c0_pass_m f k (f 1 9), l)) rfl rfl (fl_bo rfl) rfl ?_
  have em : c0_passCells_b2_m f k = c0_pass_m f k (f 1 9) := rfl
  rw [em, ← t2_k1] at hS
  exact hS
noncomputable def c0_passCells_f2 (f : t2_F)  : Nat → t2_F
  | 0 => f
  | k + 1 => c0_passCells_b2_m (c0_passCells_f2 f k) k
theorem c0_passCells_f2_fr {f : t2_F}  {p : Nat} : ∀ {k : Nat} (e0 : ∀ j : Nat, j < k → p ≠ 18 + 4 * j), c0_passCells_f2 f k p = f p := by
  intro k
  induction k with
  | zero => intros; rfl
  | succ k ih =>
    intro e0
    exact (c0_passCells_b2_fr (e0 k (by omega))).trans (ih (fun j hj => e0 j (by omega)))
noncomputable def c0_passCells_b35_m (f : t2_F) (k : Nat) : t2_F := fl_row (fl_row f (18 + 4 * k) (upd (f (18 + 4 * k)) 6 ((f (18 + 4 * k) 6) + ((((f (18 + 4 * (k + 1)) 6) - (f (18 + 4 * k) 6)) * (f 4 22)) / (256 : Int32))))) (18 + 4 * (k + 1)) (upd (f (18 + 4 * (k + 1))) 6 ((f (18 + 4 * (k + 1)) 6) - ((((f (18 + 4 * (k + 1)) 6) - (f (18 + 4 * k) 6)) * (f 4 22)) / (256 : Int32))))
theorem c0_passCells_b35_fr {f : t2_F} {k : Nat} {p : Nat} (e0 : p ≠ 18 + 4 * k) (e1 : p ≠ 18 + 4 * (k + 1)) : c0_passCells_b35_m f k p = f p := by
  unfold c0_passCells_b35_m
  repeat' split
  all_goals first | rfl | simp only [fl_row_ne e0, fl_row_ne e1]
theorem c0_passCells_b35_q {L : Nat} {xs : Nat → Int32} {f : t2_F} {l : t2_L} {Q : Option fl_V → fl_M → Prop} {k : Nat} {n : Nat} (hkn : k < n) (hb : (n : Int) = max ((f 1 5).toInt - 1) 0) (h16 : n ≤ 15) (hS : fl_Tq (pw_P L xs) 61 35 [some (.inr (.inr (.inl (1, 1)))), some (.inl (Int32.ofNat (k + 1))), none] [] (c0_passCells_b35_m f k, l) Q) : fl_Tq (pw_P L xs) 61 35 [some (.inr (.inr (.inl (1, 1)))), some (.inl (Int32.ofNat k)), none] [] (f, l) Q := by
  refine fl_Tq.stp (pc' := 36) (lv' := [some (.inr (.inr (.inl (1, 1)))), some (.inl (Int32.ofNat k)), none]) (st' := [.inl (Int32.ofNat k)]) (m' := (f, l)) rfl rfl (fl_bo rfl) rfl ?_
  refine fl_Tq.cI (c := (1 : Int32)) rfl (by decide +kernel) (fl_bo rfl) ?_
  refine fl_Tq.stp (pc' := 38) (lv' := [some (.inr (.inr (.inl (1, 1)))), some (.inl (Int32.ofNat k)), none]) (st' := [.inl ((Int32.ofNat k) + (1 : Int32))]) (m' := (f, l)) rfl rfl (fl_bo rfl) rfl ?_
  refine fl_Tq.stp (pc' := 39) (lv' := [some (.inr (.inr (.inl (1, 1)))), some (.inl (Int32.ofNat k)), none]) (st' := [.inr (.inr (.inl (1, 1))), .inl ((Int32.ofNat k) + (1 : Int32))]) (m' := (f, l)) rfl rfl (fl_bo rfl) rfl ?_
  refine fl_Tq.gfV (k := 5) (v := f 1 5) rfl (fl_bo rfl) rfl rfl ?_
  refine fl_Tq.jf rfl (fl_bo rfl) (c2_ge_f (by have e1 : (1 : Int32).toInt = 1 := (by decide +kernel); have e2 : (Int32.ofNat k).toInt = ((k : Nat) : Int) := at_ofN (by omega); rw [at_add32] <;> rw [e2, e1] <;> omega)) rfl ?_
  refine fl_Tq.stp (pc' := 46) (lv' := [some (.inr (.inr (.inl (1, 1)))), some (.inl (Int32.ofNat k)), none]) (st' := [.inr (.inr (.inl (1, 1)))]) (m' := (f, l)) rfl rfl (fl_bo rfl) rfl ?_
  refine fl_Tq.stp (pc' := 49) (lv' := [some (.inr (.inr (.inl (1, 1)))), some (.inl (Int32.ofNat k)), none]) (st' := [.inr (.inr (.inl (2, 2)))]) (m' := (f, l)) rfl rfl (fl_bo rfl) rfl ?_
  refine fl_Tq.stp (pc' := 50) (lv' := [some (.inr (.inr (.inl (1, 1)))), some (.inl (Int32.ofNat k)), none]) (st' := [.inl (Int32.ofNat k), .inr (.inr (.inl (2, 2)))]) (m' := (f, l)) rfl rfl (fl_bo rfl) rfl ?_
  refine fl_Tq.cI (c := (1 : Int32)) rfl (by decide +kernel) (fl_bo rfl) ?_
  refine fl_Tq.stp (pc' := 52) (lv' := [some (.inr (.inr (.inl (1, 1)))), some (.inl (Int32.ofNat k)), none]) (st' := [.inl ((Int32.ofNat k) + (1 : Int32)), .inr (.inr (.inl (2, 2)))]) (m' := (f, l)) rfl rfl (fl_bo rfl) rfl ?_
  refine fl_Tq.qld (p := 2) (τ := 2) (n := 16) (t := 18) (b := 16) (d := 3) (k := (k + 1)) rfl (fl_bo rfl) rfl (by have e1 : (1 : Int32).toInt = 1 := (by decide +kernel); have e2 : (Int32.ofNat k).toInt = ((k : Nat) : Int) := at_ofN (by omega); rw [at_add32] <;> rw [e2, e1] <;> omega) (by omega) ?_
  show fl_Tq _ 61 53 [some (.inr (.inr (.inl (1, 1)))), some (.inl (Int32.ofNat k)), none] [.inr (.inr (.inl (18, 18 + 4 * (k + 1))))] (f, l) _
  refine fl_Tq.gfV (k := 6) (v := f (18 + 4 * (k + 1)) 6) rfl (fl_oks_ok ⟨(t2_kc0 (by omega)), True.intro⟩) rfl rfl ?_
  refine fl_Tq.stp (pc' := 57) (lv' := [some (.inr (.inr (.inl (1, 1)))), some (.inl (Int32.ofNat k)), none]) (st' := [.inr (.inr (.inl (1, 1))), .inl (f (18 + 4 * (k + 1)) 6)]) (m' := (f, l)) rfl rfl (fl_bo rfl) rfl ?_
  refine fl_Tq.stp (pc' := 60) (lv' := [some (.inr (.inr (.inl (1, 1)))), some (.inl (Int32.ofNat k)), none]) (st' := [.inr (.inr (.inl (2, 2))), .inl (f (18 + 4 * (k + 1)) 6)]) (m' := (f, l)) rfl rfl (fl_bo rfl) rfl ?_
  refine fl_Tq.stp (pc' := 61) (lv' := [some (.inr (.inr (.inl (1, 1)))), some (.inl (Int32.ofNat k)), none]) (st' := [.inl (Int32.ofNat k), .inr (.inr (.inl (2, 2))), .inl (f (18 + 4 * (k + 1)) 6)]) (m' := (f, l)) rfl rfl (fl_bo rfl) rfl ?_
  refine fl_Tq.qld (p := 2) (τ := 2) (n := 16) (t := 18) (b := 16) (d := 3) (k := k) rfl (fl_bo rfl) rfl (at_ofN (by omega)) (by omega) ?_
  show fl_Tq _ 61 62 [some (.inr (.inr (.inl (1, 1)))), some (.inl (Int32.ofNat k)), none] [.inr (.inr (.inl (18, 18 + 4 * k))), .inl (f (18 + 4 * (k + 1)) 6)] (f, l) _
  refine fl_Tq.gfV (k := 6) (v := f (18 + 4 * k) 6) rfl (fl_oks_ok ⟨(t2_kc0 (by omega)), True.intro, True.intro⟩) rfl rfl ?_
  refine fl_Tq.stp (pc' := 66) (lv' := [some (.inr (.inr (.inl (1, 1)))), some (.inl (Int32.ofNat k)), none]) (st' := [.inl ((f (18 + 4 * (k + 1)) 6) - (f (18 + 4 * k) 6))]) (m' := (f, l)) rfl rfl (fl_bo rfl) rfl ?_
  refine fl_Tq.stp (pc' := 67) (lv' := [some (.inr (.inr (.inl (1, 1)))), some (.inl (Int32.ofNat k)), none]) (st' := [.inr (.inr (.inl (1, 1))), .inl ((f (18 + 4 * (k + 1)) 6) - (f (18 + 4 * k) 6))]) (m' := (f, l)) rfl rfl (fl_bo rfl) rfl ?_
  refine fl_Tq.stp (pc' := 70) (lv' := [some (.inr (.inr (.inl (1, 1)))), some (.inl (Int32.ofNat k)), none]) (st' := [.inr (.inr (.inl (3, 3))), .inl ((f (18 + 4 * (k + 1)) 6) - (f (18 + 4 * k) 6))]) (m' := (f, l)) rfl rfl (fl_bo rfl) rfl ?_
  refine fl_Tq.stp (pc' := 73) (lv' := [some (.inr (.inr (.inl (1, 1)))), some (.inl (Int32.ofNat k)), none]) (st' := [.inr (.inr (.inl (4, 4))), .inl ((f (18 + 4 * (k + 1)) 6) - (f (18 + 4 * k) 6))]) (m' := (f, l)) rfl rfl (fl_bo rfl) rfl ?_
  refine fl_Tq.cB (c := (22 : Int32)) rfl (by decide +kernel) (fl_bo rfl) ?_
  refine fl_Tq.ldV (p := 4) (τ := 4) (n := 30) (z := (0, 0, 0)) (k := 22) (v := f 4 22) rfl (fl_bo rfl) rfl (by decide +kernel) (by decide) rfl ?_
  refine fl_Tq.stp (pc' := 77) (lv' := [some (.inr (.inr (.inl (1, 1)))), some (.inl (Int32.ofNat k)), none]) (st' := [.inl (((f (18 + 4 * (k + 1)) 6) - (f (18 + 4 * k) 6)) * (f 4 22))]) (m' := (f, l)) rfl rfl (fl_bo rfl) rfl ?_
  refine fl_Tq.cS (c := (256 : Int32)) rfl (by decide +kernel) (fl_bo rfl) ?_
  refine fl_Tq.dv rfl (fl_bo rfl) (by decide +kernel) ?_
  refine fl_Tq.stp (pc' := 82) (lv' := [some (.inr (.inr (.inl (1, 1)))), some (.inl (Int32.ofNat k)), some (.inl ((((f (18 + 4 * (k + 1)) 6) - (f (18 + 4 * k) 6)) * (f 4 22)) / (256 : Int32)))]) (st' := []) (m' := (f, l)) rfl rfl (fl_bo rfl) rfl ?_
  refine fl_Tq.stp (pc' := 83) (lv' := [some (.inr (.inr (.inl (1, 1)))), some (.inl (Int32.ofNat k)), some (.inl ((((f (18 + 4 * (k + 1)) 6) - (f (18 + 4 * k) 6)) * (f 4 22)) / (256 : Int32)))]) (st' := [.inr (.inr (.inl (1, 1)))]) (m' := (f, l)) rfl rfl (fl_bo rfl) rfl ?_
  refine fl_Tq.stp (pc' := 86) (lv' := [some (.inr (.inr (.inl (1, 1)))), some (.inl (Int32.ofNat k)), some (.inl ((((f (18 + 4 * (k + 1)) 6) - (f (18 + 4 * k) 6)) * (f 4 22)) / (256 : Int32)))]) (st' := [.inr (.inr (.inl (2, 2)))]) (m' := (f, l)) rfl rfl (fl_bo rfl) rfl ?_
  refine fl_Tq.stp (pc' := 87) (lv' := [some (.inr (.inr (.inl (1, 1)))), some (.inl (Int32.ofNat k)), some (.inl ((((f (18 + 4 * (k + 1)) 6) - (f (18 + 4 * k) 6)) * (f 4 22)) / (256 : Int32)))]) (st' := [.inl (Int32.ofNat k), .inr (.inr (.inl (2, 2)))]) (m' := (f, l)) rfl rfl (fl_bo rfl) rfl ?_
  refine fl_Tq.qld (p := 2) (τ := 2) (n := 16) (t := 18) (b := 16) (d := 3) (k := k) rfl (fl_bo rfl) rfl (at_ofN (by omega)) (by omega) ?_
  show fl_Tq _ 61 88 [some (.inr (.inr (.inl (1, 1)))), some (.inl (Int32.ofNat k)), some (.inl ((((f (18 + 4 * (k + 1)) 6) - (f (18 + 4 * k) 6)) * (f 4 22)) / (256 : Int32)))] [.inr (.inr (.inl (18, 18 + 4 * k)))] (f, l) _
  refine fl_Tq.stp (pc' := 89) (lv' := [some (.inr (.inr (.inl (1, 1)))), some (.inl (Int32.ofNat k)), some (.inl ((((f (18 + 4 * (k + 1)) 6) - (f (18 + 4 * k) 6)) * (f 4 22)) / (256 : Int32)))]) (st' := [.inr (.inr (.inl (18, 18 + 4 * k))), .inr (.inr (.inl (18, 18 + 4 * k)))]) (m' := (f, l)) rfl rfl (fl_oks_ok ⟨(t2_kc0 (by omega)), True.intro⟩) rfl ?_
  refine fl_Tq.gfV (k := 6) (v := f (18 + 4 * k) 6) rfl (fl_oks_ok ⟨(t2_kc0 (by omega)), (t2_kc0 (by omega)), True.intro⟩) rfl rfl ?_
  refine fl_Tq.stp (pc' := 93) (lv' := [some (.inr (.inr (.inl (1, 1)))), some (.inl (Int32.ofNat k)), some (.inl ((((f (18 + 4 * (k + 1)) 6) - (f (18 + 4 * k) 6)) * (f 4 22)) / (256 : Int32)))]) (st' := [.inl ((((f (18 + 4 * (k + 1)) 6) - (f (18 + 4 * k) 6)) * (f 4 22)) / (256 : Int32)), .inl (f (18 + 4 * k) 6), .inr (.inr (.inl (18, 18 + 4 * k)))]) (m' := (f, l)) rfl rfl (fl_oks_ok ⟨True.intro, (t2_kc0 (by omega)), True.intro⟩) rfl ?_
  refine fl_Tq.stp (pc' := 94) (lv' := [some (.inr (.inr (.inl (1, 1)))), some (.inl (Int32.ofNat k)), some (.inl ((((f (18 + 4 * (k + 1)) 6) - (f (18 + 4 * k) 6)) * (f 4 22)) / (256 : Int32)))]) (st' := [.inl ((f (18 + 4 * k) 6) + ((((f (18 + 4 * (k + 1)) 6) - (f (18 + 4 * k) 6)) * (f 4 22)) / (256 : Int32))), .inr (.inr (.inl (18, 18 + 4 * k)))]) (m' := (f, l)) rfl rfl (fl_oks_ok ⟨True.intro, True.intro, (t2_kc0 (by omega)), True.intro⟩) rfl ?_
  refine fl_Tq.pfV (k := 6) (m' := (fl_row f (18 + 4 * k) (upd (f (18 + 4 * k)) 6 ((f (18 + 4 * k) 6) + ((((f (18 + 4 * (k + 1)) 6) - (f (18 + 4 * k) 6)) * (f 4 22)) / (256 : Int32)))), l)) rfl (fl_oks_ok ⟨True.intro, (t2_kc0 (by omega)), True.intro⟩) rfl (t2_upn rfl) ?_
  refine fl_Tq.stp (pc' := 98) (lv' := [some (.inr (.inr (.inl (1, 1)))), some (.inl (Int32.ofNat k)), some (.inl ((((f (18 + 4 * (k + 1)) 6) - (f (18 + 4 * k) 6)) * (f 4 22)) / (256 : Int32)))]) (st' := [.inr (.inr (.inl (1, 1)))]) (m' := (fl_row f (18 + 4 * k) (upd (f (18 + 4 * k)) 6 ((f (18 + 4 * k) 6) + ((((f (18 + 4 * (k + 1)) 6) - (f (18 + 4 * k) 6)) * (f 4 22)) / (256 : Int32)))), l)) rfl rfl (fl_bo rfl) rfl ?_
  refine fl_Tq.stp (pc' := 101) (lv' := [some (.inr (.inr (.inl (1, 1)))), some (.inl (Int32.ofNat k)), some (.inl ((((f (18 + 4 * (k + 1)) 6) - (f (18 + 4 * k) 6)) * (f 4 22)) / (256 : Int32)))]) (st' := [.inr (.inr (.inl (2, 2)))]) (m' := (fl_row f (18 + 4 * k) (upd (f (18 + 4 * k)) 6 ((f (18 + 4 * k) 6) + ((((f (18 + 4 * (k + 1)) 6) - (f (18 + 4 * k) 6)) * (f 4 22)) / (256 : Int32)))), l)) rfl rfl (fl_bo rfl) rfl ?_
  refine fl_Tq.stp (pc' := 102) (lv' := [some (.inr (.inr (.inl (1, 1)))), some (.inl (Int32.ofNat k)), some (.inl ((((f (18 + 4 * (k + 1)) 6) - (f (18 + 4 * k) 6)) * (f 4 22)) / (256 : Int32)))]) (st' := [.inl (Int32.ofNat k), .inr (.inr (.inl (2, 2)))]) (m' := (fl_row f (18 + 4 * k) (upd (f (18 + 4 * k)) 6 ((f (18 + 4 * k) 6) + ((((f (18 + 4 * (k + 1)) 6) - (f (18 + 4 * k) 6)) * (f 4 22)) / (256 : Int32)))), l)) rfl rfl (fl_bo rfl) rfl ?_
  refine fl_Tq.cI (c := (1 : Int32)) rfl (by decide +kernel) (fl_bo rfl) ?_
  refine fl_Tq.stp (pc' := 104) (lv' := [some (.inr (.inr (.inl (1, 1)))), some (.inl (Int32.ofNat k)), some (.inl ((((f (18 + 4 * (k + 1)) 6) - (f (18 + 4 * k) 6)) * (f 4 22)) / (256 : Int32)))]) (st' := [.inl ((Int32.ofNat k) + (1 : Int32)), .inr (.inr (.inl (2, 2)))]) (m' := (fl_row f (18 + 4 * k) (upd (f (18 + 4 * k)) 6 ((f (18 + 4 * k) 6) + ((((f (18 + 4 * (k + 1)) 6) - (f (18 + 4 * k) 6)) * (f 4 22)) / (256 : Int32)))), l)) rfl rfl (fl_bo rfl) rfl ?_
  refine fl_Tq.qld (p := 2) (τ := 2) (n := 16) (t := 18) (b := 16) (d := 3) (k := (k + 1)) rfl (fl_bo rfl) rfl (by have e1 : (1 : Int32).toInt = 1 := (by decide +kernel); have e2 : (Int32.ofNat k).toInt = ((k : Nat) : Int) := at_ofN (by omega); rw [at_add32] <;> rw [e2, e1] <;> omega) (by omega) ?_
  show fl_Tq _ 61 105 [some (.inr (.inr (.inl (1, 1)))), some (.inl (Int32.ofNat k)), some (.inl ((((f (18 + 4 * (k + 1)) 6) - (f (18 + 4 * k) 6)) * (f 4 22)) / (256 : Int32)))] [.inr (.inr (.inl (18, 18 + 4 * (k + 1))))] (fl_row f (18 + 4 * k) (upd (f (18 + 4 * k)) 6 ((f (18 + 4 * k) 6) + ((((f (18 + 4 * (k + 1)) 6) - (f (18 + 4 * k) 6)) * (f 4 22)) / (256 : Int32)))), l) _
  refine fl_Tq.stp (pc' := 106) (lv' := [some (.inr (.inr (.inl (1, 1)))), some (.inl (Int32.ofNat k)), some (.inl ((((f (18 + 4 * (k + 1)) 6) - (f (18 + 4 * k) 6)) * (f 4 22)) / (256 : Int32)))]) (st' := [.inr (.inr (.inl (18, 18 + 4 * (k + 1)))), .inr (.inr (.inl (18, 18 + 4 * (k + 1))))]) (m' := (fl_row f (18 + 4 * k) (upd (f (18 + 4 * k)) 6 ((f (18 + 4 * k) 6) + ((((f (18 + 4 * (k + 1)) 6) - (f (18 + 4 * k) 6)) * (f 4 22)) / (256 : Int32)))), l)) rfl rfl (fl_oks_ok ⟨(t2_kc0 (by omega)), True.intro⟩) rfl ?_
  refine fl_Tq.gfV (k := 6) (v := f (18 + 4 * (k + 1)) 6) rfl (fl_oks_ok ⟨(t2_kc0 (by omega)), (t2_kc0 (by omega)), True.intro⟩) rfl (by simp only [fl_row_ne (show 18 + 4 * (k + 1) ≠ 18 + 4 * k by omega)]) ?_
  refine fl_Tq.stp (pc' := 110) (lv' := [some (.inr (.inr (.inl (1, 1)))), some (.inl (Int32.ofNat k)), some (.inl ((((f (18 + 4 * (k + 1)) 6) - (f (18 + 4 * k) 6)) * (f 4 22)) / (256 : Int32)))]) (st' := [.inl ((((f (18 + 4 * (k + 1)) 6) - (f (18 + 4 * k) 6)) * (f 4 22)) / (256 : Int32)), .inl (f (18 + 4 * (k + 1)) 6), .inr (.inr (.inl (18, 18 + 4 * (k + 1))))]) (m' := (fl_row f (18 + 4 * k) (upd (f (18 + 4 * k)) 6 ((f (18 + 4 * k) 6) + ((((f (18 + 4 * (k + 1)) 6) - (f (18 + 4 * k) 6)) * (f 4 22)) / (256 : Int32)))), l)) rfl rfl (fl_oks_ok ⟨True.intro, (t2_kc0 (by omega)), True.intro⟩) rfl ?_
  refine fl_Tq.stp (pc' := 111) (lv' := [some (.inr (.inr (.inl (1, 1)))), some (.inl (Int32.ofNat k)), some (.inl ((((f (18 + 4 * (k + 1)) 6) - (f (18 + 4 * k) 6)) * (f 4 22)) / (256 : Int32)))]) (st' := [.inl ((f (18 + 4 * (k + 1)) 6) - ((((f (18 + 4 * (k + 1)) 6) - (f (18 + 4 * k) 6)) * (f 4 22)) / (256 : Int32))), .inr (.inr (.inl (18, 18 + 4 * (k + 1))))]) (m' := (fl_row f (18 + 4 * k) (upd (f (18 + 4 * k)) 6 ((f (18 + 4 * k) 6) + ((((f (18 + 4 * (k + 1)) 6) - (f (18 + 4 * k) 6)) * (f 4 22)) / (256 : Int32)))), l)) rfl rfl (fl_oks_ok ⟨True.intro, True.intro, (t2_kc0 (by omega)), True.intro⟩) rfl ?_
  refine fl_Tq.pfV (k := 6) (m' := (fl_row (fl_row f (18 + 4 * k) (upd (f (18 + 4 * k)) 6 ((f (18 + 4 * k) 6) + ((((f (18 + 4 * (k + 1)) 6) - (f (18 + 4 * k) 6)) * (f 4 22)) / (256 : Int32))))) (18 + 4 * (k + 1)) (upd (f (18 + 4 * (k + 1))) 6 ((f (18 + 4 * (k + 1)) 6) - ((((f (18 + 4 * (k + 1)) 6) - (f (18 + 4 * k) 6)) * (f 4 22)) / (256 : Int32)))), l)) rfl (fl_oks_ok ⟨True.intro, (t2_kc0 (by omega)), True.intro⟩) rfl (t2_upn (by rw [fl_row_ne (show 18 + 4 * (k + 1) ≠ 18 + 4 * k by omega)])) ?_
  refine fl_Tq.stp (pc' := 117) (lv' := [some (.inr (.inr (.inl (1, 1)))), some (.inl ((Int32.ofNat k) + (1 : Int32))), some (.inl ((((f (18 + 4 * (k + 1)) 6) - (f (18 + 4 * k) 6)) * (f 4 22)) / (256 : Int32)))]) (st' := []) (m' := (fl_row (fl_row f (18 + 4 * k) (upd (f (18 + 4 * k)) 6 ((f (18 + 4 * k) 6) + ((((f (18 + 4 * (k + 1)) 6) - (f (18 + 4 * k) 6)) * (f 4 22)) / (256 : Int32))))) (18 + 4 * (k + 1)) (upd (f (18 + 4 * (k + 1))) 6 ((f (18 + 4 * (k + 1)) 6) - ((((f (18 + 4 * (k + 1)) 6) - (f (18 + 4 * k) 6)) * (f 4 22)) / (256 : Int32)))), l)) rfl rfl (fl_bo rfl) rfl ?_
  refine fl_Tq.stp (pc' := 35) (lv' := [some (.inr (.inr (.inl (1, 1)))), some (.inl ((Int32.ofNat k) + (1 : Int32))), some (.inl ((((f (18 + 4 * (k + 1)) 6) - (f (18 + 4 * k) 6)) * (f 4 22)) / (256 : Int32)))]) (st' := []) (m' := (fl_row (fl_row f (18 + 4 * k) (upd (f (18 + 4 * k)) 6 ((f (18 + 4 * k) 6) + ((((f (18 + 4 * (k + 1)) 6) - (f (18 + 4 * k) 6)) * (f 4 22)) / (256 : Int32))))) (18 + 4 * (k + 1)) (upd (f (18 + 4 * (k + 1))) 6 ((f (18 + 4 * (k + 1)) 6) - ((((f (18 + 4 * (k + 1)) 6) - (f (18 + 4 * k) 6)) * (f 4 22)) / (256 : Int32)))), l)) rfl rfl (fl_bo rfl) rfl ?_
  have em : c0_passCells_b35_m f k = fl_row (fl_row f (18 + 4 * k) (upd (f (18 + 4 * k)) 6 ((f (18 + 4 * k) 6) + ((((f (18 + 4 * (k + 1)) 6) - (f (18 + 4 * k) 6)) * (f 4 22)) / (256 : Int32))))) (18 + 4 * (k + 1)) (upd (f (18 + 4 * (k + 1))) 6 ((f (18 + 4 * (k + 1)) 6) - ((((f (18 + 4 * (k + 1)) 6) - (f (18 + 4 * k) 6)) * (f 4 22)) / (256 : Int32)))) := rfl
  rw [em, ← t2_k1] at hS
  exact fl_Tq.fg hS ⟨rfl, rfl, True.intro⟩
noncomputable def c0_passCells_f35 (f : t2_F)  : Nat → t2_F
  | 0 => c0_passCells_f2 f ((f 1 5).toInt.toNat)
  | k + 1 => c0_passCells_b35_m (c0_passCells_f35 f k) k
theorem c0_passCells_f35_fr {f : t2_F}  {p : Nat} : ∀ {k : Nat} (e0 : ∀ j : Nat, j < k → p ≠ 18 + 4 * j) (e1 : ∀ j : Nat, j < k → p ≠ 18 + 4 * (j + 1)), c0_passCells_f35 f k p = (c0_passCells_f2 f ((f 1 5).toInt.toNat)) p := by
  intro k
  induction k with
  | zero => intros; rfl
  | succ k ih =>
    intro e0 e1
    exact (c0_passCells_b35_fr (e0 k (by omega)) (e1 k (by omega))).trans (ih (fun j hj => e0 j (by omega)) (fun j hj => e1 j (by omega)))
noncomputable def c0_passCells_m (f : t2_F) : t2_F := c0_passCells_f35 f ((f 1 5).toInt.toNat - 1)
theorem c0_passCells_q {L : Nat} {xs : Nat → Int32} {f : t2_F} {l : t2_L} {Q : Option fl_V → fl_M → Prop}  (hc : 0 ≤ (f 1 5).toInt ∧ (f 1 5).toInt ≤ 16) (hk : ∀ i : Nat, (i : Int) < (f 1 5).toInt → t2_cap (f (18 + 4 * i) 0)) (k : Q none (c0_passCells_m f, l)) : fl_Tq (pw_P L xs) 61 0 (fl_args (am_mxl (pw_P L xs) 61) [.inr (.inr (.inl (1, 1)))]) [] (f, l) Q := by
  refine fl_Tq.cI (c := (0 : Int32)) rfl (by decide +kernel) (fl_bo rfl) ?_
  refine fl_Tq.stp (pc' := 2) (lv' := [some (.inr (.inr (.inl (1, 1)))), some (.inl (0 : Int32)), none]) (st' := []) (m' := (f, l)) rfl rfl (fl_bo rfl) rfl ?_
  have hs2 : ∀ k : Nat, k < (f 1 5).toInt.toNat → fl_Tq (pw_P L xs) 61 2 [some (.inr (.inr (.inl (1, 1)))), some (.inl (Int32.ofNat (k + 1))), none] [] (c0_passCells_f2 f (k + 1), l) Q → fl_Tq (pw_P L xs) 61 2 [some (.inr (.inr (.inl (1, 1)))), some (.inl (Int32.ofNat k)), none] [] (c0_passCells_f2 f k, l) Q := fun k hkn hS => c0_passCells_b2_q hkn (by simp only [c0_passCells_f2_fr (k := k) (p := 1) (fun j hj => by omega)]; exact (t2_nn hc.1)) (by omega) (fun i e => by rw [e, c0_passCells_f2_fr (k := k) (p := 18 + 4 * k) (fun j hj => by omega)]; exact hk k (by omega)) hS
  refine t2_for (S := fun k => fl_Tq (pw_P L xs) 61 2 [some (.inr (.inr (.inl (1, 1)))), some (.inl (Int32.ofNat k)), none] [] (c0_passCells_f2 f k, l) Q) hs2 ?_
  show fl_Tq (pw_P L xs) 61 2 [some (.inr (.inr (.inl (1, 1)))), some (.inl (Int32.ofNat ((f 1 5).toInt.toNat))), none] [] (c0_passCells_f2 f ((f 1 5).toInt.toNat), l) _
  refine fl_Tq.stp (pc' := 3) (lv' := [some (.inr (.inr (.inl (1, 1)))), some (.inl (Int32.ofNat ((f 1 5).toInt.toNat))), none]) (st' := [.inl (Int32.ofNat ((f 1 5).toInt.toNat))]) (m' := (c0_passCells_f2 f ((f 1 5).toInt.toNat), l)) rfl rfl (fl_bo rfl) rfl ?_
  refine fl_Tq.stp (pc' := 4) (lv' := [some (.inr (.inr (.inl (1, 1)))), some (.inl (Int32.ofNat ((f 1 5).toInt.toNat))), none]) (st' := [.inr (.inr (.inl (1, 1))), .inl (Int32.ofNat ((f 1 5).toInt.toNat))]) (m' := (c0_passCells_f2 f ((f 1 5).toInt.toNat), l)) rfl rfl (fl_bo rfl) rfl ?_
  refine fl_Tq.gfV (k := 5) (v := f 1 5) rfl (fl_bo rfl) rfl (by simp only [c0_passCells_f2_fr (k := (f 1 5).toInt.toNat) (p := 1) (fun j hj => by omega)]) ?_
  refine fl_Tq.jt rfl (fl_bo rfl) (c2_ge_t (t2_ln (t2_nn hc.1))) rfl ?_
  refine fl_Tq.cI (c := (0 : Int32)) rfl (by decide +kernel) (fl_bo rfl) ?_
  refine fl_Tq.stp (pc' := 35) (lv' := [some (.inr (.inr (.inl (1, 1)))), some (.inl (0 : Int32)), none]) (st' := []) (m' := (c0_passCells_f2 f ((f 1 5).toInt.toNat), l)) rfl rfl (fl_bo rfl) rfl ?_
  have hs35 : ∀ k : Nat, k < (f 1 5).toInt.toNat - 1 → fl_Tq (pw_P L xs) 61 35 [some (.inr (.inr (.inl (1, 1)))), some (.inl (Int32.ofNat (k + 1))), none] [] (c0_passCells_f35 f (k + 1), l) Q → fl_Tq (pw_P L xs) 61 35 [some (.inr (.inr (.inl (1, 1)))), some (.inl (Int32.ofNat k)), none] [] (c0_passCells_f35 f k, l) Q := fun k hkn hS => c0_passCells_b35_q hkn (by simp only [c0_passCells_f35_fr (k := k) (p := 1) (fun j hj => by omega) (fun j hj => by omega), c0_passCells_f2_fr (k := (f 1 5).toInt.toNat) (p := 1) (fun j hj => by omega)]; exact (show ((((f 1 5).toInt.toNat - 1 : Nat)) : Int) = max ((f 1 5).toInt - 1) 0 by omega)) (by omega) hS
  refine t2_for (S := fun k => fl_Tq (pw_P L xs) 61 35 [some (.inr (.inr (.inl (1, 1)))), some (.inl (Int32.ofNat k)), none] [] (c0_passCells_f35 f k, l) Q) hs35 ?_
  show fl_Tq (pw_P L xs) 61 35 [some (.inr (.inr (.inl (1, 1)))), some (.inl (Int32.ofNat ((f 1 5).toInt.toNat - 1))), none] [] (c0_passCells_f35 f ((f 1 5).toInt.toNat - 1), l) _
  refine fl_Tq.stp (pc' := 36) (lv' := [some (.inr (.inr (.inl (1, 1)))), some (.inl (Int32.ofNat ((f 1 5).toInt.toNat - 1))), none]) (st' := [.inl (Int32.ofNat ((f 1 5).toInt.toNat - 1))]) (m' := (c0_passCells_f35 f ((f 1 5).toInt.toNat - 1), l)) rfl rfl (fl_bo rfl) rfl ?_
  refine fl_Tq.cI (c := (1 : Int32)) rfl (by decide +kernel) (fl_bo rfl) ?_
  refine fl_Tq.stp (pc' := 38) (lv' := [some (.inr (.inr (.inl (1, 1)))), some (.inl (Int32.ofNat ((f 1 5).toInt.toNat - 1))), none]) (st' := [.inl ((Int32.ofNat ((f 1 5).toInt.toNat - 1)) + (1 : Int32))]) (m' := (c0_passCells_f35 f ((f 1 5).toInt.toNat - 1), l)) rfl rfl (fl_bo rfl) rfl ?_
  refine fl_Tq.stp (pc' := 39) (lv' := [some (.inr (.inr (.inl (1, 1)))), some (.inl (Int32.ofNat ((f 1 5).toInt.toNat - 1))), none]) (st' := [.inr (.inr (.inl (1, 1))), .inl ((Int32.ofNat ((f 1 5).toInt.toNat - 1)) + (1 : Int32))]) (m' := (c0_passCells_f35 f ((f 1 5).toInt.toNat - 1), l)) rfl rfl (fl_bo rfl) rfl ?_
  refine fl_Tq.gfV (k := 5) (v := f 1 5) rfl (fl_bo rfl) rfl (by simp only [c0_passCells_f35_fr (k := (f 1 5).toInt.toNat - 1) (p := 1) (fun j hj => by omega) (fun j hj => by omega), c0_passCells_f2_fr (k := (f 1 5).toInt.toNat) (p := 1) (fun j hj => by omega)]) ?_
  refine fl_Tq.jt rfl (fl_bo rfl) (c2_ge_t (by have e1 : (1 : Int32).toInt = 1 := (by decide +kernel); have e2 : (Int32.ofNat ((f 1 5).toInt.toNat - 1)).toInt = (((f 1 5).toInt.toNat - 1 : Nat) : Int) := at_ofN (by omega); rw [at_add32] <;> rw [e2, e1] <;> omega)) rfl ?_
  exact fl_Tq.ret rfl rfl rfl k
theorem c0_passCells_fx {f : t2_F} (hc : 0 ≤ (f 1 5).toInt ∧ (f 1 5).toInt ≤ 16) {p : Nat} (hp : p < 18 ∨ 82 ≤ p) : c0_passCells_m f p = f p := by
  unfold c0_passCells_m
  rw [c0_passCells_f35_fr (fun j hj => by omega) (fun j hj => by omega), c0_passCells_f2_fr (fun j hj => by omega)]
noncomputable def c0_taper_e33 (f : t2_F) : Nat → Option t2_F
  | 0 => none
  | k33 + 1 => match c0_taper_e33 f k33 with
    | some r => some r
    | none => if (c0_voltsAt_v f k33 (f 1 9)).toInt < (f 4 23).toInt then none else some (fl_row f 4 (upd (f 4) 20 (if (((f 4 20) * (9 : Int32)) / (10 : Int32)).toInt < (100 : Int32).toInt then (0 : Int32) else ((f 4 20) * (9 : Int32)) / (10 : Int32))))
noncomputable def c0_taper_m (f : t2_F) : t2_F := if 0 < (f 4 23).toInt then (if 0 < (f 4 20).toInt then (match c0_taper_e33 f ((f 1 5).toInt.toNat) with | some r => r | none => f) else f) else f
theorem c0_taper_q {L : Nat} {xs : Nat → Int32} {f : t2_F} {l : t2_L} {Q : Option fl_V → fl_M → Prop}  (hc : 0 ≤ (f 1 5).toInt ∧ (f 1 5).toInt ≤ 16) (k : Q none (c0_taper_m f, l)) : fl_Tq (pw_P L xs) 67 0 (fl_args (am_mxl (pw_P L xs) 67) [.inr (.inr (.inl (1, 1)))]) [] (f, l) Q := by
  refine fl_Tq.stp (pc' := 1) (lv' := [some (.inr (.inr (.inl (1, 1)))), none, none, none, none]) (st' := [.inr (.inr (.inl (1, 1)))]) (m' := (f, l)) rfl rfl (fl_bo rfl) rfl ?_
  refine fl_Tq.stp (pc' := 4) (lv' := [some (.inr (.inr (.inl (1, 1)))), none, none, none, none]) (st' := [.inr (.inr (.inl (3, 3)))]) (m' := (f, l)) rfl rfl (fl_bo rfl) rfl ?_
  refine fl_Tq.stp (pc' := 7) (lv' := [some (.inr (.inr (.inl (1, 1)))), none, none, none, none]) (st' := [.inr (.inr (.inl (4, 4)))]) (m' := (f, l)) rfl rfl (fl_bo rfl) rfl ?_
  refine fl_Tq.cB (c := (23 : Int32)) rfl (by decide +kernel) (fl_bo rfl) ?_
  refine fl_Tq.ldV (p := 4) (τ := 4) (n := 30) (z := (0, 0, 0)) (k := 23) (v := f 4 23) rfl (fl_bo rfl) rfl (by decide +kernel) (by decide) rfl ?_
  refine fl_Tq.stp (pc' := 11) (lv' := [some (.inr (.inr (.inl (1, 1)))), some (.inl (f 4 23)), none, none, none]) (st' := []) (m' := (f, l)) rfl rfl (fl_bo rfl) rfl ?_
  refine fl_Tq.stp (pc' := 12) (lv' := [some (.inr (.inr (.inl (1, 1)))), some (.inl (f 4 23)), none, none, none]) (st' := [.inr (.inr (.inl (1, 1)))]) (m' := (f, l)) rfl rfl (fl_bo rfl) rfl ?_
  refine fl_Tq.stp (pc' := 15) (lv' := [some (.inr (.inr (.inl (1, 1)))), some (.inl (f 4 23)), none, none, none]) (st' := [.inr (.inr (.inl (3, 3)))]) (m' := (f, l)) rfl rfl (fl_bo rfl) rfl ?_
  refine fl_Tq.stp (pc' := 18) (lv' := [some (.inr (.inr (.inl (1, 1)))), some (.inl (f 4 23)), none, none, none]) (st' := [.inr (.inr (.inl (4, 4)))]) (m' := (f, l)) rfl rfl (fl_bo rfl) rfl ?_
  refine fl_Tq.cB (c := (20 : Int32)) rfl (by decide +kernel) (fl_bo rfl) ?_
  refine fl_Tq.ldV (p := 4) (τ := 4) (n := 30) (z := (0, 0, 0)) (k := 20) (v := f 4 20) rfl (fl_bo rfl) rfl (by decide +kernel) (by decide) rfl ?_
  refine fl_Tq.stp (pc' := 22) (lv' := [some (.inr (.inr (.inl (1, 1)))), some (.inl (f 4 23)), some (.inl (f 4 20)), none, none]) (st' := []) (m' := (f, l)) rfl rfl (fl_bo rfl) rfl ?_
  refine fl_Tq.stp (pc' := 23) (lv' := [some (.inr (.inr (.inl (1, 1)))), some (.inl (f 4 23)), some (.inl (f 4 20)), none, none]) (st' := [.inl (f 4 23)]) (m' := (f, l)) rfl rfl (fl_bo rfl) rfl ?_
  by_cases h1 : 0 < (f 4 23).toInt
  · refine fl_Tq.zf rfl (fl_bo rfl) (c1_le_f h1) rfl ?_
    refine fl_Tq.stp (pc' := 27) (lv' := [some (.inr (.inr (.inl (1, 1)))), some (.inl (f 4 23)), some (.inl (f 4 20)), none, none]) (st' := [.inl (f 4 20)]) (m' := (f, l)) rfl rfl (fl_bo rfl) rfl ?_
    by_cases h2 : 0 < (f 4 20).toInt
    · refine fl_Tq.zt rfl (fl_bo rfl) (c1_gt_t h2) rfl ?_
      refine fl_Tq.cI (c := (0 : Int32)) rfl (by decide +kernel) (fl_bo rfl) ?_
      refine fl_Tq.stp (pc' := 33) (lv' := [some (.inr (.inr (.inl (1, 1)))), some (.inl (f 4 23)), some (.inl (f 4 20)), some (.inl (0 : Int32)), none]) (st' := []) (m' := (f, l)) rfl rfl (fl_bo rfl) rfl ?_
      have hm33 : ∀ (k : Nat) (r : t2_F), c0_taper_e33 f k = some r → c0_taper_e33 f (k + 1) = some r := fun k r e => by
        unfold c0_taper_e33
        rw [e]
      have hs33 : ∀ k33 : Nat, k33 < (f 1 5).toInt.toNat → c0_taper_e33 f k33 = none → (c0_taper_e33 f (k33 + 1) = none → fl_Tq (pw_P L xs) 67 33 [some (.inr (.inr (.inl (1, 1)))), some (.inl (f 4 23)), some (.inl (f 4 20)), some (.inl (Int32.ofNat (k33 + 1))), none] [] (f, l) Q) → fl_Tq (pw_P L xs) 67 33 [some (.inr (.inr (.inl (1, 1)))), some (.inl (f 4 23)), some (.inl (f 4 20)), some (.inl (Int32.ofNat k33)), none] [] (f, l) Q := by
        intro k33 hk33 he hS
        refine fl_Tq.stp (pc' := 34) (lv' := [some (.inr (.inr (.inl (1, 1)))), some (.inl (f 4 23)), some (.inl (f 4 20)), some (.inl (Int32.ofNat k33)), none]) (st' := [.inl (Int32.ofNat k33)]) (m' := (f, l)) rfl rfl (fl_bo rfl) rfl ?_
        refine fl_Tq.stp (pc' := 35) (lv' := [some (.inr (.inr (.inl (1, 1)))), some (.inl (f 4 23)), some (.inl (f 4 20)), some (.inl (Int32.ofNat k33)), none]) (st' := [.inr (.inr (.inl (1, 1))), .inl (Int32.ofNat k33)]) (m' := (f, l)) rfl rfl (fl_bo rfl) rfl ?_
        refine fl_Tq.gfV (k := 5) (v := f 1 5) rfl (fl_bo rfl) rfl rfl ?_
        refine fl_Tq.jf rfl (fl_bo rfl) (c2_ge_f (t2_lk hk33 (t2_nn hc.1))) rfl ?_
        refine fl_Tq.stp (pc' := 42) (lv' := [some (.inr (.inr (.inl (1, 1)))), some (.inl (f 4 23)), some (.inl (f 4 20)), some (.inl (Int32.ofNat k33)), none]) (st' := [.inr (.inr (.inl (1, 1)))]) (m' := (f, l)) rfl rfl (fl_bo rfl) rfl ?_
        refine fl_Tq.stp (pc' := 45) (lv' := [some (.inr (.inr (.inl (1, 1)))), some (.inl (f 4 23)), some (.inl (f 4 20)), some (.inl (Int32.ofNat k33)), none]) (st' := [.inr (.inr (.inl (2, 2)))]) (m' := (f, l)) rfl rfl (fl_bo rfl) rfl ?_
        refine fl_Tq.stp (pc' := 46) (lv' := [some (.inr (.inr (.inl (1, 1)))), some (.inl (f 4 23)), some (.inl (f 4 20)), some (.inl (Int32.ofNat k33)), none]) (st' := [.inl (Int32.ofNat k33), .inr (.inr (.inl (2, 2)))]) (m' := (f, l)) rfl rfl (fl_bo rfl) rfl ?_
        refine fl_Tq.qld (p := 2) (τ := 2) (n := 16) (t := 18) (b := 16) (d := 3) (k := k33) rfl (fl_bo rfl) rfl (at_ofN (by omega)) (by omega) ?_
        show fl_Tq _ 67 47 [some (.inr (.inr (.inl (1, 1)))), some (.inl (f 4 23)), some (.inl (f 4 20)), some (.inl (Int32.ofNat k33)), none] [.inr (.inr (.inl (18, 18 + 4 * k33)))] (f, l) _
        refine fl_Tq.stp (pc' := 48) (lv' := [some (.inr (.inr (.inl (1, 1)))), some (.inl (f 4 23)), some (.inl (f 4 20)), some (.inl (Int32.ofNat k33)), none]) (st' := [.inr (.inr (.inl (1, 1))), .inr (.inr (.inl (18, 18 + 4 * k33)))]) (m' := (f, l)) rfl rfl (fl_oks_ok ⟨(t2_kc0 (by omega)), True.intro⟩) rfl ?_
        refine fl_Tq.gfV (k := 9) (v := f 1 9) rfl (fl_oks_ok ⟨fl_okp (by decide +kernel) (by decide), (t2_kc0 (by omega)), True.intro⟩) rfl rfl ?_
        refine fl_Tq.cal rfl rfl (fl_oks_ok ⟨True.intro, (t2_kc0 (by omega)), True.intro⟩) rfl ?_
        refine c0_voltsAt_q (by omega) ?_
        show fl_Tq _ 67 54 [some (.inr (.inr (.inl (1, 1)))), some (.inl (f 4 23)), some (.inl (f 4 20)), some (.inl (Int32.ofNat k33)), none] [.inl (c0_voltsAt_v f k33 (f 1 9))] (f, l) _
        refine fl_Tq.stp (pc' := 55) (lv' := [some (.inr (.inr (.inl (1, 1)))), some (.inl (f 4 23)), some (.inl (f 4 20)), some (.inl (Int32.ofNat k33)), none]) (st' := [.inl (f 4 23), .inl (c0_voltsAt_v f k33 (f 1 9))]) (m' := (f, l)) rfl rfl (fl_bo rfl) rfl ?_
        by_cases h3 : (c0_voltsAt_v f k33 (f 1 9)).toInt < (f 4 23).toInt
        · refine fl_Tq.jt rfl (fl_bo rfl) (c2_lt_t h3) rfl ?_
          refine fl_Tq.stp (pc' := 94) (lv' := [some (.inr (.inr (.inl (1, 1)))), some (.inl (f 4 23)), some (.inl (f 4 20)), some (.inl ((Int32.ofNat k33) + (1 : Int32))), none]) (st' := []) (m' := (f, l)) rfl rfl (fl_bo rfl) rfl ?_
          refine fl_Tq.stp (pc' := 33) (lv' := [some (.inr (.inr (.inl (1, 1)))), some (.inl (f 4 23)), some (.inl (f 4 20)), some (.inl ((Int32.ofNat k33) + (1 : Int32))), none]) (st' := []) (m' := (f, l)) rfl rfl (fl_bo rfl) rfl ?_
          have ee : c0_taper_e33 f (k33 + 1) = none := by
            unfold c0_taper_e33
            rw [he]
            simp only [if_pos h3]
          have hS := hS ee
          rw [← t2_k1] at hS
          exact hS
        · refine fl_Tq.jf rfl (fl_bo rfl) (c2_lt_f h3) rfl ?_
          refine fl_Tq.stp (pc' := 59) (lv' := [some (.inr (.inr (.inl (1, 1)))), some (.inl (f 4 23)), some (.inl (f 4 20)), some (.inl (Int32.ofNat k33)), none]) (st' := [.inl (f 4 20)]) (m' := (f, l)) rfl rfl (fl_bo rfl) rfl ?_
          refine fl_Tq.cB (c := (9 : Int32)) rfl (by decide +kernel) (fl_bo rfl) ?_
          refine fl_Tq.stp (pc' := 62) (lv' := [some (.inr (.inr (.inl (1, 1)))), some (.inl (f 4 23)), some (.inl (f 4 20)), some (.inl (Int32.ofNat k33)), none]) (st' := [.inl ((f 4 20) * (9 : Int32))]) (m' := (f, l)) rfl rfl (fl_bo rfl) rfl ?_
          refine fl_Tq.cB (c := (10 : Int32)) rfl (by decide +kernel) (fl_bo rfl) ?_
          refine fl_Tq.dv rfl (fl_bo rfl) (by decide +kernel) ?_
          refine fl_Tq.stp (pc' := 67) (lv' := [some (.inr (.inr (.inl (1, 1)))), some (.inl (f 4 23)), some (.inl (f 4 20)), some (.inl (Int32.ofNat k33)), some (.inl (((f 4 20) * (9 : Int32)) / (10 : Int32)))]) (st' := []) (m' := (f, l)) rfl rfl (fl_bo rfl) rfl ?_
          refine fl_Tq.stp (pc' := 68) (lv' := [some (.inr (.inr (.inl (1, 1)))), some (.inl (f 4 23)), some (.inl (f 4 20)), some (.inl (Int32.ofNat k33)), some (.inl (((f 4 20) * (9 : Int32)) / (10 : Int32)))]) (st' := [.inr (.inr (.inl (1, 1)))]) (m' := (f, l)) rfl rfl (fl_bo rfl) rfl ?_
          refine fl_Tq.stp (pc' := 71) (lv' := [some (.inr (.inr (.inl (1, 1)))), some (.inl (f 4 23)), some (.inl (f 4 20)), some (.inl (Int32.ofNat k33)), some (.inl (((f 4 20) * (9 : Int32)) / (10 : Int32)))]) (st' := [.inr (.inr (.inl (3, 3)))]) (m' := (f, l)) rfl rfl (fl_bo rfl) rfl ?_
          refine fl_Tq.stp (pc' := 74) (lv' := [some (.inr (.inr (.inl (1, 1)))), some (.inl (f 4 23)), some (.inl (f 4 20)), some (.inl (Int32.ofNat k33)), some (.inl (((f 4 20) * (9 : Int32)) / (10 : Int32)))]) (st' := [.inr (.inr (.inl (4, 4)))]) (m' := (f, l)) rfl rfl (fl_bo rfl) rfl ?_
          refine fl_Tq.cB (c := (20 : Int32)) rfl (by decide +kernel) (fl_bo rfl) ?_
          refine fl_Tq.stp (pc' := 78) (lv' := [some (.inr (.inr (.inl (1, 1)))), some (.inl (f 4 23)), some (.inl (f 4 20)), some (.inl (Int32.ofNat k33)), some (.inl (((f 4 20) * (9 : Int32)) / (10 : Int32)))]) (st' := [.inl (((f 4 20) * (9 : Int32)) / (10 : Int32)), .inl (20 : Int32), .inr (.inr (.inl (4, 4)))]) (m' := (f, l)) rfl rfl (fl_bo rfl) rfl ?_
          refine fl_Tq.cB (c := (100 : Int32)) rfl (by decide +kernel) (fl_bo rfl) ?_
          have hj94 : fl_Tq (pw_P L xs) 67 89 [some (.inr (.inr (.inl (1, 1)))), some (.inl (f 4 23)), some (.inl (f 4 20)), some (.inl (Int32.ofNat k33)), some (.inl (((f 4 20) * (9 : Int32)) / (10 : Int32)))] [.inl (if (((f 4 20) * (9 : Int32)) / (10 : Int32)).toInt < (100 : Int32).toInt then (0 : Int32) else ((f 4 20) * (9 : Int32)) / (10 : Int32)), .inl (20 : Int32), .inr (.inr (.inl (4, 4)))] (f, l) Q → fl_Tq (pw_P L xs) 67 80 [some (.inr (.inr (.inl (1, 1)))), some (.inl (f 4 23)), some (.inl (f 4 20)), some (.inl (Int32.ofNat k33)), some (.inl (((f 4 20) * (9 : Int32)) / (10 : Int32)))] [.inl (100 : Int32), .inl (((f 4 20) * (9 : Int32)) / (10 : Int32)), .inl (20 : Int32), .inr (.inr (.inl (4, 4)))] (f, l) Q := by
            intro hJ
            by_cases h4 : (((f 4 20) * (9 : Int32)) / (10 : Int32)).toInt < (100 : Int32).toInt
            · refine fl_Tq.jf rfl (fl_bo rfl) (c2_ge_f h4) rfl ?_
              refine fl_Tq.cI (c := (0 : Int32)) rfl (by decide +kernel) (fl_bo rfl) ?_
              refine fl_Tq.stp (pc' := 89) (lv' := [some (.inr (.inr (.inl (1, 1)))), some (.inl (f 4 23)), some (.inl (f 4 20)), some (.inl (Int32.ofNat k33)), some (.inl (((f 4 20) * (9 : Int32)) / (10 : Int32)))]) (st' := [.inl (0 : Int32), .inl (20 : Int32), .inr (.inr (.inl (4, 4)))]) (m' := (f, l)) rfl rfl (fl_bo rfl) rfl ?_
              have e0 : (if (((f 4 20) * (9 : Int32)) / (10 : Int32)).toInt < (100 : Int32).toInt then (0 : Int32) else ((f 4 20) * (9 : Int32)) / (10 : Int32)) = (0 : Int32) := by simp only [if_pos h4]
              rw [e0] at hJ
              exact hJ
            · refine fl_Tq.jt rfl (fl_bo rfl) (c2_ge_t h4) rfl ?_
              refine fl_Tq.stp (pc' := 89) (lv' := [some (.inr (.inr (.inl (1, 1)))), some (.inl (f 4 23)), some (.inl (f 4 20)), some (.inl (Int32.ofNat k33)), some (.inl (((f 4 20) * (9 : Int32)) / (10 : Int32)))]) (st' := [.inl (((f 4 20) * (9 : Int32)) / (10 : Int32)), .inl (20 : Int32), .inr (.inr (.inl (4, 4)))]) (m' := (f, l)) rfl rfl (fl_bo rfl) rfl ?_
              have e0 : (if (((f 4 20) * (9 : Int32)) / (10 : Int32)).toInt < (100 : Int32).toInt then (0 : Int32) else ((f 4 20) * (9 : Int32)) / (10 : Int32)) = ((f 4 20) * (9 : Int32)) / (10 : Int32) := by simp only [if_neg h4]
              rw [e0] at hJ
              exact hJ
          refine hj94 ?_
          show fl_Tq _ 67 89 [some (.inr (.inr (.inl (1, 1)))), some (.inl (f 4 23)), some (.inl (f 4 20)), some (.inl (Int32.ofNat k33)), some (.inl (((f 4 20) * (9 : Int32)) / (10 : Int32)))] [.inl (if (((f 4 20) * (9 : Int32)) / (10 : Int32)).toInt < (100 : Int32).toInt then (0 : Int32) else ((f 4 20) * (9 : Int32)) / (10 : Int32)), .inl (20 : Int32), .inr (.inr (.inl (4, 4)))] (f, l) _
          refine fl_Tq.svV (p := 4) (τ := 4) (n := 30) (z := (0, 0, 0)) (k := 20) (m' := (fl_row f 4 (upd (f 4) 20 (if (((f 4 20) * (9 : Int32)) / (10 : Int32)).toInt < (100 : Int32).toInt then (0 : Int32) else ((f 4 20) * (9 : Int32)) / (10 : Int32))), l)) rfl (fl_bo rfl) rfl (by decide +kernel) (by decide) (t2_upn rfl) ?_
          have ee : c0_taper_e33 f (k33 + 1) = some (fl_row f 4 (upd (f 4) 20 (if (((f 4 20) * (9 : Int32)) / (10 : Int32)).toInt < (100 : Int32).toInt then (0 : Int32) else ((f 4 20) * (9 : Int32)) / (10 : Int32)))) := by
            unfold c0_taper_e33
            rw [he]
            simp only [if_neg h3]
          have en : c0_taper_e33 f ((f 1 5).toInt.toNat) = some (fl_row f 4 (upd (f 4) 20 (if (((f 4 20) * (9 : Int32)) / (10 : Int32)).toInt < (100 : Int32).toInt then (0 : Int32) else ((f 4 20) * (9 : Int32)) / (10 : Int32)))) := t2_Em hm33 ee (by omega)
          refine fl_Tq.ret rfl rfl rfl ?_
          unfold c0_taper_m at k
          simp only [if_pos h1, if_pos h2, en] at k
          exact k
      refine t2_forE (E := c0_taper_e33 f) (S := fun k33 => fl_Tq (pw_P L xs) 67 33 [some (.inr (.inr (.inl (1, 1)))), some (.inl (f 4 23)), some (.inl (f 4 20)), some (.inl (Int32.ofNat k33)), none] [] (f, l) Q) hs33 rfl (fun en33 => ?_)
      show fl_Tq (pw_P L xs) 67 33 [some (.inr (.inr (.inl (1, 1)))), some (.inl (f 4 23)), some (.inl (f 4 20)), some (.inl (Int32.ofNat ((f 1 5).toInt.toNat))), none] [] (f, l) _
      refine fl_Tq.stp (pc' := 34) (lv' := [some (.inr (.inr (.inl (1, 1)))), some (.inl (f 4 23)), some (.inl (f 4 20)), some (.inl (Int32.ofNat ((f 1 5).toInt.toNat))), none]) (st' := [.inl (Int32.ofNat ((f 1 5).toInt.toNat))]) (m' := (f, l)) rfl rfl (fl_bo rfl) rfl ?_
      refine fl_Tq.stp (pc' := 35) (lv' := [some (.inr (.inr (.inl (1, 1)))), some (.inl (f 4 23)), some (.inl (f 4 20)), some (.inl (Int32.ofNat ((f 1 5).toInt.toNat))), none]) (st' := [.inr (.inr (.inl (1, 1))), .inl (Int32.ofNat ((f 1 5).toInt.toNat))]) (m' := (f, l)) rfl rfl (fl_bo rfl) rfl ?_
      refine fl_Tq.gfV (k := 5) (v := f 1 5) rfl (fl_bo rfl) rfl rfl ?_
      refine fl_Tq.jt rfl (fl_bo rfl) (c2_ge_t (t2_ln (t2_nn hc.1))) rfl ?_
      refine fl_Tq.ret rfl rfl rfl ?_
      unfold c0_taper_m at k
      simp only [if_pos h1, if_pos h2, en33] at k
      exact k
    · refine fl_Tq.zf rfl (fl_bo rfl) (c1_gt_f h2) rfl ?_
      refine fl_Tq.ret rfl rfl rfl ?_
      unfold c0_taper_m at k
      simp only [if_pos h1, if_neg h2] at k
      exact k
  · refine fl_Tq.zt rfl (fl_bo rfl) (c1_le_t h1) rfl ?_
    refine fl_Tq.ret rfl rfl rfl ?_
    unfold c0_taper_m at k
    simp only [if_neg h1] at k
    exact k
theorem c0_taper_efr {f : t2_F} {p : Nat} (hp : p ≠ 4) : ∀ (k : Nat) (r : t2_F), c0_taper_e33 f k = some r → r p = f p := by
  intro k
  induction k with
  | zero => intro r h; cases h
  | succ k ih =>
    intro r h
    unfold c0_taper_e33 at h
    split at h
    · rename_i r' e
      cases h
      exact ih _ e
    · repeat' split at h
      all_goals first | (cases h; done) | (cases h; exact fl_row_ne hp)
theorem c0_taper_fx {f : t2_F} {p : Nat} (hp : p ≠ 4) : c0_taper_m f p = f p := by
  unfold c0_taper_m
  split
  · split
    · cases e : c0_taper_e33 f ((f 1 5).toInt.toNat) with
      | none => rfl
      | some r => exact c0_taper_efr hp _ _ e
    · rfl
  · rfl
noncomputable def c0_sMeasure_j5_0 (f : t2_F)  : Int32 := if (f 1 9).toInt = 0 then (f 1 12) + (1 : Int32) else (0 : Int32)
noncomputable def c0_sMeasure_j35_0 (f : t2_F)  : Int32 := if (c0_sMeasure_j5_0 f).toInt = (f 4 19).toInt then (1 : Int32) else (0 : Int32)
noncomputable def c0_sMeasure_b46_m (f : t2_F) (z : Int32) (k : Nat) : t2_F := if z.toInt = 0 then c0_measure_m f k (f 1 9) (f 1 10) else c0_reckonAtRest_m (c0_measure_m f k (f 1 9) (f 1 10)) k
theorem c0_sMeasure_b46_fr {f : t2_F} {z : Int32} {k : Nat} {p : Nat} (e0 : p ≠ 18 + 4 * k) : c0_sMeasure_b46_m f z k p = f p := by
  unfold c0_sMeasure_b46_m
  repeat' split
  all_goals first | rfl | (simp only [fl_row_ne e0, c0_measure_fr e0, c0_reckonAtRest_fr e0]; done) | (simp only [fl_row_ne e0, c0_measure_fr e0, c0_reckonAtRest_fr e0]; split <;> simp only [fl_row_ne e0, c0_measure_fr e0, c0_reckonAtRest_fr e0])
theorem c0_sMeasure_b46_q {L : Nat} {xs : Nat → Int32} {f : t2_F} {l : t2_L} {Q : Option fl_V → fl_M → Prop} {z : Int32} {k : Nat} {n : Nat} (hkn : k < n) (hb : (f 1 5).toInt = (n : Int)) (h16 : n ≤ 16) (hS : fl_Tq (pw_P L xs) 66 46 [some (.inr (.inr (.inl (1, 1)))), some (.inl z), some (.inl (Int32.ofNat (k + 1)))] [] (c0_sMeasure_b46_m f z k, l) Q) : fl_Tq (pw_P L xs) 66 46 [some (.inr (.inr (.inl (1, 1)))), some (.inl z), some (.inl (Int32.ofNat k))] [] (f, l) Q := by
  refine fl_Tq.stp (pc' := 47) (lv' := [some (.inr (.inr (.inl (1, 1)))), some (.inl z), some (.inl (Int32.ofNat k))]) (st' := [.inl (Int32.ofNat k)]) (m' := (f, l)) rfl rfl (fl_bo rfl) rfl ?_
  refine fl_Tq.stp (pc' := 48) (lv' := [some (.inr (.inr (.inl (1, 1)))), some (.inl z), some (.inl (Int32.ofNat k))]) (st' := [.inr (.inr (.inl (1, 1))), .inl (Int32.ofNat k)]) (m' := (f, l)) rfl rfl (fl_bo rfl) rfl ?_
  refine fl_Tq.gfV (k := 5) (v := f 1 5) rfl (fl_bo rfl) rfl rfl ?_
  refine fl_Tq.jf rfl (fl_bo rfl) (c2_ge_f (t2_lk hkn hb)) rfl ?_
  refine fl_Tq.stp (pc' := 55) (lv' := [some (.inr (.inr (.inl (1, 1)))), some (.inl z), some (.inl (Int32.ofNat k))]) (st' := [.inr (.inr (.inl (1, 1)))]) (m' := (f, l)) rfl rfl (fl_bo rfl) rfl ?_
  refine fl_Tq.stp (pc' := 58) (lv' := [some (.inr (.inr (.inl (1, 1)))), some (.inl z), some (.inl (Int32.ofNat k))]) (st' := [.inr (.inr (.inl (2, 2)))]) (m' := (f, l)) rfl rfl (fl_bo rfl) rfl ?_
  refine fl_Tq.stp (pc' := 59) (lv' := [some (.inr (.inr (.inl (1, 1)))), some (.inl z), some (.inl (Int32.ofNat k))]) (st' := [.inl (Int32.ofNat k), .inr (.inr (.inl (2, 2)))]) (m' := (f, l)) rfl rfl (fl_bo rfl) rfl ?_
  refine fl_Tq.qld (p := 2) (τ := 2) (n := 16) (t := 18) (b := 16) (d := 3) (k := k) rfl (fl_bo rfl) rfl (at_ofN (by omega)) (by omega) ?_
  show fl_Tq _ 66 60 [some (.inr (.inr (.inl (1, 1)))), some (.inl z), some (.inl (Int32.ofNat k))] [.inr (.inr (.inl (18, 18 + 4 * k)))] (f, l) _
  refine fl_Tq.stp (pc' := 61) (lv' := [some (.inr (.inr (.inl (1, 1)))), some (.inl z), some (.inl (Int32.ofNat k))]) (st' := [.inr (.inr (.inl (1, 1))), .inr (.inr (.inl (18, 18 + 4 * k)))]) (m' := (f, l)) rfl rfl (fl_oks_ok ⟨(t2_kc0 (by omega)), True.intro⟩) rfl ?_
  refine fl_Tq.gfV (k := 9) (v := f 1 9) rfl (fl_oks_ok ⟨fl_okp (by decide +kernel) (by decide), (t2_kc0 (by omega)), True.intro⟩) rfl rfl ?_
  refine fl_Tq.stp (pc' := 65) (lv' := [some (.inr (.inr (.inl (1, 1)))), some (.inl z), some (.inl (Int32.ofNat k))]) (st' := [.inr (.inr (.inl (1, 1))), .inl (f 1 9), .inr (.inr (.inl (18, 18 + 4 * k)))]) (m' := (f, l)) rfl rfl (fl_oks_ok ⟨True.intro, (t2_kc0 (by omega)), True.intro⟩) rfl ?_
  refine fl_Tq.gfV (k := 10) (v := f 1 10) rfl (fl_oks_ok ⟨fl_okp (by decide +kernel) (by decide), True.intro, (t2_kc0 (by omega)), True.intro⟩) rfl rfl ?_
  refine fl_Tq.cal rfl rfl (fl_oks_ok ⟨True.intro, True.intro, (t2_kc0 (by omega)), True.intro⟩) rfl ?_
  refine c0_measure_q (by omega) ?_
  show fl_Tq _ 66 71 [some (.inr (.inr (.inl (1, 1)))), some (.inl z), some (.inl (Int32.ofNat k))] [] (c0_measure_m f k (f 1 9) (f 1 10), l) _
  refine fl_Tq.stp (pc' := 72) (lv' := [some (.inr (.inr (.inl (1, 1)))), some (.inl z), some (.inl (Int32.ofNat k))]) (st' := [.inl z]) (m' := (c0_measure_m f k (f 1 9) (f 1 10), l)) rfl rfl (fl_bo rfl) rfl ?_
  have hj97 : fl_Tq (pw_P L xs) 66 84 [some (.inr (.inr (.inl (1, 1)))), some (.inl z), some (.inl (Int32.ofNat k))] [] (if z.toInt = 0 then c0_measure_m f k (f 1 9) (f 1 10) else c0_reckonAtRest_m (c0_measure_m f k (f 1 9) (f 1 10)) k, l) Q → fl_Tq (pw_P L xs) 66 72 [some (.inr (.inr (.inl (1, 1)))), some (.inl z), some (.inl (Int32.ofNat k))] [.inl z] (c0_measure_m f k (f 1 9) (f 1 10), l) Q := by
    intro hJ
    by_cases h3 : z.toInt = 0
    · refine fl_Tq.zt rfl (fl_bo rfl) (c1_eq_t h3) rfl ?_
      have e0 : (if z.toInt = 0 then c0_measure_m f k (f 1 9) (f 1 10) else c0_reckonAtRest_m (c0_measure_m f k (f 1 9) (f 1 10)) k) = c0_measure_m f k (f 1 9) (f 1 10) := by simp only [if_pos h3]
      rw [e0] at hJ
      exact hJ
    · refine fl_Tq.zf rfl (fl_bo rfl) (c1_eq_f h3) rfl ?_
      refine fl_Tq.stp (pc' := 76) (lv' := [some (.inr (.inr (.inl (1, 1)))), some (.inl z), some (.inl (Int32.ofNat k))]) (st' := [.inr (.inr (.inl (1, 1)))]) (m' := (c0_measure_m f k (f 1 9) (f 1 10), l)) rfl rfl (fl_bo rfl) rfl ?_
      refine fl_Tq.stp (pc' := 79) (lv' := [some (.inr (.inr (.inl (1, 1)))), some (.inl z), some (.inl (Int32.ofNat k))]) (st' := [.inr (.inr (.inl (2, 2)))]) (m' := (c0_measure_m f k (f 1 9) (f 1 10), l)) rfl rfl (fl_bo rfl) rfl ?_
      refine fl_Tq.stp (pc' := 80) (lv' := [some (.inr (.inr (.inl (1, 1)))), some (.inl z), some (.inl (Int32.ofNat k))]) (st' := [.inl (Int32.ofNat k), .inr (.inr (.inl (2, 2)))]) (m' := (c0_measure_m f k (f 1 9) (f 1 10), l)) rfl rfl (fl_bo rfl) rfl ?_
      refine fl_Tq.qld (p := 2) (τ := 2) (n := 16) (t := 18) (b := 16) (d := 3) (k := k) rfl (fl_bo rfl) rfl (at_ofN (by omega)) (by omega) ?_
      show fl_Tq _ 66 81 [some (.inr (.inr (.inl (1, 1)))), some (.inl z), some (.inl (Int32.ofNat k))] [.inr (.inr (.inl (18, 18 + 4 * k)))] (c0_measure_m f k (f 1 9) (f 1 10), l) _
      refine fl_Tq.cal rfl rfl (fl_oks_ok ⟨(t2_kc0 (by omega)), True.intro⟩) rfl ?_
      refine c0_reckonAtRest_q (by omega) ?_
      show fl_Tq _ 66 84 [some (.inr (.inr (.inl (1, 1)))), some (.inl z), some (.inl (Int32.ofNat k))] [] (c0_reckonAtRest_m (c0_measure_m f k (f 1 9) (f 1 10)) k, l) _
      have e0 : (if z.toInt = 0 then c0_measure_m f k (f 1 9) (f 1 10) else c0_reckonAtRest_m (c0_measure_m f k (f 1 9) (f 1 10)) k) = c0_reckonAtRest_m (c0_measure_m f k (f 1 9) (f 1 10)) k := by simp only [if_neg h3]
      rw [e0] at hJ
      exact hJ
  refine hj97 ?_
  show fl_Tq _ 66 84 [some (.inr (.inr (.inl (1, 1)))), some (.inl z), some (.inl (Int32.ofNat k))] [] (if z.toInt = 0 then c0_measure_m f k (f 1 9) (f 1 10) else c0_reckonAtRest_m (c0_measure_m f k (f 1 9) (f 1 10)) k, l) _
  refine fl_Tq.stp (pc' := 87) (lv' := [some (.inr (.inr (.inl (1, 1)))), some (.inl z), some (.inl ((Int32.ofNat k) + (1 : Int32)))]) (st' := []) (m' := (if z.toInt = 0 then c0_measure_m f k (f 1 9) (f 1 10) else c0_reckonAtRest_m (c0_measure_m f k (f 1 9) (f 1 10)) k, l)) rfl rfl (fl_bo rfl) rfl ?_
  refine fl_Tq.stp (pc' := 46) (lv' := [some (.inr (.inr (.inl (1, 1)))), some (.inl z), some (.inl ((Int32.ofNat k) + (1 : Int32)))]) (st' := []) (m' := (if z.toInt = 0 then c0_measure_m f k (f 1 9) (f 1 10) else c0_reckonAtRest_m (c0_measure_m f k (f 1 9) (f 1 10)) k, l)) rfl rfl (fl_bo rfl) rfl ?_
  have em : c0_sMeasure_b46_m f z k = if z.toInt = 0 then c0_measure_m f k (f 1 9) (f 1 10) else c0_reckonAtRest_m (c0_measure_m f k (f 1 9) (f 1 10)) k := rfl
  rw [em, ← t2_k1] at hS
  exact hS
noncomputable def c0_sMeasure_f46 (f : t2_F)  : Nat → t2_F
  | 0 => fl_row f 1 (upd (f 1) 12 (c0_sMeasure_j5_0 f))
  | k + 1 => c0_sMeasure_b46_m (c0_sMeasure_f46 f k) (c0_sMeasure_j35_0 f) k
theorem c0_sMeasure_f46_fr {f : t2_F}  {p : Nat} : ∀ {k : Nat} (e0 : ∀ j : Nat, j < k → p ≠ 18 + 4 * j), c0_sMeasure_f46 f k p = (fl_row f 1 (upd (f 1) 12 (c0_sMeasure_j5_0 f))) p := by
  intro k
  induction k with
  | zero => intros; rfl
  | succ k ih =>
    intro e0
    exact (c0_sMeasure_b46_fr (z := c0_sMeasure_j35_0 f) (k := k) (e0 k (by omega))).trans (ih (fun j hj => e0 j (by omega)))
noncomputable def c0_sMeasure_j95_0 (f : t2_F)  : Int32 := if (c0_areActual_v (c0_sMeasure_f46 f ((f 1 5).toInt.toNat)) (5 : Int32)).toInt = 0 then (c0_sMeasure_f46 f ((f 1 5).toInt.toNat)) 1 8 else c0_packAt_v (c0_sMeasure_f46 f ((f 1 5).toInt.toNat)) (f 1 9)
noncomputable def c0_sMeasure_m (f : t2_F) : t2_F := if (f 1 7).toInt = (2 : Int32).toInt then c0_taper_m (fl_row (c0_sMeasure_f46 f ((f 1 5).toInt.toNat)) 1 (upd ((c0_sMeasure_f46 f ((f 1 5).toInt.toNat)) 1) 8 (c0_sMeasure_j95_0 f))) else fl_row (c0_sMeasure_f46 f ((f 1 5).toInt.toNat)) 1 (upd ((c0_sMeasure_f46 f ((f 1 5).toInt.toNat)) 1) 8 (c0_sMeasure_j95_0 f))
theorem c0_sMeasure_q {L : Nat} {xs : Nat → Int32} {f : t2_F} {l : t2_L} {Q : Option fl_V → fl_M → Prop}  (hc : 0 ≤ (f 1 5).toInt ∧ (f 1 5).toInt ≤ 16) (k : Q none (c0_sMeasure_m f, l)) : fl_Tq (pw_P L xs) 66 0 (fl_args (am_mxl (pw_P L xs) 66) [.inr (.inr (.inl (1, 1)))]) [] (f, l) Q := by
  refine fl_Tq.stp (pc' := 1) (lv' := [some (.inr (.inr (.inl (1, 1)))), none, none]) (st' := [.inr (.inr (.inl (1, 1)))]) (m' := (f, l)) rfl rfl (fl_bo rfl) rfl ?_
  refine fl_Tq.stp (pc' := 2) (lv' := [some (.inr (.inr (.inl (1, 1)))), none, none]) (st' := [.inr (.inr (.inl (1, 1))), .inr (.inr (.inl (1, 1)))]) (m' := (f, l)) rfl rfl (fl_bo rfl) rfl ?_
  refine fl_Tq.gfV (k := 9) (v := f 1 9) rfl (fl_bo rfl) rfl rfl ?_
  have hj95 : fl_Tq (pw_P L xs) 66 18 [some (.inr (.inr (.inl (1, 1)))), none, none] [.inl (c0_sMeasure_j5_0 f), .inr (.inr (.inl (1, 1)))] (f, l) Q → fl_Tq (pw_P L xs) 66 5 [some (.inr (.inr (.inl (1, 1)))), none, none] [.inl (f 1 9), .inr (.inr (.inl (1, 1)))] (f, l) Q := by
    intro hJ
    by_cases h1 : (f 1 9).toInt = 0
    · refine fl_Tq.zf rfl (fl_bo rfl) (c1_ne_f h1) rfl ?_
      refine fl_Tq.stp (pc' := 9) (lv' := [some (.inr (.inr (.inl (1, 1)))), none, none]) (st' := [.inr (.inr (.inl (1, 1))), .inr (.inr (.inl (1, 1)))]) (m' := (f, l)) rfl rfl (fl_bo rfl) rfl ?_
      refine fl_Tq.gfV (k := 12) (v := f 1 12) rfl (fl_bo rfl) rfl rfl ?_
      refine fl_Tq.cI (c := (1 : Int32)) rfl (by decide +kernel) (fl_bo rfl) ?_
      refine fl_Tq.stp (pc' := 14) (lv' := [some (.inr (.inr (.inl (1, 1)))), none, none]) (st' := [.inl ((f 1 12) + (1 : Int32)), .inr (.inr (.inl (1, 1)))]) (m' := (f, l)) rfl rfl (fl_bo rfl) rfl ?_
      refine fl_Tq.stp (pc' := 18) (lv' := [some (.inr (.inr (.inl (1, 1)))), none, none]) (st' := [.inl ((f 1 12) + (1 : Int32)), .inr (.inr (.inl (1, 1)))]) (m' := (f, l)) rfl rfl (fl_bo rfl) rfl ?_
      have e0 : (c0_sMeasure_j5_0 f) = (f 1 12) + (1 : Int32) := by simp only [c0_sMeasure_j5_0, if_pos h1]
      rw [e0] at hJ
      exact hJ
    · refine fl_Tq.zt rfl (fl_bo rfl) (c1_ne_t h1) rfl ?_
      refine fl_Tq.cI (c := (0 : Int32)) rfl (by decide +kernel) (fl_bo rfl) ?_
      have e0 : (c0_sMeasure_j5_0 f) = (0 : Int32) := by simp only [c0_sMeasure_j5_0, if_neg h1]
      rw [e0] at hJ
      exact hJ
  refine hj95 ?_
  show fl_Tq _ 66 18 [some (.inr (.inr (.inl (1, 1)))), none, none] [.inl (c0_sMeasure_j5_0 f), .inr (.inr (.inl (1, 1)))] (f, l) _
  refine fl_Tq.pfV (k := 12) (m' := (fl_row f 1 (upd (f 1) 12 (c0_sMeasure_j5_0 f)), l)) rfl (fl_bo rfl) rfl (t2_upn rfl) ?_
  refine fl_Tq.stp (pc' := 22) (lv' := [some (.inr (.inr (.inl (1, 1)))), none, none]) (st' := [.inr (.inr (.inl (1, 1)))]) (m' := (fl_row f 1 (upd (f 1) 12 (c0_sMeasure_j5_0 f)), l)) rfl rfl (fl_bo rfl) rfl ?_
  refine fl_Tq.gfV (k := 12) (v := c0_sMeasure_j5_0 f) rfl (fl_bo rfl) rfl (by simp only [fl_row_self, upd_self]) ?_
  refine fl_Tq.stp (pc' := 26) (lv' := [some (.inr (.inr (.inl (1, 1)))), none, none]) (st' := [.inr (.inr (.inl (1, 1))), .inl (c0_sMeasure_j5_0 f)]) (m' := (fl_row f 1 (upd (f 1) 12 (c0_sMeasure_j5_0 f)), l)) rfl rfl (fl_bo rfl) rfl ?_
  refine fl_Tq.stp (pc' := 29) (lv' := [some (.inr (.inr (.inl (1, 1)))), none, none]) (st' := [.inr (.inr (.inl (3, 3))), .inl (c0_sMeasure_j5_0 f)]) (m' := (fl_row f 1 (upd (f 1) 12 (c0_sMeasure_j5_0 f)), l)) rfl rfl (fl_bo rfl) rfl ?_
  refine fl_Tq.stp (pc' := 32) (lv' := [some (.inr (.inr (.inl (1, 1)))), none, none]) (st' := [.inr (.inr (.inl (4, 4))), .inl (c0_sMeasure_j5_0 f)]) (m' := (fl_row f 1 (upd (f 1) 12 (c0_sMeasure_j5_0 f)), l)) rfl rfl (fl_bo rfl) rfl ?_
  refine fl_Tq.cB (c := (19 : Int32)) rfl (by decide +kernel) (fl_bo rfl) ?_
  refine fl_Tq.ldV (p := 4) (τ := 4) (n := 30) (z := (0, 0, 0)) (k := 19) (v := f 4 19) rfl (fl_bo rfl) rfl (by decide +kernel) (by decide) (by simp only [fl_row_ne (by decide : 4 ≠ 1)]) ?_
  have hj96 : fl_Tq (pw_P L xs) 66 43 [some (.inr (.inr (.inl (1, 1)))), none, none] [.inl (c0_sMeasure_j35_0 f)] (fl_row f 1 (upd (f 1) 12 (c0_sMeasure_j5_0 f)), l) Q → fl_Tq (pw_P L xs) 66 35 [some (.inr (.inr (.inl (1, 1)))), none, none] [.inl (f 4 19), .inl (c0_sMeasure_j5_0 f)] (fl_row f 1 (upd (f 1) 12 (c0_sMeasure_j5_0 f)), l) Q := by
    intro hJ
    by_cases h2 : (c0_sMeasure_j5_0 f).toInt = (f 4 19).toInt
    · refine fl_Tq.jf rfl (fl_bo rfl) (c2_ne_f h2) rfl ?_
      refine fl_Tq.cI (c := (1 : Int32)) rfl (by decide +kernel) (fl_bo rfl) ?_
      refine fl_Tq.stp (pc' := 43) (lv' := [some (.inr (.inr (.inl (1, 1)))), none, none]) (st' := [.inl (1 : Int32)]) (m' := (fl_row f 1 (upd (f 1) 12 (c0_sMeasure_j5_0 f)), l)) rfl rfl (fl_bo rfl) rfl ?_
      have e0 : (c0_sMeasure_j35_0 f) = (1 : Int32) := by simp only [c0_sMeasure_j35_0, if_pos h2]
      rw [e0] at hJ
      exact hJ
    · refine fl_Tq.jt rfl (fl_bo rfl) (c2_ne_t h2) rfl ?_
      refine fl_Tq.cI (c := (0 : Int32)) rfl (by decide +kernel) (fl_bo rfl) ?_
      have e0 : (c0_sMeasure_j35_0 f) = (0 : Int32) := by simp only [c0_sMeasure_j35_0, if_neg h2]
      rw [e0] at hJ
      exact hJ
  refine hj96 ?_
  show fl_Tq _ 66 43 [some (.inr (.inr (.inl (1, 1)))), none, none] [.inl (c0_sMeasure_j35_0 f)] (fl_row f 1 (upd (f 1) 12 (c0_sMeasure_j5_0 f)), l) _
  refine fl_Tq.stp (pc' := 44) (lv' := [some (.inr (.inr (.inl (1, 1)))), some (.inl (c0_sMeasure_j35_0 f)), none]) (st' := []) (m' := (fl_row f 1 (upd (f 1) 12 (c0_sMeasure_j5_0 f)), l)) rfl rfl (fl_bo rfl) rfl ?_
  refine fl_Tq.cI (c := (0 : Int32)) rfl (by decide +kernel) (fl_bo rfl) ?_
  refine fl_Tq.stp (pc' := 46) (lv' := [some (.inr (.inr (.inl (1, 1)))), some (.inl (c0_sMeasure_j35_0 f)), some (.inl (0 : Int32))]) (st' := []) (m' := (fl_row f 1 (upd (f 1) 12 (c0_sMeasure_j5_0 f)), l)) rfl rfl (fl_bo rfl) rfl ?_
  have hs46 : ∀ k : Nat, k < (f 1 5).toInt.toNat → fl_Tq (pw_P L xs) 66 46 [some (.inr (.inr (.inl (1, 1)))), some (.inl (c0_sMeasure_j35_0 f)), some (.inl (Int32.ofNat (k + 1)))] [] (c0_sMeasure_f46 f (k + 1), l) Q → fl_Tq (pw_P L xs) 66 46 [some (.inr (.inr (.inl (1, 1)))), some (.inl (c0_sMeasure_j35_0 f)), some (.inl (Int32.ofNat k))] [] (c0_sMeasure_f46 f k, l) Q := fun k hkn hS => c0_sMeasure_b46_q hkn (by simp only [c0_sMeasure_f46_fr (k := k) (p := 1) (fun j hj => by omega), fl_row_self, upd_ne (by decide : 5 ≠ 12)]; exact (t2_nn hc.1)) (by omega) hS
  refine t2_for (S := fun k => fl_Tq (pw_P L xs) 66 46 [some (.inr (.inr (.inl (1, 1)))), some (.inl (c0_sMeasure_j35_0 f)), some (.inl (Int32.ofNat k))] [] (c0_sMeasure_f46 f k, l) Q) hs46 ?_
  show fl_Tq (pw_P L xs) 66 46 [some (.inr (.inr (.inl (1, 1)))), some (.inl (c0_sMeasure_j35_0 f)), some (.inl (Int32.ofNat ((f 1 5).toInt.toNat)))] [] (c0_sMeasure_f46 f ((f 1 5).toInt.toNat), l) _
  refine fl_Tq.stp (pc' := 47) (lv' := [some (.inr (.inr (.inl (1, 1)))), some (.inl (c0_sMeasure_j35_0 f)), some (.inl (Int32.ofNat ((f 1 5).toInt.toNat)))]) (st' := [.inl (Int32.ofNat ((f 1 5).toInt.toNat))]) (m' := (c0_sMeasure_f46 f ((f 1 5).toInt.toNat), l)) rfl rfl (fl_bo rfl) rfl ?_
  refine fl_Tq.stp (pc' := 48) (lv' := [some (.inr (.inr (.inl (1, 1)))), some (.inl (c0_sMeasure_j35_0 f)), some (.inl (Int32.ofNat ((f 1 5).toInt.toNat)))]) (st' := [.inr (.inr (.inl (1, 1))), .inl (Int32.ofNat ((f 1 5).toInt.toNat))]) (m' := (c0_sMeasure_f46 f ((f 1 5).toInt.toNat), l)) rfl rfl (fl_bo rfl) rfl ?_
  refine fl_Tq.gfV (k := 5) (v := f 1 5) rfl (fl_bo rfl) rfl (by simp only [c0_sMeasure_f46_fr (k := (f 1 5).toInt.toNat) (p := 1) (fun j hj => by omega), fl_row_self, upd_ne (by decide : 5 ≠ 12)]) ?_
  refine fl_Tq.jt rfl (fl_bo rfl) (c2_ge_t (t2_ln (t2_nn hc.1))) rfl ?_
  refine fl_Tq.stp (pc' := 91) (lv' := [some (.inr (.inr (.inl (1, 1)))), some (.inl (c0_sMeasure_j35_0 f)), some (.inl (Int32.ofNat ((f 1 5).toInt.toNat)))]) (st' := [.inr (.inr (.inl (1, 1)))]) (m' := (c0_sMeasure_f46 f ((f 1 5).toInt.toNat), l)) rfl rfl (fl_bo rfl) rfl ?_
  refine fl_Tq.cI (c := (5 : Int32)) rfl (by decide +kernel) (fl_bo rfl) ?_
  refine fl_Tq.cal rfl rfl (fl_bo rfl) rfl ?_
  refine c0_areActual_q  ?_
  show fl_Tq _ 66 95 [some (.inr (.inr (.inl (1, 1)))), some (.inl (c0_sMeasure_j35_0 f)), some (.inl (Int32.ofNat ((f 1 5).toInt.toNat)))] [.inl (c0_areActual_v (c0_sMeasure_f46 f ((f 1 5).toInt.toNat)) (5 : Int32))] (c0_sMeasure_f46 f ((f 1 5).toInt.toNat), l) _
  have hj98 : fl_Tq (pw_P L xs) 66 110 [some (.inr (.inr (.inl (1, 1)))), some (.inl (c0_sMeasure_j35_0 f)), some (.inl (Int32.ofNat ((f 1 5).toInt.toNat)))] [] (fl_row (c0_sMeasure_f46 f ((f 1 5).toInt.toNat)) 1 (upd ((c0_sMeasure_f46 f ((f 1 5).toInt.toNat)) 1) 8 (c0_sMeasure_j95_0 f)), l) Q → fl_Tq (pw_P L xs) 66 95 [some (.inr (.inr (.inl (1, 1)))), some (.inl (c0_sMeasure_j35_0 f)), some (.inl (Int32.ofNat ((f 1 5).toInt.toNat)))] [.inl (c0_areActual_v (c0_sMeasure_f46 f ((f 1 5).toInt.toNat)) (5 : Int32))] (c0_sMeasure_f46 f ((f 1 5).toInt.toNat), l) Q := by
    intro hJ
    by_cases h3 : (c0_areActual_v (c0_sMeasure_f46 f ((f 1 5).toInt.toNat)) (5 : Int32)).toInt = 0
    · refine fl_Tq.zt rfl (fl_bo rfl) (c1_eq_t h3) rfl ?_
      have e0 : (fl_row (c0_sMeasure_f46 f ((f 1 5).toInt.toNat)) 1 (upd ((c0_sMeasure_f46 f ((f 1 5).toInt.toNat)) 1) 8 (c0_sMeasure_j95_0 f))) = c0_sMeasure_f46 f ((f 1 5).toInt.toNat) := by
        simp only [c0_sMeasure_j95_0, if_pos h3]
        funext q j
        simp only [fl_row, upd]
        repeat' split
        all_goals first | rfl | simp_all
      rw [e0] at hJ
      exact hJ
    · refine fl_Tq.zf rfl (fl_bo rfl) (c1_eq_f h3) rfl ?_
      refine fl_Tq.stp (pc' := 99) (lv' := [some (.inr (.inr (.inl (1, 1)))), some (.inl (c0_sMeasure_j35_0 f)), some (.inl (Int32.ofNat ((f 1 5).toInt.toNat)))]) (st' := [.inr (.inr (.inl (1, 1)))]) (m' := (c0_sMeasure_f46 f ((f 1 5).toInt.toNat), l)) rfl rfl (fl_bo rfl) rfl ?_
      refine fl_Tq.stp (pc' := 100) (lv' := [some (.inr (.inr (.inl (1, 1)))), some (.inl (c0_sMeasure_j35_0 f)), some (.inl (Int32.ofNat ((f 1 5).toInt.toNat)))]) (st' := [.inr (.inr (.inl (1, 1))), .inr (.inr (.inl (1, 1)))]) (m' := (c0_sMeasure_f46 f ((f 1 5).toInt.toNat), l)) rfl rfl (fl_bo rfl) rfl ?_
      refine fl_Tq.stp (pc' := 101) (lv' := [some (.inr (.inr (.inl (1, 1)))), some (.inl (c0_sMeasure_j35_0 f)), some (.inl (Int32.ofNat ((f 1 5).toInt.toNat)))]) (st' := [.inr (.inr (.inl (1, 1))), .inr (.inr (.inl (1, 1))), .inr (.inr (.inl (1, 1)))]) (m' := (c0_sMeasure_f46 f ((f 1 5).toInt.toNat), l)) rfl rfl (fl_bo rfl) rfl ?_
      refine fl_Tq.gfV (k := 9) (v := f 1 9) rfl (fl_bo rfl) rfl (by simp only [c0_sMeasure_f46_fr (k := (f 1 5).toInt.toNat) (p := 1) (fun j hj => by omega), fl_row_self, upd_ne (by decide : 9 ≠ 12)]) ?_
      refine fl_Tq.cal rfl rfl (fl_bo rfl) rfl ?_
      refine c0_packAt_q (by simp only [c0_sMeasure_f46_fr (k := (f 1 5).toInt.toNat) (p := 1) (fun j hj => by omega), fl_row_self, upd_ne (by decide : 5 ≠ 12)]; exact hc) ?_
      show fl_Tq _ 66 107 [some (.inr (.inr (.inl (1, 1)))), some (.inl (c0_sMeasure_j35_0 f)), some (.inl (Int32.ofNat ((f 1 5).toInt.toNat)))] [.inl (c0_packAt_v (c0_sMeasure_f46 f ((f 1 5).toInt.toNat)) (f 1 9)), .inr (.inr (.inl (1, 1)))] (c0_sMeasure_f46 f ((f 1 5).toInt.toNat), l) _
      refine fl_Tq.pfV (k := 8) (m' := (fl_row (c0_sMeasure_f46 f ((f 1 5).toInt.toNat)) 1 (upd ((c0_sMeasure_f46 f ((f 1 5).toInt.toNat)) 1) 8 (c0_packAt_v (c0_sMeasure_f46 f ((f 1 5).toInt.toNat)) (f 1 9))), l)) rfl (fl_bo rfl) rfl (t2_upn rfl) ?_
      have e0 : (fl_row (c0_sMeasure_f46 f ((f 1 5).toInt.toNat)) 1 (upd ((c0_sMeasure_f46 f ((f 1 5).toInt.toNat)) 1) 8 (c0_sMeasure_j95_0 f))) = fl_row (c0_sMeasure_f46 f ((f 1 5).toInt.toNat)) 1 (upd ((c0_sMeasure_f46 f ((f 1 5).toInt.toNat)) 1) 8 (c0_packAt_v (c0_sMeasure_f46 f ((f 1 5).toInt.toNat)) (f 1 9))) := by
        simp only [c0_sMeasure_j95_0, if_neg h3]
      rw [e0] at hJ
      exact hJ
  refine hj98 ?_
  show fl_Tq _ 66 110 [some (.inr (.inr (.inl (1, 1)))), some (.inl (c0_sMeasure_j35_0 f)), some (.inl (Int32.ofNat ((f 1 5).toInt.toNat)))] [] (fl_row (c0_sMeasure_f46 f ((f 1 5).toInt.toNat)) 1 (upd ((c0_sMeasure_f46 f ((f 1 5).toInt.toNat)) 1) 8 (c0_sMeasure_j95_0 f)), l) _
  refine fl_Tq.stp (pc' := 111) (lv' := [some (.inr (.inr (.inl (1, 1)))), some (.inl (c0_sMeasure_j35_0 f)), some (.inl (Int32.ofNat ((f 1 5).toInt.toNat)))]) (st' := [.inr (.inr (.inl (1, 1)))]) (m' := (fl_row (c0_sMeasure_f46 f ((f 1 5).toInt.toNat)) 1 (upd ((c0_sMeasure_f46 f ((f 1 5).toInt.toNat)) 1) 8 (c0_sMeasure_j95_0 f)), l)) rfl rfl (fl_bo rfl) rfl ?_
  refine fl_Tq.gfV (k := 7) (v := f 1 7) rfl (fl_bo rfl) rfl (by simp only [fl_row_self, upd_ne (by decide : 7 ≠ 8), c0_sMeasure_f46_fr (k := (f 1 5).toInt.toNat) (p := 1) (fun j hj => by omega), fl_row_self, upd_ne (by decide : 7 ≠ 12)]) ?_
  refine fl_Tq.cI (c := (2 : Int32)) rfl (by decide +kernel) (fl_bo rfl) ?_
  have hj99 : fl_Tq (pw_P L xs) 66 122 [some (.inr (.inr (.inl (1, 1)))), some (.inl (c0_sMeasure_j35_0 f)), some (.inl (Int32.ofNat ((f 1 5).toInt.toNat)))] [] (if (f 1 7).toInt = (2 : Int32).toInt then c0_taper_m (fl_row (c0_sMeasure_f46 f ((f 1 5).toInt.toNat)) 1 (upd ((c0_sMeasure_f46 f ((f 1 5).toInt.toNat)) 1) 8 (c0_sMeasure_j95_0 f))) else fl_row (c0_sMeasure_f46 f ((f 1 5).toInt.toNat)) 1 (upd ((c0_sMeasure_f46 f ((f 1 5).toInt.toNat)) 1) 8 (c0_sMeasure_j95_0 f)), l) Q → fl_Tq (pw_P L xs) 66 115 [some (.inr (.inr (.inl (1, 1)))), some (.inl (c0_sMeasure_j35_0 f)), some (.inl (Int32.ofNat ((f 1 5).toInt.toNat)))] [.inl (2 : Int32), .inl (f 1 7)] (fl_row (c0_sMeasure_f46 f ((f 1 5).toInt.toNat)) 1 (upd ((c0_sMeasure_f46 f ((f 1 5).toInt.toNat)) 1) 8 (c0_sMeasure_j95_0 f)), l) Q := by
    intro hJ
    by_cases h4 : (f 1 7).toInt = (2 : Int32).toInt
    · refine fl_Tq.jf rfl (fl_bo rfl) (c2_ne_f h4) rfl ?_
      refine fl_Tq.stp (pc' := 119) (lv' := [some (.inr (.inr (.inl (1, 1)))), some (.inl (c0_sMeasure_j35_0 f)), some (.inl (Int32.ofNat ((f 1 5).toInt.toNat)))]) (st' := [.inr (.inr (.inl (1, 1)))]) (m' := (fl_row (c0_sMeasure_f46 f ((f 1 5).toInt.toNat)) 1 (upd ((c0_sMeasure_f46 f ((f 1 5).toInt.toNat)) 1) 8 (c0_sMeasure_j95_0 f)), l)) rfl rfl (fl_bo rfl) rfl ?_
      refine fl_Tq.cal rfl rfl (fl_bo rfl) rfl ?_
      refine c0_taper_q (by simp only [fl_row_self, upd_ne (by decide : 5 ≠ 8), c0_sMeasure_f46_fr (k := (f 1 5).toInt.toNat) (p := 1) (fun j hj => by omega), upd_ne (by decide : 5 ≠ 12)]; exact hc) ?_
      show fl_Tq _ 66 122 [some (.inr (.inr (.inl (1, 1)))), some (.inl (c0_sMeasure_j35_0 f)), some (.inl (Int32.ofNat ((f 1 5).toInt.toNat)))] [] (c0_taper_m (fl_row (c0_sMeasure_f46 f ((f 1 5).toInt.toNat)) 1 (upd ((c0_sMeasure_f46 f ((f 1 5).toInt.toNat)) 1) 8 (c0_sMeasure_j95_0 f))), l) _
      have e0 : (if (f 1 7).toInt = (2 : Int32).toInt then c0_taper_m (fl_row (c0_sMeasure_f46 f ((f 1 5).toInt.toNat)) 1 (upd ((c0_sMeasure_f46 f ((f 1 5).toInt.toNat)) 1) 8 (c0_sMeasure_j95_0 f))) else fl_row (c0_sMeasure_f46 f ((f 1 5).toInt.toNat)) 1 (upd ((c0_sMeasure_f46 f ((f 1 5).toInt.toNat)) 1) 8 (c0_sMeasure_j95_0 f))) = c0_taper_m (fl_row (c0_sMeasure_f46 f ((f 1 5).toInt.toNat)) 1 (upd ((c0_sMeasure_f46 f ((f 1 5).toInt.toNat)) 1) 8 (c0_sMeasure_j95_0 f))) := by simp only [if_pos h4]
      rw [e0] at hJ
      exact hJ
    · refine fl_Tq.jt rfl (fl_bo rfl) (c2_ne_t h4) rfl ?_
      have e0 : (if (f 1 7).toInt = (2 : Int32).toInt then c0_taper_m (fl_row (c0_sMeasure_f46 f ((f 1 5).toInt.toNat)) 1 (upd ((c0_sMeasure_f46 f ((f 1 5).toInt.toNat)) 1) 8 (c0_sMeasure_j95_0 f))) else fl_row (c0_sMeasure_f46 f ((f 1 5).toInt.toNat)) 1 (upd ((c0_sMeasure_f46 f ((f 1 5).toInt.toNat)) 1) 8 (c0_sMeasure_j95_0 f))) = fl_row (c0_sMeasure_f46 f ((f 1 5).toInt.toNat)) 1 (upd ((c0_sMeasure_f46 f ((f 1 5).toInt.toNat)) 1) 8 (c0_sMeasure_j95_0 f)) := by simp only [if_neg h4]
      rw [e0] at hJ
      exact hJ
  refine hj99 ?_
  show fl_Tq _ 66 122 [some (.inr (.inr (.inl (1, 1)))), some (.inl (c0_sMeasure_j35_0 f)), some (.inl (Int32.ofNat ((f 1 5).toInt.toNat)))] [] (if (f 1 7).toInt = (2 : Int32).toInt then c0_taper_m (fl_row (c0_sMeasure_f46 f ((f 1 5).toInt.toNat)) 1 (upd ((c0_sMeasure_f46 f ((f 1 5).toInt.toNat)) 1) 8 (c0_sMeasure_j95_0 f))) else fl_row (c0_sMeasure_f46 f ((f 1 5).toInt.toNat)) 1 (upd ((c0_sMeasure_f46 f ((f 1 5).toInt.toNat)) 1) 8 (c0_sMeasure_j95_0 f)), l) _
  exact fl_Tq.ret rfl rfl rfl k
theorem c0_sMeasure_fx {f : t2_F} (hc : 0 ≤ (f 1 5).toInt ∧ (f 1 5).toInt ≤ 16) {p : Nat} (hp : p < 18 ∨ 82 ≤ p) (h1 : p ≠ 1) (h4 : p ≠ 4) : c0_sMeasure_m f p = f p := by
  have e : c0_sMeasure_f46 f ((f 1 5).toInt.toNat) p = f p := by
    rw [c0_sMeasure_f46_fr (fun j hj => by omega), fl_row_ne h1]
  unfold c0_sMeasure_m
  split
  · rw [c0_taper_fx h4, fl_row_ne h1, e]
  · rw [fl_row_ne h1, e]
noncomputable def c0_uadd_m (f : t2_F) (i : Nat) (x : Int32) : t2_F := if (f (19 + 4 * i) 2).toInt = (32 : Int32).toInt then fl_row (fl_row (fl_row (fl_row f (20 + 4 * i) (va_cpy (f (20 + 4 * i)) (f (20 + 4 * i)) 1 0 31)) (19 + 4 * i) (upd (f (19 + 4 * i)) 2 ((f (19 + 4 * i) 2) - (1 : Int32)))) (20 + 4 * i) (upd (va_cpy (f (20 + 4 * i)) (f (20 + 4 * i)) 1 0 31) ((f (19 + 4 * i) 2).toInt.toNat - 1) x)) (19 + 4 * i) (upd (upd (f (19 + 4 * i)) 2 ((f (19 + 4 * i) 2) - (1 : Int32))) 2 (((f (19 + 4 * i) 2) - (1 : Int32)) + (1 : Int32))) else fl_row (fl_row f (20 + 4 * i) (upd (f (20 + 4 * i)) ((f (19 + 4 * i) 2).toInt.toNat) x)) (19 + 4 * i) (upd (f (19 + 4 * i)) 2 ((f (19 + 4 * i) 2) + (1 : Int32)))
theorem c0_uadd_fr {f : t2_F} {i : Nat} {x : Int32} {p : Nat} (e0 : p ≠ 20 + 4 * i) (e1 : p ≠ 19 + 4 * i) : c0_uadd_m f i x p = f p := by
  unfold c0_uadd_m
  repeat' split
  all_goals first | rfl | simp only [fl_row_ne e0, fl_row_ne e1]
theorem c0_uadd_q {L : Nat} {xs : Nat → Int32} {f : t2_F} {l : t2_L} {Q : Option fl_V → fl_M → Prop} {i : Nat} {x : Int32} (hi : i < 16) (ht : 1 ≤ (f (19 + 4 * i) 2).toInt ∧ (f (19 + 4 * i) 2).toInt ≤ 32) (k : Q none (c0_uadd_m f i x, l)) : fl_Tq (pw_P L xs) 90 0 (fl_args (am_mxl (pw_P L xs) 90) [.inr (.inr (.inl (19, 19 + 4 * i))), .inl x]) [] (f, l) Q := by
  refine fl_Tq.stp (pc' := 1) (lv' := [some (.inr (.inr (.inl (19, 19 + 4 * i)))), some (.inl x)]) (st' := [.inr (.inr (.inl (19, 19 + 4 * i)))]) (m' := (f, l)) rfl rfl (fl_bo rfl) rfl ?_
  refine fl_Tq.gfV (k := 2) (v := f (19 + 4 * i) 2) rfl (fl_oks_ok ⟨t2_kt0 hi, True.intro⟩) rfl rfl ?_
  refine fl_Tq.cB (c := (32 : Int32)) rfl (by decide +kernel) (fl_bo rfl) ?_
  by_cases h1 : (f (19 + 4 * i) 2).toInt = (32 : Int32).toInt
  · refine fl_Tq.jf rfl (fl_bo rfl) (c2_ne_f h1) rfl ?_
    refine fl_Tq.stp (pc' := 10) (lv' := [some (.inr (.inr (.inl (19, 19 + 4 * i)))), some (.inl x)]) (st' := [.inr (.inr (.inl (19, 19 + 4 * i)))]) (m' := (f, l)) rfl rfl (fl_bo rfl) rfl ?_
    refine fl_Tq.gfR (d := 1) (p' := 20 + 4 * i) rfl (fl_oks_ok ⟨t2_kt0 hi, True.intro⟩) rfl (by omega) ?_
    refine fl_Tq.cI (c := (1 : Int32)) rfl (by decide +kernel) (fl_oks_ok ⟨t2_ka0 hi, True.intro⟩) ?_
    refine fl_Tq.stp (pc' := 15) (lv' := [some (.inr (.inr (.inl (19, 19 + 4 * i)))), some (.inl x)]) (st' := [.inr (.inr (.inl (19, 19 + 4 * i))), .inl (1 : Int32), .inr (.inr (.inl (20, 20 + 4 * i)))]) (m' := (f, l)) rfl rfl (fl_oks_ok ⟨True.intro, t2_ka0 hi, True.intro⟩) rfl ?_
    refine fl_Tq.gfR (d := 1) (p' := 20 + 4 * i) rfl (fl_oks_ok ⟨t2_kt0 hi, True.intro, t2_ka0 hi, True.intro⟩) rfl (by omega) ?_
    refine fl_Tq.cI (c := (0 : Int32)) rfl (by decide +kernel) (fl_oks_ok ⟨t2_ka0 hi, True.intro, t2_ka0 hi, True.intro⟩) ?_
    refine fl_Tq.cB (c := (31 : Int32)) rfl (by decide +kernel) (fl_oks_ok ⟨True.intro, t2_ka0 hi, True.intro, t2_ka0 hi, True.intro⟩) ?_
    refine fl_Tq.cpy (SP := 1) (DP := 0) (N := 31) (wa := f (20 + 4 * i)) (wb := f (20 + 4 * i)) rfl rfl rfl (fl_oks_ok ⟨True.intro, True.intro, t2_ka0 hi, True.intro, t2_ka0 hi, True.intro⟩) rfl rfl (by decide +kernel) (by decide +kernel) (by decide +kernel) (by decide +kernel) rfl rfl ?_
    show fl_Tq _ 90 24 [some (.inr (.inr (.inl (19, 19 + 4 * i)))), some (.inl x)] [] (fl_row f (20 + 4 * i) (va_cpy (f (20 + 4 * i)) (f (20 + 4 * i)) 1 0 31), l) _
    refine fl_Tq.stp (pc' := 25) (lv' := [some (.inr (.inr (.inl (19, 19 + 4 * i)))), some (.inl x)]) (st' := [.inr (.inr (.inl (19, 19 + 4 * i)))]) (m' := (fl_row f (20 + 4 * i) (va_cpy (f (20 + 4 * i)) (f (20 + 4 * i)) 1 0 31), l)) rfl rfl (fl_bo rfl) rfl ?_
    refine fl_Tq.stp (pc' := 26) (lv' := [some (.inr (.inr (.inl (19, 19 + 4 * i)))), some (.inl x)]) (st' := [.inr (.inr (.inl (19, 19 + 4 * i))), .inr (.inr (.inl (19, 19 + 4 * i)))]) (m' := (fl_row f (20 + 4 * i) (va_cpy (f (20 + 4 * i)) (f (20 + 4 * i)) 1 0 31), l)) rfl rfl (fl_oks_ok ⟨t2_kt0 hi, True.intro⟩) rfl ?_
    refine fl_Tq.gfV (k := 2) (v := f (19 + 4 * i) 2) rfl (fl_oks_ok ⟨t2_kt0 hi, t2_kt0 hi, True.intro⟩) rfl (by simp only [fl_row_ne (show 19 + 4 * i ≠ 20 + 4 * i by omega)]) ?_
    refine fl_Tq.cI (c := (1 : Int32)) rfl (by decide +kernel) (fl_oks_ok ⟨True.intro, t2_kt0 hi, True.intro⟩) ?_
    refine fl_Tq.stp (pc' := 31) (lv' := [some (.inr (.inr (.inl (19, 19 + 4 * i)))), some (.inl x)]) (st' := [.inl ((f (19 + 4 * i) 2) - (1 : Int32)), .inr (.inr (.inl (19, 19 + 4 * i)))]) (m' := (fl_row f (20 + 4 * i) (va_cpy (f (20 + 4 * i)) (f (20 + 4 * i)) 1 0 31), l)) rfl rfl (fl_oks_ok ⟨True.intro, True.intro, t2_kt0 hi, True.intro⟩) rfl ?_
    refine fl_Tq.pfV (k := 2) (m' := (fl_row (fl_row f (20 + 4 * i) (va_cpy (f (20 + 4 * i)) (f (20 + 4 * i)) 1 0 31)) (19 + 4 * i) (upd (f (19 + 4 * i)) 2 ((f (19 + 4 * i) 2) - (1 : Int32))), l)) rfl (fl_oks_ok ⟨True.intro, t2_kt0 hi, True.intro⟩) rfl (t2_upn (by rw [fl_row_ne (show 19 + 4 * i ≠ 20 + 4 * i by omega)])) ?_
    refine fl_Tq.stp (pc' := 35) (lv' := [some (.inr (.inr (.inl (19, 19 + 4 * i)))), some (.inl x)]) (st' := [.inr (.inr (.inl (19, 19 + 4 * i)))]) (m' := (fl_row (fl_row f (20 + 4 * i) (va_cpy (f (20 + 4 * i)) (f (20 + 4 * i)) 1 0 31)) (19 + 4 * i) (upd (f (19 + 4 * i)) 2 ((f (19 + 4 * i) 2) - (1 : Int32))), l)) rfl rfl (fl_bo rfl) rfl ?_
    refine fl_Tq.gfR (d := 1) (p' := 20 + 4 * i) rfl (fl_oks_ok ⟨t2_kt0 hi, True.intro⟩) rfl (by omega) ?_
    refine fl_Tq.stp (pc' := 39) (lv' := [some (.inr (.inr (.inl (19, 19 + 4 * i)))), some (.inl x)]) (st' := [.inr (.inr (.inl (19, 19 + 4 * i))), .inr (.inr (.inl (20, 20 + 4 * i)))]) (m' := (fl_row (fl_row f (20 + 4 * i) (va_cpy (f (20 + 4 * i)) (f (20 + 4 * i)) 1 0 31)) (19 + 4 * i) (upd (f (19 + 4 * i)) 2 ((f (19 + 4 * i) 2) - (1 : Int32))), l)) rfl rfl (fl_oks_ok ⟨t2_ka0 hi, True.intro⟩) rfl ?_
    refine fl_Tq.gfV (k := 2) (v := (f (19 + 4 * i) 2) - (1 : Int32)) rfl (fl_oks_ok ⟨t2_kt0 hi, t2_ka0 hi, True.intro⟩) rfl (by simp only [fl_row_self, upd_self]) ?_
    refine fl_Tq.stp (pc' := 43) (lv' := [some (.inr (.inr (.inl (19, 19 + 4 * i)))), some (.inl x)]) (st' := [.inl x, .inl ((f (19 + 4 * i) 2) - (1 : Int32)), .inr (.inr (.inl (20, 20 + 4 * i)))]) (m' := (fl_row (fl_row f (20 + 4 * i) (va_cpy (f (20 + 4 * i)) (f (20 + 4 * i)) 1 0 31)) (19 + 4 * i) (upd (f (19 + 4 * i)) 2 ((f (19 + 4 * i) 2) - (1 : Int32))), l)) rfl rfl (fl_oks_ok ⟨True.intro, t2_ka0 hi, True.intro⟩) rfl ?_
    refine fl_Tq.svV (p := 20 + 4 * i) (τ := 20) (n := 32) (z := (0, 0, 0)) (k := ((f (19 + 4 * i) 2).toInt.toNat - 1)) (m' := (fl_row (fl_row (fl_row f (20 + 4 * i) (va_cpy (f (20 + 4 * i)) (f (20 + 4 * i)) 1 0 31)) (19 + 4 * i) (upd (f (19 + 4 * i)) 2 ((f (19 + 4 * i) 2) - (1 : Int32)))) (20 + 4 * i) (upd (va_cpy (f (20 + 4 * i)) (f (20 + 4 * i)) 1 0 31) ((f (19 + 4 * i) 2).toInt.toNat - 1) x), l)) rfl (fl_oks_ok ⟨True.intro, True.intro, t2_ka0 hi, True.intro⟩) rfl (t2_is (t2_nn (by omega)) (by decide +kernel) (by omega)) (by omega) (t2_upn (by rw [fl_row_ne (show 20 + 4 * i ≠ 19 + 4 * i by omega), fl_row_self])) ?_
    refine fl_Tq.stp (pc' := 45) (lv' := [some (.inr (.inr (.inl (19, 19 + 4 * i)))), some (.inl x)]) (st' := [.inr (.inr (.inl (19, 19 + 4 * i)))]) (m' := (fl_row (fl_row (fl_row f (20 + 4 * i) (va_cpy (f (20 + 4 * i)) (f (20 + 4 * i)) 1 0 31)) (19 + 4 * i) (upd (f (19 + 4 * i)) 2 ((f (19 + 4 * i) 2) - (1 : Int32)))) (20 + 4 * i) (upd (va_cpy (f (20 + 4 * i)) (f (20 + 4 * i)) 1 0 31) ((f (19 + 4 * i) 2).toInt.toNat - 1) x), l)) rfl rfl (fl_bo rfl) rfl ?_
    refine fl_Tq.stp (pc' := 46) (lv' := [some (.inr (.inr (.inl (19, 19 + 4 * i)))), some (.inl x)]) (st' := [.inr (.inr (.inl (19, 19 + 4 * i))), .inr (.inr (.inl (19, 19 + 4 * i)))]) (m' := (fl_row (fl_row (fl_row f (20 + 4 * i) (va_cpy (f (20 + 4 * i)) (f (20 + 4 * i)) 1 0 31)) (19 + 4 * i) (upd (f (19 + 4 * i)) 2 ((f (19 + 4 * i) 2) - (1 : Int32)))) (20 + 4 * i) (upd (va_cpy (f (20 + 4 * i)) (f (20 + 4 * i)) 1 0 31) ((f (19 + 4 * i) 2).toInt.toNat - 1) x), l)) rfl rfl (fl_oks_ok ⟨t2_kt0 hi, True.intro⟩) rfl ?_
    refine fl_Tq.gfV (k := 2) (v := (f (19 + 4 * i) 2) - (1 : Int32)) rfl (fl_oks_ok ⟨t2_kt0 hi, t2_kt0 hi, True.intro⟩) rfl (by simp only [fl_row_ne (show 19 + 4 * i ≠ 20 + 4 * i by omega), fl_row_self, upd_self]) ?_
    refine fl_Tq.cI (c := (1 : Int32)) rfl (by decide +kernel) (fl_oks_ok ⟨True.intro, t2_kt0 hi, True.intro⟩) ?_
    refine fl_Tq.stp (pc' := 51) (lv' := [some (.inr (.inr (.inl (19, 19 + 4 * i)))), some (.inl x)]) (st' := [.inl (((f (19 + 4 * i) 2) - (1 : Int32)) + (1 : Int32)), .inr (.inr (.inl (19, 19 + 4 * i)))]) (m' := (fl_row (fl_row (fl_row f (20 + 4 * i) (va_cpy (f (20 + 4 * i)) (f (20 + 4 * i)) 1 0 31)) (19 + 4 * i) (upd (f (19 + 4 * i)) 2 ((f (19 + 4 * i) 2) - (1 : Int32)))) (20 + 4 * i) (upd (va_cpy (f (20 + 4 * i)) (f (20 + 4 * i)) 1 0 31) ((f (19 + 4 * i) 2).toInt.toNat - 1) x), l)) rfl rfl (fl_oks_ok ⟨True.intro, True.intro, t2_kt0 hi, True.intro⟩) rfl ?_
    refine fl_Tq.pfV (k := 2) (m' := (fl_row (fl_row (fl_row (fl_row f (20 + 4 * i) (va_cpy (f (20 + 4 * i)) (f (20 + 4 * i)) 1 0 31)) (19 + 4 * i) (upd (f (19 + 4 * i)) 2 ((f (19 + 4 * i) 2) - (1 : Int32)))) (20 + 4 * i) (upd (va_cpy (f (20 + 4 * i)) (f (20 + 4 * i)) 1 0 31) ((f (19 + 4 * i) 2).toInt.toNat - 1) x)) (19 + 4 * i) (upd (upd (f (19 + 4 * i)) 2 ((f (19 + 4 * i) 2) - (1 : Int32))) 2 (((f (19 + 4 * i) 2) - (1 : Int32)) + (1 : Int32))), l)) rfl (fl_oks_ok ⟨True.intro, t2_kt0 hi, True.intro⟩) rfl (t2_upn (by rw [fl_row_ne (show 19 + 4 * i ≠ 20 + 4 * i by omega), fl_row_self])) ?_
    refine fl_Tq.ret rfl rfl rfl ?_
    unfold c0_uadd_m at k
    simp only [if_pos h1] at k
    exact k
  · refine fl_Tq.jt rfl (fl_bo rfl) (c2_ne_t h1) rfl ?_
    refine fl_Tq.stp (pc' := 35) (lv' := [some (.inr (.inr (.inl (19, 19 + 4 * i)))), some (.inl x)]) (st' := [.inr (.inr (.inl (19, 19 + 4 * i)))]) (m' := (f, l)) rfl rfl (fl_bo rfl) rfl ?_
    refine fl_Tq.gfR (d := 1) (p' := 20 + 4 * i) rfl (fl_oks_ok ⟨t2_kt0 hi, True.intro⟩) rfl (by omega) ?_
    refine fl_Tq.stp (pc' := 39) (lv' := [some (.inr (.inr (.inl (19, 19 + 4 * i)))), some (.inl x)]) (st' := [.inr (.inr (.inl (19, 19 + 4 * i))), .inr (.inr (.inl (20, 20 + 4 * i)))]) (m' := (f, l)) rfl rfl (fl_oks_ok ⟨t2_ka0 hi, True.intro⟩) rfl ?_
    refine fl_Tq.gfV (k := 2) (v := f (19 + 4 * i) 2) rfl (fl_oks_ok ⟨t2_kt0 hi, t2_ka0 hi, True.intro⟩) rfl rfl ?_
    refine fl_Tq.stp (pc' := 43) (lv' := [some (.inr (.inr (.inl (19, 19 + 4 * i)))), some (.inl x)]) (st' := [.inl x, .inl (f (19 + 4 * i) 2), .inr (.inr (.inl (20, 20 + 4 * i)))]) (m' := (f, l)) rfl rfl (fl_oks_ok ⟨True.intro, t2_ka0 hi, True.intro⟩) rfl ?_
    refine fl_Tq.svV (p := 20 + 4 * i) (τ := 20) (n := 32) (z := (0, 0, 0)) (k := (f (19 + 4 * i) 2).toInt.toNat) (m' := (fl_row f (20 + 4 * i) (upd (f (20 + 4 * i)) ((f (19 + 4 * i) 2).toInt.toNat) x), l)) rfl (fl_oks_ok ⟨True.intro, True.intro, t2_ka0 hi, True.intro⟩) rfl (t2_nn (by omega)) (by have c32 : (32 : Int32).toInt = 32 := (by decide +kernel); omega) (t2_upn rfl) ?_
    refine fl_Tq.stp (pc' := 45) (lv' := [some (.inr (.inr (.inl (19, 19 + 4 * i)))), some (.inl x)]) (st' := [.inr (.inr (.inl (19, 19 + 4 * i)))]) (m' := (fl_row f (20 + 4 * i) (upd (f (20 + 4 * i)) ((f (19 + 4 * i) 2).toInt.toNat) x), l)) rfl rfl (fl_bo rfl) rfl ?_
    refine fl_Tq.stp (pc' := 46) (lv' := [some (.inr (.inr (.inl (19, 19 + 4 * i)))), some (.inl x)]) (st' := [.inr (.inr (.inl (19, 19 + 4 * i))), .inr (.inr (.inl (19, 19 + 4 * i)))]) (m' := (fl_row f (20 + 4 * i) (upd (f (20 + 4 * i)) ((f (19 + 4 * i) 2).toInt.toNat) x), l)) rfl rfl (fl_oks_ok ⟨t2_kt0 hi, True.intro⟩) rfl ?_
    refine fl_Tq.gfV (k := 2) (v := f (19 + 4 * i) 2) rfl (fl_oks_ok ⟨t2_kt0 hi, t2_kt0 hi, True.intro⟩) rfl (by simp only [fl_row_ne (show 19 + 4 * i ≠ 20 + 4 * i by omega)]) ?_
    refine fl_Tq.cI (c := (1 : Int32)) rfl (by decide +kernel) (fl_oks_ok ⟨True.intro, t2_kt0 hi, True.intro⟩) ?_
    refine fl_Tq.stp (pc' := 51) (lv' := [some (.inr (.inr (.inl (19, 19 + 4 * i)))), some (.inl x)]) (st' := [.inl ((f (19 + 4 * i) 2) + (1 : Int32)), .inr (.inr (.inl (19, 19 + 4 * i)))]) (m' := (fl_row f (20 + 4 * i) (upd (f (20 + 4 * i)) ((f (19 + 4 * i) 2).toInt.toNat) x), l)) rfl rfl (fl_oks_ok ⟨True.intro, True.intro, t2_kt0 hi, True.intro⟩) rfl ?_
    refine fl_Tq.pfV (k := 2) (m' := (fl_row (fl_row f (20 + 4 * i) (upd (f (20 + 4 * i)) ((f (19 + 4 * i) 2).toInt.toNat) x)) (19 + 4 * i) (upd (f (19 + 4 * i)) 2 ((f (19 + 4 * i) 2) + (1 : Int32))), l)) rfl (fl_oks_ok ⟨True.intro, t2_kt0 hi, True.intro⟩) rfl (t2_upn (by rw [fl_row_ne (show 19 + 4 * i ≠ 20 + 4 * i by omega)])) ?_
    refine fl_Tq.ret rfl rfl rfl ?_
    unfold c0_uadd_m at k
    simp only [if_neg h1] at k
    exact k
theorem c0_way_b {f : t2_F} {i : Nat} {x : Int32} (hv : t2_p32 (f (20 + 4 * i))) (hx : 0 ≤ x.toInt ∧ x.toInt + 1 < 32) : t2_pt (c0_way_v f i x) := by
  obtain ⟨a1, a2⟩ := hv x.toInt.toNat (by omega)
  obtain ⟨b1, b2⟩ := hv (x.toInt.toNat + 1) (by omega)
  have e : (f (20 + 4 * i) (x.toInt.toNat + 1) - f (20 + 4 * i) x.toInt.toNat).toInt = (f (20 + 4 * i) (x.toInt.toNat + 1)).toInt - (f (20 + 4 * i) x.toInt.toNat).toInt := at_sub32 (by omega) (by omega)
  have e2 : (-(f (20 + 4 * i) (x.toInt.toNat + 1) - f (20 + 4 * i) x.toInt.toNat)).toInt = -((f (20 + 4 * i) (x.toInt.toNat + 1)).toInt - (f (20 + 4 * i) x.toInt.toNat).toInt) := by
    rw [Int32.toInt_neg, e]
    exact Int.bmod_eq_of_le (by omega) (by omega)
  unfold c0_way_v c0_way_j17_0 t2_pt
  split
  · rw [e2]
    omega
  · omega
theorem c0_uadd_ht {f : t2_F} {i : Nat} {x : Int32} (ht : 1 ≤ (f (19 + 4 * i) 2).toInt ∧ (f (19 + 4 * i) 2).toInt ≤ 32) : 1 ≤ (c0_uadd_m f i x (19 + 4 * i) 2).toInt ∧ (c0_uadd_m f i x (19 + 4 * i) 2).toInt ≤ 32 := by
  have e1 : (1 : Int32).toInt = 1 := by decide +kernel
  have e32 : (32 : Int32).toInt = 32 := by decide +kernel
  unfold c0_uadd_m
  split
  · rw [fl_row_self, upd_self, at_add32, at_sub32] <;> (try rw [at_sub32]) <;> omega
  · rw [fl_row_self, upd_self, at_add32] <;> omega
theorem c0_uadd_hv {f : t2_F} {i : Nat} {x : Int32} (hv : t2_p32 (f (20 + 4 * i))) (hx : t2_pt x) : t2_p32 (c0_uadd_m f i x (20 + 4 * i)) := by
  unfold c0_uadd_m
  split
  · rw [fl_row_ne (by omega), fl_row_self]
    exact hv.cpy.upd hx
  · rw [fl_row_ne (by omega), fl_row_self]
    exact hv.upd hx
noncomputable def c0_cc_g0 (f : t2_F) (i : Nat) : Option t2_F := if (f (19 + 4 * i) 2).toInt < (4 : Int32).toInt then none else (if (c0_way_v f i ((f (19 + 4 * i) 2) - (4 : Int32))).toInt < (c0_way_v f i ((f (19 + 4 * i) 2) - (3 : Int32))).toInt then none else (if (c0_way_v f i ((f (19 + 4 * i) 2) - (2 : Int32))).toInt < (c0_way_v f i ((f (19 + 4 * i) 2) - (3 : Int32))).toInt then none else some (fl_row (fl_row (fl_row f (21 + 4 * i) (upd (f (21 + 4 * i)) ((t2_min_v ((c0_way_v f i ((f (19 + 4 * i) 2) - (3 : Int32))) / (100 : Int32)) (10 : Int32)).toInt.toNat) ((f (21 + 4 * i) ((t2_min_v ((c0_way_v f i ((f (19 + 4 * i) 2) - (3 : Int32))) / (100 : Int32)) (10 : Int32)).toInt.toNat)) + (1 : Int32)))) (20 + 4 * i) (upd (f (20 + 4 * i)) ((f (19 + 4 * i) 2).toInt.toNat - 3) (f (20 + 4 * i) ((f (19 + 4 * i) 2).toInt.toNat - 1)))) (19 + 4 * i) (upd (f (19 + 4 * i)) 2 ((f (19 + 4 * i) 2) - (2 : Int32))))))
theorem c0_cc_g0_q {L : Nat} {xs : Nat → Int32} {f : t2_F} {l : t2_L} {Q : Option fl_V → fl_M → Prop} {i : Nat} (hi : i < 16) (ht : 1 ≤ (f (19 + 4 * i) 2).toInt ∧ (f (19 + 4 * i) 2).toInt ≤ 32) (hv : t2_p32 (f (20 + 4 * i))) (k0 : c0_cc_g0 f i = none → Q none (f, l)) (k1 : ∀ f' : t2_F, c0_cc_g0 f i = some f' → fl_Tq (pw_P L xs) 91 0 [some (.inr (.inr (.inl (19, 19 + 4 * i)))), none] [] (f', l) Q) : fl_Tq (pw_P L xs) 91 0 [some (.inr (.inr (.inl (19, 19 + 4 * i)))), none] [] (f, l) Q := by
  refine fl_Tq.stp (pc' := 1) (lv' := [some (.inr (.inr (.inl (19, 19 + 4 * i)))), none]) (st' := [.inr (.inr (.inl (19, 19 + 4 * i)))]) (m' := (f, l)) rfl rfl (fl_bo rfl) rfl ?_
  refine fl_Tq.gfV (k := 2) (v := f (19 + 4 * i) 2) rfl (fl_oks_ok ⟨t2_kt0 hi, True.intro⟩) rfl rfl ?_
  refine fl_Tq.cI (c := (4 : Int32)) rfl (by decide +kernel) (fl_bo rfl) ?_
  by_cases h1 : (f (19 + 4 * i) 2).toInt < (4 : Int32).toInt
  · refine fl_Tq.jt rfl (fl_bo rfl) (c2_lt_t h1) rfl ?_
    have eg : c0_cc_g0 f i = none := by
      unfold c0_cc_g0
      simp only [if_pos h1]
    exact fl_Tq.ret rfl rfl rfl (k0 eg)
  · refine fl_Tq.jf rfl (fl_bo rfl) (c2_lt_f h1) rfl ?_
    refine fl_Tq.stp (pc' := 9) (lv' := [some (.inr (.inr (.inl (19, 19 + 4 * i)))), none]) (st' := [.inr (.inr (.inl (19, 19 + 4 * i)))]) (m' := (f, l)) rfl rfl (fl_bo rfl) rfl ?_
    refine fl_Tq.stp (pc' := 10) (lv' := [some (.inr (.inr (.inl (19, 19 + 4 * i)))), none]) (st' := [.inr (.inr (.inl (19, 19 + 4 * i))), .inr (.inr (.inl (19, 19 + 4 * i)))]) (m' := (f, l)) rfl rfl (fl_oks_ok ⟨t2_kt0 hi, True.intro⟩) rfl ?_
    refine fl_Tq.gfV (k := 2) (v := f (19 + 4 * i) 2) rfl (fl_oks_ok ⟨t2_kt0 hi, t2_kt0 hi, True.intro⟩) rfl rfl ?_
    refine fl_Tq.cI (c := (3 : Int32)) rfl (by decide +kernel) (fl_oks_ok ⟨True.intro, t2_kt0 hi, True.intro⟩) ?_
    refine fl_Tq.stp (pc' := 15) (lv' := [some (.inr (.inr (.inl (19, 19 + 4 * i)))), none]) (st' := [.inl ((f (19 + 4 * i) 2) - (3 : Int32)), .inr (.inr (.inl (19, 19 + 4 * i)))]) (m' := (f, l)) rfl rfl (fl_oks_ok ⟨True.intro, True.intro, t2_kt0 hi, True.intro⟩) rfl ?_
    refine fl_Tq.cal rfl rfl (fl_oks_ok ⟨True.intro, t2_kt0 hi, True.intro⟩) rfl ?_
    refine c0_way_q hi (t2_tx (D := 3) (by decide +kernel) (by have c4 : (4 : Int32).toInt = 4 := (by decide +kernel); omega) (by have c4 : (4 : Int32).toInt = 4 := (by decide +kernel); omega) (by decide)) ?_
    show fl_Tq _ 91 18 [some (.inr (.inr (.inl (19, 19 + 4 * i)))), none] [.inl (c0_way_v f i ((f (19 + 4 * i) 2) - (3 : Int32)))] (f, l) _
    refine fl_Tq.stp (pc' := 19) (lv' := [some (.inr (.inr (.inl (19, 19 + 4 * i)))), some (.inl (c0_way_v f i ((f (19 + 4 * i) 2) - (3 : Int32))))]) (st' := []) (m' := (f, l)) rfl rfl (fl_bo rfl) rfl ?_
    refine fl_Tq.stp (pc' := 20) (lv' := [some (.inr (.inr (.inl (19, 19 + 4 * i)))), some (.inl (c0_way_v f i ((f (19 + 4 * i) 2) - (3 : Int32))))]) (st' := [.inl (c0_way_v f i ((f (19 + 4 * i) 2) - (3 : Int32)))]) (m' := (f, l)) rfl rfl (fl_bo rfl) rfl ?_
    refine fl_Tq.stp (pc' := 21) (lv' := [some (.inr (.inr (.inl (19, 19 + 4 * i)))), some (.inl (c0_way_v f i ((f (19 + 4 * i) 2) - (3 : Int32))))]) (st' := [.inr (.inr (.inl (19, 19 + 4 * i))), .inl (c0_way_v f i ((f (19 + 4 * i) 2) - (3 : Int32)))]) (m' := (f, l)) rfl rfl (fl_bo rfl) rfl ?_
    refine fl_Tq.stp (pc' := 22) (lv' := [some (.inr (.inr (.inl (19, 19 + 4 * i)))), some (.inl (c0_way_v f i ((f (19 + 4 * i) 2) - (3 : Int32))))]) (st' := [.inr (.inr (.inl (19, 19 + 4 * i))), .inr (.inr (.inl (19, 19 + 4 * i))), .inl (c0_way_v f i ((f (19 + 4 * i) 2) - (3 : Int32)))]) (m' := (f, l)) rfl rfl (fl_oks_ok ⟨t2_kt0 hi, True.intro, True.intro⟩) rfl ?_
    refine fl_Tq.gfV (k := 2) (v := f (19 + 4 * i) 2) rfl (fl_oks_ok ⟨t2_kt0 hi, t2_kt0 hi, True.intro, True.intro⟩) rfl rfl ?_
    refine fl_Tq.cI (c := (4 : Int32)) rfl (by decide +kernel) (fl_oks_ok ⟨True.intro, t2_kt0 hi, True.intro, True.intro⟩) ?_
    refine fl_Tq.stp (pc' := 27) (lv' := [some (.inr (.inr (.inl (19, 19 + 4 * i)))), some (.inl (c0_way_v f i ((f (19 + 4 * i) 2) - (3 : Int32))))]) (st' := [.inl ((f (19 + 4 * i) 2) - (4 : Int32)), .inr (.inr (.inl (19, 19 + 4 * i))), .inl (c0_way_v f i ((f (19 + 4 * i) 2) - (3 : Int32)))]) (m' := (f, l)) rfl rfl (fl_oks_ok ⟨True.intro, True.intro, t2_kt0 hi, True.intro, True.intro⟩) rfl ?_
    refine fl_Tq.cal rfl rfl (fl_oks_ok ⟨True.intro, t2_kt0 hi, True.intro, True.intro⟩) rfl ?_
    refine c0_way_q hi (t2_tx (D := 4) (by decide +kernel) (by have c4 : (4 : Int32).toInt = 4 := (by decide +kernel); omega) (by have c4 : (4 : Int32).toInt = 4 := (by decide +kernel); omega) (by decide)) ?_
    show fl_Tq _ 91 30 [some (.inr (.inr (.inl (19, 19 + 4 * i)))), some (.inl (c0_way_v f i ((f (19 + 4 * i) 2) - (3 : Int32))))] [.inl (c0_way_v f i ((f (19 + 4 * i) 2) - (4 : Int32))), .inl (c0_way_v f i ((f (19 + 4 * i) 2) - (3 : Int32)))] (f, l) _
    by_cases h2 : (c0_way_v f i ((f (19 + 4 * i) 2) - (4 : Int32))).toInt < (c0_way_v f i ((f (19 + 4 * i) 2) - (3 : Int32))).toInt
    · refine fl_Tq.jt rfl (fl_bo rfl) (c2_gt_t h2) rfl ?_
      have eg : c0_cc_g0 f i = none := by
        unfold c0_cc_g0
        simp only [if_neg h1, if_pos h2]
      exact fl_Tq.ret rfl rfl rfl (k0 eg)
    · refine fl_Tq.jf rfl (fl_bo rfl) (c2_gt_f h2) rfl ?_
      refine fl_Tq.stp (pc' := 34) (lv' := [some (.inr (.inr (.inl (19, 19 + 4 * i)))), some (.inl (c0_way_v f i ((f (19 + 4 * i) 2) - (3 : Int32))))]) (st' := [.inl (c0_way_v f i ((f (19 + 4 * i) 2) - (3 : Int32)))]) (m' := (f, l)) rfl rfl (fl_bo rfl) rfl ?_
      refine fl_Tq.stp (pc' := 35) (lv' := [some (.inr (.inr (.inl (19, 19 + 4 * i)))), some (.inl (c0_way_v f i ((f (19 + 4 * i) 2) - (3 : Int32))))]) (st' := [.inr (.inr (.inl (19, 19 + 4 * i))), .inl (c0_way_v f i ((f (19 + 4 * i) 2) - (3 : Int32)))]) (m' := (f, l)) rfl rfl (fl_bo rfl) rfl ?_
      refine fl_Tq.stp (pc' := 36) (lv' := [some (.inr (.inr (.inl (19, 19 + 4 * i)))), some (.inl (c0_way_v f i ((f (19 + 4 * i) 2) - (3 : Int32))))]) (st' := [.inr (.inr (.inl (19, 19 + 4 * i))), .inr (.inr (.inl (19, 19 + 4 * i))), .inl (c0_way_v f i ((f (19 + 4 * i) 2) - (3 : Int32)))]) (m' := (f, l)) rfl rfl (fl_oks_ok ⟨t2_kt0 hi, True.intro, True.intro⟩) rfl ?_
      refine fl_Tq.gfV (k := 2) (v := f (19 + 4 * i) 2) rfl (fl_oks_ok ⟨t2_kt0 hi, t2_kt0 hi, True.intro, True.intro⟩) rfl rfl ?_
      refine fl_Tq.cI (c := (2 : Int32)) rfl (by decide +kernel) (fl_oks_ok ⟨True.intro, t2_kt0 hi, True.intro, True.intro⟩) ?_
      refine fl_Tq.stp (pc' := 41) (lv' := [some (.inr (.inr (.inl (19, 19 + 4 * i)))), some (.inl (c0_way_v f i ((f (19 + 4 * i) 2) - (3 : Int32))))]) (st' := [.inl ((f (19 + 4 * i) 2) - (2 : Int32)), .inr (.inr (.inl (19, 19 + 4 * i))), .inl (c0_way_v f i ((f (19 + 4 * i) 2) - (3 : Int32)))]) (m' := (f, l)) rfl rfl (fl_oks_ok ⟨True.intro, True.intro, t2_kt0 hi, True.intro, True.intro⟩) rfl ?_
      refine fl_Tq.cal rfl rfl (fl_oks_ok ⟨True.intro, t2_kt0 hi, True.intro, True.intro⟩) rfl ?_
      refine c0_way_q hi (t2_tx (D := 2) (by decide +kernel) (by have c4 : (4 : Int32).toInt = 4 := (by decide +kernel); omega) (by have c4 : (4 : Int32).toInt = 4 := (by decide +kernel); omega) (by decide)) ?_
      show fl_Tq _ 91 44 [some (.inr (.inr (.inl (19, 19 + 4 * i)))), some (.inl (c0_way_v f i ((f (19 + 4 * i) 2) - (3 : Int32))))] [.inl (c0_way_v f i ((f (19 + 4 * i) 2) - (2 : Int32))), .inl (c0_way_v f i ((f (19 + 4 * i) 2) - (3 : Int32)))] (f, l) _
      by_cases h3 : (c0_way_v f i ((f (19 + 4 * i) 2) - (2 : Int32))).toInt < (c0_way_v f i ((f (19 + 4 * i) 2) - (3 : Int32))).toInt
      · refine fl_Tq.jf rfl (fl_bo rfl) (c2_le_f h3) rfl ?_
        have eg : c0_cc_g0 f i = none := by
          unfold c0_cc_g0
          simp only [if_neg h1, if_neg h2, if_pos h3]
        exact fl_Tq.ret rfl rfl rfl (k0 eg)
      · refine fl_Tq.jt rfl (fl_bo rfl) (c2_le_t h3) rfl ?_
        refine fl_Tq.stp (pc' := 49) (lv' := [some (.inr (.inr (.inl (19, 19 + 4 * i)))), some (.inl (c0_way_v f i ((f (19 + 4 * i) 2) - (3 : Int32))))]) (st' := [.inr (.inr (.inl (19, 19 + 4 * i)))]) (m' := (f, l)) rfl rfl (fl_bo rfl) rfl ?_
        refine fl_Tq.gfR (d := 2) (p' := 21 + 4 * i) rfl (fl_oks_ok ⟨t2_kt0 hi, True.intro⟩) rfl (by omega) ?_
        refine fl_Tq.stp (pc' := 53) (lv' := [some (.inr (.inr (.inl (19, 19 + 4 * i)))), some (.inl (c0_way_v f i ((f (19 + 4 * i) 2) - (3 : Int32))))]) (st' := [.inl (c0_way_v f i ((f (19 + 4 * i) 2) - (3 : Int32))), .inr (.inr (.inl (21, 21 + 4 * i)))]) (m' := (f, l)) rfl rfl (fl_oks_ok ⟨t2_ky0 hi, True.intro⟩) rfl ?_
        refine fl_Tq.cB (c := (100 : Int32)) rfl (by decide +kernel) (fl_oks_ok ⟨True.intro, t2_ky0 hi, True.intro⟩) ?_
        refine fl_Tq.dv rfl (fl_oks_ok ⟨True.intro, True.intro, t2_ky0 hi, True.intro⟩) (by decide +kernel) ?_
        refine fl_Tq.cB (c := (10 : Int32)) rfl (by decide +kernel) (fl_oks_ok ⟨True.intro, t2_ky0 hi, True.intro⟩) ?_
        refine fl_Tq.cal rfl rfl (fl_oks_ok ⟨True.intro, True.intro, t2_ky0 hi, True.intro⟩) rfl ?_
        refine t2_min_q  ?_
        show fl_Tq _ 91 61 [some (.inr (.inr (.inl (19, 19 + 4 * i)))), some (.inl (c0_way_v f i ((f (19 + 4 * i) 2) - (3 : Int32))))] [.inl (t2_min_v ((c0_way_v f i ((f (19 + 4 * i) 2) - (3 : Int32))) / (100 : Int32)) (10 : Int32)), .inr (.inr (.inl (21, 21 + 4 * i)))] (f, l) _
        refine fl_Tq.stp (pc' := 62) (lv' := [some (.inr (.inr (.inl (19, 19 + 4 * i)))), some (.inl (c0_way_v f i ((f (19 + 4 * i) 2) - (3 : Int32))))]) (st' := [.inl (t2_min_v ((c0_way_v f i ((f (19 + 4 * i) 2) - (3 : Int32))) / (100 : Int32)) (10 : Int32)), .inr (.inr (.inl (21, 21 + 4 * i))), .inl (t2_min_v ((c0_way_v f i ((f (19 + 4 * i) 2) - (3 : Int32))) / (100 : Int32)) (10 : Int32)), .inr (.inr (.inl (21, 21 + 4 * i)))]) (m' := (f, l)) rfl rfl (fl_oks_ok ⟨True.intro, t2_ky0 hi, True.intro⟩) rfl ?_
        refine fl_Tq.ldV (p := 21 + 4 * i) (τ := 21) (n := 11) (z := (0, 0, 0)) (k := (t2_min_v ((c0_way_v f i ((f (19 + 4 * i) 2) - (3 : Int32))) / (100 : Int32)) (10 : Int32)).toInt.toNat) (v := f (21 + 4 * i) ((t2_min_v ((c0_way_v f i ((f (19 + 4 * i) 2) - (3 : Int32))) / (100 : Int32)) (10 : Int32)).toInt.toNat)) rfl (fl_oks_ok ⟨True.intro, t2_ky0 hi, True.intro, t2_ky0 hi, True.intro⟩) rfl (t2_nn (t2_cyi (x := c0_way_v f i ((f (19 + 4 * i) 2) - (3 : Int32))) (c0_way_b (x := (f (19 + 4 * i) 2) - (3 : Int32)) hv (t2_tx (D := 3) (by decide +kernel) (by have c4 : (4 : Int32).toInt = 4 := (by decide +kernel); omega) (by omega) (by decide))).1).1) (by have := (t2_cyi (x := c0_way_v f i ((f (19 + 4 * i) 2) - (3 : Int32))) (c0_way_b (x := (f (19 + 4 * i) 2) - (3 : Int32)) hv (t2_tx (D := 3) (by decide +kernel) (by have c4 : (4 : Int32).toInt = 4 := (by decide +kernel); omega) (by omega) (by decide))).1).2; omega) rfl ?_
        refine fl_Tq.cI (c := (1 : Int32)) rfl (by decide +kernel) (fl_oks_ok ⟨True.intro, True.intro, t2_ky0 hi, True.intro⟩) ?_
        refine fl_Tq.stp (pc' := 65) (lv' := [some (.inr (.inr (.inl (19, 19 + 4 * i)))), some (.inl (c0_way_v f i ((f (19 + 4 * i) 2) - (3 : Int32))))]) (st' := [.inl ((f (21 + 4 * i) ((t2_min_v ((c0_way_v f i ((f (19 + 4 * i) 2) - (3 : Int32))) / (100 : Int32)) (10 : Int32)).toInt.toNat)) + (1 : Int32)), .inl (t2_min_v ((c0_way_v f i ((f (19 + 4 * i) 2) - (3 : Int32))) / (100 : Int32)) (10 : Int32)), .inr (.inr (.inl (21, 21 + 4 * i)))]) (m' := (f, l)) rfl rfl (fl_oks_ok ⟨True.intro, True.intro, True.intro, t2_ky0 hi, True.intro⟩) rfl ?_
        refine fl_Tq.svV (p := 21 + 4 * i) (τ := 21) (n := 11) (z := (0, 0, 0)) (k := (t2_min_v ((c0_way_v f i ((f (19 + 4 * i) 2) - (3 : Int32))) / (100 : Int32)) (10 : Int32)).toInt.toNat) (m' := (fl_row f (21 + 4 * i) (upd (f (21 + 4 * i)) ((t2_min_v ((c0_way_v f i ((f (19 + 4 * i) 2) - (3 : Int32))) / (100 : Int32)) (10 : Int32)).toInt.toNat) ((f (21 + 4 * i) ((t2_min_v ((c0_way_v f i ((f (19 + 4 * i) 2) - (3 : Int32))) / (100 : Int32)) (10 : Int32)).toInt.toNat)) + (1 : Int32))), l)) rfl (fl_oks_ok ⟨True.intro, True.intro, t2_ky0 hi, True.intro⟩) rfl (t2_nn (t2_cyi (x := c0_way_v f i ((f (19 + 4 * i) 2) - (3 : Int32))) (c0_way_b (x := (f (19 + 4 * i) 2) - (3 : Int32)) hv (t2_tx (D := 3) (by decide +kernel) (by have c4 : (4 : Int32).toInt = 4 := (by decide +kernel); omega) (by omega) (by decide))).1).1) (by have := (t2_cyi (x := c0_way_v f i ((f (19 + 4 * i) 2) - (3 : Int32))) (c0_way_b (x := (f (19 + 4 * i) 2) - (3 : Int32)) hv (t2_tx (D := 3) (by decide +kernel) (by have c4 : (4 : Int32).toInt = 4 := (by decide +kernel); omega) (by omega) (by decide))).1).2; omega) (t2_upn rfl) ?_
        refine fl_Tq.stp (pc' := 67) (lv' := [some (.inr (.inr (.inl (19, 19 + 4 * i)))), some (.inl (c0_way_v f i ((f (19 + 4 * i) 2) - (3 : Int32))))]) (st' := [.inr (.inr (.inl (19, 19 + 4 * i)))]) (m' := (fl_row f (21 + 4 * i) (upd (f (21 + 4 * i)) ((t2_min_v ((c0_way_v f i ((f (19 + 4 * i) 2) - (3 : Int32))) / (100 : Int32)) (10 : Int32)).toInt.toNat) ((f (21 + 4 * i) ((t2_min_v ((c0_way_v f i ((f (19 + 4 * i) 2) - (3 : Int32))) / (100 : Int32)) (10 : Int32)).toInt.toNat)) + (1 : Int32))), l)) rfl rfl (fl_bo rfl) rfl ?_
        refine fl_Tq.gfR (d := 1) (p' := 20 + 4 * i) rfl (fl_oks_ok ⟨t2_kt0 hi, True.intro⟩) rfl (by omega) ?_
        refine fl_Tq.stp (pc' := 71) (lv' := [some (.inr (.inr (.inl (19, 19 + 4 * i)))), some (.inl (c0_way_v f i ((f (19 + 4 * i) 2) - (3 : Int32))))]) (st' := [.inr (.inr (.inl (19, 19 + 4 * i))), .inr (.inr (.inl (20, 20 + 4 * i)))]) (m' := (fl_row f (21 + 4 * i) (upd (f (21 + 4 * i)) ((t2_min_v ((c0_way_v f i ((f (19 + 4 * i) 2) - (3 : Int32))) / (100 : Int32)) (10 : Int32)).toInt.toNat) ((f (21 + 4 * i) ((t2_min_v ((c0_way_v f i ((f (19 + 4 * i) 2) - (3 : Int32))) / (100 : Int32)) (10 : Int32)).toInt.toNat)) + (1 : Int32))), l)) rfl rfl (fl_oks_ok ⟨t2_ka0 hi, True.intro⟩) rfl ?_
        refine fl_Tq.gfV (k := 2) (v := f (19 + 4 * i) 2) rfl (fl_oks_ok ⟨t2_kt0 hi, t2_ka0 hi, True.intro⟩) rfl (by simp only [fl_row_ne (show 19 + 4 * i ≠ 21 + 4 * i by omega)]) ?_
        refine fl_Tq.cI (c := (3 : Int32)) rfl (by decide +kernel) (fl_oks_ok ⟨True.intro, t2_ka0 hi, True.intro⟩) ?_
        refine fl_Tq.stp (pc' := 76) (lv' := [some (.inr (.inr (.inl (19, 19 + 4 * i)))), some (.inl (c0_way_v f i ((f (19 + 4 * i) 2) - (3 : Int32))))]) (st' := [.inl ((f (19 + 4 * i) 2) - (3 : Int32)), .inr (.inr (.inl (20, 20 + 4 * i)))]) (m' := (fl_row f (21 + 4 * i) (upd (f (21 + 4 * i)) ((t2_min_v ((c0_way_v f i ((f (19 + 4 * i) 2) - (3 : Int32))) / (100 : Int32)) (10 : Int32)).toInt.toNat) ((f (21 + 4 * i) ((t2_min_v ((c0_way_v f i ((f (19 + 4 * i) 2) - (3 : Int32))) / (100 : Int32)) (10 : Int32)).toInt.toNat)) + (1 : Int32))), l)) rfl rfl (fl_oks_ok ⟨True.intro, True.intro, t2_ka0 hi, True.intro⟩) rfl ?_
        refine fl_Tq.stp (pc' := 77) (lv' := [some (.inr (.inr (.inl (19, 19 + 4 * i)))), some (.inl (c0_way_v f i ((f (19 + 4 * i) 2) - (3 : Int32))))]) (st' := [.inr (.inr (.inl (19, 19 + 4 * i))), .inl ((f (19 + 4 * i) 2) - (3 : Int32)), .inr (.inr (.inl (20, 20 + 4 * i)))]) (m' := (fl_row f (21 + 4 * i) (upd (f (21 + 4 * i)) ((t2_min_v ((c0_way_v f i ((f (19 + 4 * i) 2) - (3 : Int32))) / (100 : Int32)) (10 : Int32)).toInt.toNat) ((f (21 + 4 * i) ((t2_min_v ((c0_way_v f i ((f (19 + 4 * i) 2) - (3 : Int32))) / (100 : Int32)) (10 : Int32)).toInt.toNat)) + (1 : Int32))), l)) rfl rfl (fl_oks_ok ⟨True.intro, t2_ka0 hi, True.intro⟩) rfl ?_
        refine fl_Tq.gfR (d := 1) (p' := 20 + 4 * i) rfl (fl_oks_ok ⟨t2_kt0 hi, True.intro, t2_ka0 hi, True.intro⟩) rfl (by omega) ?_
        refine fl_Tq.stp (pc' := 81) (lv' := [some (.inr (.inr (.inl (19, 19 + 4 * i)))), some (.inl (c0_way_v f i ((f (19 + 4 * i) 2) - (3 : Int32))))]) (st' := [.inr (.inr (.inl (19, 19 + 4 * i))), .inr (.inr (.inl (20, 20 + 4 * i))), .inl ((f (19 + 4 * i) 2) - (3 : Int32)), .inr (.inr (.inl (20, 20 + 4 * i)))]) (m' := (fl_row f (21 + 4 * i) (upd (f (21 + 4 * i)) ((t2_min_v ((c0_way_v f i ((f (19 + 4 * i) 2) - (3 : Int32))) / (100 : Int32)) (10 : Int32)).toInt.toNat) ((f (21 + 4 * i) ((t2_min_v ((c0_way_v f i ((f (19 + 4 * i) 2) - (3 : Int32))) / (100 : Int32)) (10 : Int32)).toInt.toNat)) + (1 : Int32))), l)) rfl rfl (fl_oks_ok ⟨t2_ka0 hi, True.intro, t2_ka0 hi, True.intro⟩) rfl ?_
        refine fl_Tq.gfV (k := 2) (v := f (19 + 4 * i) 2) rfl (fl_oks_ok ⟨t2_kt0 hi, t2_ka0 hi, True.intro, t2_ka0 hi, True.intro⟩) rfl (by simp only [fl_row_ne (show 19 + 4 * i ≠ 21 + 4 * i by omega)]) ?_
        refine fl_Tq.cI (c := (1 : Int32)) rfl (by decide +kernel) (fl_oks_ok ⟨True.intro, t2_ka0 hi, True.intro, t2_ka0 hi, True.intro⟩) ?_
        refine fl_Tq.stp (pc' := 86) (lv' := [some (.inr (.inr (.inl (19, 19 + 4 * i)))), some (.inl (c0_way_v f i ((f (19 + 4 * i) 2) - (3 : Int32))))]) (st' := [.inl ((f (19 + 4 * i) 2) - (1 : Int32)), .inr (.inr (.inl (20, 20 + 4 * i))), .inl ((f (19 + 4 * i) 2) - (3 : Int32)), .inr (.inr (.inl (20, 20 + 4 * i)))]) (m' := (fl_row f (21 + 4 * i) (upd (f (21 + 4 * i)) ((t2_min_v ((c0_way_v f i ((f (19 + 4 * i) 2) - (3 : Int32))) / (100 : Int32)) (10 : Int32)).toInt.toNat) ((f (21 + 4 * i) ((t2_min_v ((c0_way_v f i ((f (19 + 4 * i) 2) - (3 : Int32))) / (100 : Int32)) (10 : Int32)).toInt.toNat)) + (1 : Int32))), l)) rfl rfl (fl_oks_ok ⟨True.intro, True.intro, t2_ka0 hi, True.intro, t2_ka0 hi, True.intro⟩) rfl ?_
        refine fl_Tq.ldV (p := 20 + 4 * i) (τ := 20) (n := 32) (z := (0, 0, 0)) (k := ((f (19 + 4 * i) 2).toInt.toNat - 1)) (v := f (20 + 4 * i) ((f (19 + 4 * i) 2).toInt.toNat - 1)) rfl (fl_oks_ok ⟨True.intro, t2_ka0 hi, True.intro, t2_ka0 hi, True.intro⟩) rfl (t2_is (t2_nn (by omega)) (by decide +kernel) (by have c4 : (4 : Int32).toInt = 4 := (by decide +kernel); omega)) (by have c4 : (4 : Int32).toInt = 4 := (by decide +kernel); omega) (by simp only [fl_row_ne (show 20 + 4 * i ≠ 21 + 4 * i by omega)]) ?_
        refine fl_Tq.svV (p := 20 + 4 * i) (τ := 20) (n := 32) (z := (0, 0, 0)) (k := ((f (19 + 4 * i) 2).toInt.toNat - 3)) (m' := (fl_row (fl_row f (21 + 4 * i) (upd (f (21 + 4 * i)) ((t2_min_v ((c0_way_v f i ((f (19 + 4 * i) 2) - (3 : Int32))) / (100 : Int32)) (10 : Int32)).toInt.toNat) ((f (21 + 4 * i) ((t2_min_v ((c0_way_v f i ((f (19 + 4 * i) 2) - (3 : Int32))) / (100 : Int32)) (10 : Int32)).toInt.toNat)) + (1 : Int32)))) (20 + 4 * i) (upd (f (20 + 4 * i)) ((f (19 + 4 * i) 2).toInt.toNat - 3) (f (20 + 4 * i) ((f (19 + 4 * i) 2).toInt.toNat - 1))), l)) rfl (fl_oks_ok ⟨True.intro, True.intro, t2_ka0 hi, True.intro⟩) rfl (t2_is (t2_nn (by omega)) (by decide +kernel) (by have c4 : (4 : Int32).toInt = 4 := (by decide +kernel); omega)) (by have c4 : (4 : Int32).toInt = 4 := (by decide +kernel); omega) (t2_upn (by rw [fl_row_ne (show 20 + 4 * i ≠ 21 + 4 * i by omega)])) ?_
        refine fl_Tq.stp (pc' := 89) (lv' := [some (.inr (.inr (.inl (19, 19 + 4 * i)))), some (.inl (c0_way_v f i ((f (19 + 4 * i) 2) - (3 : Int32))))]) (st' := [.inr (.inr (.inl (19, 19 + 4 * i)))]) (m' := (fl_row (fl_row f (21 + 4 * i) (upd (f (21 + 4 * i)) ((t2_min_v ((c0_way_v f i ((f (19 + 4 * i) 2) - (3 : Int32))) / (100 : Int32)) (10 : Int32)).toInt.toNat) ((f (21 + 4 * i) ((t2_min_v ((c0_way_v f i ((f (19 + 4 * i) 2) - (3 : Int32))) / (100 : Int32)) (10 : Int32)).toInt.toNat)) + (1 : Int32)))) (20 + 4 * i) (upd (f (20 + 4 * i)) ((f (19 + 4 * i) 2).toInt.toNat - 3) (f (20 + 4 * i) ((f (19 + 4 * i) 2).toInt.toNat - 1))), l)) rfl rfl (fl_bo rfl) rfl ?_
        refine fl_Tq.stp (pc' := 90) (lv' := [some (.inr (.inr (.inl (19, 19 + 4 * i)))), some (.inl (c0_way_v f i ((f (19 + 4 * i) 2) - (3 : Int32))))]) (st' := [.inr (.inr (.inl (19, 19 + 4 * i))), .inr (.inr (.inl (19, 19 + 4 * i)))]) (m' := (fl_row (fl_row f (21 + 4 * i) (upd (f (21 + 4 * i)) ((t2_min_v ((c0_way_v f i ((f (19 + 4 * i) 2) - (3 : Int32))) / (100 : Int32)) (10 : Int32)).toInt.toNat) ((f (21 + 4 * i) ((t2_min_v ((c0_way_v f i ((f (19 + 4 * i) 2) - (3 : Int32))) / (100 : Int32)) (10 : Int32)).toInt.toNat)) + (1 : Int32)))) (20 + 4 * i) (upd (f (20 + 4 * i)) ((f (19 + 4 * i) 2).toInt.toNat - 3) (f (20 + 4 * i) ((f (19 + 4 * i) 2).toInt.toNat - 1))), l)) rfl rfl (fl_oks_ok ⟨t2_kt0 hi, True.intro⟩) rfl ?_
        refine fl_Tq.gfV (k := 2) (v := f (19 + 4 * i) 2) rfl (fl_oks_ok ⟨t2_kt0 hi, t2_kt0 hi, True.intro⟩) rfl (by simp only [fl_row_ne (show 19 + 4 * i ≠ 20 + 4 * i by omega), fl_row_ne (show 19 + 4 * i ≠ 21 + 4 * i by omega)]) ?_
        refine fl_Tq.cI (c := (2 : Int32)) rfl (by decide +kernel) (fl_oks_ok ⟨True.intro, t2_kt0 hi, True.intro⟩) ?_
        refine fl_Tq.stp (pc' := 95) (lv' := [some (.inr (.inr (.inl (19, 19 + 4 * i)))), some (.inl (c0_way_v f i ((f (19 + 4 * i) 2) - (3 : Int32))))]) (st' := [.inl ((f (19 + 4 * i) 2) - (2 : Int32)), .inr (.inr (.inl (19, 19 + 4 * i)))]) (m' := (fl_row (fl_row f (21 + 4 * i) (upd (f (21 + 4 * i)) ((t2_min_v ((c0_way_v f i ((f (19 + 4 * i) 2) - (3 : Int32))) / (100 : Int32)) (10 : Int32)).toInt.toNat) ((f (21 + 4 * i) ((t2_min_v ((c0_way_v f i ((f (19 + 4 * i) 2) - (3 : Int32))) / (100 : Int32)) (10 : Int32)).toInt.toNat)) + (1 : Int32)))) (20 + 4 * i) (upd (f (20 + 4 * i)) ((f (19 + 4 * i) 2).toInt.toNat - 3) (f (20 + 4 * i) ((f (19 + 4 * i) 2).toInt.toNat - 1))), l)) rfl rfl (fl_oks_ok ⟨True.intro, True.intro, t2_kt0 hi, True.intro⟩) rfl ?_
        refine fl_Tq.pfV (k := 2) (m' := (fl_row (fl_row (fl_row f (21 + 4 * i) (upd (f (21 + 4 * i)) ((t2_min_v ((c0_way_v f i ((f (19 + 4 * i) 2) - (3 : Int32))) / (100 : Int32)) (10 : Int32)).toInt.toNat) ((f (21 + 4 * i) ((t2_min_v ((c0_way_v f i ((f (19 + 4 * i) 2) - (3 : Int32))) / (100 : Int32)) (10 : Int32)).toInt.toNat)) + (1 : Int32)))) (20 + 4 * i) (upd (f (20 + 4 * i)) ((f (19 + 4 * i) 2).toInt.toNat - 3) (f (20 + 4 * i) ((f (19 + 4 * i) 2).toInt.toNat - 1)))) (19 + 4 * i) (upd (f (19 + 4 * i)) 2 ((f (19 + 4 * i) 2) - (2 : Int32))), l)) rfl (fl_oks_ok ⟨True.intro, t2_kt0 hi, True.intro⟩) rfl (t2_upn (by rw [fl_row_ne (show 19 + 4 * i ≠ 20 + 4 * i by omega), fl_row_ne (show 19 + 4 * i ≠ 21 + 4 * i by omega)])) ?_
        refine fl_Tq.stp (pc' := 0) (lv' := [some (.inr (.inr (.inl (19, 19 + 4 * i)))), some (.inl (c0_way_v f i ((f (19 + 4 * i) 2) - (3 : Int32))))]) (st' := []) (m' := (fl_row (fl_row (fl_row f (21 + 4 * i) (upd (f (21 + 4 * i)) ((t2_min_v ((c0_way_v f i ((f (19 + 4 * i) 2) - (3 : Int32))) / (100 : Int32)) (10 : Int32)).toInt.toNat) ((f (21 + 4 * i) ((t2_min_v ((c0_way_v f i ((f (19 + 4 * i) 2) - (3 : Int32))) / (100 : Int32)) (10 : Int32)).toInt.toNat)) + (1 : Int32)))) (20 + 4 * i) (upd (f (20 + 4 * i)) ((f (19 + 4 * i) 2).toInt.toNat - 3) (f (20 + 4 * i) ((f (19 + 4 * i) 2).toInt.toNat - 1)))) (19 + 4 * i) (upd (f (19 + 4 * i)) 2 ((f (19 + 4 * i) 2) - (2 : Int32))), l)) rfl rfl (fl_bo rfl) rfl ?_
        have eg : c0_cc_g0 f i = some (fl_row (fl_row (fl_row f (21 + 4 * i) (upd (f (21 + 4 * i)) ((t2_min_v ((c0_way_v f i ((f (19 + 4 * i) 2) - (3 : Int32))) / (100 : Int32)) (10 : Int32)).toInt.toNat) ((f (21 + 4 * i) ((t2_min_v ((c0_way_v f i ((f (19 + 4 * i) 2) - (3 : Int32))) / (100 : Int32)) (10 : Int32)).toInt.toNat)) + (1 : Int32)))) (20 + 4 * i) (upd (f (20 + 4 * i)) ((f (19 + 4 * i) 2).toInt.toNat - 3) (f (20 + 4 * i) ((f (19 + 4 * i) 2).toInt.toNat - 1)))) (19 + 4 * i) (upd (f (19 + 4 * i)) 2 ((f (19 + 4 * i) 2) - (2 : Int32)))) := by
          unfold c0_cc_g0
          simp only [if_neg h1, if_neg h2, if_neg h3]
        have hS := k1 _ eg
        exact fl_Tq.fg hS ⟨rfl, True.intro⟩
theorem c0_cc_dec {f f' : t2_F} {i : Nat} (h : 0 ≤ (f (19 + 4 * i) 2).toInt) (hv : t2_p32 (f (20 + 4 * i))) (e : c0_cc_g0 f i = some f') : ((f' (19 + 4 * i) 2).toInt.toNat < (f (19 + 4 * i) 2).toInt.toNat ∧ (1 ≤ (f' (19 + 4 * i) 2).toInt ∧ (f' (19 + 4 * i) 2).toInt ≤ (f (19 + 4 * i) 2).toInt)) ∧ ((f (19 + 4 * i) 2).toInt ≤ 32 → t2_p32 (f' (20 + 4 * i))) := by
  have e4 : (4 : Int32).toInt = 4 := by decide +kernel
  have e2 : (2 : Int32).toInt = 2 := by decide +kernel
  have hx := at_i32 (f (19 + 4 * i) 2)
  unfold c0_cc_g0 at e
  repeat' split at e
  all_goals first | (cases e; done) | skip
  all_goals
    have e5 : f' (19 + 4 * i) 2 = f (19 + 4 * i) 2 - (2 : Int32) := by
      cases e
      simp only [fl_row_self, upd_self]
    refine ⟨?_, fun h32 => ?_⟩
    · rw [e5, at_sub32 (by omega) (by omega)]
      omega
    · cases e
      rw [fl_row_ne (by omega), fl_row_self]
      exact hv.upd (hv _ (by omega))
theorem c0_cc_wfr {i n p : Nat} {f : t2_F} (e0 : p ≠ 19 + 4 * i) (e1 : p ≠ 20 + 4 * i) (e2 : p ≠ 21 + 4 * i) : t2_wf (fun f => c0_cc_g0 f i) n f p = f p := by
  refine t2_wf_p (fun f f' e => ?_) n f
  unfold c0_cc_g0 at e
  repeat' split at e
  all_goals first | (cases e; done) | (cases e; simp only [fl_row_ne e0, fl_row_ne e1, fl_row_ne e2])
noncomputable def c0_cc_m (f : t2_F) (i : Nat) : t2_F := t2_wf (fun f => c0_cc_g0 f i) 32 f
theorem c0_cc_fr {f : t2_F} {i : Nat} {p : Nat} (e0 : p ≠ 19 + 4 * i) (e1 : p ≠ 20 + 4 * i) (e2 : p ≠ 21 + 4 * i) : c0_cc_m f i p = f p := by
  unfold c0_cc_m
  repeat' split
  all_goals first | rfl | simp only [fl_row_ne e0, fl_row_ne e1, fl_row_ne e2, c0_cc_wfr e0 e1 e2]
theorem c0_cc_q {L : Nat} {xs : Nat → Int32} {f : t2_F} {l : t2_L} {Q : Option fl_V → fl_M → Prop} {i : Nat} (hi : i < 16) (ht : 1 ≤ (f (19 + 4 * i) 2).toInt ∧ (f (19 + 4 * i) 2).toInt ≤ 32) (hv : t2_p32 (f (20 + 4 * i))) (k : Q none (c0_cc_m f i, l)) : fl_Tq (pw_P L xs) 91 0 (fl_args (am_mxl (pw_P L xs) 91) [.inr (.inr (.inl (19, 19 + 4 * i)))]) [] (f, l) Q := by
  refine t2_wh (g := (fun f => c0_cc_g0 f i)) (I := (fun f => (1 ≤ (f (19 + 4 * i) 2).toInt ∧ (f (19 + 4 * i) 2).toInt ≤ 32) ∧ t2_p32 (f (20 + 4 * i)))) (μ := (fun f => (f (19 + 4 * i) 2).toInt.toNat)) (S := fun f' => fl_Tq (pw_P L xs) 91 0 [some (.inr (.inr (.inl (19, 19 + 4 * i)))), none] [] (f', l) Q) (E := fun f' => Q none (f', l)) (fun f f' h e => have d := c0_cc_dec (by omega) h.2 e; ⟨⟨⟨d.1.2.1, by omega⟩, d.2 h.1.2⟩, d.1.1⟩) (fun f' hI k0 k1 => c0_cc_g0_q hi hI.1 hI.2 k0 k1) 32 _ ⟨ht, hv⟩ (by omega) ?_
  exact k
noncomputable def c0_follow_m (f : t2_F) (i : Nat) (x : Int32) : t2_F := if (f (19 + 4 * i) 2).toInt = 0 then f else (if x.toInt = (f (20 + 4 * i) ((f (19 + 4 * i) 2).toInt.toNat - 1)).toInt then f else (if (c0_goesOn_v f i x).toInt = 0 then c0_cc_m (c0_uadd_m f i x) i else c0_cc_m (fl_row f (20 + 4 * i) (upd (f (20 + 4 * i)) ((f (19 + 4 * i) 2).toInt.toNat - 1) x)) i))
theorem c0_follow_fr {f : t2_F} {i : Nat} {x : Int32} {p : Nat} (e0 : p ≠ 19 + 4 * i) (e1 : p ≠ 20 + 4 * i) (e2 : p ≠ 21 + 4 * i) : c0_follow_m f i x p = f p := by
  unfold c0_follow_m
  repeat' split
  all_goals first | rfl | simp only [fl_row_ne e0, fl_row_ne e1, fl_row_ne e2, c0_cc_fr e0 e1 e2, c0_uadd_fr e1 e0]
theorem c0_follow_q {L : Nat} {xs : Nat → Int32} {f : t2_F} {l : t2_L} {Q : Option fl_V → fl_M → Prop} {i : Nat} {x : Int32} (hi : i < 16) (ht : 1 ≤ (f (19 + 4 * i) 2).toInt ∧ (f (19 + 4 * i) 2).toInt ≤ 32) (hv : t2_p32 (f (20 + 4 * i))) (hx : t2_pt x) (k : Q none (c0_follow_m f i x, l)) : fl_Tq (pw_P L xs) 88 0 (fl_args (am_mxl (pw_P L xs) 88) [.inr (.inr (.inl (19, 19 + 4 * i))), .inl x]) [] (f, l) Q := by
  refine fl_Tq.stp (pc' := 1) (lv' := [some (.inr (.inr (.inl (19, 19 + 4 * i)))), some (.inl x)]) (st' := [.inr (.inr (.inl (19, 19 + 4 * i)))]) (m' := (f, l)) rfl rfl (fl_bo rfl) rfl ?_
  refine fl_Tq.gfV (k := 2) (v := f (19 + 4 * i) 2) rfl (fl_oks_ok ⟨t2_kt0 hi, True.intro⟩) rfl rfl ?_
  by_cases h1 : (f (19 + 4 * i) 2).toInt = 0
  · refine fl_Tq.zt rfl (fl_bo rfl) (c1_eq_t h1) rfl ?_
    refine fl_Tq.ret rfl rfl rfl ?_
    unfold c0_follow_m at k
    simp only [if_pos h1] at k
    exact k
  · refine fl_Tq.zf rfl (fl_bo rfl) (c1_eq_f h1) rfl ?_
    refine fl_Tq.stp (pc' := 8) (lv' := [some (.inr (.inr (.inl (19, 19 + 4 * i)))), some (.inl x)]) (st' := [.inl x]) (m' := (f, l)) rfl rfl (fl_bo rfl) rfl ?_
    refine fl_Tq.stp (pc' := 9) (lv' := [some (.inr (.inr (.inl (19, 19 + 4 * i)))), some (.inl x)]) (st' := [.inr (.inr (.inl (19, 19 + 4 * i))), .inl x]) (m' := (f, l)) rfl rfl (fl_bo rfl) rfl ?_
    refine fl_Tq.gfR (d := 1) (p' := 20 + 4 * i) rfl (fl_oks_ok ⟨t2_kt0 hi, True.intro, True.intro⟩) rfl (by omega) ?_
    refine fl_Tq.stp (pc' := 13) (lv' := [some (.inr (.inr (.inl (19, 19 + 4 * i)))), some (.inl x)]) (st' := [.inr (.inr (.inl (19, 19 + 4 * i))), .inr (.inr (.inl (20, 20 + 4 * i))), .inl x]) (m' := (f, l)) rfl rfl (fl_oks_ok ⟨t2_ka0 hi, True.intro, True.intro⟩) rfl ?_
    refine fl_Tq.gfV (k := 2) (v := f (19 + 4 * i) 2) rfl (fl_oks_ok ⟨t2_kt0 hi, t2_ka0 hi, True.intro, True.intro⟩) rfl rfl ?_
    refine fl_Tq.cI (c := (1 : Int32)) rfl (by decide +kernel) (fl_oks_ok ⟨True.intro, t2_ka0 hi, True.intro, True.intro⟩) ?_
    refine fl_Tq.stp (pc' := 18) (lv' := [some (.inr (.inr (.inl (19, 19 + 4 * i)))), some (.inl x)]) (st' := [.inl ((f (19 + 4 * i) 2) - (1 : Int32)), .inr (.inr (.inl (20, 20 + 4 * i))), .inl x]) (m' := (f, l)) rfl rfl (fl_oks_ok ⟨True.intro, True.intro, t2_ka0 hi, True.intro, True.intro⟩) rfl ?_
    refine fl_Tq.ldV (p := 20 + 4 * i) (τ := 20) (n := 32) (z := (0, 0, 0)) (k := ((f (19 + 4 * i) 2).toInt.toNat - 1)) (v := f (20 + 4 * i) ((f (19 + 4 * i) 2).toInt.toNat - 1)) rfl (fl_oks_ok ⟨True.intro, t2_ka0 hi, True.intro, True.intro⟩) rfl (t2_is (t2_nn (by omega)) (by decide +kernel) (by have c4 : (4 : Int32).toInt = 4 := (by decide +kernel); omega)) (by have c4 : (4 : Int32).toInt = 4 := (by decide +kernel); omega) rfl ?_
    by_cases h2 : x.toInt = (f (20 + 4 * i) ((f (19 + 4 * i) 2).toInt.toNat - 1)).toInt
    · refine fl_Tq.jf rfl (fl_bo rfl) (c2_ne_f h2) rfl ?_
      refine fl_Tq.ret rfl rfl rfl ?_
      unfold c0_follow_m at k
      simp only [if_neg h1, if_pos h2] at k
      exact k
    · refine fl_Tq.jt rfl (fl_bo rfl) (c2_ne_t h2) rfl ?_
      refine fl_Tq.stp (pc' := 24) (lv' := [some (.inr (.inr (.inl (19, 19 + 4 * i)))), some (.inl x)]) (st' := [.inr (.inr (.inl (19, 19 + 4 * i)))]) (m' := (f, l)) rfl rfl (fl_bo rfl) rfl ?_
      refine fl_Tq.stp (pc' := 25) (lv' := [some (.inr (.inr (.inl (19, 19 + 4 * i)))), some (.inl x)]) (st' := [.inl x, .inr (.inr (.inl (19, 19 + 4 * i)))]) (m' := (f, l)) rfl rfl (fl_oks_ok ⟨t2_kt0 hi, True.intro⟩) rfl ?_
      refine fl_Tq.cal rfl rfl (fl_oks_ok ⟨True.intro, t2_kt0 hi, True.intro⟩) rfl ?_
      refine c0_goesOn_q hi ⟨by omega, by omega⟩ ?_
      show fl_Tq _ 88 28 [some (.inr (.inr (.inl (19, 19 + 4 * i)))), some (.inl x)] [.inl (c0_goesOn_v f i x)] (f, l) _
      by_cases h3 : (c0_goesOn_v f i x).toInt = 0
      · refine fl_Tq.zt rfl (fl_bo rfl) (c1_eq_t h3) rfl ?_
        refine fl_Tq.stp (pc' := 47) (lv' := [some (.inr (.inr (.inl (19, 19 + 4 * i)))), some (.inl x)]) (st' := [.inr (.inr (.inl (19, 19 + 4 * i)))]) (m' := (f, l)) rfl rfl (fl_bo rfl) rfl ?_
        refine fl_Tq.stp (pc' := 48) (lv' := [some (.inr (.inr (.inl (19, 19 + 4 * i)))), some (.inl x)]) (st' := [.inl x, .inr (.inr (.inl (19, 19 + 4 * i)))]) (m' := (f, l)) rfl rfl (fl_oks_ok ⟨t2_kt0 hi, True.intro⟩) rfl ?_
        refine fl_Tq.cal rfl rfl (fl_oks_ok ⟨True.intro, t2_kt0 hi, True.intro⟩) rfl ?_
        refine c0_uadd_q hi ht ?_
        show fl_Tq _ 88 51 [some (.inr (.inr (.inl (19, 19 + 4 * i)))), some (.inl x)] [] (c0_uadd_m f i x, l) _
        refine fl_Tq.stp (pc' := 52) (lv' := [some (.inr (.inr (.inl (19, 19 + 4 * i)))), some (.inl x)]) (st' := [.inr (.inr (.inl (19, 19 + 4 * i)))]) (m' := (c0_uadd_m f i x, l)) rfl rfl (fl_bo rfl) rfl ?_
        refine fl_Tq.cal rfl rfl (fl_oks_ok ⟨t2_kt0 hi, True.intro⟩) rfl ?_
        refine c0_cc_q hi (c0_uadd_ht ht) (c0_uadd_hv hv hx) ?_
        show fl_Tq _ 88 55 [some (.inr (.inr (.inl (19, 19 + 4 * i)))), some (.inl x)] [] (c0_cc_m (c0_uadd_m f i x) i, l) _
        refine fl_Tq.ret rfl rfl rfl ?_
        unfold c0_follow_m at k
        simp only [if_neg h1, if_neg h2, if_pos h3] at k
        exact k
      · refine fl_Tq.zf rfl (fl_bo rfl) (c1_eq_f h3) rfl ?_
        refine fl_Tq.stp (pc' := 32) (lv' := [some (.inr (.inr (.inl (19, 19 + 4 * i)))), some (.inl x)]) (st' := [.inr (.inr (.inl (19, 19 + 4 * i)))]) (m' := (f, l)) rfl rfl (fl_bo rfl) rfl ?_
        refine fl_Tq.gfR (d := 1) (p' := 20 + 4 * i) rfl (fl_oks_ok ⟨t2_kt0 hi, True.intro⟩) rfl (by omega) ?_
        refine fl_Tq.stp (pc' := 36) (lv' := [some (.inr (.inr (.inl (19, 19 + 4 * i)))), some (.inl x)]) (st' := [.inr (.inr (.inl (19, 19 + 4 * i))), .inr (.inr (.inl (20, 20 + 4 * i)))]) (m' := (f, l)) rfl rfl (fl_oks_ok ⟨t2_ka0 hi, True.intro⟩) rfl ?_
        refine fl_Tq.gfV (k := 2) (v := f (19 + 4 * i) 2) rfl (fl_oks_ok ⟨t2_kt0 hi, t2_ka0 hi, True.intro⟩) rfl rfl ?_
        refine fl_Tq.cI (c := (1 : Int32)) rfl (by decide +kernel) (fl_oks_ok ⟨True.intro, t2_ka0 hi, True.intro⟩) ?_
        refine fl_Tq.stp (pc' := 41) (lv' := [some (.inr (.inr (.inl (19, 19 + 4 * i)))), some (.inl x)]) (st' := [.inl ((f (19 + 4 * i) 2) - (1 : Int32)), .inr (.inr (.inl (20, 20 + 4 * i)))]) (m' := (f, l)) rfl rfl (fl_oks_ok ⟨True.intro, True.intro, t2_ka0 hi, True.intro⟩) rfl ?_
        refine fl_Tq.stp (pc' := 42) (lv' := [some (.inr (.inr (.inl (19, 19 + 4 * i)))), some (.inl x)]) (st' := [.inl x, .inl ((f (19 + 4 * i) 2) - (1 : Int32)), .inr (.inr (.inl (20, 20 + 4 * i)))]) (m' := (f, l)) rfl rfl (fl_oks_ok ⟨True.intro, t2_ka0 hi, True.intro⟩) rfl ?_
        refine fl_Tq.svV (p := 20 + 4 * i) (τ := 20) (n := 32) (z := (0, 0, 0)) (k := ((f (19 + 4 * i) 2).toInt.toNat - 1)) (m' := (fl_row f (20 + 4 * i) (upd (f (20 + 4 * i)) ((f (19 + 4 * i) 2).toInt.toNat - 1) x), l)) rfl (fl_oks_ok ⟨True.intro, True.intro, t2_ka0 hi, True.intro⟩) rfl (t2_is (t2_nn (by omega)) (by decide +kernel) (by have c4 : (4 : Int32).toInt = 4 := (by decide +kernel); omega)) (by have c4 : (4 : Int32).toInt = 4 := (by decide +kernel); omega) (t2_upn rfl) ?_
        refine fl_Tq.stp (pc' := 51) (lv' := [some (.inr (.inr (.inl (19, 19 + 4 * i)))), some (.inl x)]) (st' := []) (m' := (fl_row f (20 + 4 * i) (upd (f (20 + 4 * i)) ((f (19 + 4 * i) 2).toInt.toNat - 1) x), l)) rfl rfl (fl_bo rfl) rfl ?_
        refine fl_Tq.stp (pc' := 52) (lv' := [some (.inr (.inr (.inl (19, 19 + 4 * i)))), some (.inl x)]) (st' := [.inr (.inr (.inl (19, 19 + 4 * i)))]) (m' := (fl_row f (20 + 4 * i) (upd (f (20 + 4 * i)) ((f (19 + 4 * i) 2).toInt.toNat - 1) x), l)) rfl rfl (fl_bo rfl) rfl ?_
        refine fl_Tq.cal rfl rfl (fl_oks_ok ⟨t2_kt0 hi, True.intro⟩) rfl ?_
        refine c0_cc_q hi (by simp only [fl_row_ne (show 19 + 4 * i ≠ 20 + 4 * i by omega)]; exact ht) (by rw [fl_row_self]; exact hv.upd hx) ?_
        show fl_Tq _ 88 55 [some (.inr (.inr (.inl (19, 19 + 4 * i)))), some (.inl x)] [] (c0_cc_m (fl_row f (20 + 4 * i) (upd (f (20 + 4 * i)) ((f (19 + 4 * i) 2).toInt.toNat - 1) x)) i, l) _
        refine fl_Tq.ret rfl rfl rfl ?_
        unfold c0_follow_m at k
        simp only [if_neg h1, if_neg h2, if_neg h3] at k
        exact k
noncomputable def c0_keepTrack_j11_0 (f : t2_F) (i : Nat) (x : Int32) : Int32 := if (f (18 + 4 * i) 10).toInt = 0 then c0_voltsAt_v f i x else t2_max_v (f (18 + 4 * i) 12) (c0_voltsAt_v f i x)
noncomputable def c0_keepTrack_j34_0 (f : t2_F) (i : Nat) (x : Int32) : Int32 := if (f (18 + 4 * i) 10).toInt = 0 then c0_voltsAt_v f i x else t2_min_v (f (18 + 4 * i) 13) (c0_voltsAt_v f i x)
noncomputable def c0_keepTrack_m (f : t2_F) (i : Nat) (x : Int32) : t2_F := c0_follow_m (fl_row f (18 + 4 * i) (upd (upd (upd (f (18 + 4 * i)) 12 (c0_keepTrack_j11_0 f i x)) 13 (c0_keepTrack_j34_0 f i x)) 10 (1 : Int32))) i (f (18 + 4 * i) 3)
theorem c0_keepTrack_fr {f : t2_F} {i : Nat} {x : Int32} {p : Nat} (e0 : p ≠ 19 + 4 * i) (e1 : p ≠ 20 + 4 * i) (e2 : p ≠ 21 + 4 * i) (e3 : p ≠ 18 + 4 * i) : c0_keepTrack_m f i x p = f p := by
  unfold c0_keepTrack_m
  repeat' split
  all_goals first | rfl | simp only [fl_row_ne e0, fl_row_ne e1, fl_row_ne e2, fl_row_ne e3, c0_follow_fr e0 e1 e2]
theorem c0_keepTrack_q {L : Nat} {xs : Nat → Int32} {f : t2_F} {l : t2_L} {Q : Option fl_V → fl_M → Prop} {i : Nat} {x : Int32} (hi : i < 16) (ht : 1 ≤ (f (19 + 4 * i) 2).toInt ∧ (f (19 + 4 * i) 2).toInt ≤ 32) (hv : t2_p32 (f (20 + 4 * i))) (hx : t2_pt (f (18 + 4 * i) 3)) (k : Q none (c0_keepTrack_m f i x, l)) : fl_Tq (pw_P L xs) 16 0 (fl_args (am_mxl (pw_P L xs) 16) [.inr (.inr (.inl (18, 18 + 4 * i))), .inl x]) [] (f, l) Q := by
  refine fl_Tq.stp (pc' := 1) (lv' := [some (.inr (.inr (.inl (18, 18 + 4 * i)))), some (.inl x), none]) (st' := [.inr (.inr (.inl (18, 18 + 4 * i)))]) (m' := (f, l)) rfl rfl (fl_bo rfl) rfl ?_
  refine fl_Tq.stp (pc' := 2) (lv' := [some (.inr (.inr (.inl (18, 18 + 4 * i)))), some (.inl x), none]) (st' := [.inl x, .inr (.inr (.inl (18, 18 + 4 * i)))]) (m' := (f, l)) rfl rfl (fl_oks_ok ⟨t2_kc0 hi, True.intro⟩) rfl ?_
  refine fl_Tq.cal rfl rfl (fl_oks_ok ⟨True.intro, t2_kc0 hi, True.intro⟩) rfl ?_
  refine c0_voltsAt_q hi ?_
  show fl_Tq _ 16 5 [some (.inr (.inr (.inl (18, 18 + 4 * i)))), some (.inl x), none] [.inl (c0_voltsAt_v f i x)] (f, l) _
  refine fl_Tq.stp (pc' := 6) (lv' := [some (.inr (.inr (.inl (18, 18 + 4 * i)))), some (.inl x), some (.inl (c0_voltsAt_v f i x))]) (st' := []) (m' := (f, l)) rfl rfl (fl_bo rfl) rfl ?_
  refine fl_Tq.stp (pc' := 7) (lv' := [some (.inr (.inr (.inl (18, 18 + 4 * i)))), some (.inl x), some (.inl (c0_voltsAt_v f i x))]) (st' := [.inr (.inr (.inl (18, 18 + 4 * i)))]) (m' := (f, l)) rfl rfl (fl_bo rfl) rfl ?_
  refine fl_Tq.stp (pc' := 8) (lv' := [some (.inr (.inr (.inl (18, 18 + 4 * i)))), some (.inl x), some (.inl (c0_voltsAt_v f i x))]) (st' := [.inr (.inr (.inl (18, 18 + 4 * i))), .inr (.inr (.inl (18, 18 + 4 * i)))]) (m' := (f, l)) rfl rfl (fl_oks_ok ⟨t2_kc0 hi, True.intro⟩) rfl ?_
  refine fl_Tq.gfV (k := 10) (v := f (18 + 4 * i) 10) rfl (fl_oks_ok ⟨t2_kc0 hi, t2_kc0 hi, True.intro⟩) rfl rfl ?_
  have hj100 : fl_Tq (pw_P L xs) 16 26 [some (.inr (.inr (.inl (18, 18 + 4 * i)))), some (.inl x), some (.inl (c0_voltsAt_v f i x))] [.inl (c0_keepTrack_j11_0 f i x), .inr (.inr (.inl (18, 18 + 4 * i)))] (f, l) Q → fl_Tq (pw_P L xs) 16 11 [some (.inr (.inr (.inl (18, 18 + 4 * i)))), some (.inl x), some (.inl (c0_voltsAt_v f i x))] [.inl (f (18 + 4 * i) 10), .inr (.inr (.inl (18, 18 + 4 * i)))] (f, l) Q := by
    intro hJ
    by_cases h1 : (f (18 + 4 * i) 10).toInt = 0
    · refine fl_Tq.zt rfl (fl_oks_ok ⟨True.intro, t2_kc0 hi, True.intro⟩) (c1_eq_t h1) rfl ?_
      refine fl_Tq.stp (pc' := 26) (lv' := [some (.inr (.inr (.inl (18, 18 + 4 * i)))), some (.inl x), some (.inl (c0_voltsAt_v f i x))]) (st' := [.inl (c0_voltsAt_v f i x), .inr (.inr (.inl (18, 18 + 4 * i)))]) (m' := (f, l)) rfl rfl (fl_oks_ok ⟨t2_kc0 hi, True.intro⟩) rfl ?_
      have e0 : (c0_keepTrack_j11_0 f i x) = c0_voltsAt_v f i x := by simp only [c0_keepTrack_j11_0, if_pos h1]
      rw [e0] at hJ
      exact hJ
    · refine fl_Tq.zf rfl (fl_oks_ok ⟨True.intro, t2_kc0 hi, True.intro⟩) (c1_eq_f h1) rfl ?_
      refine fl_Tq.stp (pc' := 15) (lv' := [some (.inr (.inr (.inl (18, 18 + 4 * i)))), some (.inl x), some (.inl (c0_voltsAt_v f i x))]) (st' := [.inr (.inr (.inl (18, 18 + 4 * i))), .inr (.inr (.inl (18, 18 + 4 * i)))]) (m' := (f, l)) rfl rfl (fl_oks_ok ⟨t2_kc0 hi, True.intro⟩) rfl ?_
      refine fl_Tq.gfV (k := 12) (v := f (18 + 4 * i) 12) rfl (fl_oks_ok ⟨t2_kc0 hi, t2_kc0 hi, True.intro⟩) rfl rfl ?_
      refine fl_Tq.stp (pc' := 19) (lv' := [some (.inr (.inr (.inl (18, 18 + 4 * i)))), some (.inl x), some (.inl (c0_voltsAt_v f i x))]) (st' := [.inl (c0_voltsAt_v f i x), .inl (f (18 + 4 * i) 12), .inr (.inr (.inl (18, 18 + 4 * i)))]) (m' := (f, l)) rfl rfl (fl_oks_ok ⟨True.intro, t2_kc0 hi, True.intro⟩) rfl ?_
      refine fl_Tq.cal rfl rfl (fl_oks_ok ⟨True.intro, True.intro, t2_kc0 hi, True.intro⟩) rfl ?_
      refine t2_max_q  ?_
      show fl_Tq _ 16 22 [some (.inr (.inr (.inl (18, 18 + 4 * i)))), some (.inl x), some (.inl (c0_voltsAt_v f i x))] [.inl (t2_max_v (f (18 + 4 * i) 12) (c0_voltsAt_v f i x)), .inr (.inr (.inl (18, 18 + 4 * i)))] (f, l) _
      refine fl_Tq.stp (pc' := 26) (lv' := [some (.inr (.inr (.inl (18, 18 + 4 * i)))), some (.inl x), some (.inl (c0_voltsAt_v f i x))]) (st' := [.inl (t2_max_v (f (18 + 4 * i) 12) (c0_voltsAt_v f i x)), .inr (.inr (.inl (18, 18 + 4 * i)))]) (m' := (f, l)) rfl rfl (fl_oks_ok ⟨True.intro, t2_kc0 hi, True.intro⟩) rfl ?_
      have e0 : (c0_keepTrack_j11_0 f i x) = t2_max_v (f (18 + 4 * i) 12) (c0_voltsAt_v f i x) := by simp only [c0_keepTrack_j11_0, if_neg h1]
      rw [e0] at hJ
      exact hJ
  refine hj100 ?_
  show fl_Tq _ 16 26 [some (.inr (.inr (.inl (18, 18 + 4 * i)))), some (.inl x), some (.inl (c0_voltsAt_v f i x))] [.inl (c0_keepTrack_j11_0 f i x), .inr (.inr (.inl (18, 18 + 4 * i)))] (f, l) _
  refine fl_Tq.pfV (k := 12) (m' := (fl_row f (18 + 4 * i) (upd (f (18 + 4 * i)) 12 (c0_keepTrack_j11_0 f i x)), l)) rfl (fl_oks_ok ⟨True.intro, t2_kc0 hi, True.intro⟩) rfl (t2_upn rfl) ?_
  refine fl_Tq.stp (pc' := 30) (lv' := [some (.inr (.inr (.inl (18, 18 + 4 * i)))), some (.inl x), some (.inl (c0_voltsAt_v f i x))]) (st' := [.inr (.inr (.inl (18, 18 + 4 * i)))]) (m' := (fl_row f (18 + 4 * i) (upd (f (18 + 4 * i)) 12 (c0_keepTrack_j11_0 f i x)), l)) rfl rfl (fl_bo rfl) rfl ?_
  refine fl_Tq.stp (pc' := 31) (lv' := [some (.inr (.inr (.inl (18, 18 + 4 * i)))), some (.inl x), some (.inl (c0_voltsAt_v f i x))]) (st' := [.inr (.inr (.inl (18, 18 + 4 * i))), .inr (.inr (.inl (18, 18 + 4 * i)))]) (m' := (fl_row f (18 + 4 * i) (upd (f (18 + 4 * i)) 12 (c0_keepTrack_j11_0 f i x)), l)) rfl rfl (fl_oks_ok ⟨t2_kc0 hi, True.intro⟩) rfl ?_
  refine fl_Tq.gfV (k := 10) (v := f (18 + 4 * i) 10) rfl (fl_oks_ok ⟨t2_kc0 hi, t2_kc0 hi, True.intro⟩) rfl (by simp only [fl_row_self, upd_ne (by decide : 10 ≠ 12)]) ?_
  have hj101 : fl_Tq (pw_P L xs) 16 49 [some (.inr (.inr (.inl (18, 18 + 4 * i)))), some (.inl x), some (.inl (c0_voltsAt_v f i x))] [.inl (c0_keepTrack_j34_0 f i x), .inr (.inr (.inl (18, 18 + 4 * i)))] (fl_row f (18 + 4 * i) (upd (f (18 + 4 * i)) 12 (c0_keepTrack_j11_0 f i x)), l) Q → fl_Tq (pw_P L xs) 16 34 [some (.inr (.inr (.inl (18, 18 + 4 * i)))), some (.inl x), some (.inl (c0_voltsAt_v f i x))] [.inl (f (18 + 4 * i) 10), .inr (.inr (.inl (18, 18 + 4 * i)))] (fl_row f (18 + 4 * i) (upd (f (18 + 4 * i)) 12 (c0_keepTrack_j11_0 f i x)), l) Q := by
    intro hJ
    by_cases h2 : (f (18 + 4 * i) 10).toInt = 0
    · refine fl_Tq.zt rfl (fl_oks_ok ⟨True.intro, t2_kc0 hi, True.intro⟩) (c1_eq_t h2) rfl ?_
      refine fl_Tq.stp (pc' := 49) (lv' := [some (.inr (.inr (.inl (18, 18 + 4 * i)))), some (.inl x), some (.inl (c0_voltsAt_v f i x))]) (st' := [.inl (c0_voltsAt_v f i x), .inr (.inr (.inl (18, 18 + 4 * i)))]) (m' := (fl_row f (18 + 4 * i) (upd (f (18 + 4 * i)) 12 (c0_keepTrack_j11_0 f i x)), l)) rfl rfl (fl_oks_ok ⟨t2_kc0 hi, True.intro⟩) rfl ?_
      have e0 : (c0_keepTrack_j34_0 f i x) = c0_voltsAt_v f i x := by simp only [c0_keepTrack_j34_0, if_pos h2]
      rw [e0] at hJ
      exact hJ
    · refine fl_Tq.zf rfl (fl_oks_ok ⟨True.intro, t2_kc0 hi, True.intro⟩) (c1_eq_f h2) rfl ?_
      refine fl_Tq.stp (pc' := 38) (lv' := [some (.inr (.inr (.inl (18, 18 + 4 * i)))), some (.inl x), some (.inl (c0_voltsAt_v f i x))]) (st' := [.inr (.inr (.inl (18, 18 + 4 * i))), .inr (.inr (.inl (18, 18 + 4 * i)))]) (m' := (fl_row f (18 + 4 * i) (upd (f (18 + 4 * i)) 12 (c0_keepTrack_j11_0 f i x)), l)) rfl rfl (fl_oks_ok ⟨t2_kc0 hi, True.intro⟩) rfl ?_
      refine fl_Tq.gfV (k := 13) (v := f (18 + 4 * i) 13) rfl (fl_oks_ok ⟨t2_kc0 hi, t2_kc0 hi, True.intro⟩) rfl (by simp only [fl_row_self, upd_ne (by decide : 13 ≠ 12)]) ?_
      refine fl_Tq.stp (pc' := 42) (lv' := [some (.inr (.inr (.inl (18, 18 + 4 * i)))), some (.inl x), some (.inl (c0_voltsAt_v f i x))]) (st' := [.inl (c0_voltsAt_v f i x), .inl (f (18 + 4 * i) 13), .inr (.inr (.inl (18, 18 + 4 * i)))]) (m' := (fl_row f (18 + 4 * i) (upd (f (18 + 4 * i)) 12 (c0_keepTrack_j11_0 f i x)), l)) rfl rfl (fl_oks_ok ⟨True.intro, t2_kc0 hi, True.intro⟩) rfl ?_
      refine fl_Tq.cal rfl rfl (fl_oks_ok ⟨True.intro, True.intro, t2_kc0 hi, True.intro⟩) rfl ?_
      refine t2_min_q  ?_
      show fl_Tq _ 16 45 [some (.inr (.inr (.inl (18, 18 + 4 * i)))), some (.inl x), some (.inl (c0_voltsAt_v f i x))] [.inl (t2_min_v (f (18 + 4 * i) 13) (c0_voltsAt_v f i x)), .inr (.inr (.inl (18, 18 + 4 * i)))] (fl_row f (18 + 4 * i) (upd (f (18 + 4 * i)) 12 (c0_keepTrack_j11_0 f i x)), l) _
      refine fl_Tq.stp (pc' := 49) (lv' := [some (.inr (.inr (.inl (18, 18 + 4 * i)))), some (.inl x), some (.inl (c0_voltsAt_v f i x))]) (st' := [.inl (t2_min_v (f (18 + 4 * i) 13) (c0_voltsAt_v f i x)), .inr (.inr (.inl (18, 18 + 4 * i)))]) (m' := (fl_row f (18 + 4 * i) (upd (f (18 + 4 * i)) 12 (c0_keepTrack_j11_0 f i x)), l)) rfl rfl (fl_oks_ok ⟨True.intro, t2_kc0 hi, True.intro⟩) rfl ?_
      have e0 : (c0_keepTrack_j34_0 f i x) = t2_min_v (f (18 + 4 * i) 13) (c0_voltsAt_v f i x) := by simp only [c0_keepTrack_j34_0, if_neg h2]
      rw [e0] at hJ
      exact hJ
  refine hj101 ?_
  show fl_Tq _ 16 49 [some (.inr (.inr (.inl (18, 18 + 4 * i)))), some (.inl x), some (.inl (c0_voltsAt_v f i x))] [.inl (c0_keepTrack_j34_0 f i x), .inr (.inr (.inl (18, 18 + 4 * i)))] (fl_row f (18 + 4 * i) (upd (f (18 + 4 * i)) 12 (c0_keepTrack_j11_0 f i x)), l) _
  refine fl_Tq.pfV (k := 13) (m' := (fl_row f (18 + 4 * i) (upd (upd (f (18 + 4 * i)) 12 (c0_keepTrack_j11_0 f i x)) 13 (c0_keepTrack_j34_0 f i x)), l)) rfl (fl_oks_ok ⟨True.intro, t2_kc0 hi, True.intro⟩) rfl (t2_upr) ?_
  refine fl_Tq.stp (pc' := 53) (lv' := [some (.inr (.inr (.inl (18, 18 + 4 * i)))), some (.inl x), some (.inl (c0_voltsAt_v f i x))]) (st' := [.inr (.inr (.inl (18, 18 + 4 * i)))]) (m' := (fl_row f (18 + 4 * i) (upd (upd (f (18 + 4 * i)) 12 (c0_keepTrack_j11_0 f i x)) 13 (c0_keepTrack_j34_0 f i x)), l)) rfl rfl (fl_bo rfl) rfl ?_
  refine fl_Tq.cI (c := (1 : Int32)) rfl (by decide +kernel) (fl_oks_ok ⟨t2_kc0 hi, True.intro⟩) ?_
  refine fl_Tq.pfV (k := 10) (m' := (fl_row f (18 + 4 * i) (upd (upd (upd (f (18 + 4 * i)) 12 (c0_keepTrack_j11_0 f i x)) 13 (c0_keepTrack_j34_0 f i x)) 10 (1 : Int32)), l)) rfl (fl_oks_ok ⟨True.intro, t2_kc0 hi, True.intro⟩) rfl (t2_upr) ?_
  refine fl_Tq.stp (pc' := 58) (lv' := [some (.inr (.inr (.inl (18, 18 + 4 * i)))), some (.inl x), some (.inl (c0_voltsAt_v f i x))]) (st' := [.inr (.inr (.inl (18, 18 + 4 * i)))]) (m' := (fl_row f (18 + 4 * i) (upd (upd (upd (f (18 + 4 * i)) 12 (c0_keepTrack_j11_0 f i x)) 13 (c0_keepTrack_j34_0 f i x)) 10 (1 : Int32)), l)) rfl rfl (fl_bo rfl) rfl ?_
  refine fl_Tq.gfR (d := 1) (p' := 19 + 4 * i) rfl (fl_oks_ok ⟨t2_kc0 hi, True.intro⟩) rfl (by omega) ?_
  refine fl_Tq.stp (pc' := 62) (lv' := [some (.inr (.inr (.inl (18, 18 + 4 * i)))), some (.inl x), some (.inl (c0_voltsAt_v f i x))]) (st' := [.inr (.inr (.inl (18, 18 + 4 * i))), .inr (.inr (.inl (19, 19 + 4 * i)))]) (m' := (fl_row f (18 + 4 * i) (upd (upd (upd (f (18 + 4 * i)) 12 (c0_keepTrack_j11_0 f i x)) 13 (c0_keepTrack_j34_0 f i x)) 10 (1 : Int32)), l)) rfl rfl (fl_oks_ok ⟨t2_kt0 hi, True.intro⟩) rfl ?_
  refine fl_Tq.gfV (k := 3) (v := f (18 + 4 * i) 3) rfl (fl_oks_ok ⟨t2_kc0 hi, t2_kt0 hi, True.intro⟩) rfl (by simp only [fl_row_self, upd_ne (by decide : 3 ≠ 10), upd_ne (by decide : 3 ≠ 13), upd_ne (by decide : 3 ≠ 12)]) ?_
  refine fl_Tq.cal rfl rfl (fl_oks_ok ⟨True.intro, t2_kt0 hi, True.intro⟩) rfl ?_
  refine c0_follow_q hi (by simp only [fl_row_ne (show 19 + 4 * i ≠ 18 + 4 * i by omega)]; exact ht) (by rw [fl_row_ne (show 20 + 4 * i ≠ 18 + 4 * i by omega)]; exact hv) hx ?_
  show fl_Tq _ 16 68 [some (.inr (.inr (.inl (18, 18 + 4 * i)))), some (.inl x), some (.inl (c0_voltsAt_v f i x))] [] (c0_follow_m (fl_row f (18 + 4 * i) (upd (upd (upd (f (18 + 4 * i)) 12 (c0_keepTrack_j11_0 f i x)) 13 (c0_keepTrack_j34_0 f i x)) 10 (1 : Int32))) i (f (18 + 4 * i) 3), l) _
  exact fl_Tq.ret rfl rfl rfl k
noncomputable def c0_sKeep_b25_m (f : t2_F) (k : Nat) : t2_F := c0_keepTrack_m f k (f 1 9)
theorem c0_sKeep_b25_fr {f : t2_F} {k : Nat} {p : Nat} (e0 : p ≠ 19 + 4 * k) (e1 : p ≠ 20 + 4 * k) (e2 : p ≠ 21 + 4 * k) (e3 : p ≠ 18 + 4 * k) : c0_sKeep_b25_m f k p = f p := by
  unfold c0_sKeep_b25_m
  repeat' split
  all_goals first | rfl | simp only [fl_row_ne e0, fl_row_ne e1, fl_row_ne e2, fl_row_ne e3, c0_keepTrack_fr e0 e1 e2 e3]
theorem c0_sKeep_b25_q {L : Nat} {xs : Nat → Int32} {f : t2_F} {l : t2_L} {Q : Option fl_V → fl_M → Prop} {k : Nat} {n : Nat} (hkn : k < n) (hb : (f 1 5).toInt = (n : Int)) (h16 : n ≤ 16) (hkt : (1 ≤ (f (19 + 4 * k) 2).toInt ∧ (f (19 + 4 * k) 2).toInt ≤ 32) ∧ t2_p32 (f (20 + 4 * k)) ∧ t2_pt (f (18 + 4 * k) 3)) (hS : fl_Tq (pw_P L xs) 70 25 [some (.inr (.inr (.inl (1, 1)))), some (.inl (Int32.ofNat (k + 1)))] [] (c0_sKeep_b25_m f k, l) Q) : fl_Tq (pw_P L xs) 70 25 [some (.inr (.inr (.inl (1, 1)))), some (.inl (Int32.ofNat k))] [] (f, l) Q := by
  refine fl_Tq.stp (pc' := 26) (lv' := [some (.inr (.inr (.inl (1, 1)))), some (.inl (Int32.ofNat k))]) (st' := [.inl (Int32.ofNat k)]) (m' := (f, l)) rfl rfl (fl_bo rfl) rfl ?_
  refine fl_Tq.stp (pc' := 27) (lv' := [some (.inr (.inr (.inl (1, 1)))), some (.inl (Int32.ofNat k))]) (st' := [.inr (.inr (.inl (1, 1))), .inl (Int32.ofNat k)]) (m' := (f, l)) rfl rfl (fl_bo rfl) rfl ?_
  refine fl_Tq.gfV (k := 5) (v := f 1 5) rfl (fl_bo rfl) rfl rfl ?_
  refine fl_Tq.jf rfl (fl_bo rfl) (c2_ge_f (t2_lk hkn hb)) rfl ?_
  refine fl_Tq.stp (pc' := 34) (lv' := [some (.inr (.inr (.inl (1, 1)))), some (.inl (Int32.ofNat k))]) (st' := [.inr (.inr (.inl (1, 1)))]) (m' := (f, l)) rfl rfl (fl_bo rfl) rfl ?_
  refine fl_Tq.stp (pc' := 37) (lv' := [some (.inr (.inr (.inl (1, 1)))), some (.inl (Int32.ofNat k))]) (st' := [.inr (.inr (.inl (2, 2)))]) (m' := (f, l)) rfl rfl (fl_bo rfl) rfl ?_
  refine fl_Tq.stp (pc' := 38) (lv' := [some (.inr (.inr (.inl (1, 1)))), some (.inl (Int32.ofNat k))]) (st' := [.inl (Int32.ofNat k), .inr (.inr (.inl (2, 2)))]) (m' := (f, l)) rfl rfl (fl_bo rfl) rfl ?_
  refine fl_Tq.qld (p := 2) (τ := 2) (n := 16) (t := 18) (b := 16) (d := 3) (k := k) rfl (fl_bo rfl) rfl (at_ofN (by omega)) (by omega) ?_
  show fl_Tq _ 70 39 [some (.inr (.inr (.inl (1, 1)))), some (.inl (Int32.ofNat k))] [.inr (.inr (.inl (18, 18 + 4 * k)))] (f, l) _
  refine fl_Tq.stp (pc' := 40) (lv' := [some (.inr (.inr (.inl (1, 1)))), some (.inl (Int32.ofNat k))]) (st' := [.inr (.inr (.inl (1, 1))), .inr (.inr (.inl (18, 18 + 4 * k)))]) (m' := (f, l)) rfl rfl (fl_oks_ok ⟨(t2_kc0 (by omega)), True.intro⟩) rfl ?_
  refine fl_Tq.gfV (k := 9) (v := f 1 9) rfl (fl_oks_ok ⟨fl_okp (by decide +kernel) (by decide), (t2_kc0 (by omega)), True.intro⟩) rfl rfl ?_
  refine fl_Tq.cal rfl rfl (fl_oks_ok ⟨True.intro, (t2_kc0 (by omega)), True.intro⟩) rfl ?_
  refine c0_keepTrack_q (by omega) hkt.1 hkt.2.1 hkt.2.2 ?_
  show fl_Tq _ 70 46 [some (.inr (.inr (.inl (1, 1)))), some (.inl (Int32.ofNat k))] [] (c0_keepTrack_m f k (f 1 9), l) _
  refine fl_Tq.stp (pc' := 49) (lv' := [some (.inr (.inr (.inl (1, 1)))), some (.inl ((Int32.ofNat k) + (1 : Int32)))]) (st' := []) (m' := (c0_keepTrack_m f k (f 1 9), l)) rfl rfl (fl_bo rfl) rfl ?_
  refine fl_Tq.stp (pc' := 25) (lv' := [some (.inr (.inr (.inl (1, 1)))), some (.inl ((Int32.ofNat k) + (1 : Int32)))]) (st' := []) (m' := (c0_keepTrack_m f k (f 1 9), l)) rfl rfl (fl_bo rfl) rfl ?_
  have em : c0_sKeep_b25_m f k = c0_keepTrack_m f k (f 1 9) := rfl
  rw [em, ← t2_k1] at hS
  exact hS
noncomputable def c0_sKeep_f25 (f : t2_F)  : Nat → t2_F
  | 0 => c0_tadd_m f (f 1 9) (c0_packAt_v f (f 1 9)) (c0_partSpread_v f)
  | k + 1 => c0_sKeep_b25_m (c0_sKeep_f25 f k) k
theorem c0_sKeep_f25_fr {f : t2_F}  {p : Nat} : ∀ {k : Nat} (e0 : ∀ j : Nat, j < k → p ≠ 19 + 4 * j) (e1 : ∀ j : Nat, j < k → p ≠ 20 + 4 * j) (e2 : ∀ j : Nat, j < k → p ≠ 21 + 4 * j) (e3 : ∀ j : Nat, j < k → p ≠ 18 + 4 * j), c0_sKeep_f25 f k p = (c0_tadd_m f (f 1 9) (c0_packAt_v f (f 1 9)) (c0_partSpread_v f)) p := by
  intro k
  induction k with
  | zero => intros; rfl
  | succ k ih =>
    intro e0 e1 e2 e3
    exact (c0_sKeep_b25_fr (e0 k (by omega)) (e1 k (by omega)) (e2 k (by omega)) (e3 k (by omega))).trans (ih (fun j hj => e0 j (by omega)) (fun j hj => e1 j (by omega)) (fun j hj => e2 j (by omega)) (fun j hj => e3 j (by omega)))
noncomputable def c0_sKeep_m (f : t2_F) : t2_F := c0_sKeep_f25 f ((f 1 5).toInt.toNat)
theorem c0_sKeep_q {L : Nat} {xs : Nat → Int32} {f : t2_F} {l : t2_L} {Q : Option fl_V → fl_M → Prop}  (hc : 0 ≤ (f 1 5).toInt ∧ (f 1 5).toInt ≤ 16) (hkt : ∀ i : Nat, (i : Int) < (f 1 5).toInt → (1 ≤ (f (19 + 4 * i) 2).toInt ∧ (f (19 + 4 * i) 2).toInt ≤ 32) ∧ t2_p32 (f (20 + 4 * i)) ∧ t2_pt (f (18 + 4 * i) 3)) (hlt : f 16 0 = (32 : Int32) ∧ (0 ≤ (f 16 2).toInt ∧ (f 16 2).toInt ≤ 31) ∧ (0 ≤ (f 16 3).toInt ∧ (f 16 3).toInt ≤ 32)) (k : Q none (c0_sKeep_m f, l)) : fl_Tq (pw_P L xs) 70 0 (fl_args (am_mxl (pw_P L xs) 70) [.inr (.inr (.inl (1, 1)))]) [] (f, l) Q := by
  refine fl_Tq.stp (pc' := 1) (lv' := [some (.inr (.inr (.inl (1, 1)))), none]) (st' := [.inr (.inr (.inl (1, 1)))]) (m' := (f, l)) rfl rfl (fl_bo rfl) rfl ?_
  refine fl_Tq.stp (pc' := 4) (lv' := [some (.inr (.inr (.inl (1, 1)))), none]) (st' := [.inr (.inr (.inl (16, 16)))]) (m' := (f, l)) rfl rfl (fl_bo rfl) rfl ?_
  refine fl_Tq.stp (pc' := 5) (lv' := [some (.inr (.inr (.inl (1, 1)))), none]) (st' := [.inr (.inr (.inl (1, 1))), .inr (.inr (.inl (16, 16)))]) (m' := (f, l)) rfl rfl (fl_bo rfl) rfl ?_
  refine fl_Tq.gfV (k := 9) (v := f 1 9) rfl (fl_bo rfl) rfl rfl ?_
  refine fl_Tq.stp (pc' := 9) (lv' := [some (.inr (.inr (.inl (1, 1)))), none]) (st' := [.inr (.inr (.inl (1, 1))), .inl (f 1 9), .inr (.inr (.inl (16, 16)))]) (m' := (f, l)) rfl rfl (fl_bo rfl) rfl ?_
  refine fl_Tq.stp (pc' := 10) (lv' := [some (.inr (.inr (.inl (1, 1)))), none]) (st' := [.inr (.inr (.inl (1, 1))), .inr (.inr (.inl (1, 1))), .inl (f 1 9), .inr (.inr (.inl (16, 16)))]) (m' := (f, l)) rfl rfl (fl_bo rfl) rfl ?_
  refine fl_Tq.gfV (k := 9) (v := f 1 9) rfl (fl_bo rfl) rfl rfl ?_
  refine fl_Tq.cal rfl rfl (fl_bo rfl) rfl ?_
  refine c0_packAt_q hc ?_
  show fl_Tq _ 70 16 [some (.inr (.inr (.inl (1, 1)))), none] [.inl (c0_packAt_v f (f 1 9)), .inl (f 1 9), .inr (.inr (.inl (16, 16)))] (f, l) _
  refine fl_Tq.stp (pc' := 17) (lv' := [some (.inr (.inr (.inl (1, 1)))), none]) (st' := [.inr (.inr (.inl (1, 1))), .inl (c0_packAt_v f (f 1 9)), .inl (f 1 9), .inr (.inr (.inl (16, 16)))]) (m' := (f, l)) rfl rfl (fl_bo rfl) rfl ?_
  refine fl_Tq.cal rfl rfl (fl_bo rfl) rfl ?_
  refine c0_partSpread_q hc ?_
  show fl_Tq _ 70 20 [some (.inr (.inr (.inl (1, 1)))), none] [.inl (c0_partSpread_v f), .inl (c0_packAt_v f (f 1 9)), .inl (f 1 9), .inr (.inr (.inl (16, 16)))] (f, l) _
  refine fl_Tq.cal rfl rfl (fl_bo rfl) rfl ?_
  refine c0_tadd_q hlt ?_
  show fl_Tq _ 70 23 [some (.inr (.inr (.inl (1, 1)))), none] [] (c0_tadd_m f (f 1 9) (c0_packAt_v f (f 1 9)) (c0_partSpread_v f), l) _
  refine fl_Tq.cI (c := (0 : Int32)) rfl (by decide +kernel) (fl_bo rfl) ?_
  refine fl_Tq.stp (pc' := 25) (lv' := [some (.inr (.inr (.inl (1, 1)))), some (.inl (0 : Int32))]) (st' := []) (m' := (c0_tadd_m f (f 1 9) (c0_packAt_v f (f 1 9)) (c0_partSpread_v f), l)) rfl rfl (fl_bo rfl) rfl ?_
  have hs25 : ∀ k : Nat, k < (f 1 5).toInt.toNat → fl_Tq (pw_P L xs) 70 25 [some (.inr (.inr (.inl (1, 1)))), some (.inl (Int32.ofNat (k + 1)))] [] (c0_sKeep_f25 f (k + 1), l) Q → fl_Tq (pw_P L xs) 70 25 [some (.inr (.inr (.inl (1, 1)))), some (.inl (Int32.ofNat k))] [] (c0_sKeep_f25 f k, l) Q := fun k hkn hS => c0_sKeep_b25_q hkn (by simp only [c0_sKeep_f25_fr (k := k) (p := 1) (fun j hj => by omega) (fun j hj => by omega) (fun j hj => by omega) (fun j hj => by omega), c0_tadd_fr (by decide : 1 ≠ 17) (by decide : 1 ≠ 16)]; exact (t2_nn hc.1)) (by omega) (by simp only [c0_sKeep_f25_fr (k := k) (p := 19 + 4 * k) (fun j hj => by omega) (fun j hj => by omega) (fun j hj => by omega) (fun j hj => by omega), c0_tadd_fr (show 19 + 4 * k ≠ 17 by omega) (show 19 + 4 * k ≠ 16 by omega), c0_sKeep_f25_fr (k := k) (p := 20 + 4 * k) (fun j hj => by omega) (fun j hj => by omega) (fun j hj => by omega) (fun j hj => by omega), c0_tadd_fr (show 20 + 4 * k ≠ 17 by omega) (show 20 + 4 * k ≠ 16 by omega), c0_sKeep_f25_fr (k := k) (p := 18 + 4 * k) (fun j hj => by omega) (fun j hj => by omega) (fun j hj => by omega) (fun j hj => by omega), c0_tadd_fr (show 18 + 4 * k ≠ 17 by omega) (show 18 + 4 * k ≠ 16 by omega)]; exact hkt k (by omega)) hS
  refine t2_for (S := fun k => fl_Tq (pw_P L xs) 70 25 [some (.inr (.inr (.inl (1, 1)))), some (.inl (Int32.ofNat k))] [] (c0_sKeep_f25 f k, l) Q) hs25 ?_
  show fl_Tq (pw_P L xs) 70 25 [some (.inr (.inr (.inl (1, 1)))), some (.inl (Int32.ofNat ((f 1 5).toInt.toNat)))] [] (c0_sKeep_f25 f ((f 1 5).toInt.toNat), l) _
  refine fl_Tq.stp (pc' := 26) (lv' := [some (.inr (.inr (.inl (1, 1)))), some (.inl (Int32.ofNat ((f 1 5).toInt.toNat)))]) (st' := [.inl (Int32.ofNat ((f 1 5).toInt.toNat))]) (m' := (c0_sKeep_f25 f ((f 1 5).toInt.toNat), l)) rfl rfl (fl_bo rfl) rfl ?_
  refine fl_Tq.stp (pc' := 27) (lv' := [some (.inr (.inr (.inl (1, 1)))), some (.inl (Int32.ofNat ((f 1 5).toInt.toNat)))]) (st' := [.inr (.inr (.inl (1, 1))), .inl (Int32.ofNat ((f 1 5).toInt.toNat))]) (m' := (c0_sKeep_f25 f ((f 1 5).toInt.toNat), l)) rfl rfl (fl_bo rfl) rfl ?_
  refine fl_Tq.gfV (k := 5) (v := f 1 5) rfl (fl_bo rfl) rfl (by simp only [c0_sKeep_f25_fr (k := (f 1 5).toInt.toNat) (p := 1) (fun j hj => by omega) (fun j hj => by omega) (fun j hj => by omega) (fun j hj => by omega), c0_tadd_fr (by decide : 1 ≠ 17) (by decide : 1 ≠ 16)]) ?_
  refine fl_Tq.jt rfl (fl_bo rfl) (c2_ge_t (t2_ln (t2_nn hc.1))) rfl ?_
  exact fl_Tq.ret rfl rfl rfl k
noncomputable def c2_passCells_b2_m (f : t2_F) (k : Nat) : t2_F := c2_pass_m f k (f 181 9)
theorem c2_passCells_b2_fr {f : t2_F} {k : Nat} {p : Nat} (e0 : p ≠ 198 + 4 * k) : c2_passCells_b2_m f k p = f p := by
  unfold c2_passCells_b2_m
  repeat' split
  all_goals first | rfl | simp only [fl_row_ne e0, c2_pass_fr e0]
theorem c2_passCells_b2_q {L : Nat} {xs : Nat → Int32} {f : t2_F} {l : t2_L} {Q : Option fl_V → fl_M → Prop} {k : Nat} {n : Nat} (hkn : k < n) (hb : (f 181 5).toInt = (n : Int)) (h16 : n ≤ 16) (hk : ∀ i : Nat, i = k → t2_cap (f (198 + 4 * i) 0)) (hS : fl_Tq (pw_P L xs) 61 2 [some (.inr (.inr (.inl (49, 181)))), some (.inl (Int32.ofNat (k + 1))), none] [] (c2_passCells_b2_m f k, l) Q) : fl_Tq (pw_P L xs) 61 2 [some (.inr (.inr (.inl (49, 181)))), some (.inl (Int32.ofNat k)), none] [] (f, l) Q := by
  refine fl_Tq.stp (pc' := 3) (lv' := [some (.inr (.inr (.inl (49, 181)))), some (.inl (Int32.ofNat k)), none]) (st' := [.inl (Int32.ofNat k)]) (m' := (f, l)) rfl rfl (fl_bo rfl) rfl ?_
  refine fl_Tq.stp (pc' := 4) (lv' := [some (.inr (.inr (.inl (49, 181)))), some (.inl (Int32.ofNat k)), none]) (st' := [.inr (.inr (.inl (49, 181))), .inl (Int32.ofNat k)]) (m' := (f, l)) rfl rfl (fl_bo rfl) rfl ?_
  refine fl_Tq.gfV (k := 5) (v := f 181 5) rfl (fl_bo rfl) rfl rfl ?_
  refine fl_Tq.jf rfl (fl_bo rfl) (c2_ge_f (t2_lk hkn hb)) rfl ?_
  refine fl_Tq.stp (pc' := 11) (lv' := [some (.inr (.inr (.inl (49, 181)))), some (.inl (Int32.ofNat k)), none]) (st' := [.inr (.inr (.inl (49, 181)))]) (m' := (f, l)) rfl rfl (fl_bo rfl) rfl ?_
  refine fl_Tq.stp (pc' := 14) (lv' := [some (.inr (.inr (.inl (49, 181)))), some (.inl (Int32.ofNat k)), none]) (st' := [.inr (.inr (.inl (50, 182)))]) (m' := (f, l)) rfl rfl (fl_bo rfl) rfl ?_
  refine fl_Tq.stp (pc' := 15) (lv' := [some (.inr (.inr (.inl (49, 181)))), some (.inl (Int32.ofNat k)), none]) (st' := [.inl (Int32.ofNat k), .inr (.inr (.inl (50, 182)))]) (m' := (f, l)) rfl rfl (fl_bo rfl) rfl ?_
  refine fl_Tq.qld (p := 182) (τ := 50) (n := 16) (t := 66) (b := 16) (d := 3) (k := k) rfl (fl_bo rfl) rfl (at_ofN (by omega)) (by omega) ?_
  show fl_Tq _ 61 16 [some (.inr (.inr (.inl (49, 181)))), some (.inl (Int32.ofNat k)), none] [.inr (.inr (.inl (66, 198 + 4 * k)))] (f, l) _
  refine fl_Tq.stp (pc' := 17) (lv' := [some (.inr (.inr (.inl (49, 181)))), some (.inl (Int32.ofNat k)), none]) (st' := [.inr (.inr (.inl (49, 181))), .inr (.inr (.inl (66, 198 + 4 * k)))]) (m' := (f, l)) rfl rfl (fl_oks_ok ⟨(t2_kc2 (by omega)), True.intro⟩) rfl ?_
  refine fl_Tq.gfV (k := 9) (v := f 181 9) rfl (fl_oks_ok ⟨fl_okp (by decide +kernel) (by decide), (t2_kc2 (by omega)), True.intro⟩) rfl rfl ?_
  refine fl_Tq.stp (pc' := 21) (lv' := [some (.inr (.inr (.inl (49, 181)))), some (.inl (Int32.ofNat k)), none]) (st' := [.inr (.inr (.inl (49, 181))), .inl (f 181 9), .inr (.inr (.inl (66, 198 + 4 * k)))]) (m' := (f, l)) rfl rfl (fl_oks_ok ⟨True.intro, (t2_kc2 (by omega)), True.intro⟩) rfl ?_
  refine fl_Tq.stp (pc' := 24) (lv' := [some (.inr (.inr (.inl (49, 181)))), some (.inl (Int32.ofNat k)), none]) (st' := [.inr (.inr (.inl (51, 183))), .inl (f 181 9), .inr (.inr (.inl (66, 198 + 4 * k)))]) (m' := (f, l)) rfl rfl (fl_oks_ok ⟨fl_okp (by decide +kernel) (by decide), True.intro, (t2_kc2 (by omega)), True.intro⟩) rfl ?_
  refine fl_Tq.cal rfl rfl (fl_oks_ok ⟨fl_okp (by decide +kernel) (by decide), True.intro, (t2_kc2 (by omega)), True.intro⟩) rfl ?_
  refine c2_pass_q (by omega) (hk k (by omega)) ?_
  show fl_Tq _ 61 27 [some (.inr (.inr (.inl (49, 181)))), some (.inl (Int32.ofNat k)), none] [] (c2_pass_m f k (f 181 9), l) _
  refine fl_Tq.stp (pc' := 30) (lv' := [some (.inr (.inr (.inl (49, 181)))), some (.inl ((Int32.ofNat k) + (1 : Int32))), none]) (st' := []) (m' := (c2_pass_m f k (f 181 9), l)) rfl rfl (fl_bo rfl) rfl ?_
  refine fl_Tq.stp (pc' := 2) (lv' := [some (.inr (.inr (.inl (49, 181)))), some (.inl ((Int32.ofNat k) + (1 : Int32))), none]) (st' := []) (m' := (c2_pass_m f k (f 181 9), l)) rfl rfl (fl_bo rfl) rfl ?_
  have em : c2_passCells_b2_m f k = c2_pass_m f k (f 181 9) := rfl
  rw [em, ← t2_k1] at hS
  exact hS
noncomputable def c2_passCells_f2 (f : t2_F)  : Nat → t2_F
  | 0 => f
  | k + 1 => c2_passCells_b2_m (c2_passCells_f2 f k) k
theorem c2_passCells_f2_fr {f : t2_F}  {p : Nat} : ∀ {k : Nat} (e0 : ∀ j : Nat, j < k → p ≠ 198 + 4 * j), c2_passCells_f2 f k p = f p := by
  intro k
  induction k with
  | zero => intros; rfl
  | succ k ih =>
    intro e0
    exact (c2_passCells_b2_fr (e0 k (by omega))).trans (ih (fun j hj => e0 j (by omega)))
noncomputable def c2_passCells_b35_m (f : t2_F) (k : Nat) : t2_F := fl_row (fl_row f (198 + 4 * k) (upd (f (198 + 4 * k)) 6 ((f (198 + 4 * k) 6) + ((((f (198 + 4 * (k + 1)) 6) - (f (198 + 4 * k) 6)) * (f 184 22)) / (256 : Int32))))) (198 + 4 * (k + 1)) (upd (f (198 + 4 * (k + 1))) 6 ((f (198 + 4 * (k + 1)) 6) - ((((f (198 + 4 * (k + 1)) 6) - (f (198 + 4 * k) 6)) * (f 184 22)) / (256 : Int32))))
theorem c2_passCells_b35_fr {f : t2_F} {k : Nat} {p : Nat} (e0 : p ≠ 198 + 4 * k) (e1 : p ≠ 198 + 4 * (k + 1)) : c2_passCells_b35_m f k p = f p := by
  unfold c2_passCells_b35_m
  repeat' split
  all_goals first | rfl | simp only [fl_row_ne e0, fl_row_ne e1]
theorem c2_passCells_b35_q {L : Nat} {xs : Nat → Int32} {f : t2_F} {l : t2_L} {Q : Option fl_V → fl_M → Prop} {k : Nat} {n : Nat} (hkn : k < n) (hb : (n : Int) = max ((f 181 5).toInt - 1) 0) (h16 : n ≤ 15) (hS : fl_Tq (pw_P L xs) 61 35 [some (.inr (.inr (.inl (49, 181)))), some (.inl (Int32.ofNat (k + 1))), none] [] (c2_passCells_b35_m f k, l) Q) : fl_Tq (pw_P L xs) 61 35 [some (.inr (.inr (.inl (49, 181)))), some (.inl (Int32.ofNat k)), none] [] (f, l) Q := by
  refine fl_Tq.stp (pc' := 36) (lv' := [some (.inr (.inr (.inl (49, 181)))), some (.inl (Int32.ofNat k)), none]) (st' := [.inl (Int32.ofNat k)]) (m' := (f, l)) rfl rfl (fl_bo rfl) rfl ?_
  refine fl_Tq.cI (c := (1 : Int32)) rfl (by decide +kernel) (fl_bo rfl) ?_
  refine fl_Tq.stp (pc' := 38) (lv' := [some (.inr (.inr (.inl (49, 181)))), some (.inl (Int32.ofNat k)), none]) (st' := [.inl ((Int32.ofNat k) + (1 : Int32))]) (m' := (f, l)) rfl rfl (fl_bo rfl) rfl ?_
  refine fl_Tq.stp (pc' := 39) (lv' := [some (.inr (.inr (.inl (49, 181)))), some (.inl (Int32.ofNat k)), none]) (st' := [.inr (.inr (.inl (49, 181))), .inl ((Int32.ofNat k) + (1 : Int32))]) (m' := (f, l)) rfl rfl (fl_bo rfl) rfl ?_
  refine fl_Tq.gfV (k := 5) (v := f 181 5) rfl (fl_bo rfl) rfl rfl ?_
  refine fl_Tq.jf rfl (fl_bo rfl) (c2_ge_f (by have e1 : (1 : Int32).toInt = 1 := (by decide +kernel); have e2 : (Int32.ofNat k).toInt = ((k : Nat) : Int) := at_ofN (by omega); rw [at_add32] <;> rw [e2, e1] <;> omega)) rfl ?_
  refine fl_Tq.stp (pc' := 46) (lv' := [some (.inr (.inr (.inl (49, 181)))), some (.inl (Int32.ofNat k)), none]) (st' := [.inr (.inr (.inl (49, 181)))]) (m' := (f, l)) rfl rfl (fl_bo rfl) rfl ?_
  refine fl_Tq.stp (pc' := 49) (lv' := [some (.inr (.inr (.inl (49, 181)))), some (.inl (Int32.ofNat k)), none]) (st' := [.inr (.inr (.inl (50, 182)))]) (m' := (f, l)) rfl rfl (fl_bo rfl) rfl ?_
  refine fl_Tq.stp (pc' := 50) (lv' := [some (.inr (.inr (.inl (49, 181)))), some (.inl (Int32.ofNat k)), none]) (st' := [.inl (Int32.ofNat k), .inr (.inr (.inl (50, 182)))]) (m' := (f, l)) rfl rfl (fl_bo rfl) rfl ?_
  refine fl_Tq.cI (c := (1 : Int32)) rfl (by decide +kernel) (fl_bo rfl) ?_
  refine fl_Tq.stp (pc' := 52) (lv' := [some (.inr (.inr (.inl (49, 181)))), some (.inl (Int32.ofNat k)), none]) (st' := [.inl ((Int32.ofNat k) + (1 : Int32)), .inr (.inr (.inl (50, 182)))]) (m' := (f, l)) rfl rfl (fl_bo rfl) rfl ?_
  refine fl_Tq.qld (p := 182) (τ := 50) (n := 16) (t := 66) (b := 16) (d := 3) (k := (k + 1)) rfl (fl_bo rfl) rfl (by have e1 : (1 : Int32).toInt = 1 := (by decide +kernel); have e2 : (Int32.ofNat k).toInt = ((k : Nat) : Int) := at_ofN (by omega); rw [at_add32] <;> rw [e2, e1] <;> omega) (by omega) ?_
  show fl_Tq _ 61 53 [some (.inr (.inr (.inl (49, 181)))), some (.inl (Int32.ofNat k)), none] [.inr (.inr (.inl (66, 198 + 4 * (k + 1))))] (f, l) _
  refine fl_Tq.gfV (k := 6) (v := f (198 + 4 * (k + 1)) 6) rfl (fl_oks_ok ⟨(t2_kc2 (by omega)), True.intro⟩) rfl rfl ?_
  refine fl_Tq.stp (pc' := 57) (lv' := [some (.inr (.inr (.inl (49, 181)))), some (.inl (Int32.ofNat k)), none]) (st' := [.inr (.inr (.inl (49, 181))), .inl (f (198 + 4 * (k + 1)) 6)]) (m' := (f, l)) rfl rfl (fl_bo rfl) rfl ?_
  refine fl_Tq.stp (pc' := 60) (lv' := [some (.inr (.inr (.inl (49, 181)))), some (.inl (Int32.ofNat k)), none]) (st' := [.inr (.inr (.inl (50, 182))), .inl (f (198 + 4 * (k + 1)) 6)]) (m' := (f, l)) rfl rfl (fl_bo rfl) rfl ?_
  refine fl_Tq.stp (pc' := 61) (lv' := [some (.inr (.inr (.inl (49, 181)))), some (.inl (Int32.ofNat k)), none]) (st' := [.inl (Int32.ofNat k), .inr (.inr (.inl (50, 182))), .inl (f (198 + 4 * (k + 1)) 6)]) (m' := (f, l)) rfl rfl (fl_bo rfl) rfl ?_
  refine fl_Tq.qld (p := 182) (τ := 50) (n := 16) (t := 66) (b := 16) (d := 3) (k := k) rfl (fl_bo rfl) rfl (at_ofN (by omega)) (by omega) ?_
  show fl_Tq _ 61 62 [some (.inr (.inr (.inl (49, 181)))), some (.inl (Int32.ofNat k)), none] [.inr (.inr (.inl (66, 198 + 4 * k))), .inl (f (198 + 4 * (k + 1)) 6)] (f, l) _
  refine fl_Tq.gfV (k := 6) (v := f (198 + 4 * k) 6) rfl (fl_oks_ok ⟨(t2_kc2 (by omega)), True.intro, True.intro⟩) rfl rfl ?_
  refine fl_Tq.stp (pc' := 66) (lv' := [some (.inr (.inr (.inl (49, 181)))), some (.inl (Int32.ofNat k)), none]) (st' := [.inl ((f (198 + 4 * (k + 1)) 6) - (f (198 + 4 * k) 6))]) (m' := (f, l)) rfl rfl (fl_bo rfl) rfl ?_
  refine fl_Tq.stp (pc' := 67) (lv' := [some (.inr (.inr (.inl (49, 181)))), some (.inl (Int32.ofNat k)), none]) (st' := [.inr (.inr (.inl (49, 181))), .inl ((f (198 + 4 * (k + 1)) 6) - (f (198 + 4 * k) 6))]) (m' := (f, l)) rfl rfl (fl_bo rfl) rfl ?_
  refine fl_Tq.stp (pc' := 70) (lv' := [some (.inr (.inr (.inl (49, 181)))), some (.inl (Int32.ofNat k)), none]) (st' := [.inr (.inr (.inl (51, 183))), .inl ((f (198 + 4 * (k + 1)) 6) - (f (198 + 4 * k) 6))]) (m' := (f, l)) rfl rfl (fl_bo rfl) rfl ?_
  refine fl_Tq.stp (pc' := 73) (lv' := [some (.inr (.inr (.inl (49, 181)))), some (.inl (Int32.ofNat k)), none]) (st' := [.inr (.inr (.inl (52, 184))), .inl ((f (198 + 4 * (k + 1)) 6) - (f (198 + 4 * k) 6))]) (m' := (f, l)) rfl rfl (fl_bo rfl) rfl ?_
  refine fl_Tq.cB (c := (22 : Int32)) rfl (by decide +kernel) (fl_bo rfl) ?_
  refine fl_Tq.ldV (p := 184) (τ := 52) (n := 30) (z := (0, 0, 0)) (k := 22) (v := f 184 22) rfl (fl_bo rfl) rfl (by decide +kernel) (by decide) rfl ?_
  refine fl_Tq.stp (pc' := 77) (lv' := [some (.inr (.inr (.inl (49, 181)))), some (.inl (Int32.ofNat k)), none]) (st' := [.inl (((f (198 + 4 * (k + 1)) 6) - (f (198 + 4 * k) 6)) * (f 184 22))]) (m' := (f, l)) rfl rfl (fl_bo rfl) rfl ?_
  refine fl_Tq.cS (c := (256 : Int32)) rfl (by decide +kernel) (fl_bo rfl) ?_
  refine fl_Tq.dv rfl (fl_bo rfl) (by decide +kernel) ?_
  refine fl_Tq.stp (pc' := 82) (lv' := [some (.inr (.inr (.inl (49, 181)))), some (.inl (Int32.ofNat k)), some (.inl ((((f (198 + 4 * (k + 1)) 6) - (f (198 + 4 * k) 6)) * (f 184 22)) / (256 : Int32)))]) (st' := []) (m' := (f, l)) rfl rfl (fl_bo rfl) rfl ?_
  refine fl_Tq.stp (pc' := 83) (lv' := [some (.inr (.inr (.inl (49, 181)))), some (.inl (Int32.ofNat k)), some (.inl ((((f (198 + 4 * (k + 1)) 6) - (f (198 + 4 * k) 6)) * (f 184 22)) / (256 : Int32)))]) (st' := [.inr (.inr (.inl (49, 181)))]) (m' := (f, l)) rfl rfl (fl_bo rfl) rfl ?_
  refine fl_Tq.stp (pc' := 86) (lv' := [some (.inr (.inr (.inl (49, 181)))), some (.inl (Int32.ofNat k)), some (.inl ((((f (198 + 4 * (k + 1)) 6) - (f (198 + 4 * k) 6)) * (f 184 22)) / (256 : Int32)))]) (st' := [.inr (.inr (.inl (50, 182)))]) (m' := (f, l)) rfl rfl (fl_bo rfl) rfl ?_
  refine fl_Tq.stp (pc' := 87) (lv' := [some (.inr (.inr (.inl (49, 181)))), some (.inl (Int32.ofNat k)), some (.inl ((((f (198 + 4 * (k + 1)) 6) - (f (198 + 4 * k) 6)) * (f 184 22)) / (256 : Int32)))]) (st' := [.inl (Int32.ofNat k), .inr (.inr (.inl (50, 182)))]) (m' := (f, l)) rfl rfl (fl_bo rfl) rfl ?_
  refine fl_Tq.qld (p := 182) (τ := 50) (n := 16) (t := 66) (b := 16) (d := 3) (k := k) rfl (fl_bo rfl) rfl (at_ofN (by omega)) (by omega) ?_
  show fl_Tq _ 61 88 [some (.inr (.inr (.inl (49, 181)))), some (.inl (Int32.ofNat k)), some (.inl ((((f (198 + 4 * (k + 1)) 6) - (f (198 + 4 * k) 6)) * (f 184 22)) / (256 : Int32)))] [.inr (.inr (.inl (66, 198 + 4 * k)))] (f, l) _
  refine fl_Tq.stp (pc' := 89) (lv' := [some (.inr (.inr (.inl (49, 181)))), some (.inl (Int32.ofNat k)), some (.inl ((((f (198 + 4 * (k + 1)) 6) - (f (198 + 4 * k) 6)) * (f 184 22)) / (256 : Int32)))]) (st' := [.inr (.inr (.inl (66, 198 + 4 * k))), .inr (.inr (.inl (66, 198 + 4 * k)))]) (m' := (f, l)) rfl rfl (fl_oks_ok ⟨(t2_kc2 (by omega)), True.intro⟩) rfl ?_
  refine fl_Tq.gfV (k := 6) (v := f (198 + 4 * k) 6) rfl (fl_oks_ok ⟨(t2_kc2 (by omega)), (t2_kc2 (by omega)), True.intro⟩) rfl rfl ?_
  refine fl_Tq.stp (pc' := 93) (lv' := [some (.inr (.inr (.inl (49, 181)))), some (.inl (Int32.ofNat k)), some (.inl ((((f (198 + 4 * (k + 1)) 6) - (f (198 + 4 * k) 6)) * (f 184 22)) / (256 : Int32)))]) (st' := [.inl ((((f (198 + 4 * (k + 1)) 6) - (f (198 + 4 * k) 6)) * (f 184 22)) / (256 : Int32)), .inl (f (198 + 4 * k) 6), .inr (.inr (.inl (66, 198 + 4 * k)))]) (m' := (f, l)) rfl rfl (fl_oks_ok ⟨True.intro, (t2_kc2 (by omega)), True.intro⟩) rfl ?_
  refine fl_Tq.stp (pc' := 94) (lv' := [some (.inr (.inr (.inl (49, 181)))), some (.inl (Int32.ofNat k)), some (.inl ((((f (198 + 4 * (k + 1)) 6) - (f (198 + 4 * k) 6)) * (f 184 22)) / (256 : Int32)))]) (st' := [.inl ((f (198 + 4 * k) 6) + ((((f (198 + 4 * (k + 1)) 6) - (f (198 + 4 * k) 6)) * (f 184 22)) / (256 : Int32))), .inr (.inr (.inl (66, 198 + 4 * k)))]) (m' := (f, l)) rfl rfl (fl_oks_ok ⟨True.intro, True.intro, (t2_kc2 (by omega)), True.intro⟩) rfl ?_
  refine fl_Tq.pfV (k := 6) (m' := (fl_row f (198 + 4 * k) (upd (f (198 + 4 * k)) 6 ((f (198 + 4 * k) 6) + ((((f (198 + 4 * (k + 1)) 6) - (f (198 + 4 * k) 6)) * (f 184 22)) / (256 : Int32)))), l)) rfl (fl_oks_ok ⟨True.intro, (t2_kc2 (by omega)), True.intro⟩) rfl (t2_upn rfl) ?_
  refine fl_Tq.stp (pc' := 98) (lv' := [some (.inr (.inr (.inl (49, 181)))), some (.inl (Int32.ofNat k)), some (.inl ((((f (198 + 4 * (k + 1)) 6) - (f (198 + 4 * k) 6)) * (f 184 22)) / (256 : Int32)))]) (st' := [.inr (.inr (.inl (49, 181)))]) (m' := (fl_row f (198 + 4 * k) (upd (f (198 + 4 * k)) 6 ((f (198 + 4 * k) 6) + ((((f (198 + 4 * (k + 1)) 6) - (f (198 + 4 * k) 6)) * (f 184 22)) / (256 : Int32)))), l)) rfl rfl (fl_bo rfl) rfl ?_
  refine fl_Tq.stp (pc' := 101) (lv' := [some (.inr (.inr (.inl (49, 181)))), some (.inl (Int32.ofNat k)), some (.inl ((((f (198 + 4 * (k + 1)) 6) - (f (198 + 4 * k) 6)) * (f 184 22)) / (256 : Int32)))]) (st' := [.inr (.inr (.inl (50, 182)))]) (m' := (fl_row f (198 + 4 * k) (upd (f (198 + 4 * k)) 6 ((f (198 + 4 * k) 6) + ((((f (198 + 4 * (k + 1)) 6) - (f (198 + 4 * k) 6)) * (f 184 22)) / (256 : Int32)))), l)) rfl rfl (fl_bo rfl) rfl ?_
  refine fl_Tq.stp (pc' := 102) (lv' := [some (.inr (.inr (.inl (49, 181)))), some (.inl (Int32.ofNat k)), some (.inl ((((f (198 + 4 * (k + 1)) 6) - (f (198 + 4 * k) 6)) * (f 184 22)) / (256 : Int32)))]) (st' := [.inl (Int32.ofNat k), .inr (.inr (.inl (50, 182)))]) (m' := (fl_row f (198 + 4 * k) (upd (f (198 + 4 * k)) 6 ((f (198 + 4 * k) 6) + ((((f (198 + 4 * (k + 1)) 6) - (f (198 + 4 * k) 6)) * (f 184 22)) / (256 : Int32)))), l)) rfl rfl (fl_bo rfl) rfl ?_
  refine fl_Tq.cI (c := (1 : Int32)) rfl (by decide +kernel) (fl_bo rfl) ?_
  refine fl_Tq.stp (pc' := 104) (lv' := [some (.inr (.inr (.inl (49, 181)))), some (.inl (Int32.ofNat k)), some (.inl ((((f (198 + 4 * (k + 1)) 6) - (f (198 + 4 * k) 6)) * (f 184 22)) / (256 : Int32)))]) (st' := [.inl ((Int32.ofNat k) + (1 : Int32)), .inr (.inr (.inl (50, 182)))]) (m' := (fl_row f (198 + 4 * k) (upd (f (198 + 4 * k)) 6 ((f (198 + 4 * k) 6) + ((((f (198 + 4 * (k + 1)) 6) - (f (198 + 4 * k) 6)) * (f 184 22)) / (256 : Int32)))), l)) rfl rfl (fl_bo rfl) rfl ?_
  refine fl_Tq.qld (p := 182) (τ := 50) (n := 16) (t := 66) (b := 16) (d := 3) (k := (k + 1)) rfl (fl_bo rfl) rfl (by have e1 : (1 : Int32).toInt = 1 := (by decide +kernel); have e2 : (Int32.ofNat k).toInt = ((k : Nat) : Int) := at_ofN (by omega); rw [at_add32] <;> rw [e2, e1] <;> omega) (by omega) ?_
  show fl_Tq _ 61 105 [some (.inr (.inr (.inl (49, 181)))), some (.inl (Int32.ofNat k)), some (.inl ((((f (198 + 4 * (k + 1)) 6) - (f (198 + 4 * k) 6)) * (f 184 22)) / (256 : Int32)))] [.inr (.inr (.inl (66, 198 + 4 * (k + 1))))] (fl_row f (198 + 4 * k) (upd (f (198 + 4 * k)) 6 ((f (198 + 4 * k) 6) + ((((f (198 + 4 * (k + 1)) 6) - (f (198 + 4 * k) 6)) * (f 184 22)) / (256 : Int32)))), l) _
  refine fl_Tq.stp (pc' := 106) (lv' := [some (.inr (.inr (.inl (49, 181)))), some (.inl (Int32.ofNat k)), some (.inl ((((f (198 + 4 * (k + 1)) 6) - (f (198 + 4 * k) 6)) * (f 184 22)) / (256 : Int32)))]) (st' := [.inr (.inr (.inl (66, 198 + 4 * (k + 1)))), .inr (.inr (.inl (66, 198 + 4 * (k + 1))))]) (m' := (fl_row f (198 + 4 * k) (upd (f (198 + 4 * k)) 6 ((f (198 + 4 * k) 6) + ((((f (198 + 4 * (k + 1)) 6) - (f (198 + 4 * k) 6)) * (f 184 22)) / (256 : Int32)))), l)) rfl rfl (fl_oks_ok ⟨(t2_kc2 (by omega)), True.intro⟩) rfl ?_
  refine fl_Tq.gfV (k := 6) (v := f (198 + 4 * (k + 1)) 6) rfl (fl_oks_ok ⟨(t2_kc2 (by omega)), (t2_kc2 (by omega)), True.intro⟩) rfl (by simp only [fl_row_ne (show 198 + 4 * (k + 1) ≠ 198 + 4 * k by omega)]) ?_
  refine fl_Tq.stp (pc' := 110) (lv' := [some (.inr (.inr (.inl (49, 181)))), some (.inl (Int32.ofNat k)), some (.inl ((((f (198 + 4 * (k + 1)) 6) - (f (198 + 4 * k) 6)) * (f 184 22)) / (256 : Int32)))]) (st' := [.inl ((((f (198 + 4 * (k + 1)) 6) - (f (198 + 4 * k) 6)) * (f 184 22)) / (256 : Int32)), .inl (f (198 + 4 * (k + 1)) 6), .inr (.inr (.inl (66, 198 + 4 * (k + 1))))]) (m' := (fl_row f (198 + 4 * k) (upd (f (198 + 4 * k)) 6 ((f (198 + 4 * k) 6) + ((((f (198 + 4 * (k + 1)) 6) - (f (198 + 4 * k) 6)) * (f 184 22)) / (256 : Int32)))), l)) rfl rfl (fl_oks_ok ⟨True.intro, (t2_kc2 (by omega)), True.intro⟩) rfl ?_
  refine fl_Tq.stp (pc' := 111) (lv' := [some (.inr (.inr (.inl (49, 181)))), some (.inl (Int32.ofNat k)), some (.inl ((((f (198 + 4 * (k + 1)) 6) - (f (198 + 4 * k) 6)) * (f 184 22)) / (256 : Int32)))]) (st' := [.inl ((f (198 + 4 * (k + 1)) 6) - ((((f (198 + 4 * (k + 1)) 6) - (f (198 + 4 * k) 6)) * (f 184 22)) / (256 : Int32))), .inr (.inr (.inl (66, 198 + 4 * (k + 1))))]) (m' := (fl_row f (198 + 4 * k) (upd (f (198 + 4 * k)) 6 ((f (198 + 4 * k) 6) + ((((f (198 + 4 * (k + 1)) 6) - (f (198 + 4 * k) 6)) * (f 184 22)) / (256 : Int32)))), l)) rfl rfl (fl_oks_ok ⟨True.intro, True.intro, (t2_kc2 (by omega)), True.intro⟩) rfl ?_
  refine fl_Tq.pfV (k := 6) (m' := (fl_row (fl_row f (198 + 4 * k) (upd (f (198 + 4 * k)) 6 ((f (198 + 4 * k) 6) + ((((f (198 + 4 * (k + 1)) 6) - (f (198 + 4 * k) 6)) * (f 184 22)) / (256 : Int32))))) (198 + 4 * (k + 1)) (upd (f (198 + 4 * (k + 1))) 6 ((f (198 + 4 * (k + 1)) 6) - ((((f (198 + 4 * (k + 1)) 6) - (f (198 + 4 * k) 6)) * (f 184 22)) / (256 : Int32)))), l)) rfl (fl_oks_ok ⟨True.intro, (t2_kc2 (by omega)), True.intro⟩) rfl (t2_upn (by rw [fl_row_ne (show 198 + 4 * (k + 1) ≠ 198 + 4 * k by omega)])) ?_
  refine fl_Tq.stp (pc' := 117) (lv' := [some (.inr (.inr (.inl (49, 181)))), some (.inl ((Int32.ofNat k) + (1 : Int32))), some (.inl ((((f (198 + 4 * (k + 1)) 6) - (f (198 + 4 * k) 6)) * (f 184 22)) / (256 : Int32)))]) (st' := []) (m' := (fl_row (fl_row f (198 + 4 * k) (upd (f (198 + 4 * k)) 6 ((f (198 + 4 * k) 6) + ((((f (198 + 4 * (k + 1)) 6) - (f (198 + 4 * k) 6)) * (f 184 22)) / (256 : Int32))))) (198 + 4 * (k + 1)) (upd (f (198 + 4 * (k + 1))) 6 ((f (198 + 4 * (k + 1)) 6) - ((((f (198 + 4 * (k + 1)) 6) - (f (198 + 4 * k) 6)) * (f 184 22)) / (256 : Int32)))), l)) rfl rfl (fl_bo rfl) rfl ?_
  refine fl_Tq.stp (pc' := 35) (lv' := [some (.inr (.inr (.inl (49, 181)))), some (.inl ((Int32.ofNat k) + (1 : Int32))), some (.inl ((((f (198 + 4 * (k + 1)) 6) - (f (198 + 4 * k) 6)) * (f 184 22)) / (256 : Int32)))]) (st' := []) (m' := (fl_row (fl_row f (198 + 4 * k) (upd (f (198 + 4 * k)) 6 ((f (198 + 4 * k) 6) + ((((f (198 + 4 * (k + 1)) 6) - (f (198 + 4 * k) 6)) * (f 184 22)) / (256 : Int32))))) (198 + 4 * (k + 1)) (upd (f (198 + 4 * (k + 1))) 6 ((f (198 + 4 * (k + 1)) 6) - ((((f (198 + 4 * (k + 1)) 6) - (f (198 + 4 * k) 6)) * (f 184 22)) / (256 : Int32)))), l)) rfl rfl (fl_bo rfl) rfl ?_
  have em : c2_passCells_b35_m f k = fl_row (fl_row f (198 + 4 * k) (upd (f (198 + 4 * k)) 6 ((f (198 + 4 * k) 6) + ((((f (198 + 4 * (k + 1)) 6) - (f (198 + 4 * k) 6)) * (f 184 22)) / (256 : Int32))))) (198 + 4 * (k + 1)) (upd (f (198 + 4 * (k + 1))) 6 ((f (198 + 4 * (k + 1)) 6) - ((((f (198 + 4 * (k + 1)) 6) - (f (198 + 4 * k) 6)) * (f 184 22)) / (256 : Int32)))) := rfl
  rw [em, ← t2_k1] at hS
  exact fl_Tq.fg hS ⟨rfl, rfl, True.intro⟩
noncomputable def c2_passCells_f35 (f : t2_F)  : Nat → t2_F
  | 0 => c2_passCells_f2 f ((f 181 5).toInt.toNat)
  | k + 1 => c2_passCells_b35_m (c2_passCells_f35 f k) k
theorem c2_passCells_f35_fr {f : t2_F}  {p : Nat} : ∀ {k : Nat} (e0 : ∀ j : Nat, j < k → p ≠ 198 + 4 * j) (e1 : ∀ j : Nat, j < k → p ≠ 198 + 4 * (j + 1)), c2_passCells_f35 f k p = (c2_passCells_f2 f ((f 181 5).toInt.toNat)) p := by
  intro k
  induction k with
  | zero => intros; rfl
  | succ k ih =>
    intro e0 e1
    exact (c2_passCells_b35_fr (e0 k (by omega)) (e1 k (by omega))).trans (ih (fun j hj => e0 j (by omega)) (fun j hj => e1 j (by omega)))
noncomputable def c2_passCells_m (f : t2_F) : t2_F := c2_passCells_f35 f ((f 181 5).toInt.toNat - 1)
theorem c2_passCells_q {L : Nat} {xs : Nat → Int32} {f : t2_F} {l : t2_L} {Q : Option fl_V → fl_M → Prop}  (hc : 0 ≤ (f 181 5).toInt ∧ (f 181 5).toInt ≤ 16) (hk : ∀ i : Nat, (i : Int) < (f 181 5).toInt → t2_cap (f (198 + 4 * i) 0)) (k : Q none (c2_passCells_m f, l)) : fl_Tq (pw_P L xs) 61 0 (fl_args (am_mxl (pw_P L xs) 61) [.inr (.inr (.inl (49, 181)))]) [] (f, l) Q := by
  refine fl_Tq.cI (c := (0 : Int32)) rfl (by decide +kernel) (fl_bo rfl) ?_
  refine fl_Tq.stp (pc' := 2) (lv' := [some (.inr (.inr (.inl (49, 181)))), some (.inl (0 : Int32)), none]) (st' := []) (m' := (f, l)) rfl rfl (fl_bo rfl) rfl ?_
  have hs2 : ∀ k : Nat, k < (f 181 5).toInt.toNat → fl_Tq (pw_P L xs) 61 2 [some (.inr (.inr (.inl (49, 181)))), some (.inl (Int32.ofNat (k + 1))), none] [] (c2_passCells_f2 f (k + 1), l) Q → fl_Tq (pw_P L xs) 61 2 [some (.inr (.inr (.inl (49, 181)))), some (.inl (Int32.ofNat k)), none] [] (c2_passCells_f2 f k, l) Q := fun k hkn hS => c2_passCells_b2_q hkn (by simp only [c2_passCells_f2_fr (k := k) (p := 181) (fun j hj => by omega)]; exact (t2_nn hc.1)) (by omega) (fun i e => by rw [e, c2_passCells_f2_fr (k := k) (p := 198 + 4 * k) (fun j hj => by omega)]; exact hk k (by omega)) hS
  refine t2_for (S := fun k => fl_Tq (pw_P L xs) 61 2 [some (.inr (.inr (.inl (49, 181)))), some (.inl (Int32.ofNat k)), none] [] (c2_passCells_f2 f k, l) Q) hs2 ?_
  show fl_Tq (pw_P L xs) 61 2 [some (.inr (.inr (.inl (49, 181)))), some (.inl (Int32.ofNat ((f 181 5).toInt.toNat))), none] [] (c2_passCells_f2 f ((f 181 5).toInt.toNat), l) _
  refine fl_Tq.stp (pc' := 3) (lv' := [some (.inr (.inr (.inl (49, 181)))), some (.inl (Int32.ofNat ((f 181 5).toInt.toNat))), none]) (st' := [.inl (Int32.ofNat ((f 181 5).toInt.toNat))]) (m' := (c2_passCells_f2 f ((f 181 5).toInt.toNat), l)) rfl rfl (fl_bo rfl) rfl ?_
  refine fl_Tq.stp (pc' := 4) (lv' := [some (.inr (.inr (.inl (49, 181)))), some (.inl (Int32.ofNat ((f 181 5).toInt.toNat))), none]) (st' := [.inr (.inr (.inl (49, 181))), .inl (Int32.ofNat ((f 181 5).toInt.toNat))]) (m' := (c2_passCells_f2 f ((f 181 5).toInt.toNat), l)) rfl rfl (fl_bo rfl) rfl ?_
  refine fl_Tq.gfV (k := 5) (v := f 181 5) rfl (fl_bo rfl) rfl (by simp only [c2_passCells_f2_fr (k := (f 181 5).toInt.toNat) (p := 181) (fun j hj => by omega)]) ?_
  refine fl_Tq.jt rfl (fl_bo rfl) (c2_ge_t (t2_ln (t2_nn hc.1))) rfl ?_
  refine fl_Tq.cI (c := (0 : Int32)) rfl (by decide +kernel) (fl_bo rfl) ?_
  refine fl_Tq.stp (pc' := 35) (lv' := [some (.inr (.inr (.inl (49, 181)))), some (.inl (0 : Int32)), none]) (st' := []) (m' := (c2_passCells_f2 f ((f 181 5).toInt.toNat), l)) rfl rfl (fl_bo rfl) rfl ?_
  have hs35 : ∀ k : Nat, k < (f 181 5).toInt.toNat - 1 → fl_Tq (pw_P L xs) 61 35 [some (.inr (.inr (.inl (49, 181)))), some (.inl (Int32.ofNat (k + 1))), none] [] (c2_passCells_f35 f (k + 1), l) Q → fl_Tq (pw_P L xs) 61 35 [some (.inr (.inr (.inl (49, 181)))), some (.inl (Int32.ofNat k)), none] [] (c2_passCells_f35 f k, l) Q := fun k hkn hS => c2_passCells_b35_q hkn (by simp only [c2_passCells_f35_fr (k := k) (p := 181) (fun j hj => by omega) (fun j hj => by omega), c2_passCells_f2_fr (k := (f 181 5).toInt.toNat) (p := 181) (fun j hj => by omega)]; exact (show ((((f 181 5).toInt.toNat - 1 : Nat)) : Int) = max ((f 181 5).toInt - 1) 0 by omega)) (by omega) hS
  refine t2_for (S := fun k => fl_Tq (pw_P L xs) 61 35 [some (.inr (.inr (.inl (49, 181)))), some (.inl (Int32.ofNat k)), none] [] (c2_passCells_f35 f k, l) Q) hs35 ?_
  show fl_Tq (pw_P L xs) 61 35 [some (.inr (.inr (.inl (49, 181)))), some (.inl (Int32.ofNat ((f 181 5).toInt.toNat - 1))), none] [] (c2_passCells_f35 f ((f 181 5).toInt.toNat - 1), l) _
  refine fl_Tq.stp (pc' := 36) (lv' := [some (.inr (.inr (.inl (49, 181)))), some (.inl (Int32.ofNat ((f 181 5).toInt.toNat - 1))), none]) (st' := [.inl (Int32.ofNat ((f 181 5).toInt.toNat - 1))]) (m' := (c2_passCells_f35 f ((f 181 5).toInt.toNat - 1), l)) rfl rfl (fl_bo rfl) rfl ?_
  refine fl_Tq.cI (c := (1 : Int32)) rfl (by decide +kernel) (fl_bo rfl) ?_
  refine fl_Tq.stp (pc' := 38) (lv' := [some (.inr (.inr (.inl (49, 181)))), some (.inl (Int32.ofNat ((f 181 5).toInt.toNat - 1))), none]) (st' := [.inl ((Int32.ofNat ((f 181 5).toInt.toNat - 1)) + (1 : Int32))]) (m' := (c2_passCells_f35 f ((f 181 5).toInt.toNat - 1), l)) rfl rfl (fl_bo rfl) rfl ?_
  refine fl_Tq.stp (pc' := 39) (lv' := [some (.inr (.inr (.inl (49, 181)))), some (.inl (Int32.ofNat ((f 181 5).toInt.toNat - 1))), none]) (st' := [.inr (.inr (.inl (49, 181))), .inl ((Int32.ofNat ((f 181 5).toInt.toNat - 1)) + (1 : Int32))]) (m' := (c2_passCells_f35 f ((f 181 5).toInt.toNat - 1), l)) rfl rfl (fl_bo rfl) rfl ?_
  refine fl_Tq.gfV (k := 5) (v := f 181 5) rfl (fl_bo rfl) rfl (by simp only [c2_passCells_f35_fr (k := (f 181 5).toInt.toNat - 1) (p := 181) (fun j hj => by omega) (fun j hj => by omega), c2_passCells_f2_fr (k := (f 181 5).toInt.toNat) (p := 181) (fun j hj => by omega)]) ?_
  refine fl_Tq.jt rfl (fl_bo rfl) (c2_ge_t (by have e1 : (1 : Int32).toInt = 1 := (by decide +kernel); have e2 : (Int32.ofNat ((f 181 5).toInt.toNat - 1)).toInt = (((f 181 5).toInt.toNat - 1 : Nat) : Int) := at_ofN (by omega); rw [at_add32] <;> rw [e2, e1] <;> omega)) rfl ?_
  exact fl_Tq.ret rfl rfl rfl k
theorem c2_passCells_fx {f : t2_F} (hc : 0 ≤ (f 181 5).toInt ∧ (f 181 5).toInt ≤ 16) {p : Nat} (hp : p < 198 ∨ 262 ≤ p) : c2_passCells_m f p = f p := by
  unfold c2_passCells_m
  rw [c2_passCells_f35_fr (fun j hj => by omega) (fun j hj => by omega), c2_passCells_f2_fr (fun j hj => by omega)]
noncomputable def c2_taper_e33 (f : t2_F) : Nat → Option t2_F
  | 0 => none
  | k33 + 1 => match c2_taper_e33 f k33 with
    | some r => some r
    | none => if (c2_voltsAt_v f k33 (f 181 9)).toInt < (f 184 23).toInt then none else some (fl_row f 184 (upd (f 184) 20 (if (((f 184 20) * (9 : Int32)) / (10 : Int32)).toInt < (100 : Int32).toInt then (0 : Int32) else ((f 184 20) * (9 : Int32)) / (10 : Int32))))
noncomputable def c2_taper_m (f : t2_F) : t2_F := if 0 < (f 184 23).toInt then (if 0 < (f 184 20).toInt then (match c2_taper_e33 f ((f 181 5).toInt.toNat) with | some r => r | none => f) else f) else f
theorem c2_taper_q {L : Nat} {xs : Nat → Int32} {f : t2_F} {l : t2_L} {Q : Option fl_V → fl_M → Prop}  (hc : 0 ≤ (f 181 5).toInt ∧ (f 181 5).toInt ≤ 16) (k : Q none (c2_taper_m f, l)) : fl_Tq (pw_P L xs) 67 0 (fl_args (am_mxl (pw_P L xs) 67) [.inr (.inr (.inl (49, 181)))]) [] (f, l) Q := by
  refine fl_Tq.stp (pc' := 1) (lv' := [some (.inr (.inr (.inl (49, 181)))), none, none, none, none]) (st' := [.inr (.inr (.inl (49, 181)))]) (m' := (f, l)) rfl rfl (fl_bo rfl) rfl ?_
  refine fl_Tq.stp (pc' := 4) (lv' := [some (.inr (.inr (.inl (49, 181)))), none, none, none, none]) (st' := [.inr (.inr (.inl (51, 183)))]) (m' := (f, l)) rfl rfl (fl_bo rfl) rfl ?_
  refine fl_Tq.stp (pc' := 7) (lv' := [some (.inr (.inr (.inl (49, 181)))), none, none, none, none]) (st' := [.inr (.inr (.inl (52, 184)))]) (m' := (f, l)) rfl rfl (fl_bo rfl) rfl ?_
  refine fl_Tq.cB (c := (23 : Int32)) rfl (by decide +kernel) (fl_bo rfl) ?_
  refine fl_Tq.ldV (p := 184) (τ := 52) (n := 30) (z := (0, 0, 0)) (k := 23) (v := f 184 23) rfl (fl_bo rfl) rfl (by decide +kernel) (by decide) rfl ?_
  refine fl_Tq.stp (pc' := 11) (lv' := [some (.inr (.inr (.inl (49, 181)))), some (.inl (f 184 23)), none, none, none]) (st' := []) (m' := (f, l)) rfl rfl (fl_bo rfl) rfl ?_
  refine fl_Tq.stp (pc' := 12) (lv' := [some (.inr (.inr (.inl (49, 181)))), some (.inl (f 184 23)), none, none, none]) (st' := [.inr (.inr (.inl (49, 181)))]) (m' := (f, l)) rfl rfl (fl_bo rfl) rfl ?_
  refine fl_Tq.stp (pc' := 15) (lv' := [some (.inr (.inr (.inl (49, 181)))), some (.inl (f 184 23)), none, none, none]) (st' := [.inr (.inr (.inl (51, 183)))]) (m' := (f, l)) rfl rfl (fl_bo rfl) rfl ?_
  refine fl_Tq.stp (pc' := 18) (lv' := [some (.inr (.inr (.inl (49, 181)))), some (.inl (f 184 23)), none, none, none]) (st' := [.inr (.inr (.inl (52, 184)))]) (m' := (f, l)) rfl rfl (fl_bo rfl) rfl ?_
  refine fl_Tq.cB (c := (20 : Int32)) rfl (by decide +kernel) (fl_bo rfl) ?_
  refine fl_Tq.ldV (p := 184) (τ := 52) (n := 30) (z := (0, 0, 0)) (k := 20) (v := f 184 20) rfl (fl_bo rfl) rfl (by decide +kernel) (by decide) rfl ?_
  refine fl_Tq.stp (pc' := 22) (lv' := [some (.inr (.inr (.inl (49, 181)))), some (.inl (f 184 23)), some (.inl (f 184 20)), none, none]) (st' := []) (m' := (f, l)) rfl rfl (fl_bo rfl) rfl ?_
  refine fl_Tq.stp (pc' := 23) (lv' := [some (.inr (.inr (.inl (49, 181)))), some (.inl (f 184 23)), some (.inl (f 184 20)), none, none]) (st' := [.inl (f 184 23)]) (m' := (f, l)) rfl rfl (fl_bo rfl) rfl ?_
  by_cases h1 : 0 < (f 184 23).toInt
  · refine fl_Tq.zf rfl (fl_bo rfl) (c1_le_f h1) rfl ?_
    refine fl_Tq.stp (pc' := 27) (lv' := [some (.inr (.inr (.inl (49, 181)))), some (.inl (f 184 23)), some (.inl (f 184 20)), none, none]) (st' := [.inl (f 184 20)]) (m' := (f, l)) rfl rfl (fl_bo rfl) rfl ?_
    by_cases h2 : 0 < (f 184 20).toInt
    · refine fl_Tq.zt rfl (fl_bo rfl) (c1_gt_t h2) rfl ?_
      refine fl_Tq.cI (c := (0 : Int32)) rfl (by decide +kernel) (fl_bo rfl) ?_
      refine fl_Tq.stp (pc' := 33) (lv' := [some (.inr (.inr (.inl (49, 181)))), some (.inl (f 184 23)), some (.inl (f 184 20)), some (.inl (0 : Int32)), none]) (st' := []) (m' := (f, l)) rfl rfl (fl_bo rfl) rfl ?_
      have hm33 : ∀ (k : Nat) (r : t2_F), c2_taper_e33 f k = some r → c2_taper_e33 f (k + 1) = some r := fun k r e => by
        unfold c2_taper_e33
        rw [e]
      have hs33 : ∀ k33 : Nat, k33 < (f 181 5).toInt.toNat → c2_taper_e33 f k33 = none → (c2_taper_e33 f (k33 + 1) = none → fl_Tq (pw_P L xs) 67 33 [some (.inr (.inr (.inl (49, 181)))), some (.inl (f 184 23)), some (.inl (f 184 20)), some (.inl (Int32.ofNat (k33 + 1))), none] [] (f, l) Q) → fl_Tq (pw_P L xs) 67 33 [some (.inr (.inr (.inl (49, 181)))), some (.inl (f 184 23)), some (.inl (f 184 20)), some (.inl (Int32.ofNat k33)), none] [] (f, l) Q := by
        intro k33 hk33 he hS
        refine fl_Tq.stp (pc' := 34) (lv' := [some (.inr (.inr (.inl (49, 181)))), some (.inl (f 184 23)), some (.inl (f 184 20)), some (.inl (Int32.ofNat k33)), none]) (st' := [.inl (Int32.ofNat k33)]) (m' := (f, l)) rfl rfl (fl_bo rfl) rfl ?_
        refine fl_Tq.stp (pc' := 35) (lv' := [some (.inr (.inr (.inl (49, 181)))), some (.inl (f 184 23)), some (.inl (f 184 20)), some (.inl (Int32.ofNat k33)), none]) (st' := [.inr (.inr (.inl (49, 181))), .inl (Int32.ofNat k33)]) (m' := (f, l)) rfl rfl (fl_bo rfl) rfl ?_
        refine fl_Tq.gfV (k := 5) (v := f 181 5) rfl (fl_bo rfl) rfl rfl ?_
        refine fl_Tq.jf rfl (fl_bo rfl) (c2_ge_f (t2_lk hk33 (t2_nn hc.1))) rfl ?_
        refine fl_Tq.stp (pc' := 42) (lv' := [some (.inr (.inr (.inl (49, 181)))), some (.inl (f 184 23)), some (.inl (f 184 20)), some (.inl (Int32.ofNat k33)), none]) (st' := [.inr (.inr (.inl (49, 181)))]) (m' := (f, l)) rfl rfl (fl_bo rfl) rfl ?_
        refine fl_Tq.stp (pc' := 45) (lv' := [some (.inr (.inr (.inl (49, 181)))), some (.inl (f 184 23)), some (.inl (f 184 20)), some (.inl (Int32.ofNat k33)), none]) (st' := [.inr (.inr (.inl (50, 182)))]) (m' := (f, l)) rfl rfl (fl_bo rfl) rfl ?_
        refine fl_Tq.stp (pc' := 46) (lv' := [some (.inr (.inr (.inl (49, 181)))), some (.inl (f 184 23)), some (.inl (f 184 20)), some (.inl (Int32.ofNat k33)), none]) (st' := [.inl (Int32.ofNat k33), .inr (.inr (.inl (50, 182)))]) (m' := (f, l)) rfl rfl (fl_bo rfl) rfl ?_
        refine fl_Tq.qld (p := 182) (τ := 50) (n := 16) (t := 66) (b := 16) (d := 3) (k := k33) rfl (fl_bo rfl) rfl (at_ofN (by omega)) (by omega) ?_
        show fl_Tq _ 67 47 [some (.inr (.inr (.inl (49, 181)))), some (.inl (f 184 23)), some (.inl (f 184 20)), some (.inl (Int32.ofNat k33)), none] [.inr (.inr (.inl (66, 198 + 4 * k33)))] (f, l) _
        refine fl_Tq.stp (pc' := 48) (lv' := [some (.inr (.inr (.inl (49, 181)))), some (.inl (f 184 23)), some (.inl (f 184 20)), some (.inl (Int32.ofNat k33)), none]) (st' := [.inr (.inr (.inl (49, 181))), .inr (.inr (.inl (66, 198 + 4 * k33)))]) (m' := (f, l)) rfl rfl (fl_oks_ok ⟨(t2_kc2 (by omega)), True.intro⟩) rfl ?_
        refine fl_Tq.gfV (k := 9) (v := f 181 9) rfl (fl_oks_ok ⟨fl_okp (by decide +kernel) (by decide), (t2_kc2 (by omega)), True.intro⟩) rfl rfl ?_
        refine fl_Tq.cal rfl rfl (fl_oks_ok ⟨True.intro, (t2_kc2 (by omega)), True.intro⟩) rfl ?_
        refine c2_voltsAt_q (by omega) ?_
        show fl_Tq _ 67 54 [some (.inr (.inr (.inl (49, 181)))), some (.inl (f 184 23)), some (.inl (f 184 20)), some (.inl (Int32.ofNat k33)), none] [.inl (c2_voltsAt_v f k33 (f 181 9))] (f, l) _
        refine fl_Tq.stp (pc' := 55) (lv' := [some (.inr (.inr (.inl (49, 181)))), some (.inl (f 184 23)), some (.inl (f 184 20)), some (.inl (Int32.ofNat k33)), none]) (st' := [.inl (f 184 23), .inl (c2_voltsAt_v f k33 (f 181 9))]) (m' := (f, l)) rfl rfl (fl_bo rfl) rfl ?_
        by_cases h3 : (c2_voltsAt_v f k33 (f 181 9)).toInt < (f 184 23).toInt
        · refine fl_Tq.jt rfl (fl_bo rfl) (c2_lt_t h3) rfl ?_
          refine fl_Tq.stp (pc' := 94) (lv' := [some (.inr (.inr (.inl (49, 181)))), some (.inl (f 184 23)), some (.inl (f 184 20)), some (.inl ((Int32.ofNat k33) + (1 : Int32))), none]) (st' := []) (m' := (f, l)) rfl rfl (fl_bo rfl) rfl ?_
          refine fl_Tq.stp (pc' := 33) (lv' := [some (.inr (.inr (.inl (49, 181)))), some (.inl (f 184 23)), some (.inl (f 184 20)), some (.inl ((Int32.ofNat k33) + (1 : Int32))), none]) (st' := []) (m' := (f, l)) rfl rfl (fl_bo rfl) rfl ?_
          have ee : c2_taper_e33 f (k33 + 1) = none := by
            unfold c2_taper_e33
            rw [he]
            simp only [if_pos h3]
          have hS := hS ee
          rw [← t2_k1] at hS
          exact hS
        · refine fl_Tq.jf rfl (fl_bo rfl) (c2_lt_f h3) rfl ?_
          refine fl_Tq.stp (pc' := 59) (lv' := [some (.inr (.inr (.inl (49, 181)))), some (.inl (f 184 23)), some (.inl (f 184 20)), some (.inl (Int32.ofNat k33)), none]) (st' := [.inl (f 184 20)]) (m' := (f, l)) rfl rfl (fl_bo rfl) rfl ?_
          refine fl_Tq.cB (c := (9 : Int32)) rfl (by decide +kernel) (fl_bo rfl) ?_
          refine fl_Tq.stp (pc' := 62) (lv' := [some (.inr (.inr (.inl (49, 181)))), some (.inl (f 184 23)), some (.inl (f 184 20)), some (.inl (Int32.ofNat k33)), none]) (st' := [.inl ((f 184 20) * (9 : Int32))]) (m' := (f, l)) rfl rfl (fl_bo rfl) rfl ?_
          refine fl_Tq.cB (c := (10 : Int32)) rfl (by decide +kernel) (fl_bo rfl) ?_
          refine fl_Tq.dv rfl (fl_bo rfl) (by decide +kernel) ?_
          refine fl_Tq.stp (pc' := 67) (lv' := [some (.inr (.inr (.inl (49, 181)))), some (.inl (f 184 23)), some (.inl (f 184 20)), some (.inl (Int32.ofNat k33)), some (.inl (((f 184 20) * (9 : Int32)) / (10 : Int32)))]) (st' := []) (m' := (f, l)) rfl rfl (fl_bo rfl) rfl ?_
          refine fl_Tq.stp (pc' := 68) (lv' := [some (.inr (.inr (.inl (49, 181)))), some (.inl (f 184 23)), some (.inl (f 184 20)), some (.inl (Int32.ofNat k33)), some (.inl (((f 184 20) * (9 : Int32)) / (10 : Int32)))]) (st' := [.inr (.inr (.inl (49, 181)))]) (m' := (f, l)) rfl rfl (fl_bo rfl) rfl ?_
          refine fl_Tq.stp (pc' := 71) (lv' := [some (.inr (.inr (.inl (49, 181)))), some (.inl (f 184 23)), some (.inl (f 184 20)), some (.inl (Int32.ofNat k33)), some (.inl (((f 184 20) * (9 : Int32)) / (10 : Int32)))]) (st' := [.inr (.inr (.inl (51, 183)))]) (m' := (f, l)) rfl rfl (fl_bo rfl) rfl ?_
          refine fl_Tq.stp (pc' := 74) (lv' := [some (.inr (.inr (.inl (49, 181)))), some (.inl (f 184 23)), some (.inl (f 184 20)), some (.inl (Int32.ofNat k33)), some (.inl (((f 184 20) * (9 : Int32)) / (10 : Int32)))]) (st' := [.inr (.inr (.inl (52, 184)))]) (m' := (f, l)) rfl rfl (fl_bo rfl) rfl ?_
          refine fl_Tq.cB (c := (20 : Int32)) rfl (by decide +kernel) (fl_bo rfl) ?_
          refine fl_Tq.stp (pc' := 78) (lv' := [some (.inr (.inr (.inl (49, 181)))), some (.inl (f 184 23)), some (.inl (f 184 20)), some (.inl (Int32.ofNat k33)), some (.inl (((f 184 20) * (9 : Int32)) / (10 : Int32)))]) (st' := [.inl (((f 184 20) * (9 : Int32)) / (10 : Int32)), .inl (20 : Int32), .inr (.inr (.inl (52, 184)))]) (m' := (f, l)) rfl rfl (fl_bo rfl) rfl ?_
          refine fl_Tq.cB (c := (100 : Int32)) rfl (by decide +kernel) (fl_bo rfl) ?_
          have hj102 : fl_Tq (pw_P L xs) 67 89 [some (.inr (.inr (.inl (49, 181)))), some (.inl (f 184 23)), some (.inl (f 184 20)), some (.inl (Int32.ofNat k33)), some (.inl (((f 184 20) * (9 : Int32)) / (10 : Int32)))] [.inl (if (((f 184 20) * (9 : Int32)) / (10 : Int32)).toInt < (100 : Int32).toInt then (0 : Int32) else ((f 184 20) * (9 : Int32)) / (10 : Int32)), .inl (20 : Int32), .inr (.inr (.inl (52, 184)))] (f, l) Q → fl_Tq (pw_P L xs) 67 80 [some (.inr (.inr (.inl (49, 181)))), some (.inl (f 184 23)), some (.inl (f 184 20)), some (.inl (Int32.ofNat k33)), some (.inl (((f 184 20) * (9 : Int32)) / (10 : Int32)))] [.inl (100 : Int32), .inl (((f 184 20) * (9 : Int32)) / (10 : Int32)), .inl (20 : Int32), .inr (.inr (.inl (52, 184)))] (f, l) Q := by
            intro hJ
            by_cases h4 : (((f 184 20) * (9 : Int32)) / (10 : Int32)).toInt < (100 : Int32).toInt
            · refine fl_Tq.jf rfl (fl_bo rfl) (c2_ge_f h4) rfl ?_
              refine fl_Tq.cI (c := (0 : Int32)) rfl (by decide +kernel) (fl_bo rfl) ?_
              refine fl_Tq.stp (pc' := 89) (lv' := [some (.inr (.inr (.inl (49, 181)))), some (.inl (f 184 23)), some (.inl (f 184 20)), some (.inl (Int32.ofNat k33)), some (.inl (((f 184 20) * (9 : Int32)) / (10 : Int32)))]) (st' := [.inl (0 : Int32), .inl (20 : Int32), .inr (.inr (.inl (52, 184)))]) (m' := (f, l)) rfl rfl (fl_bo rfl) rfl ?_
              have e0 : (if (((f 184 20) * (9 : Int32)) / (10 : Int32)).toInt < (100 : Int32).toInt then (0 : Int32) else ((f 184 20) * (9 : Int32)) / (10 : Int32)) = (0 : Int32) := by simp only [if_pos h4]
              rw [e0] at hJ
              exact hJ
            · refine fl_Tq.jt rfl (fl_bo rfl) (c2_ge_t h4) rfl ?_
              refine fl_Tq.stp (pc' := 89) (lv' := [some (.inr (.inr (.inl (49, 181)))), some (.inl (f 184 23)), some (.inl (f 184 20)), some (.inl (Int32.ofNat k33)), some (.inl (((f 184 20) * (9 : Int32)) / (10 : Int32)))]) (st' := [.inl (((f 184 20) * (9 : Int32)) / (10 : Int32)), .inl (20 : Int32), .inr (.inr (.inl (52, 184)))]) (m' := (f, l)) rfl rfl (fl_bo rfl) rfl ?_
              have e0 : (if (((f 184 20) * (9 : Int32)) / (10 : Int32)).toInt < (100 : Int32).toInt then (0 : Int32) else ((f 184 20) * (9 : Int32)) / (10 : Int32)) = ((f 184 20) * (9 : Int32)) / (10 : Int32) := by simp only [if_neg h4]
              rw [e0] at hJ
              exact hJ
          refine hj102 ?_
          show fl_Tq _ 67 89 [some (.inr (.inr (.inl (49, 181)))), some (.inl (f 184 23)), some (.inl (f 184 20)), some (.inl (Int32.ofNat k33)), some (.inl (((f 184 20) * (9 : Int32)) / (10 : Int32)))] [.inl (if (((f 184 20) * (9 : Int32)) / (10 : Int32)).toInt < (100 : Int32).toInt then (0 : Int32) else ((f 184 20) * (9 : Int32)) / (10 : Int32)), .inl (20 : Int32), .inr (.inr (.inl (52, 184)))] (f, l) _
          refine fl_Tq.svV (p := 184) (τ := 52) (n := 30) (z := (0, 0, 0)) (k := 20) (m' := (fl_row f 184 (upd (f 184) 20 (if (((f 184 20) * (9 : Int32)) / (10 : Int32)).toInt < (100 : Int32).toInt then (0 : Int32) else ((f 184 20) * (9 : Int32)) / (10 : Int32))), l)) rfl (fl_bo rfl) rfl (by decide +kernel) (by decide) (t2_upn rfl) ?_
          have ee : c2_taper_e33 f (k33 + 1) = some (fl_row f 184 (upd (f 184) 20 (if (((f 184 20) * (9 : Int32)) / (10 : Int32)).toInt < (100 : Int32).toInt then (0 : Int32) else ((f 184 20) * (9 : Int32)) / (10 : Int32)))) := by
            unfold c2_taper_e33
            rw [he]
            simp only [if_neg h3]
          have en : c2_taper_e33 f ((f 181 5).toInt.toNat) = some (fl_row f 184 (upd (f 184) 20 (if (((f 184 20) * (9 : Int32)) / (10 : Int32)).toInt < (100 : Int32).toInt then (0 : Int32) else ((f 184 20) * (9 : Int32)) / (10 : Int32)))) := t2_Em hm33 ee (by omega)
          refine fl_Tq.ret rfl rfl rfl ?_
          unfold c2_taper_m at k
          simp only [if_pos h1, if_pos h2, en] at k
          exact k
      refine t2_forE (E := c2_taper_e33 f) (S := fun k33 => fl_Tq (pw_P L xs) 67 33 [some (.inr (.inr (.inl (49, 181)))), some (.inl (f 184 23)), some (.inl (f 184 20)), some (.inl (Int32.ofNat k33)), none] [] (f, l) Q) hs33 rfl (fun en33 => ?_)
      show fl_Tq (pw_P L xs) 67 33 [some (.inr (.inr (.inl (49, 181)))), some (.inl (f 184 23)), some (.inl (f 184 20)), some (.inl (Int32.ofNat ((f 181 5).toInt.toNat))), none] [] (f, l) _
      refine fl_Tq.stp (pc' := 34) (lv' := [some (.inr (.inr (.inl (49, 181)))), some (.inl (f 184 23)), some (.inl (f 184 20)), some (.inl (Int32.ofNat ((f 181 5).toInt.toNat))), none]) (st' := [.inl (Int32.ofNat ((f 181 5).toInt.toNat))]) (m' := (f, l)) rfl rfl (fl_bo rfl) rfl ?_
      refine fl_Tq.stp (pc' := 35) (lv' := [some (.inr (.inr (.inl (49, 181)))), some (.inl (f 184 23)), some (.inl (f 184 20)), some (.inl (Int32.ofNat ((f 181 5).toInt.toNat))), none]) (st' := [.inr (.inr (.inl (49, 181))), .inl (Int32.ofNat ((f 181 5).toInt.toNat))]) (m' := (f, l)) rfl rfl (fl_bo rfl) rfl ?_
      refine fl_Tq.gfV (k := 5) (v := f 181 5) rfl (fl_bo rfl) rfl rfl ?_
      refine fl_Tq.jt rfl (fl_bo rfl) (c2_ge_t (t2_ln (t2_nn hc.1))) rfl ?_
      refine fl_Tq.ret rfl rfl rfl ?_
      unfold c2_taper_m at k
      simp only [if_pos h1, if_pos h2, en33] at k
      exact k
    · refine fl_Tq.zf rfl (fl_bo rfl) (c1_gt_f h2) rfl ?_
      refine fl_Tq.ret rfl rfl rfl ?_
      unfold c2_taper_m at k
      simp only [if_pos h1, if_neg h2] at k
      exact k
  · refine fl_Tq.zt rfl (fl_bo rfl) (c1_le_t h1) rfl ?_
    refine fl_Tq.ret rfl rfl rfl ?_
    unfold c2_taper_m at k
    simp only [if_neg h1] at k
    exact k
theorem c2_taper_efr {f : t2_F} {p : Nat} (hp : p ≠ 184) : ∀ (k : Nat) (r : t2_F), c2_taper_e33 f k = some r → r p = f p := by
  intro k
  induction k with
  | zero => intro r h; cases h
  | succ k ih =>
    intro r h
    unfold c2_taper_e33 at h
    split at h
    · rename_i r' e
      cases h
      exact ih _ e
    · repeat' split at h
      all_goals first | (cases h; done) | (cases h; exact fl_row_ne hp)
theorem c2_taper_fx {f : t2_F} {p : Nat} (hp : p ≠ 184) : c2_taper_m f p = f p := by
  unfold c2_taper_m
  split
  · split
    · cases e : c2_taper_e33 f ((f 181 5).toInt.toNat) with
      | none => rfl
      | some r => exact c2_taper_efr hp _ _ e
    · rfl
  · rfl
noncomputable def c2_sMeasure_j5_0 (f : t2_F)  : Int32 := if (f 181 9).toInt = 0 then (f 181 12) + (1 : Int32) else (0 : Int32)
noncomputable def c2_sMeasure_j35_0 (f : t2_F)  : Int32 := if (c2_sMeasure_j5_0 f).toInt = (f 184 19).toInt then (1 : Int32) else (0 : Int32)
noncomputable def c2_sMeasure_b46_m (f : t2_F) (z : Int32) (k : Nat) : t2_F := if z.toInt = 0 then c2_measure_m f k (f 181 9) (f 181 10) else c2_reckonAtRest_m (c2_measure_m f k (f 181 9) (f 181 10)) k
theorem c2_sMeasure_b46_fr {f : t2_F} {z : Int32} {k : Nat} {p : Nat} (e0 : p ≠ 198 + 4 * k) : c2_sMeasure_b46_m f z k p = f p := by
  unfold c2_sMeasure_b46_m
  repeat' split
  all_goals first | rfl | (simp only [fl_row_ne e0, c2_measure_fr e0, c2_reckonAtRest_fr e0]; done) | (simp only [fl_row_ne e0, c2_measure_fr e0, c2_reckonAtRest_fr e0]; split <;> simp only [fl_row_ne e0, c2_measure_fr e0, c2_reckonAtRest_fr e0])
theorem c2_sMeasure_b46_q {L : Nat} {xs : Nat → Int32} {f : t2_F} {l : t2_L} {Q : Option fl_V → fl_M → Prop} {z : Int32} {k : Nat} {n : Nat} (hkn : k < n) (hb : (f 181 5).toInt = (n : Int)) (h16 : n ≤ 16) (hS : fl_Tq (pw_P L xs) 66 46 [some (.inr (.inr (.inl (49, 181)))), some (.inl z), some (.inl (Int32.ofNat (k + 1)))] [] (c2_sMeasure_b46_m f z k, l) Q) : fl_Tq (pw_P L xs) 66 46 [some (.inr (.inr (.inl (49, 181)))), some (.inl z), some (.inl (Int32.ofNat k))] [] (f, l) Q := by
  refine fl_Tq.stp (pc' := 47) (lv' := [some (.inr (.inr (.inl (49, 181)))), some (.inl z), some (.inl (Int32.ofNat k))]) (st' := [.inl (Int32.ofNat k)]) (m' := (f, l)) rfl rfl (fl_bo rfl) rfl ?_
  refine fl_Tq.stp (pc' := 48) (lv' := [some (.inr (.inr (.inl (49, 181)))), some (.inl z), some (.inl (Int32.ofNat k))]) (st' := [.inr (.inr (.inl (49, 181))), .inl (Int32.ofNat k)]) (m' := (f, l)) rfl rfl (fl_bo rfl) rfl ?_
  refine fl_Tq.gfV (k := 5) (v := f 181 5) rfl (fl_bo rfl) rfl rfl ?_
  refine fl_Tq.jf rfl (fl_bo rfl) (c2_ge_f (t2_lk hkn hb)) rfl ?_
  refine fl_Tq.stp (pc' := 55) (lv' := [some (.inr (.inr (.inl (49, 181)))), some (.inl z), some (.inl (Int32.ofNat k))]) (st' := [.inr (.inr (.inl (49, 181)))]) (m' := (f, l)) rfl rfl (fl_bo rfl) rfl ?_
  refine fl_Tq.stp (pc' := 58) (lv' := [some (.inr (.inr (.inl (49, 181)))), some (.inl z), some (.inl (Int32.ofNat k))]) (st' := [.inr (.inr (.inl (50, 182)))]) (m' := (f, l)) rfl rfl (fl_bo rfl) rfl ?_
  refine fl_Tq.stp (pc' := 59) (lv' := [some (.inr (.inr (.inl (49, 181)))), some (.inl z), some (.inl (Int32.ofNat k))]) (st' := [.inl (Int32.ofNat k), .inr (.inr (.inl (50, 182)))]) (m' := (f, l)) rfl rfl (fl_bo rfl) rfl ?_
  refine fl_Tq.qld (p := 182) (τ := 50) (n := 16) (t := 66) (b := 16) (d := 3) (k := k) rfl (fl_bo rfl) rfl (at_ofN (by omega)) (by omega) ?_
  show fl_Tq _ 66 60 [some (.inr (.inr (.inl (49, 181)))), some (.inl z), some (.inl (Int32.ofNat k))] [.inr (.inr (.inl (66, 198 + 4 * k)))] (f, l) _
  refine fl_Tq.stp (pc' := 61) (lv' := [some (.inr (.inr (.inl (49, 181)))), some (.inl z), some (.inl (Int32.ofNat k))]) (st' := [.inr (.inr (.inl (49, 181))), .inr (.inr (.inl (66, 198 + 4 * k)))]) (m' := (f, l)) rfl rfl (fl_oks_ok ⟨(t2_kc2 (by omega)), True.intro⟩) rfl ?_
  refine fl_Tq.gfV (k := 9) (v := f 181 9) rfl (fl_oks_ok ⟨fl_okp (by decide +kernel) (by decide), (t2_kc2 (by omega)), True.intro⟩) rfl rfl ?_
  refine fl_Tq.stp (pc' := 65) (lv' := [some (.inr (.inr (.inl (49, 181)))), some (.inl z), some (.inl (Int32.ofNat k))]) (st' := [.inr (.inr (.inl (49, 181))), .inl (f 181 9), .inr (.inr (.inl (66, 198 + 4 * k)))]) (m' := (f, l)) rfl rfl (fl_oks_ok ⟨True.intro, (t2_kc2 (by omega)), True.intro⟩) rfl ?_
  refine fl_Tq.gfV (k := 10) (v := f 181 10) rfl (fl_oks_ok ⟨fl_okp (by decide +kernel) (by decide), True.intro, (t2_kc2 (by omega)), True.intro⟩) rfl rfl ?_
  refine fl_Tq.cal rfl rfl (fl_oks_ok ⟨True.intro, True.intro, (t2_kc2 (by omega)), True.intro⟩) rfl ?_
  refine c2_measure_q (by omega) ?_
  show fl_Tq _ 66 71 [some (.inr (.inr (.inl (49, 181)))), some (.inl z), some (.inl (Int32.ofNat k))] [] (c2_measure_m f k (f 181 9) (f 181 10), l) _
  refine fl_Tq.stp (pc' := 72) (lv' := [some (.inr (.inr (.inl (49, 181)))), some (.inl z), some (.inl (Int32.ofNat k))]) (st' := [.inl z]) (m' := (c2_measure_m f k (f 181 9) (f 181 10), l)) rfl rfl (fl_bo rfl) rfl ?_
  have hj105 : fl_Tq (pw_P L xs) 66 84 [some (.inr (.inr (.inl (49, 181)))), some (.inl z), some (.inl (Int32.ofNat k))] [] (if z.toInt = 0 then c2_measure_m f k (f 181 9) (f 181 10) else c2_reckonAtRest_m (c2_measure_m f k (f 181 9) (f 181 10)) k, l) Q → fl_Tq (pw_P L xs) 66 72 [some (.inr (.inr (.inl (49, 181)))), some (.inl z), some (.inl (Int32.ofNat k))] [.inl z] (c2_measure_m f k (f 181 9) (f 181 10), l) Q := by
    intro hJ
    by_cases h3 : z.toInt = 0
    · refine fl_Tq.zt rfl (fl_bo rfl) (c1_eq_t h3) rfl ?_
      have e0 : (if z.toInt = 0 then c2_measure_m f k (f 181 9) (f 181 10) else c2_reckonAtRest_m (c2_measure_m f k (f 181 9) (f 181 10)) k) = c2_measure_m f k (f 181 9) (f 181 10) := by simp only [if_pos h3]
      rw [e0] at hJ
      exact hJ
    · refine fl_Tq.zf rfl (fl_bo rfl) (c1_eq_f h3) rfl ?_
      refine fl_Tq.stp (pc' := 76) (lv' := [some (.inr (.inr (.inl (49, 181)))), some (.inl z), some (.inl (Int32.ofNat k))]) (st' := [.inr (.inr (.inl (49, 181)))]) (m' := (c2_measure_m f k (f 181 9) (f 181 10), l)) rfl rfl (fl_bo rfl) rfl ?_
      refine fl_Tq.stp (pc' := 79) (lv' := [some (.inr (.inr (.inl (49, 181)))), some (.inl z), some (.inl (Int32.ofNat k))]) (st' := [.inr (.inr (.inl (50, 182)))]) (m' := (c2_measure_m f k (f 181 9) (f 181 10), l)) rfl rfl (fl_bo rfl) rfl ?_
      refine fl_Tq.stp (pc' := 80) (lv' := [some (.inr (.inr (.inl (49, 181)))), some (.inl z), some (.inl (Int32.ofNat k))]) (st' := [.inl (Int32.ofNat k), .inr (.inr (.inl (50, 182)))]) (m' := (c2_measure_m f k (f 181 9) (f 181 10), l)) rfl rfl (fl_bo rfl) rfl ?_
      refine fl_Tq.qld (p := 182) (τ := 50) (n := 16) (t := 66) (b := 16) (d := 3) (k := k) rfl (fl_bo rfl) rfl (at_ofN (by omega)) (by omega) ?_
      show fl_Tq _ 66 81 [some (.inr (.inr (.inl (49, 181)))), some (.inl z), some (.inl (Int32.ofNat k))] [.inr (.inr (.inl (66, 198 + 4 * k)))] (c2_measure_m f k (f 181 9) (f 181 10), l) _
      refine fl_Tq.cal rfl rfl (fl_oks_ok ⟨(t2_kc2 (by omega)), True.intro⟩) rfl ?_
      refine c2_reckonAtRest_q (by omega) ?_
      show fl_Tq _ 66 84 [some (.inr (.inr (.inl (49, 181)))), some (.inl z), some (.inl (Int32.ofNat k))] [] (c2_reckonAtRest_m (c2_measure_m f k (f 181 9) (f 181 10)) k, l) _
      have e0 : (if z.toInt = 0 then c2_measure_m f k (f 181 9) (f 181 10) else c2_reckonAtRest_m (c2_measure_m f k (f 181 9) (f 181 10)) k) = c2_reckonAtRest_m (c2_measure_m f k (f 181 9) (f 181 10)) k := by simp only [if_neg h3]
      rw [e0] at hJ
      exact hJ
  refine hj105 ?_
  show fl_Tq _ 66 84 [some (.inr (.inr (.inl (49, 181)))), some (.inl z), some (.inl (Int32.ofNat k))] [] (if z.toInt = 0 then c2_measure_m f k (f 181 9) (f 181 10) else c2_reckonAtRest_m (c2_measure_m f k (f 181 9) (f 181 10)) k, l) _
  refine fl_Tq.stp (pc' := 87) (lv' := [some (.inr (.inr (.inl (49, 181)))), some (.inl z), some (.inl ((Int32.ofNat k) + (1 : Int32)))]) (st' := []) (m' := (if z.toInt = 0 then c2_measure_m f k (f 181 9) (f 181 10) else c2_reckonAtRest_m (c2_measure_m f k (f 181 9) (f 181 10)) k, l)) rfl rfl (fl_bo rfl) rfl ?_
  refine fl_Tq.stp (pc' := 46) (lv' := [some (.inr (.inr (.inl (49, 181)))), some (.inl z), some (.inl ((Int32.ofNat k) + (1 : Int32)))]) (st' := []) (m' := (if z.toInt = 0 then c2_measure_m f k (f 181 9) (f 181 10) else c2_reckonAtRest_m (c2_measure_m f k (f 181 9) (f 181 10)) k, l)) rfl rfl (fl_bo rfl) rfl ?_
  have em : c2_sMeasure_b46_m f z k = if z.toInt = 0 then c2_measure_m f k (f 181 9) (f 181 10) else c2_reckonAtRest_m (c2_measure_m f k (f 181 9) (f 181 10)) k := rfl
  rw [em, ← t2_k1] at hS
  exact hS
noncomputable def c2_sMeasure_f46 (f : t2_F)  : Nat → t2_F
  | 0 => fl_row f 181 (upd (f 181) 12 (c2_sMeasure_j5_0 f))
  | k + 1 => c2_sMeasure_b46_m (c2_sMeasure_f46 f k) (c2_sMeasure_j35_0 f) k
theorem c2_sMeasure_f46_fr {f : t2_F}  {p : Nat} : ∀ {k : Nat} (e0 : ∀ j : Nat, j < k → p ≠ 198 + 4 * j), c2_sMeasure_f46 f k p = (fl_row f 181 (upd (f 181) 12 (c2_sMeasure_j5_0 f))) p := by
  intro k
  induction k with
  | zero => intros; rfl
  | succ k ih =>
    intro e0
    exact (c2_sMeasure_b46_fr (z := c2_sMeasure_j35_0 f) (k := k) (e0 k (by omega))).trans (ih (fun j hj => e0 j (by omega)))
noncomputable def c2_sMeasure_j95_0 (f : t2_F)  : Int32 := if (c2_areActual_v (c2_sMeasure_f46 f ((f 181 5).toInt.toNat)) (5 : Int32)).toInt = 0 then (c2_sMeasure_f46 f ((f 181 5).toInt.toNat)) 181 8 else c2_packAt_v (c2_sMeasure_f46 f ((f 181 5).toInt.toNat)) (f 181 9)
noncomputable def c2_sMeasure_m (f : t2_F) : t2_F := if (f 181 7).toInt = (2 : Int32).toInt then c2_taper_m (fl_row (c2_sMeasure_f46 f ((f 181 5).toInt.toNat)) 181 (upd ((c2_sMeasure_f46 f ((f 181 5).toInt.toNat)) 181) 8 (c2_sMeasure_j95_0 f))) else fl_row (c2_sMeasure_f46 f ((f 181 5).toInt.toNat)) 181 (upd ((c2_sMeasure_f46 f ((f 181 5).toInt.toNat)) 181) 8 (c2_sMeasure_j95_0 f))
theorem c2_sMeasure_q {L : Nat} {xs : Nat → Int32} {f : t2_F} {l : t2_L} {Q : Option fl_V → fl_M → Prop}  (hc : 0 ≤ (f 181 5).toInt ∧ (f 181 5).toInt ≤ 16) (k : Q none (c2_sMeasure_m f, l)) : fl_Tq (pw_P L xs) 66 0 (fl_args (am_mxl (pw_P L xs) 66) [.inr (.inr (.inl (49, 181)))]) [] (f, l) Q := by
  refine fl_Tq.stp (pc' := 1) (lv' := [some (.inr (.inr (.inl (49, 181)))), none, none]) (st' := [.inr (.inr (.inl (49, 181)))]) (m' := (f, l)) rfl rfl (fl_bo rfl) rfl ?_
  refine fl_Tq.stp (pc' := 2) (lv' := [some (.inr (.inr (.inl (49, 181)))), none, none]) (st' := [.inr (.inr (.inl (49, 181))), .inr (.inr (.inl (49, 181)))]) (m' := (f, l)) rfl rfl (fl_bo rfl) rfl ?_
  refine fl_Tq.gfV (k := 9) (v := f 181 9) rfl (fl_bo rfl) rfl rfl ?_
  have hj103 : fl_Tq (pw_P L xs) 66 18 [some (.inr (.inr (.inl (49, 181)))), none, none] [.inl (c2_sMeasure_j5_0 f), .inr (.inr (.inl (49, 181)))] (f, l) Q → fl_Tq (pw_P L xs) 66 5 [some (.inr (.inr (.inl (49, 181)))), none, none] [.inl (f 181 9), .inr (.inr (.inl (49, 181)))] (f, l) Q := by
    intro hJ
    by_cases h1 : (f 181 9).toInt = 0
    · refine fl_Tq.zf rfl (fl_bo rfl) (c1_ne_f h1) rfl ?_
      refine fl_Tq.stp (pc' := 9) (lv' := [some (.inr (.inr (.inl (49, 181)))), none, none]) (st' := [.inr (.inr (.inl (49, 181))), .inr (.inr (.inl (49, 181)))]) (m' := (f, l)) rfl rfl (fl_bo rfl) rfl ?_
      refine fl_Tq.gfV (k := 12) (v := f 181 12) rfl (fl_bo rfl) rfl rfl ?_
      refine fl_Tq.cI (c := (1 : Int32)) rfl (by decide +kernel) (fl_bo rfl) ?_
      refine fl_Tq.stp (pc' := 14) (lv' := [some (.inr (.inr (.inl (49, 181)))), none, none]) (st' := [.inl ((f 181 12) + (1 : Int32)), .inr (.inr (.inl (49, 181)))]) (m' := (f, l)) rfl rfl (fl_bo rfl) rfl ?_
      refine fl_Tq.stp (pc' := 18) (lv' := [some (.inr (.inr (.inl (49, 181)))), none, none]) (st' := [.inl ((f 181 12) + (1 : Int32)), .inr (.inr (.inl (49, 181)))]) (m' := (f, l)) rfl rfl (fl_bo rfl) rfl ?_
      have e0 : (c2_sMeasure_j5_0 f) = (f 181 12) + (1 : Int32) := by simp only [c2_sMeasure_j5_0, if_pos h1]
      rw [e0] at hJ
      exact hJ
    · refine fl_Tq.zt rfl (fl_bo rfl) (c1_ne_t h1) rfl ?_
      refine fl_Tq.cI (c := (0 : Int32)) rfl (by decide +kernel) (fl_bo rfl) ?_
      have e0 : (c2_sMeasure_j5_0 f) = (0 : Int32) := by simp only [c2_sMeasure_j5_0, if_neg h1]
      rw [e0] at hJ
      exact hJ
  refine hj103 ?_
  show fl_Tq _ 66 18 [some (.inr (.inr (.inl (49, 181)))), none, none] [.inl (c2_sMeasure_j5_0 f), .inr (.inr (.inl (49, 181)))] (f, l) _
  refine fl_Tq.pfV (k := 12) (m' := (fl_row f 181 (upd (f 181) 12 (c2_sMeasure_j5_0 f)), l)) rfl (fl_bo rfl) rfl (t2_upn rfl) ?_
  refine fl_Tq.stp (pc' := 22) (lv' := [some (.inr (.inr (.inl (49, 181)))), none, none]) (st' := [.inr (.inr (.inl (49, 181)))]) (m' := (fl_row f 181 (upd (f 181) 12 (c2_sMeasure_j5_0 f)), l)) rfl rfl (fl_bo rfl) rfl ?_
  refine fl_Tq.gfV (k := 12) (v := c2_sMeasure_j5_0 f) rfl (fl_bo rfl) rfl (by simp only [fl_row_self, upd_self]) ?_
  refine fl_Tq.stp (pc' := 26) (lv' := [some (.inr (.inr (.inl (49, 181)))), none, none]) (st' := [.inr (.inr (.inl (49, 181))), .inl (c2_sMeasure_j5_0 f)]) (m' := (fl_row f 181 (upd (f 181) 12 (c2_sMeasure_j5_0 f)), l)) rfl rfl (fl_bo rfl) rfl ?_
  refine fl_Tq.stp (pc' := 29) (lv' := [some (.inr (.inr (.inl (49, 181)))), none, none]) (st' := [.inr (.inr (.inl (51, 183))), .inl (c2_sMeasure_j5_0 f)]) (m' := (fl_row f 181 (upd (f 181) 12 (c2_sMeasure_j5_0 f)), l)) rfl rfl (fl_bo rfl) rfl ?_
  refine fl_Tq.stp (pc' := 32) (lv' := [some (.inr (.inr (.inl (49, 181)))), none, none]) (st' := [.inr (.inr (.inl (52, 184))), .inl (c2_sMeasure_j5_0 f)]) (m' := (fl_row f 181 (upd (f 181) 12 (c2_sMeasure_j5_0 f)), l)) rfl rfl (fl_bo rfl) rfl ?_
  refine fl_Tq.cB (c := (19 : Int32)) rfl (by decide +kernel) (fl_bo rfl) ?_
  refine fl_Tq.ldV (p := 184) (τ := 52) (n := 30) (z := (0, 0, 0)) (k := 19) (v := f 184 19) rfl (fl_bo rfl) rfl (by decide +kernel) (by decide) (by simp only [fl_row_ne (by decide : 184 ≠ 181)]) ?_
  have hj104 : fl_Tq (pw_P L xs) 66 43 [some (.inr (.inr (.inl (49, 181)))), none, none] [.inl (c2_sMeasure_j35_0 f)] (fl_row f 181 (upd (f 181) 12 (c2_sMeasure_j5_0 f)), l) Q → fl_Tq (pw_P L xs) 66 35 [some (.inr (.inr (.inl (49, 181)))), none, none] [.inl (f 184 19), .inl (c2_sMeasure_j5_0 f)] (fl_row f 181 (upd (f 181) 12 (c2_sMeasure_j5_0 f)), l) Q := by
    intro hJ
    by_cases h2 : (c2_sMeasure_j5_0 f).toInt = (f 184 19).toInt
    · refine fl_Tq.jf rfl (fl_bo rfl) (c2_ne_f h2) rfl ?_
      refine fl_Tq.cI (c := (1 : Int32)) rfl (by decide +kernel) (fl_bo rfl) ?_
      refine fl_Tq.stp (pc' := 43) (lv' := [some (.inr (.inr (.inl (49, 181)))), none, none]) (st' := [.inl (1 : Int32)]) (m' := (fl_row f 181 (upd (f 181) 12 (c2_sMeasure_j5_0 f)), l)) rfl rfl (fl_bo rfl) rfl ?_
      have e0 : (c2_sMeasure_j35_0 f) = (1 : Int32) := by simp only [c2_sMeasure_j35_0, if_pos h2]
      rw [e0] at hJ
      exact hJ
    · refine fl_Tq.jt rfl (fl_bo rfl) (c2_ne_t h2) rfl ?_
      refine fl_Tq.cI (c := (0 : Int32)) rfl (by decide +kernel) (fl_bo rfl) ?_
      have e0 : (c2_sMeasure_j35_0 f) = (0 : Int32) := by simp only [c2_sMeasure_j35_0, if_neg h2]
      rw [e0] at hJ
      exact hJ
  refine hj104 ?_
  show fl_Tq _ 66 43 [some (.inr (.inr (.inl (49, 181)))), none, none] [.inl (c2_sMeasure_j35_0 f)] (fl_row f 181 (upd (f 181) 12 (c2_sMeasure_j5_0 f)), l) _
  refine fl_Tq.stp (pc' := 44) (lv' := [some (.inr (.inr (.inl (49, 181)))), some (.inl (c2_sMeasure_j35_0 f)), none]) (st' := []) (m' := (fl_row f 181 (upd (f 181) 12 (c2_sMeasure_j5_0 f)), l)) rfl rfl (fl_bo rfl) rfl ?_
  refine fl_Tq.cI (c := (0 : Int32)) rfl (by decide +kernel) (fl_bo rfl) ?_
  refine fl_Tq.stp (pc' := 46) (lv' := [some (.inr (.inr (.inl (49, 181)))), some (.inl (c2_sMeasure_j35_0 f)), some (.inl (0 : Int32))]) (st' := []) (m' := (fl_row f 181 (upd (f 181) 12 (c2_sMeasure_j5_0 f)), l)) rfl rfl (fl_bo rfl) rfl ?_
  have hs46 : ∀ k : Nat, k < (f 181 5).toInt.toNat → fl_Tq (pw_P L xs) 66 46 [some (.inr (.inr (.inl (49, 181)))), some (.inl (c2_sMeasure_j35_0 f)), some (.inl (Int32.ofNat (k + 1)))] [] (c2_sMeasure_f46 f (k + 1), l) Q → fl_Tq (pw_P L xs) 66 46 [some (.inr (.inr (.inl (49, 181)))), some (.inl (c2_sMeasure_j35_0 f)), some (.inl (Int32.ofNat k))] [] (c2_sMeasure_f46 f k, l) Q := fun k hkn hS => c2_sMeasure_b46_q hkn (by simp only [c2_sMeasure_f46_fr (k := k) (p := 181) (fun j hj => by omega), fl_row_self, upd_ne (by decide : 5 ≠ 12)]; exact (t2_nn hc.1)) (by omega) hS
  refine t2_for (S := fun k => fl_Tq (pw_P L xs) 66 46 [some (.inr (.inr (.inl (49, 181)))), some (.inl (c2_sMeasure_j35_0 f)), some (.inl (Int32.ofNat k))] [] (c2_sMeasure_f46 f k, l) Q) hs46 ?_
  show fl_Tq (pw_P L xs) 66 46 [some (.inr (.inr (.inl (49, 181)))), some (.inl (c2_sMeasure_j35_0 f)), some (.inl (Int32.ofNat ((f 181 5).toInt.toNat)))] [] (c2_sMeasure_f46 f ((f 181 5).toInt.toNat), l) _
  refine fl_Tq.stp (pc' := 47) (lv' := [some (.inr (.inr (.inl (49, 181)))), some (.inl (c2_sMeasure_j35_0 f)), some (.inl (Int32.ofNat ((f 181 5).toInt.toNat)))]) (st' := [.inl (Int32.ofNat ((f 181 5).toInt.toNat))]) (m' := (c2_sMeasure_f46 f ((f 181 5).toInt.toNat), l)) rfl rfl (fl_bo rfl) rfl ?_
  refine fl_Tq.stp (pc' := 48) (lv' := [some (.inr (.inr (.inl (49, 181)))), some (.inl (c2_sMeasure_j35_0 f)), some (.inl (Int32.ofNat ((f 181 5).toInt.toNat)))]) (st' := [.inr (.inr (.inl (49, 181))), .inl (Int32.ofNat ((f 181 5).toInt.toNat))]) (m' := (c2_sMeasure_f46 f ((f 181 5).toInt.toNat), l)) rfl rfl (fl_bo rfl) rfl ?_
  refine fl_Tq.gfV (k := 5) (v := f 181 5) rfl (fl_bo rfl) rfl (by simp only [c2_sMeasure_f46_fr (k := (f 181 5).toInt.toNat) (p := 181) (fun j hj => by omega), fl_row_self, upd_ne (by decide : 5 ≠ 12)]) ?_
  refine fl_Tq.jt rfl (fl_bo rfl) (c2_ge_t (t2_ln (t2_nn hc.1))) rfl ?_
  refine fl_Tq.stp (pc' := 91) (lv' := [some (.inr (.inr (.inl (49, 181)))), some (.inl (c2_sMeasure_j35_0 f)), some (.inl (Int32.ofNat ((f 181 5).toInt.toNat)))]) (st' := [.inr (.inr (.inl (49, 181)))]) (m' := (c2_sMeasure_f46 f ((f 181 5).toInt.toNat), l)) rfl rfl (fl_bo rfl) rfl ?_
  refine fl_Tq.cI (c := (5 : Int32)) rfl (by decide +kernel) (fl_bo rfl) ?_
  refine fl_Tq.cal rfl rfl (fl_bo rfl) rfl ?_
  refine c2_areActual_q  ?_
  show fl_Tq _ 66 95 [some (.inr (.inr (.inl (49, 181)))), some (.inl (c2_sMeasure_j35_0 f)), some (.inl (Int32.ofNat ((f 181 5).toInt.toNat)))] [.inl (c2_areActual_v (c2_sMeasure_f46 f ((f 181 5).toInt.toNat)) (5 : Int32))] (c2_sMeasure_f46 f ((f 181 5).toInt.toNat), l) _
  have hj106 : fl_Tq (pw_P L xs) 66 110 [some (.inr (.inr (.inl (49, 181)))), some (.inl (c2_sMeasure_j35_0 f)), some (.inl (Int32.ofNat ((f 181 5).toInt.toNat)))] [] (fl_row (c2_sMeasure_f46 f ((f 181 5).toInt.toNat)) 181 (upd ((c2_sMeasure_f46 f ((f 181 5).toInt.toNat)) 181) 8 (c2_sMeasure_j95_0 f)), l) Q → fl_Tq (pw_P L xs) 66 95 [some (.inr (.inr (.inl (49, 181)))), some (.inl (c2_sMeasure_j35_0 f)), some (.inl (Int32.ofNat ((f 181 5).toInt.toNat)))] [.inl (c2_areActual_v (c2_sMeasure_f46 f ((f 181 5).toInt.toNat)) (5 : Int32))] (c2_sMeasure_f46 f ((f 181 5).toInt.toNat), l) Q := by
    intro hJ
    by_cases h3 : (c2_areActual_v (c2_sMeasure_f46 f ((f 181 5).toInt.toNat)) (5 : Int32)).toInt = 0
    · refine fl_Tq.zt rfl (fl_bo rfl) (c1_eq_t h3) rfl ?_
      have e0 : (fl_row (c2_sMeasure_f46 f ((f 181 5).toInt.toNat)) 181 (upd ((c2_sMeasure_f46 f ((f 181 5).toInt.toNat)) 181) 8 (c2_sMeasure_j95_0 f))) = c2_sMeasure_f46 f ((f 181 5).toInt.toNat) := by
        simp only [c2_sMeasure_j95_0, if_pos h3]
        funext q j
        simp only [fl_row, upd]
        repeat' split
        all_goals first | rfl | simp_all
      rw [e0] at hJ
      exact hJ
    · refine fl_Tq.zf rfl (fl_bo rfl) (c1_eq_f h3) rfl ?_
      refine fl_Tq.stp (pc' := 99) (lv' := [some (.inr (.inr (.inl (49, 181)))), some (.inl (c2_sMeasure_j35_0 f)), some (.inl (Int32.ofNat ((f 181 5).toInt.toNat)))]) (st' := [.inr (.inr (.inl (49, 181)))]) (m' := (c2_sMeasure_f46 f ((f 181 5).toInt.toNat), l)) rfl rfl (fl_bo rfl) rfl ?_
      refine fl_Tq.stp (pc' := 100) (lv' := [some (.inr (.inr (.inl (49, 181)))), some (.inl (c2_sMeasure_j35_0 f)), some (.inl (Int32.ofNat ((f 181 5).toInt.toNat)))]) (st' := [.inr (.inr (.inl (49, 181))), .inr (.inr (.inl (49, 181)))]) (m' := (c2_sMeasure_f46 f ((f 181 5).toInt.toNat), l)) rfl rfl (fl_bo rfl) rfl ?_
      refine fl_Tq.stp (pc' := 101) (lv' := [some (.inr (.inr (.inl (49, 181)))), some (.inl (c2_sMeasure_j35_0 f)), some (.inl (Int32.ofNat ((f 181 5).toInt.toNat)))]) (st' := [.inr (.inr (.inl (49, 181))), .inr (.inr (.inl (49, 181))), .inr (.inr (.inl (49, 181)))]) (m' := (c2_sMeasure_f46 f ((f 181 5).toInt.toNat), l)) rfl rfl (fl_bo rfl) rfl ?_
      refine fl_Tq.gfV (k := 9) (v := f 181 9) rfl (fl_bo rfl) rfl (by simp only [c2_sMeasure_f46_fr (k := (f 181 5).toInt.toNat) (p := 181) (fun j hj => by omega), fl_row_self, upd_ne (by decide : 9 ≠ 12)]) ?_
      refine fl_Tq.cal rfl rfl (fl_bo rfl) rfl ?_
      refine c2_packAt_q (by simp only [c2_sMeasure_f46_fr (k := (f 181 5).toInt.toNat) (p := 181) (fun j hj => by omega), fl_row_self, upd_ne (by decide : 5 ≠ 12)]; exact hc) ?_
      show fl_Tq _ 66 107 [some (.inr (.inr (.inl (49, 181)))), some (.inl (c2_sMeasure_j35_0 f)), some (.inl (Int32.ofNat ((f 181 5).toInt.toNat)))] [.inl (c2_packAt_v (c2_sMeasure_f46 f ((f 181 5).toInt.toNat)) (f 181 9)), .inr (.inr (.inl (49, 181)))] (c2_sMeasure_f46 f ((f 181 5).toInt.toNat), l) _
      refine fl_Tq.pfV (k := 8) (m' := (fl_row (c2_sMeasure_f46 f ((f 181 5).toInt.toNat)) 181 (upd ((c2_sMeasure_f46 f ((f 181 5).toInt.toNat)) 181) 8 (c2_packAt_v (c2_sMeasure_f46 f ((f 181 5).toInt.toNat)) (f 181 9))), l)) rfl (fl_bo rfl) rfl (t2_upn rfl) ?_
      have e0 : (fl_row (c2_sMeasure_f46 f ((f 181 5).toInt.toNat)) 181 (upd ((c2_sMeasure_f46 f ((f 181 5).toInt.toNat)) 181) 8 (c2_sMeasure_j95_0 f))) = fl_row (c2_sMeasure_f46 f ((f 181 5).toInt.toNat)) 181 (upd ((c2_sMeasure_f46 f ((f 181 5).toInt.toNat)) 181) 8 (c2_packAt_v (c2_sMeasure_f46 f ((f 181 5).toInt.toNat)) (f 181 9))) := by
        simp only [c2_sMeasure_j95_0, if_neg h3]
      rw [e0] at hJ
      exact hJ
  refine hj106 ?_
  show fl_Tq _ 66 110 [some (.inr (.inr (.inl (49, 181)))), some (.inl (c2_sMeasure_j35_0 f)), some (.inl (Int32.ofNat ((f 181 5).toInt.toNat)))] [] (fl_row (c2_sMeasure_f46 f ((f 181 5).toInt.toNat)) 181 (upd ((c2_sMeasure_f46 f ((f 181 5).toInt.toNat)) 181) 8 (c2_sMeasure_j95_0 f)), l) _
  refine fl_Tq.stp (pc' := 111) (lv' := [some (.inr (.inr (.inl (49, 181)))), some (.inl (c2_sMeasure_j35_0 f)), some (.inl (Int32.ofNat ((f 181 5).toInt.toNat)))]) (st' := [.inr (.inr (.inl (49, 181)))]) (m' := (fl_row (c2_sMeasure_f46 f ((f 181 5).toInt.toNat)) 181 (upd ((c2_sMeasure_f46 f ((f 181 5).toInt.toNat)) 181) 8 (c2_sMeasure_j95_0 f)), l)) rfl rfl (fl_bo rfl) rfl ?_
  refine fl_Tq.gfV (k := 7) (v := f 181 7) rfl (fl_bo rfl) rfl (by simp only [fl_row_self, upd_ne (by decide : 7 ≠ 8), c2_sMeasure_f46_fr (k := (f 181 5).toInt.toNat) (p := 181) (fun j hj => by omega), fl_row_self, upd_ne (by decide : 7 ≠ 12)]) ?_
  refine fl_Tq.cI (c := (2 : Int32)) rfl (by decide +kernel) (fl_bo rfl) ?_
  have hj107 : fl_Tq (pw_P L xs) 66 122 [some (.inr (.inr (.inl (49, 181)))), some (.inl (c2_sMeasure_j35_0 f)), some (.inl (Int32.ofNat ((f 181 5).toInt.toNat)))] [] (if (f 181 7).toInt = (2 : Int32).toInt then c2_taper_m (fl_row (c2_sMeasure_f46 f ((f 181 5).toInt.toNat)) 181 (upd ((c2_sMeasure_f46 f ((f 181 5).toInt.toNat)) 181) 8 (c2_sMeasure_j95_0 f))) else fl_row (c2_sMeasure_f46 f ((f 181 5).toInt.toNat)) 181 (upd ((c2_sMeasure_f46 f ((f 181 5).toInt.toNat)) 181) 8 (c2_sMeasure_j95_0 f)), l) Q → fl_Tq (pw_P L xs) 66 115 [some (.inr (.inr (.inl (49, 181)))), some (.inl (c2_sMeasure_j35_0 f)), some (.inl (Int32.ofNat ((f 181 5).toInt.toNat)))] [.inl (2 : Int32), .inl (f 181 7)] (fl_row (c2_sMeasure_f46 f ((f 181 5).toInt.toNat)) 181 (upd ((c2_sMeasure_f46 f ((f 181 5).toInt.toNat)) 181) 8 (c2_sMeasure_j95_0 f)), l) Q := by
    intro hJ
    by_cases h4 : (f 181 7).toInt = (2 : Int32).toInt
    · refine fl_Tq.jf rfl (fl_bo rfl) (c2_ne_f h4) rfl ?_
      refine fl_Tq.stp (pc' := 119) (lv' := [some (.inr (.inr (.inl (49, 181)))), some (.inl (c2_sMeasure_j35_0 f)), some (.inl (Int32.ofNat ((f 181 5).toInt.toNat)))]) (st' := [.inr (.inr (.inl (49, 181)))]) (m' := (fl_row (c2_sMeasure_f46 f ((f 181 5).toInt.toNat)) 181 (upd ((c2_sMeasure_f46 f ((f 181 5).toInt.toNat)) 181) 8 (c2_sMeasure_j95_0 f)), l)) rfl rfl (fl_bo rfl) rfl ?_
      refine fl_Tq.cal rfl rfl (fl_bo rfl) rfl ?_
      refine c2_taper_q (by simp only [fl_row_self, upd_ne (by decide : 5 ≠ 8), c2_sMeasure_f46_fr (k := (f 181 5).toInt.toNat) (p := 181) (fun j hj => by omega), upd_ne (by decide : 5 ≠ 12)]; exact hc) ?_
      show fl_Tq _ 66 122 [some (.inr (.inr (.inl (49, 181)))), some (.inl (c2_sMeasure_j35_0 f)), some (.inl (Int32.ofNat ((f 181 5).toInt.toNat)))] [] (c2_taper_m (fl_row (c2_sMeasure_f46 f ((f 181 5).toInt.toNat)) 181 (upd ((c2_sMeasure_f46 f ((f 181 5).toInt.toNat)) 181) 8 (c2_sMeasure_j95_0 f))), l) _
      have e0 : (if (f 181 7).toInt = (2 : Int32).toInt then c2_taper_m (fl_row (c2_sMeasure_f46 f ((f 181 5).toInt.toNat)) 181 (upd ((c2_sMeasure_f46 f ((f 181 5).toInt.toNat)) 181) 8 (c2_sMeasure_j95_0 f))) else fl_row (c2_sMeasure_f46 f ((f 181 5).toInt.toNat)) 181 (upd ((c2_sMeasure_f46 f ((f 181 5).toInt.toNat)) 181) 8 (c2_sMeasure_j95_0 f))) = c2_taper_m (fl_row (c2_sMeasure_f46 f ((f 181 5).toInt.toNat)) 181 (upd ((c2_sMeasure_f46 f ((f 181 5).toInt.toNat)) 181) 8 (c2_sMeasure_j95_0 f))) := by simp only [if_pos h4]
      rw [e0] at hJ
      exact hJ
    · refine fl_Tq.jt rfl (fl_bo rfl) (c2_ne_t h4) rfl ?_
      have e0 : (if (f 181 7).toInt = (2 : Int32).toInt then c2_taper_m (fl_row (c2_sMeasure_f46 f ((f 181 5).toInt.toNat)) 181 (upd ((c2_sMeasure_f46 f ((f 181 5).toInt.toNat)) 181) 8 (c2_sMeasure_j95_0 f))) else fl_row (c2_sMeasure_f46 f ((f 181 5).toInt.toNat)) 181 (upd ((c2_sMeasure_f46 f ((f 181 5).toInt.toNat)) 181) 8 (c2_sMeasure_j95_0 f))) = fl_row (c2_sMeasure_f46 f ((f 181 5).toInt.toNat)) 181 (upd ((c2_sMeasure_f46 f ((f 181 5).toInt.toNat)) 181) 8 (c2_sMeasure_j95_0 f)) := by simp only [if_neg h4]
      rw [e0] at hJ
      exact hJ
  refine hj107 ?_
  show fl_Tq _ 66 122 [some (.inr (.inr (.inl (49, 181)))), some (.inl (c2_sMeasure_j35_0 f)), some (.inl (Int32.ofNat ((f 181 5).toInt.toNat)))] [] (if (f 181 7).toInt = (2 : Int32).toInt then c2_taper_m (fl_row (c2_sMeasure_f46 f ((f 181 5).toInt.toNat)) 181 (upd ((c2_sMeasure_f46 f ((f 181 5).toInt.toNat)) 181) 8 (c2_sMeasure_j95_0 f))) else fl_row (c2_sMeasure_f46 f ((f 181 5).toInt.toNat)) 181 (upd ((c2_sMeasure_f46 f ((f 181 5).toInt.toNat)) 181) 8 (c2_sMeasure_j95_0 f)), l) _
  exact fl_Tq.ret rfl rfl rfl k
theorem c2_sMeasure_fx {f : t2_F} (hc : 0 ≤ (f 181 5).toInt ∧ (f 181 5).toInt ≤ 16) {p : Nat} (hp : p < 198 ∨ 262 ≤ p) (h1 : p ≠ 181) (h4 : p ≠ 184) : c2_sMeasure_m f p = f p := by
  have e : c2_sMeasure_f46 f ((f 181 5).toInt.toNat) p = f p := by
    rw [c2_sMeasure_f46_fr (fun j hj => by omega), fl_row_ne h1]
  unfold c2_sMeasure_m
  split
  · rw [c2_taper_fx h4, fl_row_ne h1, e]
  · rw [fl_row_ne h1, e]
noncomputable def c2_uadd_m (f : t2_F) (i : Nat) (x : Int32) : t2_F := if (f (199 + 4 * i) 2).toInt = (32 : Int32).toInt then fl_row (fl_row (fl_row (fl_row f (200 + 4 * i) (va_cpy (f (200 + 4 * i)) (f (200 + 4 * i)) 1 0 31)) (199 + 4 * i) (upd (f (199 + 4 * i)) 2 ((f (199 + 4 * i) 2) - (1 : Int32)))) (200 + 4 * i) (upd (va_cpy (f (200 + 4 * i)) (f (200 + 4 * i)) 1 0 31) ((f (199 + 4 * i) 2).toInt.toNat - 1) x)) (199 + 4 * i) (upd (upd (f (199 + 4 * i)) 2 ((f (199 + 4 * i) 2) - (1 : Int32))) 2 (((f (199 + 4 * i) 2) - (1 : Int32)) + (1 : Int32))) else fl_row (fl_row f (200 + 4 * i) (upd (f (200 + 4 * i)) ((f (199 + 4 * i) 2).toInt.toNat) x)) (199 + 4 * i) (upd (f (199 + 4 * i)) 2 ((f (199 + 4 * i) 2) + (1 : Int32)))
theorem c2_uadd_fr {f : t2_F} {i : Nat} {x : Int32} {p : Nat} (e0 : p ≠ 200 + 4 * i) (e1 : p ≠ 199 + 4 * i) : c2_uadd_m f i x p = f p := by
  unfold c2_uadd_m
  repeat' split
  all_goals first | rfl | simp only [fl_row_ne e0, fl_row_ne e1]
theorem c2_uadd_q {L : Nat} {xs : Nat → Int32} {f : t2_F} {l : t2_L} {Q : Option fl_V → fl_M → Prop} {i : Nat} {x : Int32} (hi : i < 16) (ht : 1 ≤ (f (199 + 4 * i) 2).toInt ∧ (f (199 + 4 * i) 2).toInt ≤ 32) (k : Q none (c2_uadd_m f i x, l)) : fl_Tq (pw_P L xs) 90 0 (fl_args (am_mxl (pw_P L xs) 90) [.inr (.inr (.inl (67, 199 + 4 * i))), .inl x]) [] (f, l) Q := by
  refine fl_Tq.stp (pc' := 1) (lv' := [some (.inr (.inr (.inl (67, 199 + 4 * i)))), some (.inl x)]) (st' := [.inr (.inr (.inl (67, 199 + 4 * i)))]) (m' := (f, l)) rfl rfl (fl_bo rfl) rfl ?_
  refine fl_Tq.gfV (k := 2) (v := f (199 + 4 * i) 2) rfl (fl_oks_ok ⟨t2_kt2 hi, True.intro⟩) rfl rfl ?_
  refine fl_Tq.cB (c := (32 : Int32)) rfl (by decide +kernel) (fl_bo rfl) ?_
  by_cases h1 : (f (199 + 4 * i) 2).toInt = (32 : Int32).toInt
  · refine fl_Tq.jf rfl (fl_bo rfl) (c2_ne_f h1) rfl ?_
    refine fl_Tq.stp (pc' := 10) (lv' := [some (.inr (.inr (.inl (67, 199 + 4 * i)))), some (.inl x)]) (st' := [.inr (.inr (.inl (67, 199 + 4 * i)))]) (m' := (f, l)) rfl rfl (fl_bo rfl) rfl ?_
    refine fl_Tq.gfR (d := 1) (p' := 200 + 4 * i) rfl (fl_oks_ok ⟨t2_kt2 hi, True.intro⟩) rfl (by omega) ?_
    refine fl_Tq.cI (c := (1 : Int32)) rfl (by decide +kernel) (fl_oks_ok ⟨t2_ka2 hi, True.intro⟩) ?_
    refine fl_Tq.stp (pc' := 15) (lv' := [some (.inr (.inr (.inl (67, 199 + 4 * i)))), some (.inl x)]) (st' := [.inr (.inr (.inl (67, 199 + 4 * i))), .inl (1 : Int32), .inr (.inr (.inl (68, 200 + 4 * i)))]) (m' := (f, l)) rfl rfl (fl_oks_ok ⟨True.intro, t2_ka2 hi, True.intro⟩) rfl ?_
    refine fl_Tq.gfR (d := 1) (p' := 200 + 4 * i) rfl (fl_oks_ok ⟨t2_kt2 hi, True.intro, t2_ka2 hi, True.intro⟩) rfl (by omega) ?_
    refine fl_Tq.cI (c := (0 : Int32)) rfl (by decide +kernel) (fl_oks_ok ⟨t2_ka2 hi, True.intro, t2_ka2 hi, True.intro⟩) ?_
    refine fl_Tq.cB (c := (31 : Int32)) rfl (by decide +kernel) (fl_oks_ok ⟨True.intro, t2_ka2 hi, True.intro, t2_ka2 hi, True.intro⟩) ?_
    refine fl_Tq.cpy (SP := 1) (DP := 0) (N := 31) (wa := f (200 + 4 * i)) (wb := f (200 + 4 * i)) rfl rfl rfl (fl_oks_ok ⟨True.intro, True.intro, t2_ka2 hi, True.intro, t2_ka2 hi, True.intro⟩) rfl rfl (by decide +kernel) (by decide +kernel) (by decide +kernel) (by decide +kernel) rfl rfl ?_
    show fl_Tq _ 90 24 [some (.inr (.inr (.inl (67, 199 + 4 * i)))), some (.inl x)] [] (fl_row f (200 + 4 * i) (va_cpy (f (200 + 4 * i)) (f (200 + 4 * i)) 1 0 31), l) _
    refine fl_Tq.stp (pc' := 25) (lv' := [some (.inr (.inr (.inl (67, 199 + 4 * i)))), some (.inl x)]) (st' := [.inr (.inr (.inl (67, 199 + 4 * i)))]) (m' := (fl_row f (200 + 4 * i) (va_cpy (f (200 + 4 * i)) (f (200 + 4 * i)) 1 0 31), l)) rfl rfl (fl_bo rfl) rfl ?_
    refine fl_Tq.stp (pc' := 26) (lv' := [some (.inr (.inr (.inl (67, 199 + 4 * i)))), some (.inl x)]) (st' := [.inr (.inr (.inl (67, 199 + 4 * i))), .inr (.inr (.inl (67, 199 + 4 * i)))]) (m' := (fl_row f (200 + 4 * i) (va_cpy (f (200 + 4 * i)) (f (200 + 4 * i)) 1 0 31), l)) rfl rfl (fl_oks_ok ⟨t2_kt2 hi, True.intro⟩) rfl ?_
    refine fl_Tq.gfV (k := 2) (v := f (199 + 4 * i) 2) rfl (fl_oks_ok ⟨t2_kt2 hi, t2_kt2 hi, True.intro⟩) rfl (by simp only [fl_row_ne (show 199 + 4 * i ≠ 200 + 4 * i by omega)]) ?_
    refine fl_Tq.cI (c := (1 : Int32)) rfl (by decide +kernel) (fl_oks_ok ⟨True.intro, t2_kt2 hi, True.intro⟩) ?_
    refine fl_Tq.stp (pc' := 31) (lv' := [some (.inr (.inr (.inl (67, 199 + 4 * i)))), some (.inl x)]) (st' := [.inl ((f (199 + 4 * i) 2) - (1 : Int32)), .inr (.inr (.inl (67, 199 + 4 * i)))]) (m' := (fl_row f (200 + 4 * i) (va_cpy (f (200 + 4 * i)) (f (200 + 4 * i)) 1 0 31), l)) rfl rfl (fl_oks_ok ⟨True.intro, True.intro, t2_kt2 hi, True.intro⟩) rfl ?_
    refine fl_Tq.pfV (k := 2) (m' := (fl_row (fl_row f (200 + 4 * i) (va_cpy (f (200 + 4 * i)) (f (200 + 4 * i)) 1 0 31)) (199 + 4 * i) (upd (f (199 + 4 * i)) 2 ((f (199 + 4 * i) 2) - (1 : Int32))), l)) rfl (fl_oks_ok ⟨True.intro, t2_kt2 hi, True.intro⟩) rfl (t2_upn (by rw [fl_row_ne (show 199 + 4 * i ≠ 200 + 4 * i by omega)])) ?_
    refine fl_Tq.stp (pc' := 35) (lv' := [some (.inr (.inr (.inl (67, 199 + 4 * i)))), some (.inl x)]) (st' := [.inr (.inr (.inl (67, 199 + 4 * i)))]) (m' := (fl_row (fl_row f (200 + 4 * i) (va_cpy (f (200 + 4 * i)) (f (200 + 4 * i)) 1 0 31)) (199 + 4 * i) (upd (f (199 + 4 * i)) 2 ((f (199 + 4 * i) 2) - (1 : Int32))), l)) rfl rfl (fl_bo rfl) rfl ?_
    refine fl_Tq.gfR (d := 1) (p' := 200 + 4 * i) rfl (fl_oks_ok ⟨t2_kt2 hi, True.intro⟩) rfl (by omega) ?_
    refine fl_Tq.stp (pc' := 39) (lv' := [some (.inr (.inr (.inl (67, 199 + 4 * i)))), some (.inl x)]) (st' := [.inr (.inr (.inl (67, 199 + 4 * i))), .inr (.inr (.inl (68, 200 + 4 * i)))]) (m' := (fl_row (fl_row f (200 + 4 * i) (va_cpy (f (200 + 4 * i)) (f (200 + 4 * i)) 1 0 31)) (199 + 4 * i) (upd (f (199 + 4 * i)) 2 ((f (199 + 4 * i) 2) - (1 : Int32))), l)) rfl rfl (fl_oks_ok ⟨t2_ka2 hi, True.intro⟩) rfl ?_
    refine fl_Tq.gfV (k := 2) (v := (f (199 + 4 * i) 2) - (1 : Int32)) rfl (fl_oks_ok ⟨t2_kt2 hi, t2_ka2 hi, True.intro⟩) rfl (by simp only [fl_row_self, upd_self]) ?_
    refine fl_Tq.stp (pc' := 43) (lv' := [some (.inr (.inr (.inl (67, 199 + 4 * i)))), some (.inl x)]) (st' := [.inl x, .inl ((f (199 + 4 * i) 2) - (1 : Int32)), .inr (.inr (.inl (68, 200 + 4 * i)))]) (m' := (fl_row (fl_row f (200 + 4 * i) (va_cpy (f (200 + 4 * i)) (f (200 + 4 * i)) 1 0 31)) (199 + 4 * i) (upd (f (199 + 4 * i)) 2 ((f (199 + 4 * i) 2) - (1 : Int32))), l)) rfl rfl (fl_oks_ok ⟨True.intro, t2_ka2 hi, True.intro⟩) rfl ?_
    refine fl_Tq.svV (p := 200 + 4 * i) (τ := 68) (n := 32) (z := (0, 0, 0)) (k := ((f (199 + 4 * i) 2).toInt.toNat - 1)) (m' := (fl_row (fl_row (fl_row f (200 + 4 * i) (va_cpy (f (200 + 4 * i)) (f (200 + 4 * i)) 1 0 31)) (199 + 4 * i) (upd (f (199 + 4 * i)) 2 ((f (199 + 4 * i) 2) - (1 : Int32)))) (200 + 4 * i) (upd (va_cpy (f (200 + 4 * i)) (f (200 + 4 * i)) 1 0 31) ((f (199 + 4 * i) 2).toInt.toNat - 1) x), l)) rfl (fl_oks_ok ⟨True.intro, True.intro, t2_ka2 hi, True.intro⟩) rfl (t2_is (t2_nn (by omega)) (by decide +kernel) (by omega)) (by omega) (t2_upn (by rw [fl_row_ne (show 200 + 4 * i ≠ 199 + 4 * i by omega), fl_row_self])) ?_
    refine fl_Tq.stp (pc' := 45) (lv' := [some (.inr (.inr (.inl (67, 199 + 4 * i)))), some (.inl x)]) (st' := [.inr (.inr (.inl (67, 199 + 4 * i)))]) (m' := (fl_row (fl_row (fl_row f (200 + 4 * i) (va_cpy (f (200 + 4 * i)) (f (200 + 4 * i)) 1 0 31)) (199 + 4 * i) (upd (f (199 + 4 * i)) 2 ((f (199 + 4 * i) 2) - (1 : Int32)))) (200 + 4 * i) (upd (va_cpy (f (200 + 4 * i)) (f (200 + 4 * i)) 1 0 31) ((f (199 + 4 * i) 2).toInt.toNat - 1) x), l)) rfl rfl (fl_bo rfl) rfl ?_
    refine fl_Tq.stp (pc' := 46) (lv' := [some (.inr (.inr (.inl (67, 199 + 4 * i)))), some (.inl x)]) (st' := [.inr (.inr (.inl (67, 199 + 4 * i))), .inr (.inr (.inl (67, 199 + 4 * i)))]) (m' := (fl_row (fl_row (fl_row f (200 + 4 * i) (va_cpy (f (200 + 4 * i)) (f (200 + 4 * i)) 1 0 31)) (199 + 4 * i) (upd (f (199 + 4 * i)) 2 ((f (199 + 4 * i) 2) - (1 : Int32)))) (200 + 4 * i) (upd (va_cpy (f (200 + 4 * i)) (f (200 + 4 * i)) 1 0 31) ((f (199 + 4 * i) 2).toInt.toNat - 1) x), l)) rfl rfl (fl_oks_ok ⟨t2_kt2 hi, True.intro⟩) rfl ?_
    refine fl_Tq.gfV (k := 2) (v := (f (199 + 4 * i) 2) - (1 : Int32)) rfl (fl_oks_ok ⟨t2_kt2 hi, t2_kt2 hi, True.intro⟩) rfl (by simp only [fl_row_ne (show 199 + 4 * i ≠ 200 + 4 * i by omega), fl_row_self, upd_self]) ?_
    refine fl_Tq.cI (c := (1 : Int32)) rfl (by decide +kernel) (fl_oks_ok ⟨True.intro, t2_kt2 hi, True.intro⟩) ?_
    refine fl_Tq.stp (pc' := 51) (lv' := [some (.inr (.inr (.inl (67, 199 + 4 * i)))), some (.inl x)]) (st' := [.inl (((f (199 + 4 * i) 2) - (1 : Int32)) + (1 : Int32)), .inr (.inr (.inl (67, 199 + 4 * i)))]) (m' := (fl_row (fl_row (fl_row f (200 + 4 * i) (va_cpy (f (200 + 4 * i)) (f (200 + 4 * i)) 1 0 31)) (199 + 4 * i) (upd (f (199 + 4 * i)) 2 ((f (199 + 4 * i) 2) - (1 : Int32)))) (200 + 4 * i) (upd (va_cpy (f (200 + 4 * i)) (f (200 + 4 * i)) 1 0 31) ((f (199 + 4 * i) 2).toInt.toNat - 1) x), l)) rfl rfl (fl_oks_ok ⟨True.intro, True.intro, t2_kt2 hi, True.intro⟩) rfl ?_
    refine fl_Tq.pfV (k := 2) (m' := (fl_row (fl_row (fl_row (fl_row f (200 + 4 * i) (va_cpy (f (200 + 4 * i)) (f (200 + 4 * i)) 1 0 31)) (199 + 4 * i) (upd (f (199 + 4 * i)) 2 ((f (199 + 4 * i) 2) - (1 : Int32)))) (200 + 4 * i) (upd (va_cpy (f (200 + 4 * i)) (f (200 + 4 * i)) 1 0 31) ((f (199 + 4 * i) 2).toInt.toNat - 1) x)) (199 + 4 * i) (upd (upd (f (199 + 4 * i)) 2 ((f (199 + 4 * i) 2) - (1 : Int32))) 2 (((f (199 + 4 * i) 2) - (1 : Int32)) + (1 : Int32))), l)) rfl (fl_oks_ok ⟨True.intro, t2_kt2 hi, True.intro⟩) rfl (t2_upn (by rw [fl_row_ne (show 199 + 4 * i ≠ 200 + 4 * i by omega), fl_row_self])) ?_
    refine fl_Tq.ret rfl rfl rfl ?_
    unfold c2_uadd_m at k
    simp only [if_pos h1] at k
    exact k
  · refine fl_Tq.jt rfl (fl_bo rfl) (c2_ne_t h1) rfl ?_
    refine fl_Tq.stp (pc' := 35) (lv' := [some (.inr (.inr (.inl (67, 199 + 4 * i)))), some (.inl x)]) (st' := [.inr (.inr (.inl (67, 199 + 4 * i)))]) (m' := (f, l)) rfl rfl (fl_bo rfl) rfl ?_
    refine fl_Tq.gfR (d := 1) (p' := 200 + 4 * i) rfl (fl_oks_ok ⟨t2_kt2 hi, True.intro⟩) rfl (by omega) ?_
    refine fl_Tq.stp (pc' := 39) (lv' := [some (.inr (.inr (.inl (67, 199 + 4 * i)))), some (.inl x)]) (st' := [.inr (.inr (.inl (67, 199 + 4 * i))), .inr (.inr (.inl (68, 200 + 4 * i)))]) (m' := (f, l)) rfl rfl (fl_oks_ok ⟨t2_ka2 hi, True.intro⟩) rfl ?_
    refine fl_Tq.gfV (k := 2) (v := f (199 + 4 * i) 2) rfl (fl_oks_ok ⟨t2_kt2 hi, t2_ka2 hi, True.intro⟩) rfl rfl ?_
    refine fl_Tq.stp (pc' := 43) (lv' := [some (.inr (.inr (.inl (67, 199 + 4 * i)))), some (.inl x)]) (st' := [.inl x, .inl (f (199 + 4 * i) 2), .inr (.inr (.inl (68, 200 + 4 * i)))]) (m' := (f, l)) rfl rfl (fl_oks_ok ⟨True.intro, t2_ka2 hi, True.intro⟩) rfl ?_
    refine fl_Tq.svV (p := 200 + 4 * i) (τ := 68) (n := 32) (z := (0, 0, 0)) (k := (f (199 + 4 * i) 2).toInt.toNat) (m' := (fl_row f (200 + 4 * i) (upd (f (200 + 4 * i)) ((f (199 + 4 * i) 2).toInt.toNat) x), l)) rfl (fl_oks_ok ⟨True.intro, True.intro, t2_ka2 hi, True.intro⟩) rfl (t2_nn (by omega)) (by have c32 : (32 : Int32).toInt = 32 := (by decide +kernel); omega) (t2_upn rfl) ?_
    refine fl_Tq.stp (pc' := 45) (lv' := [some (.inr (.inr (.inl (67, 199 + 4 * i)))), some (.inl x)]) (st' := [.inr (.inr (.inl (67, 199 + 4 * i)))]) (m' := (fl_row f (200 + 4 * i) (upd (f (200 + 4 * i)) ((f (199 + 4 * i) 2).toInt.toNat) x), l)) rfl rfl (fl_bo rfl) rfl ?_
    refine fl_Tq.stp (pc' := 46) (lv' := [some (.inr (.inr (.inl (67, 199 + 4 * i)))), some (.inl x)]) (st' := [.inr (.inr (.inl (67, 199 + 4 * i))), .inr (.inr (.inl (67, 199 + 4 * i)))]) (m' := (fl_row f (200 + 4 * i) (upd (f (200 + 4 * i)) ((f (199 + 4 * i) 2).toInt.toNat) x), l)) rfl rfl (fl_oks_ok ⟨t2_kt2 hi, True.intro⟩) rfl ?_
    refine fl_Tq.gfV (k := 2) (v := f (199 + 4 * i) 2) rfl (fl_oks_ok ⟨t2_kt2 hi, t2_kt2 hi, True.intro⟩) rfl (by simp only [fl_row_ne (show 199 + 4 * i ≠ 200 + 4 * i by omega)]) ?_
    refine fl_Tq.cI (c := (1 : Int32)) rfl (by decide +kernel) (fl_oks_ok ⟨True.intro, t2_kt2 hi, True.intro⟩) ?_
    refine fl_Tq.stp (pc' := 51) (lv' := [some (.inr (.inr (.inl (67, 199 + 4 * i)))), some (.inl x)]) (st' := [.inl ((f (199 + 4 * i) 2) + (1 : Int32)), .inr (.inr (.inl (67, 199 + 4 * i)))]) (m' := (fl_row f (200 + 4 * i) (upd (f (200 + 4 * i)) ((f (199 + 4 * i) 2).toInt.toNat) x), l)) rfl rfl (fl_oks_ok ⟨True.intro, True.intro, t2_kt2 hi, True.intro⟩) rfl ?_
    refine fl_Tq.pfV (k := 2) (m' := (fl_row (fl_row f (200 + 4 * i) (upd (f (200 + 4 * i)) ((f (199 + 4 * i) 2).toInt.toNat) x)) (199 + 4 * i) (upd (f (199 + 4 * i)) 2 ((f (199 + 4 * i) 2) + (1 : Int32))), l)) rfl (fl_oks_ok ⟨True.intro, t2_kt2 hi, True.intro⟩) rfl (t2_upn (by rw [fl_row_ne (show 199 + 4 * i ≠ 200 + 4 * i by omega)])) ?_
    refine fl_Tq.ret rfl rfl rfl ?_
    unfold c2_uadd_m at k
    simp only [if_neg h1] at k
    exact k
theorem c2_way_b {f : t2_F} {i : Nat} {x : Int32} (hv : t2_p32 (f (200 + 4 * i))) (hx : 0 ≤ x.toInt ∧ x.toInt + 1 < 32) : t2_pt (c2_way_v f i x) := by
  obtain ⟨a1, a2⟩ := hv x.toInt.toNat (by omega)
  obtain ⟨b1, b2⟩ := hv (x.toInt.toNat + 1) (by omega)
  have e : (f (200 + 4 * i) (x.toInt.toNat + 1) - f (200 + 4 * i) x.toInt.toNat).toInt = (f (200 + 4 * i) (x.toInt.toNat + 1)).toInt - (f (200 + 4 * i) x.toInt.toNat).toInt := at_sub32 (by omega) (by omega)
  have e2 : (-(f (200 + 4 * i) (x.toInt.toNat + 1) - f (200 + 4 * i) x.toInt.toNat)).toInt = -((f (200 + 4 * i) (x.toInt.toNat + 1)).toInt - (f (200 + 4 * i) x.toInt.toNat).toInt) := by
    rw [Int32.toInt_neg, e]
    exact Int.bmod_eq_of_le (by omega) (by omega)
  unfold c2_way_v c2_way_j17_0 t2_pt
  split
  · rw [e2]
    omega
  · omega
theorem c2_uadd_ht {f : t2_F} {i : Nat} {x : Int32} (ht : 1 ≤ (f (199 + 4 * i) 2).toInt ∧ (f (199 + 4 * i) 2).toInt ≤ 32) : 1 ≤ (c2_uadd_m f i x (199 + 4 * i) 2).toInt ∧ (c2_uadd_m f i x (199 + 4 * i) 2).toInt ≤ 32 := by
  have e1 : (1 : Int32).toInt = 1 := by decide +kernel
  have e32 : (32 : Int32).toInt = 32 := by decide +kernel
  unfold c2_uadd_m
  split
  · rw [fl_row_self, upd_self, at_add32, at_sub32] <;> (try rw [at_sub32]) <;> omega
  · rw [fl_row_self, upd_self, at_add32] <;> omega
theorem c2_uadd_hv {f : t2_F} {i : Nat} {x : Int32} (hv : t2_p32 (f (200 + 4 * i))) (hx : t2_pt x) : t2_p32 (c2_uadd_m f i x (200 + 4 * i)) := by
  unfold c2_uadd_m
  split
  · rw [fl_row_ne (by omega), fl_row_self]
    exact hv.cpy.upd hx
  · rw [fl_row_ne (by omega), fl_row_self]
    exact hv.upd hx
noncomputable def c2_cc_g0 (f : t2_F) (i : Nat) : Option t2_F := if (f (199 + 4 * i) 2).toInt < (4 : Int32).toInt then none else (if (c2_way_v f i ((f (199 + 4 * i) 2) - (4 : Int32))).toInt < (c2_way_v f i ((f (199 + 4 * i) 2) - (3 : Int32))).toInt then none else (if (c2_way_v f i ((f (199 + 4 * i) 2) - (2 : Int32))).toInt < (c2_way_v f i ((f (199 + 4 * i) 2) - (3 : Int32))).toInt then none else some (fl_row (fl_row (fl_row f (201 + 4 * i) (upd (f (201 + 4 * i)) ((t2_min_v ((c2_way_v f i ((f (199 + 4 * i) 2) - (3 : Int32))) / (100 : Int32)) (10 : Int32)).toInt.toNat) ((f (201 + 4 * i) ((t2_min_v ((c2_way_v f i ((f (199 + 4 * i) 2) - (3 : Int32))) / (100 : Int32)) (10 : Int32)).toInt.toNat)) + (1 : Int32)))) (200 + 4 * i) (upd (f (200 + 4 * i)) ((f (199 + 4 * i) 2).toInt.toNat - 3) (f (200 + 4 * i) ((f (199 + 4 * i) 2).toInt.toNat - 1)))) (199 + 4 * i) (upd (f (199 + 4 * i)) 2 ((f (199 + 4 * i) 2) - (2 : Int32))))))
theorem c2_cc_g0_q {L : Nat} {xs : Nat → Int32} {f : t2_F} {l : t2_L} {Q : Option fl_V → fl_M → Prop} {i : Nat} (hi : i < 16) (ht : 1 ≤ (f (199 + 4 * i) 2).toInt ∧ (f (199 + 4 * i) 2).toInt ≤ 32) (hv : t2_p32 (f (200 + 4 * i))) (k0 : c2_cc_g0 f i = none → Q none (f, l)) (k1 : ∀ f' : t2_F, c2_cc_g0 f i = some f' → fl_Tq (pw_P L xs) 91 0 [some (.inr (.inr (.inl (67, 199 + 4 * i)))), none] [] (f', l) Q) : fl_Tq (pw_P L xs) 91 0 [some (.inr (.inr (.inl (67, 199 + 4 * i)))), none] [] (f, l) Q := by
  refine fl_Tq.stp (pc' := 1) (lv' := [some (.inr (.inr (.inl (67, 199 + 4 * i)))), none]) (st' := [.inr (.inr (.inl (67, 199 + 4 * i)))]) (m' := (f, l)) rfl rfl (fl_bo rfl) rfl ?_
  refine fl_Tq.gfV (k := 2) (v := f (199 + 4 * i) 2) rfl (fl_oks_ok ⟨t2_kt2 hi, True.intro⟩) rfl rfl ?_
  refine fl_Tq.cI (c := (4 : Int32)) rfl (by decide +kernel) (fl_bo rfl) ?_
  by_cases h1 : (f (199 + 4 * i) 2).toInt < (4 : Int32).toInt
  · refine fl_Tq.jt rfl (fl_bo rfl) (c2_lt_t h1) rfl ?_
    have eg : c2_cc_g0 f i = none := by
      unfold c2_cc_g0
      simp only [if_pos h1]
    exact fl_Tq.ret rfl rfl rfl (k0 eg)
  · refine fl_Tq.jf rfl (fl_bo rfl) (c2_lt_f h1) rfl ?_
    refine fl_Tq.stp (pc' := 9) (lv' := [some (.inr (.inr (.inl (67, 199 + 4 * i)))), none]) (st' := [.inr (.inr (.inl (67, 199 + 4 * i)))]) (m' := (f, l)) rfl rfl (fl_bo rfl) rfl ?_
    refine fl_Tq.stp (pc' := 10) (lv' := [some (.inr (.inr (.inl (67, 199 + 4 * i)))), none]) (st' := [.inr (.inr (.inl (67, 199 + 4 * i))), .inr (.inr (.inl (67, 199 + 4 * i)))]) (m' := (f, l)) rfl rfl (fl_oks_ok ⟨t2_kt2 hi, True.intro⟩) rfl ?_
    refine fl_Tq.gfV (k := 2) (v := f (199 + 4 * i) 2) rfl (fl_oks_ok ⟨t2_kt2 hi, t2_kt2 hi, True.intro⟩) rfl rfl ?_
    refine fl_Tq.cI (c := (3 : Int32)) rfl (by decide +kernel) (fl_oks_ok ⟨True.intro, t2_kt2 hi, True.intro⟩) ?_
    refine fl_Tq.stp (pc' := 15) (lv' := [some (.inr (.inr (.inl (67, 199 + 4 * i)))), none]) (st' := [.inl ((f (199 + 4 * i) 2) - (3 : Int32)), .inr (.inr (.inl (67, 199 + 4 * i)))]) (m' := (f, l)) rfl rfl (fl_oks_ok ⟨True.intro, True.intro, t2_kt2 hi, True.intro⟩) rfl ?_
    refine fl_Tq.cal rfl rfl (fl_oks_ok ⟨True.intro, t2_kt2 hi, True.intro⟩) rfl ?_
    refine c2_way_q hi (t2_tx (D := 3) (by decide +kernel) (by have c4 : (4 : Int32).toInt = 4 := (by decide +kernel); omega) (by have c4 : (4 : Int32).toInt = 4 := (by decide +kernel); omega) (by decide)) ?_
    show fl_Tq _ 91 18 [some (.inr (.inr (.inl (67, 199 + 4 * i)))), none] [.inl (c2_way_v f i ((f (199 + 4 * i) 2) - (3 : Int32)))] (f, l) _
    refine fl_Tq.stp (pc' := 19) (lv' := [some (.inr (.inr (.inl (67, 199 + 4 * i)))), some (.inl (c2_way_v f i ((f (199 + 4 * i) 2) - (3 : Int32))))]) (st' := []) (m' := (f, l)) rfl rfl (fl_bo rfl) rfl ?_
    refine fl_Tq.stp (pc' := 20) (lv' := [some (.inr (.inr (.inl (67, 199 + 4 * i)))), some (.inl (c2_way_v f i ((f (199 + 4 * i) 2) - (3 : Int32))))]) (st' := [.inl (c2_way_v f i ((f (199 + 4 * i) 2) - (3 : Int32)))]) (m' := (f, l)) rfl rfl (fl_bo rfl) rfl ?_
    refine fl_Tq.stp (pc' := 21) (lv' := [some (.inr (.inr (.inl (67, 199 + 4 * i)))), some (.inl (c2_way_v f i ((f (199 + 4 * i) 2) - (3 : Int32))))]) (st' := [.inr (.inr (.inl (67, 199 + 4 * i))), .inl (c2_way_v f i ((f (199 + 4 * i) 2) - (3 : Int32)))]) (m' := (f, l)) rfl rfl (fl_bo rfl) rfl ?_
    refine fl_Tq.stp (pc' := 22) (lv' := [some (.inr (.inr (.inl (67, 199 + 4 * i)))), some (.inl (c2_way_v f i ((f (199 + 4 * i) 2) - (3 : Int32))))]) (st' := [.inr (.inr (.inl (67, 199 + 4 * i))), .inr (.inr (.inl (67, 199 + 4 * i))), .inl (c2_way_v f i ((f (199 + 4 * i) 2) - (3 : Int32)))]) (m' := (f, l)) rfl rfl (fl_oks_ok ⟨t2_kt2 hi, True.intro, True.intro⟩) rfl ?_
    refine fl_Tq.gfV (k := 2) (v := f (199 + 4 * i) 2) rfl (fl_oks_ok ⟨t2_kt2 hi, t2_kt2 hi, True.intro, True.intro⟩) rfl rfl ?_
    refine fl_Tq.cI (c := (4 : Int32)) rfl (by decide +kernel) (fl_oks_ok ⟨True.intro, t2_kt2 hi, True.intro, True.intro⟩) ?_
    refine fl_Tq.stp (pc' := 27) (lv' := [some (.inr (.inr (.inl (67, 199 + 4 * i)))), some (.inl (c2_way_v f i ((f (199 + 4 * i) 2) - (3 : Int32))))]) (st' := [.inl ((f (199 + 4 * i) 2) - (4 : Int32)), .inr (.inr (.inl (67, 199 + 4 * i))), .inl (c2_way_v f i ((f (199 + 4 * i) 2) - (3 : Int32)))]) (m' := (f, l)) rfl rfl (fl_oks_ok ⟨True.intro, True.intro, t2_kt2 hi, True.intro, True.intro⟩) rfl ?_
    refine fl_Tq.cal rfl rfl (fl_oks_ok ⟨True.intro, t2_kt2 hi, True.intro, True.intro⟩) rfl ?_
    refine c2_way_q hi (t2_tx (D := 4) (by decide +kernel) (by have c4 : (4 : Int32).toInt = 4 := (by decide +kernel); omega) (by have c4 : (4 : Int32).toInt = 4 := (by decide +kernel); omega) (by decide)) ?_
    show fl_Tq _ 91 30 [some (.inr (.inr (.inl (67, 199 + 4 * i)))), some (.inl (c2_way_v f i ((f (199 + 4 * i) 2) - (3 : Int32))))] [.inl (c2_way_v f i ((f (199 + 4 * i) 2) - (4 : Int32))), .inl (c2_way_v f i ((f (199 + 4 * i) 2) - (3 : Int32)))] (f, l) _
    by_cases h2 : (c2_way_v f i ((f (199 + 4 * i) 2) - (4 : Int32))).toInt < (c2_way_v f i ((f (199 + 4 * i) 2) - (3 : Int32))).toInt
    · refine fl_Tq.jt rfl (fl_bo rfl) (c2_gt_t h2) rfl ?_
      have eg : c2_cc_g0 f i = none := by
        unfold c2_cc_g0
        simp only [if_neg h1, if_pos h2]
      exact fl_Tq.ret rfl rfl rfl (k0 eg)
    · refine fl_Tq.jf rfl (fl_bo rfl) (c2_gt_f h2) rfl ?_
      refine fl_Tq.stp (pc' := 34) (lv' := [some (.inr (.inr (.inl (67, 199 + 4 * i)))), some (.inl (c2_way_v f i ((f (199 + 4 * i) 2) - (3 : Int32))))]) (st' := [.inl (c2_way_v f i ((f (199 + 4 * i) 2) - (3 : Int32)))]) (m' := (f, l)) rfl rfl (fl_bo rfl) rfl ?_
      refine fl_Tq.stp (pc' := 35) (lv' := [some (.inr (.inr (.inl (67, 199 + 4 * i)))), some (.inl (c2_way_v f i ((f (199 + 4 * i) 2) - (3 : Int32))))]) (st' := [.inr (.inr (.inl (67, 199 + 4 * i))), .inl (c2_way_v f i ((f (199 + 4 * i) 2) - (3 : Int32)))]) (m' := (f, l)) rfl rfl (fl_bo rfl) rfl ?_
      refine fl_Tq.stp (pc' := 36) (lv' := [some (.inr (.inr (.inl (67, 199 + 4 * i)))), some (.inl (c2_way_v f i ((f (199 + 4 * i) 2) - (3 : Int32))))]) (st' := [.inr (.inr (.inl (67, 199 + 4 * i))), .inr (.inr (.inl (67, 199 + 4 * i))), .inl (c2_way_v f i ((f (199 + 4 * i) 2) - (3 : Int32)))]) (m' := (f, l)) rfl rfl (fl_oks_ok ⟨t2_kt2 hi, True.intro, True.intro⟩) rfl ?_
      refine fl_Tq.gfV (k := 2) (v := f (199 + 4 * i) 2) rfl (fl_oks_ok ⟨t2_kt2 hi, t2_kt2 hi, True.intro, True.intro⟩) rfl rfl ?_
      refine fl_Tq.cI (c := (2 : Int32)) rfl (by decide +kernel) (fl_oks_ok ⟨True.intro, t2_kt2 hi, True.intro, True.intro⟩) ?_
      refine fl_Tq.stp (pc' := 41) (lv' := [some (.inr (.inr (.inl (67, 199 + 4 * i)))), some (.inl (c2_way_v f i ((f (199 + 4 * i) 2) - (3 : Int32))))]) (st' := [.inl ((f (199 + 4 * i) 2) - (2 : Int32)), .inr (.inr (.inl (67, 199 + 4 * i))), .inl (c2_way_v f i ((f (199 + 4 * i) 2) - (3 : Int32)))]) (m' := (f, l)) rfl rfl (fl_oks_ok ⟨True.intro, True.intro, t2_kt2 hi, True.intro, True.intro⟩) rfl ?_
      refine fl_Tq.cal rfl rfl (fl_oks_ok ⟨True.intro, t2_kt2 hi, True.intro, True.intro⟩) rfl ?_
      refine c2_way_q hi (t2_tx (D := 2) (by decide +kernel) (by have c4 : (4 : Int32).toInt = 4 := (by decide +kernel); omega) (by have c4 : (4 : Int32).toInt = 4 := (by decide +kernel); omega) (by decide)) ?_
      show fl_Tq _ 91 44 [some (.inr (.inr (.inl (67, 199 + 4 * i)))), some (.inl (c2_way_v f i ((f (199 + 4 * i) 2) - (3 : Int32))))] [.inl (c2_way_v f i ((f (199 + 4 * i) 2) - (2 : Int32))), .inl (c2_way_v f i ((f (199 + 4 * i) 2) - (3 : Int32)))] (f, l) _
      by_cases h3 : (c2_way_v f i ((f (199 + 4 * i) 2) - (2 : Int32))).toInt < (c2_way_v f i ((f (199 + 4 * i) 2) - (3 : Int32))).toInt
      · refine fl_Tq.jf rfl (fl_bo rfl) (c2_le_f h3) rfl ?_
        have eg : c2_cc_g0 f i = none := by
          unfold c2_cc_g0
          simp only [if_neg h1, if_neg h2, if_pos h3]
        exact fl_Tq.ret rfl rfl rfl (k0 eg)
      · refine fl_Tq.jt rfl (fl_bo rfl) (c2_le_t h3) rfl ?_
        refine fl_Tq.stp (pc' := 49) (lv' := [some (.inr (.inr (.inl (67, 199 + 4 * i)))), some (.inl (c2_way_v f i ((f (199 + 4 * i) 2) - (3 : Int32))))]) (st' := [.inr (.inr (.inl (67, 199 + 4 * i)))]) (m' := (f, l)) rfl rfl (fl_bo rfl) rfl ?_
        refine fl_Tq.gfR (d := 2) (p' := 201 + 4 * i) rfl (fl_oks_ok ⟨t2_kt2 hi, True.intro⟩) rfl (by omega) ?_
        refine fl_Tq.stp (pc' := 53) (lv' := [some (.inr (.inr (.inl (67, 199 + 4 * i)))), some (.inl (c2_way_v f i ((f (199 + 4 * i) 2) - (3 : Int32))))]) (st' := [.inl (c2_way_v f i ((f (199 + 4 * i) 2) - (3 : Int32))), .inr (.inr (.inl (69, 201 + 4 * i)))]) (m' := (f, l)) rfl rfl (fl_oks_ok ⟨t2_ky2 hi, True.intro⟩) rfl ?_
        refine fl_Tq.cB (c := (100 : Int32)) rfl (by decide +kernel) (fl_oks_ok ⟨True.intro, t2_ky2 hi, True.intro⟩) ?_
        refine fl_Tq.dv rfl (fl_oks_ok ⟨True.intro, True.intro, t2_ky2 hi, True.intro⟩) (by decide +kernel) ?_
        refine fl_Tq.cB (c := (10 : Int32)) rfl (by decide +kernel) (fl_oks_ok ⟨True.intro, t2_ky2 hi, True.intro⟩) ?_
        refine fl_Tq.cal rfl rfl (fl_oks_ok ⟨True.intro, True.intro, t2_ky2 hi, True.intro⟩) rfl ?_
        refine t2_min_q  ?_
        show fl_Tq _ 91 61 [some (.inr (.inr (.inl (67, 199 + 4 * i)))), some (.inl (c2_way_v f i ((f (199 + 4 * i) 2) - (3 : Int32))))] [.inl (t2_min_v ((c2_way_v f i ((f (199 + 4 * i) 2) - (3 : Int32))) / (100 : Int32)) (10 : Int32)), .inr (.inr (.inl (69, 201 + 4 * i)))] (f, l) _
        refine fl_Tq.stp (pc' := 62) (lv' := [some (.inr (.inr (.inl (67, 199 + 4 * i)))), some (.inl (c2_way_v f i ((f (199 + 4 * i) 2) - (3 : Int32))))]) (st' := [.inl (t2_min_v ((c2_way_v f i ((f (199 + 4 * i) 2) - (3 : Int32))) / (100 : Int32)) (10 : Int32)), .inr (.inr (.inl (69, 201 + 4 * i))), .inl (t2_min_v ((c2_way_v f i ((f (199 + 4 * i) 2) - (3 : Int32))) / (100 : Int32)) (10 : Int32)), .inr (.inr (.inl (69, 201 + 4 * i)))]) (m' := (f, l)) rfl rfl (fl_oks_ok ⟨True.intro, t2_ky2 hi, True.intro⟩) rfl ?_
        refine fl_Tq.ldV (p := 201 + 4 * i) (τ := 69) (n := 11) (z := (0, 0, 0)) (k := (t2_min_v ((c2_way_v f i ((f (199 + 4 * i) 2) - (3 : Int32))) / (100 : Int32)) (10 : Int32)).toInt.toNat) (v := f (201 + 4 * i) ((t2_min_v ((c2_way_v f i ((f (199 + 4 * i) 2) - (3 : Int32))) / (100 : Int32)) (10 : Int32)).toInt.toNat)) rfl (fl_oks_ok ⟨True.intro, t2_ky2 hi, True.intro, t2_ky2 hi, True.intro⟩) rfl (t2_nn (t2_cyi (x := c2_way_v f i ((f (199 + 4 * i) 2) - (3 : Int32))) (c2_way_b (x := (f (199 + 4 * i) 2) - (3 : Int32)) hv (t2_tx (D := 3) (by decide +kernel) (by have c4 : (4 : Int32).toInt = 4 := (by decide +kernel); omega) (by omega) (by decide))).1).1) (by have := (t2_cyi (x := c2_way_v f i ((f (199 + 4 * i) 2) - (3 : Int32))) (c2_way_b (x := (f (199 + 4 * i) 2) - (3 : Int32)) hv (t2_tx (D := 3) (by decide +kernel) (by have c4 : (4 : Int32).toInt = 4 := (by decide +kernel); omega) (by omega) (by decide))).1).2; omega) rfl ?_
        refine fl_Tq.cI (c := (1 : Int32)) rfl (by decide +kernel) (fl_oks_ok ⟨True.intro, True.intro, t2_ky2 hi, True.intro⟩) ?_
        refine fl_Tq.stp (pc' := 65) (lv' := [some (.inr (.inr (.inl (67, 199 + 4 * i)))), some (.inl (c2_way_v f i ((f (199 + 4 * i) 2) - (3 : Int32))))]) (st' := [.inl ((f (201 + 4 * i) ((t2_min_v ((c2_way_v f i ((f (199 + 4 * i) 2) - (3 : Int32))) / (100 : Int32)) (10 : Int32)).toInt.toNat)) + (1 : Int32)), .inl (t2_min_v ((c2_way_v f i ((f (199 + 4 * i) 2) - (3 : Int32))) / (100 : Int32)) (10 : Int32)), .inr (.inr (.inl (69, 201 + 4 * i)))]) (m' := (f, l)) rfl rfl (fl_oks_ok ⟨True.intro, True.intro, True.intro, t2_ky2 hi, True.intro⟩) rfl ?_
        refine fl_Tq.svV (p := 201 + 4 * i) (τ := 69) (n := 11) (z := (0, 0, 0)) (k := (t2_min_v ((c2_way_v f i ((f (199 + 4 * i) 2) - (3 : Int32))) / (100 : Int32)) (10 : Int32)).toInt.toNat) (m' := (fl_row f (201 + 4 * i) (upd (f (201 + 4 * i)) ((t2_min_v ((c2_way_v f i ((f (199 + 4 * i) 2) - (3 : Int32))) / (100 : Int32)) (10 : Int32)).toInt.toNat) ((f (201 + 4 * i) ((t2_min_v ((c2_way_v f i ((f (199 + 4 * i) 2) - (3 : Int32))) / (100 : Int32)) (10 : Int32)).toInt.toNat)) + (1 : Int32))), l)) rfl (fl_oks_ok ⟨True.intro, True.intro, t2_ky2 hi, True.intro⟩) rfl (t2_nn (t2_cyi (x := c2_way_v f i ((f (199 + 4 * i) 2) - (3 : Int32))) (c2_way_b (x := (f (199 + 4 * i) 2) - (3 : Int32)) hv (t2_tx (D := 3) (by decide +kernel) (by have c4 : (4 : Int32).toInt = 4 := (by decide +kernel); omega) (by omega) (by decide))).1).1) (by have := (t2_cyi (x := c2_way_v f i ((f (199 + 4 * i) 2) - (3 : Int32))) (c2_way_b (x := (f (199 + 4 * i) 2) - (3 : Int32)) hv (t2_tx (D := 3) (by decide +kernel) (by have c4 : (4 : Int32).toInt = 4 := (by decide +kernel); omega) (by omega) (by decide))).1).2; omega) (t2_upn rfl) ?_
        refine fl_Tq.stp (pc' := 67) (lv' := [some (.inr (.inr (.inl (67, 199 + 4 * i)))), some (.inl (c2_way_v f i ((f (199 + 4 * i) 2) - (3 : Int32))))]) (st' := [.inr (.inr (.inl (67, 199 + 4 * i)))]) (m' := (fl_row f (201 + 4 * i) (upd (f (201 + 4 * i)) ((t2_min_v ((c2_way_v f i ((f (199 + 4 * i) 2) - (3 : Int32))) / (100 : Int32)) (10 : Int32)).toInt.toNat) ((f (201 + 4 * i) ((t2_min_v ((c2_way_v f i ((f (199 + 4 * i) 2) - (3 : Int32))) / (100 : Int32)) (10 : Int32)).toInt.toNat)) + (1 : Int32))), l)) rfl rfl (fl_bo rfl) rfl ?_
        refine fl_Tq.gfR (d := 1) (p' := 200 + 4 * i) rfl (fl_oks_ok ⟨t2_kt2 hi, True.intro⟩) rfl (by omega) ?_
        refine fl_Tq.stp (pc' := 71) (lv' := [some (.inr (.inr (.inl (67, 199 + 4 * i)))), some (.inl (c2_way_v f i ((f (199 + 4 * i) 2) - (3 : Int32))))]) (st' := [.inr (.inr (.inl (67, 199 + 4 * i))), .inr (.inr (.inl (68, 200 + 4 * i)))]) (m' := (fl_row f (201 + 4 * i) (upd (f (201 + 4 * i)) ((t2_min_v ((c2_way_v f i ((f (199 + 4 * i) 2) - (3 : Int32))) / (100 : Int32)) (10 : Int32)).toInt.toNat) ((f (201 + 4 * i) ((t2_min_v ((c2_way_v f i ((f (199 + 4 * i) 2) - (3 : Int32))) / (100 : Int32)) (10 : Int32)).toInt.toNat)) + (1 : Int32))), l)) rfl rfl (fl_oks_ok ⟨t2_ka2 hi, True.intro⟩) rfl ?_
        refine fl_Tq.gfV (k := 2) (v := f (199 + 4 * i) 2) rfl (fl_oks_ok ⟨t2_kt2 hi, t2_ka2 hi, True.intro⟩) rfl (by simp only [fl_row_ne (show 199 + 4 * i ≠ 201 + 4 * i by omega)]) ?_
        refine fl_Tq.cI (c := (3 : Int32)) rfl (by decide +kernel) (fl_oks_ok ⟨True.intro, t2_ka2 hi, True.intro⟩) ?_
        refine fl_Tq.stp (pc' := 76) (lv' := [some (.inr (.inr (.inl (67, 199 + 4 * i)))), some (.inl (c2_way_v f i ((f (199 + 4 * i) 2) - (3 : Int32))))]) (st' := [.inl ((f (199 + 4 * i) 2) - (3 : Int32)), .inr (.inr (.inl (68, 200 + 4 * i)))]) (m' := (fl_row f (201 + 4 * i) (upd (f (201 + 4 * i)) ((t2_min_v ((c2_way_v f i ((f (199 + 4 * i) 2) - (3 : Int32))) / (100 : Int32)) (10 : Int32)).toInt.toNat) ((f (201 + 4 * i) ((t2_min_v ((c2_way_v f i ((f (199 + 4 * i) 2) - (3 : Int32))) / (100 : Int32)) (10 : Int32)).toInt.toNat)) + (1 : Int32))), l)) rfl rfl (fl_oks_ok ⟨True.intro, True.intro, t2_ka2 hi, True.intro⟩) rfl ?_
        refine fl_Tq.stp (pc' := 77) (lv' := [some (.inr (.inr (.inl (67, 199 + 4 * i)))), some (.inl (c2_way_v f i ((f (199 + 4 * i) 2) - (3 : Int32))))]) (st' := [.inr (.inr (.inl (67, 199 + 4 * i))), .inl ((f (199 + 4 * i) 2) - (3 : Int32)), .inr (.inr (.inl (68, 200 + 4 * i)))]) (m' := (fl_row f (201 + 4 * i) (upd (f (201 + 4 * i)) ((t2_min_v ((c2_way_v f i ((f (199 + 4 * i) 2) - (3 : Int32))) / (100 : Int32)) (10 : Int32)).toInt.toNat) ((f (201 + 4 * i) ((t2_min_v ((c2_way_v f i ((f (199 + 4 * i) 2) - (3 : Int32))) / (100 : Int32)) (10 : Int32)).toInt.toNat)) + (1 : Int32))), l)) rfl rfl (fl_oks_ok ⟨True.intro, t2_ka2 hi, True.intro⟩) rfl ?_
        refine fl_Tq.gfR (d := 1) (p' := 200 + 4 * i) rfl (fl_oks_ok ⟨t2_kt2 hi, True.intro, t2_ka2 hi, True.intro⟩) rfl (by omega) ?_
        refine fl_Tq.stp (pc' := 81) (lv' := [some (.inr (.inr (.inl (67, 199 + 4 * i)))), some (.inl (c2_way_v f i ((f (199 + 4 * i) 2) - (3 : Int32))))]) (st' := [.inr (.inr (.inl (67, 199 + 4 * i))), .inr (.inr (.inl (68, 200 + 4 * i))), .inl ((f (199 + 4 * i) 2) - (3 : Int32)), .inr (.inr (.inl (68, 200 + 4 * i)))]) (m' := (fl_row f (201 + 4 * i) (upd (f (201 + 4 * i)) ((t2_min_v ((c2_way_v f i ((f (199 + 4 * i) 2) - (3 : Int32))) / (100 : Int32)) (10 : Int32)).toInt.toNat) ((f (201 + 4 * i) ((t2_min_v ((c2_way_v f i ((f (199 + 4 * i) 2) - (3 : Int32))) / (100 : Int32)) (10 : Int32)).toInt.toNat)) + (1 : Int32))), l)) rfl rfl (fl_oks_ok ⟨t2_ka2 hi, True.intro, t2_ka2 hi, True.intro⟩) rfl ?_
        refine fl_Tq.gfV (k := 2) (v := f (199 + 4 * i) 2) rfl (fl_oks_ok ⟨t2_kt2 hi, t2_ka2 hi, True.intro, t2_ka2 hi, True.intro⟩) rfl (by simp only [fl_row_ne (show 199 + 4 * i ≠ 201 + 4 * i by omega)]) ?_
        refine fl_Tq.cI (c := (1 : Int32)) rfl (by decide +kernel) (fl_oks_ok ⟨True.intro, t2_ka2 hi, True.intro, t2_ka2 hi, True.intro⟩) ?_
        refine fl_Tq.stp (pc' := 86) (lv' := [some (.inr (.inr (.inl (67, 199 + 4 * i)))), some (.inl (c2_way_v f i ((f (199 + 4 * i) 2) - (3 : Int32))))]) (st' := [.inl ((f (199 + 4 * i) 2) - (1 : Int32)), .inr (.inr (.inl (68, 200 + 4 * i))), .inl ((f (199 + 4 * i) 2) - (3 : Int32)), .inr (.inr (.inl (68, 200 + 4 * i)))]) (m' := (fl_row f (201 + 4 * i) (upd (f (201 + 4 * i)) ((t2_min_v ((c2_way_v f i ((f (199 + 4 * i) 2) - (3 : Int32))) / (100 : Int32)) (10 : Int32)).toInt.toNat) ((f (201 + 4 * i) ((t2_min_v ((c2_way_v f i ((f (199 + 4 * i) 2) - (3 : Int32))) / (100 : Int32)) (10 : Int32)).toInt.toNat)) + (1 : Int32))), l)) rfl rfl (fl_oks_ok ⟨True.intro, True.intro, t2_ka2 hi, True.intro, t2_ka2 hi, True.intro⟩) rfl ?_
        refine fl_Tq.ldV (p := 200 + 4 * i) (τ := 68) (n := 32) (z := (0, 0, 0)) (k := ((f (199 + 4 * i) 2).toInt.toNat - 1)) (v := f (200 + 4 * i) ((f (199 + 4 * i) 2).toInt.toNat - 1)) rfl (fl_oks_ok ⟨True.intro, t2_ka2 hi, True.intro, t2_ka2 hi, True.intro⟩) rfl (t2_is (t2_nn (by omega)) (by decide +kernel) (by have c4 : (4 : Int32).toInt = 4 := (by decide +kernel); omega)) (by have c4 : (4 : Int32).toInt = 4 := (by decide +kernel); omega) (by simp only [fl_row_ne (show 200 + 4 * i ≠ 201 + 4 * i by omega)]) ?_
        refine fl_Tq.svV (p := 200 + 4 * i) (τ := 68) (n := 32) (z := (0, 0, 0)) (k := ((f (199 + 4 * i) 2).toInt.toNat - 3)) (m' := (fl_row (fl_row f (201 + 4 * i) (upd (f (201 + 4 * i)) ((t2_min_v ((c2_way_v f i ((f (199 + 4 * i) 2) - (3 : Int32))) / (100 : Int32)) (10 : Int32)).toInt.toNat) ((f (201 + 4 * i) ((t2_min_v ((c2_way_v f i ((f (199 + 4 * i) 2) - (3 : Int32))) / (100 : Int32)) (10 : Int32)).toInt.toNat)) + (1 : Int32)))) (200 + 4 * i) (upd (f (200 + 4 * i)) ((f (199 + 4 * i) 2).toInt.toNat - 3) (f (200 + 4 * i) ((f (199 + 4 * i) 2).toInt.toNat - 1))), l)) rfl (fl_oks_ok ⟨True.intro, True.intro, t2_ka2 hi, True.intro⟩) rfl (t2_is (t2_nn (by omega)) (by decide +kernel) (by have c4 : (4 : Int32).toInt = 4 := (by decide +kernel); omega)) (by have c4 : (4 : Int32).toInt = 4 := (by decide +kernel); omega) (t2_upn (by rw [fl_row_ne (show 200 + 4 * i ≠ 201 + 4 * i by omega)])) ?_
        refine fl_Tq.stp (pc' := 89) (lv' := [some (.inr (.inr (.inl (67, 199 + 4 * i)))), some (.inl (c2_way_v f i ((f (199 + 4 * i) 2) - (3 : Int32))))]) (st' := [.inr (.inr (.inl (67, 199 + 4 * i)))]) (m' := (fl_row (fl_row f (201 + 4 * i) (upd (f (201 + 4 * i)) ((t2_min_v ((c2_way_v f i ((f (199 + 4 * i) 2) - (3 : Int32))) / (100 : Int32)) (10 : Int32)).toInt.toNat) ((f (201 + 4 * i) ((t2_min_v ((c2_way_v f i ((f (199 + 4 * i) 2) - (3 : Int32))) / (100 : Int32)) (10 : Int32)).toInt.toNat)) + (1 : Int32)))) (200 + 4 * i) (upd (f (200 + 4 * i)) ((f (199 + 4 * i) 2).toInt.toNat - 3) (f (200 + 4 * i) ((f (199 + 4 * i) 2).toInt.toNat - 1))), l)) rfl rfl (fl_bo rfl) rfl ?_
        refine fl_Tq.stp (pc' := 90) (lv' := [some (.inr (.inr (.inl (67, 199 + 4 * i)))), some (.inl (c2_way_v f i ((f (199 + 4 * i) 2) - (3 : Int32))))]) (st' := [.inr (.inr (.inl (67, 199 + 4 * i))), .inr (.inr (.inl (67, 199 + 4 * i)))]) (m' := (fl_row (fl_row f (201 + 4 * i) (upd (f (201 + 4 * i)) ((t2_min_v ((c2_way_v f i ((f (199 + 4 * i) 2) - (3 : Int32))) / (100 : Int32)) (10 : Int32)).toInt.toNat) ((f (201 + 4 * i) ((t2_min_v ((c2_way_v f i ((f (199 + 4 * i) 2) - (3 : Int32))) / (100 : Int32)) (10 : Int32)).toInt.toNat)) + (1 : Int32)))) (200 + 4 * i) (upd (f (200 + 4 * i)) ((f (199 + 4 * i) 2).toInt.toNat - 3) (f (200 + 4 * i) ((f (199 + 4 * i) 2).toInt.toNat - 1))), l)) rfl rfl (fl_oks_ok ⟨t2_kt2 hi, True.intro⟩) rfl ?_
        refine fl_Tq.gfV (k := 2) (v := f (199 + 4 * i) 2) rfl (fl_oks_ok ⟨t2_kt2 hi, t2_kt2 hi, True.intro⟩) rfl (by simp only [fl_row_ne (show 199 + 4 * i ≠ 200 + 4 * i by omega), fl_row_ne (show 199 + 4 * i ≠ 201 + 4 * i by omega)]) ?_
        refine fl_Tq.cI (c := (2 : Int32)) rfl (by decide +kernel) (fl_oks_ok ⟨True.intro, t2_kt2 hi, True.intro⟩) ?_
        refine fl_Tq.stp (pc' := 95) (lv' := [some (.inr (.inr (.inl (67, 199 + 4 * i)))), some (.inl (c2_way_v f i ((f (199 + 4 * i) 2) - (3 : Int32))))]) (st' := [.inl ((f (199 + 4 * i) 2) - (2 : Int32)), .inr (.inr (.inl (67, 199 + 4 * i)))]) (m' := (fl_row (fl_row f (201 + 4 * i) (upd (f (201 + 4 * i)) ((t2_min_v ((c2_way_v f i ((f (199 + 4 * i) 2) - (3 : Int32))) / (100 : Int32)) (10 : Int32)).toInt.toNat) ((f (201 + 4 * i) ((t2_min_v ((c2_way_v f i ((f (199 + 4 * i) 2) - (3 : Int32))) / (100 : Int32)) (10 : Int32)).toInt.toNat)) + (1 : Int32)))) (200 + 4 * i) (upd (f (200 + 4 * i)) ((f (199 + 4 * i) 2).toInt.toNat - 3) (f (200 + 4 * i) ((f (199 + 4 * i) 2).toInt.toNat - 1))), l)) rfl rfl (fl_oks_ok ⟨True.intro, True.intro, t2_kt2 hi, True.intro⟩) rfl ?_
        refine fl_Tq.pfV (k := 2) (m' := (fl_row (fl_row (fl_row f (201 + 4 * i) (upd (f (201 + 4 * i)) ((t2_min_v ((c2_way_v f i ((f (199 + 4 * i) 2) - (3 : Int32))) / (100 : Int32)) (10 : Int32)).toInt.toNat) ((f (201 + 4 * i) ((t2_min_v ((c2_way_v f i ((f (199 + 4 * i) 2) - (3 : Int32))) / (100 : Int32)) (10 : Int32)).toInt.toNat)) + (1 : Int32)))) (200 + 4 * i) (upd (f (200 + 4 * i)) ((f (199 + 4 * i) 2).toInt.toNat - 3) (f (200 + 4 * i) ((f (199 + 4 * i) 2).toInt.toNat - 1)))) (199 + 4 * i) (upd (f (199 + 4 * i)) 2 ((f (199 + 4 * i) 2) - (2 : Int32))), l)) rfl (fl_oks_ok ⟨True.intro, t2_kt2 hi, True.intro⟩) rfl (t2_upn (by rw [fl_row_ne (show 199 + 4 * i ≠ 200 + 4 * i by omega), fl_row_ne (show 199 + 4 * i ≠ 201 + 4 * i by omega)])) ?_
        refine fl_Tq.stp (pc' := 0) (lv' := [some (.inr (.inr (.inl (67, 199 + 4 * i)))), some (.inl (c2_way_v f i ((f (199 + 4 * i) 2) - (3 : Int32))))]) (st' := []) (m' := (fl_row (fl_row (fl_row f (201 + 4 * i) (upd (f (201 + 4 * i)) ((t2_min_v ((c2_way_v f i ((f (199 + 4 * i) 2) - (3 : Int32))) / (100 : Int32)) (10 : Int32)).toInt.toNat) ((f (201 + 4 * i) ((t2_min_v ((c2_way_v f i ((f (199 + 4 * i) 2) - (3 : Int32))) / (100 : Int32)) (10 : Int32)).toInt.toNat)) + (1 : Int32)))) (200 + 4 * i) (upd (f (200 + 4 * i)) ((f (199 + 4 * i) 2).toInt.toNat - 3) (f (200 + 4 * i) ((f (199 + 4 * i) 2).toInt.toNat - 1)))) (199 + 4 * i) (upd (f (199 + 4 * i)) 2 ((f (199 + 4 * i) 2) - (2 : Int32))), l)) rfl rfl (fl_bo rfl) rfl ?_
        have eg : c2_cc_g0 f i = some (fl_row (fl_row (fl_row f (201 + 4 * i) (upd (f (201 + 4 * i)) ((t2_min_v ((c2_way_v f i ((f (199 + 4 * i) 2) - (3 : Int32))) / (100 : Int32)) (10 : Int32)).toInt.toNat) ((f (201 + 4 * i) ((t2_min_v ((c2_way_v f i ((f (199 + 4 * i) 2) - (3 : Int32))) / (100 : Int32)) (10 : Int32)).toInt.toNat)) + (1 : Int32)))) (200 + 4 * i) (upd (f (200 + 4 * i)) ((f (199 + 4 * i) 2).toInt.toNat - 3) (f (200 + 4 * i) ((f (199 + 4 * i) 2).toInt.toNat - 1)))) (199 + 4 * i) (upd (f (199 + 4 * i)) 2 ((f (199 + 4 * i) 2) - (2 : Int32)))) := by
          unfold c2_cc_g0
          simp only [if_neg h1, if_neg h2, if_neg h3]
        have hS := k1 _ eg
        exact fl_Tq.fg hS ⟨rfl, True.intro⟩
theorem c2_cc_dec {f f' : t2_F} {i : Nat} (h : 0 ≤ (f (199 + 4 * i) 2).toInt) (hv : t2_p32 (f (200 + 4 * i))) (e : c2_cc_g0 f i = some f') : ((f' (199 + 4 * i) 2).toInt.toNat < (f (199 + 4 * i) 2).toInt.toNat ∧ (1 ≤ (f' (199 + 4 * i) 2).toInt ∧ (f' (199 + 4 * i) 2).toInt ≤ (f (199 + 4 * i) 2).toInt)) ∧ ((f (199 + 4 * i) 2).toInt ≤ 32 → t2_p32 (f' (200 + 4 * i))) := by
  have e4 : (4 : Int32).toInt = 4 := by decide +kernel
  have e2 : (2 : Int32).toInt = 2 := by decide +kernel
  have hx := at_i32 (f (199 + 4 * i) 2)
  unfold c2_cc_g0 at e
  repeat' split at e
  all_goals first | (cases e; done) | skip
  all_goals
    have e5 : f' (199 + 4 * i) 2 = f (199 + 4 * i) 2 - (2 : Int32) := by
      cases e
      simp only [fl_row_self, upd_self]
    refine ⟨?_, fun h32 => ?_⟩
    · rw [e5, at_sub32 (by omega) (by omega)]
      omega
    · cases e
      rw [fl_row_ne (by omega), fl_row_self]
      exact hv.upd (hv _ (by omega))
theorem c2_cc_wfr {i n p : Nat} {f : t2_F} (e0 : p ≠ 199 + 4 * i) (e1 : p ≠ 200 + 4 * i) (e2 : p ≠ 201 + 4 * i) : t2_wf (fun f => c2_cc_g0 f i) n f p = f p := by
  refine t2_wf_p (fun f f' e => ?_) n f
  unfold c2_cc_g0 at e
  repeat' split at e
  all_goals first | (cases e; done) | (cases e; simp only [fl_row_ne e0, fl_row_ne e1, fl_row_ne e2])
noncomputable def c2_cc_m (f : t2_F) (i : Nat) : t2_F := t2_wf (fun f => c2_cc_g0 f i) 32 f
theorem c2_cc_fr {f : t2_F} {i : Nat} {p : Nat} (e0 : p ≠ 199 + 4 * i) (e1 : p ≠ 200 + 4 * i) (e2 : p ≠ 201 + 4 * i) : c2_cc_m f i p = f p := by
  unfold c2_cc_m
  repeat' split
  all_goals first | rfl | simp only [fl_row_ne e0, fl_row_ne e1, fl_row_ne e2, c2_cc_wfr e0 e1 e2]
theorem c2_cc_q {L : Nat} {xs : Nat → Int32} {f : t2_F} {l : t2_L} {Q : Option fl_V → fl_M → Prop} {i : Nat} (hi : i < 16) (ht : 1 ≤ (f (199 + 4 * i) 2).toInt ∧ (f (199 + 4 * i) 2).toInt ≤ 32) (hv : t2_p32 (f (200 + 4 * i))) (k : Q none (c2_cc_m f i, l)) : fl_Tq (pw_P L xs) 91 0 (fl_args (am_mxl (pw_P L xs) 91) [.inr (.inr (.inl (67, 199 + 4 * i)))]) [] (f, l) Q := by
  refine t2_wh (g := (fun f => c2_cc_g0 f i)) (I := (fun f => (1 ≤ (f (199 + 4 * i) 2).toInt ∧ (f (199 + 4 * i) 2).toInt ≤ 32) ∧ t2_p32 (f (200 + 4 * i)))) (μ := (fun f => (f (199 + 4 * i) 2).toInt.toNat)) (S := fun f' => fl_Tq (pw_P L xs) 91 0 [some (.inr (.inr (.inl (67, 199 + 4 * i)))), none] [] (f', l) Q) (E := fun f' => Q none (f', l)) (fun f f' h e => have d := c2_cc_dec (by omega) h.2 e; ⟨⟨⟨d.1.2.1, by omega⟩, d.2 h.1.2⟩, d.1.1⟩) (fun f' hI k0 k1 => c2_cc_g0_q hi hI.1 hI.2 k0 k1) 32 _ ⟨ht, hv⟩ (by omega) ?_
  exact k
noncomputable def c2_follow_m (f : t2_F) (i : Nat) (x : Int32) : t2_F := if (f (199 + 4 * i) 2).toInt = 0 then f else (if x.toInt = (f (200 + 4 * i) ((f (199 + 4 * i) 2).toInt.toNat - 1)).toInt then f else (if (c2_goesOn_v f i x).toInt = 0 then c2_cc_m (c2_uadd_m f i x) i else c2_cc_m (fl_row f (200 + 4 * i) (upd (f (200 + 4 * i)) ((f (199 + 4 * i) 2).toInt.toNat - 1) x)) i))
theorem c2_follow_fr {f : t2_F} {i : Nat} {x : Int32} {p : Nat} (e0 : p ≠ 199 + 4 * i) (e1 : p ≠ 200 + 4 * i) (e2 : p ≠ 201 + 4 * i) : c2_follow_m f i x p = f p := by
  unfold c2_follow_m
  repeat' split
  all_goals first | rfl | simp only [fl_row_ne e0, fl_row_ne e1, fl_row_ne e2, c2_cc_fr e0 e1 e2, c2_uadd_fr e1 e0]
theorem c2_follow_q {L : Nat} {xs : Nat → Int32} {f : t2_F} {l : t2_L} {Q : Option fl_V → fl_M → Prop} {i : Nat} {x : Int32} (hi : i < 16) (ht : 1 ≤ (f (199 + 4 * i) 2).toInt ∧ (f (199 + 4 * i) 2).toInt ≤ 32) (hv : t2_p32 (f (200 + 4 * i))) (hx : t2_pt x) (k : Q none (c2_follow_m f i x, l)) : fl_Tq (pw_P L xs) 88 0 (fl_args (am_mxl (pw_P L xs) 88) [.inr (.inr (.inl (67, 199 + 4 * i))), .inl x]) [] (f, l) Q := by
  refine fl_Tq.stp (pc' := 1) (lv' := [some (.inr (.inr (.inl (67, 199 + 4 * i)))), some (.inl x)]) (st' := [.inr (.inr (.inl (67, 199 + 4 * i)))]) (m' := (f, l)) rfl rfl (fl_bo rfl) rfl ?_
  refine fl_Tq.gfV (k := 2) (v := f (199 + 4 * i) 2) rfl (fl_oks_ok ⟨t2_kt2 hi, True.intro⟩) rfl rfl ?_
  by_cases h1 : (f (199 + 4 * i) 2).toInt = 0
  · refine fl_Tq.zt rfl (fl_bo rfl) (c1_eq_t h1) rfl ?_
    refine fl_Tq.ret rfl rfl rfl ?_
    unfold c2_follow_m at k
    simp only [if_pos h1] at k
    exact k
  · refine fl_Tq.zf rfl (fl_bo rfl) (c1_eq_f h1) rfl ?_
    refine fl_Tq.stp (pc' := 8) (lv' := [some (.inr (.inr (.inl (67, 199 + 4 * i)))), some (.inl x)]) (st' := [.inl x]) (m' := (f, l)) rfl rfl (fl_bo rfl) rfl ?_
    refine fl_Tq.stp (pc' := 9) (lv' := [some (.inr (.inr (.inl (67, 199 + 4 * i)))), some (.inl x)]) (st' := [.inr (.inr (.inl (67, 199 + 4 * i))), .inl x]) (m' := (f, l)) rfl rfl (fl_bo rfl) rfl ?_
    refine fl_Tq.gfR (d := 1) (p' := 200 + 4 * i) rfl (fl_oks_ok ⟨t2_kt2 hi, True.intro, True.intro⟩) rfl (by omega) ?_
    refine fl_Tq.stp (pc' := 13) (lv' := [some (.inr (.inr (.inl (67, 199 + 4 * i)))), some (.inl x)]) (st' := [.inr (.inr (.inl (67, 199 + 4 * i))), .inr (.inr (.inl (68, 200 + 4 * i))), .inl x]) (m' := (f, l)) rfl rfl (fl_oks_ok ⟨t2_ka2 hi, True.intro, True.intro⟩) rfl ?_
    refine fl_Tq.gfV (k := 2) (v := f (199 + 4 * i) 2) rfl (fl_oks_ok ⟨t2_kt2 hi, t2_ka2 hi, True.intro, True.intro⟩) rfl rfl ?_
    refine fl_Tq.cI (c := (1 : Int32)) rfl (by decide +kernel) (fl_oks_ok ⟨True.intro, t2_ka2 hi, True.intro, True.intro⟩) ?_
    refine fl_Tq.stp (pc' := 18) (lv' := [some (.inr (.inr (.inl (67, 199 + 4 * i)))), some (.inl x)]) (st' := [.inl ((f (199 + 4 * i) 2) - (1 : Int32)), .inr (.inr (.inl (68, 200 + 4 * i))), .inl x]) (m' := (f, l)) rfl rfl (fl_oks_ok ⟨True.intro, True.intro, t2_ka2 hi, True.intro, True.intro⟩) rfl ?_
    refine fl_Tq.ldV (p := 200 + 4 * i) (τ := 68) (n := 32) (z := (0, 0, 0)) (k := ((f (199 + 4 * i) 2).toInt.toNat - 1)) (v := f (200 + 4 * i) ((f (199 + 4 * i) 2).toInt.toNat - 1)) rfl (fl_oks_ok ⟨True.intro, t2_ka2 hi, True.intro, True.intro⟩) rfl (t2_is (t2_nn (by omega)) (by decide +kernel) (by have c4 : (4 : Int32).toInt = 4 := (by decide +kernel); omega)) (by have c4 : (4 : Int32).toInt = 4 := (by decide +kernel); omega) rfl ?_
    by_cases h2 : x.toInt = (f (200 + 4 * i) ((f (199 + 4 * i) 2).toInt.toNat - 1)).toInt
    · refine fl_Tq.jf rfl (fl_bo rfl) (c2_ne_f h2) rfl ?_
      refine fl_Tq.ret rfl rfl rfl ?_
      unfold c2_follow_m at k
      simp only [if_neg h1, if_pos h2] at k
      exact k
    · refine fl_Tq.jt rfl (fl_bo rfl) (c2_ne_t h2) rfl ?_
      refine fl_Tq.stp (pc' := 24) (lv' := [some (.inr (.inr (.inl (67, 199 + 4 * i)))), some (.inl x)]) (st' := [.inr (.inr (.inl (67, 199 + 4 * i)))]) (m' := (f, l)) rfl rfl (fl_bo rfl) rfl ?_
      refine fl_Tq.stp (pc' := 25) (lv' := [some (.inr (.inr (.inl (67, 199 + 4 * i)))), some (.inl x)]) (st' := [.inl x, .inr (.inr (.inl (67, 199 + 4 * i)))]) (m' := (f, l)) rfl rfl (fl_oks_ok ⟨t2_kt2 hi, True.intro⟩) rfl ?_
      refine fl_Tq.cal rfl rfl (fl_oks_ok ⟨True.intro, t2_kt2 hi, True.intro⟩) rfl ?_
      refine c2_goesOn_q hi ⟨by omega, by omega⟩ ?_
      show fl_Tq _ 88 28 [some (.inr (.inr (.inl (67, 199 + 4 * i)))), some (.inl x)] [.inl (c2_goesOn_v f i x)] (f, l) _
      by_cases h3 : (c2_goesOn_v f i x).toInt = 0
      · refine fl_Tq.zt rfl (fl_bo rfl) (c1_eq_t h3) rfl ?_
        refine fl_Tq.stp (pc' := 47) (lv' := [some (.inr (.inr (.inl (67, 199 + 4 * i)))), some (.inl x)]) (st' := [.inr (.inr (.inl (67, 199 + 4 * i)))]) (m' := (f, l)) rfl rfl (fl_bo rfl) rfl ?_
        refine fl_Tq.stp (pc' := 48) (lv' := [some (.inr (.inr (.inl (67, 199 + 4 * i)))), some (.inl x)]) (st' := [.inl x, .inr (.inr (.inl (67, 199 + 4 * i)))]) (m' := (f, l)) rfl rfl (fl_oks_ok ⟨t2_kt2 hi, True.intro⟩) rfl ?_
        refine fl_Tq.cal rfl rfl (fl_oks_ok ⟨True.intro, t2_kt2 hi, True.intro⟩) rfl ?_
        refine c2_uadd_q hi ht ?_
        show fl_Tq _ 88 51 [some (.inr (.inr (.inl (67, 199 + 4 * i)))), some (.inl x)] [] (c2_uadd_m f i x, l) _
        refine fl_Tq.stp (pc' := 52) (lv' := [some (.inr (.inr (.inl (67, 199 + 4 * i)))), some (.inl x)]) (st' := [.inr (.inr (.inl (67, 199 + 4 * i)))]) (m' := (c2_uadd_m f i x, l)) rfl rfl (fl_bo rfl) rfl ?_
        refine fl_Tq.cal rfl rfl (fl_oks_ok ⟨t2_kt2 hi, True.intro⟩) rfl ?_
        refine c2_cc_q hi (c2_uadd_ht ht) (c2_uadd_hv hv hx) ?_
        show fl_Tq _ 88 55 [some (.inr (.inr (.inl (67, 199 + 4 * i)))), some (.inl x)] [] (c2_cc_m (c2_uadd_m f i x) i, l) _
        refine fl_Tq.ret rfl rfl rfl ?_
        unfold c2_follow_m at k
        simp only [if_neg h1, if_neg h2, if_pos h3] at k
        exact k
      · refine fl_Tq.zf rfl (fl_bo rfl) (c1_eq_f h3) rfl ?_
        refine fl_Tq.stp (pc' := 32) (lv' := [some (.inr (.inr (.inl (67, 199 + 4 * i)))), some (.inl x)]) (st' := [.inr (.inr (.inl (67, 199 + 4 * i)))]) (m' := (f, l)) rfl rfl (fl_bo rfl) rfl ?_
        refine fl_Tq.gfR (d := 1) (p' := 200 + 4 * i) rfl (fl_oks_ok ⟨t2_kt2 hi, True.intro⟩) rfl (by omega) ?_
        refine fl_Tq.stp (pc' := 36) (lv' := [some (.inr (.inr (.inl (67, 199 + 4 * i)))), some (.inl x)]) (st' := [.inr (.inr (.inl (67, 199 + 4 * i))), .inr (.inr (.inl (68, 200 + 4 * i)))]) (m' := (f, l)) rfl rfl (fl_oks_ok ⟨t2_ka2 hi, True.intro⟩) rfl ?_
        refine fl_Tq.gfV (k := 2) (v := f (199 + 4 * i) 2) rfl (fl_oks_ok ⟨t2_kt2 hi, t2_ka2 hi, True.intro⟩) rfl rfl ?_
        refine fl_Tq.cI (c := (1 : Int32)) rfl (by decide +kernel) (fl_oks_ok ⟨True.intro, t2_ka2 hi, True.intro⟩) ?_
        refine fl_Tq.stp (pc' := 41) (lv' := [some (.inr (.inr (.inl (67, 199 + 4 * i)))), some (.inl x)]) (st' := [.inl ((f (199 + 4 * i) 2) - (1 : Int32)), .inr (.inr (.inl (68, 200 + 4 * i)))]) (m' := (f, l)) rfl rfl (fl_oks_ok ⟨True.intro, True.intro, t2_ka2 hi, True.intro⟩) rfl ?_
        refine fl_Tq.stp (pc' := 42) (lv' := [some (.inr (.inr (.inl (67, 199 + 4 * i)))), some (.inl x)]) (st' := [.inl x, .inl ((f (199 + 4 * i) 2) - (1 : Int32)), .inr (.inr (.inl (68, 200 + 4 * i)))]) (m' := (f, l)) rfl rfl (fl_oks_ok ⟨True.intro, t2_ka2 hi, True.intro⟩) rfl ?_
        refine fl_Tq.svV (p := 200 + 4 * i) (τ := 68) (n := 32) (z := (0, 0, 0)) (k := ((f (199 + 4 * i) 2).toInt.toNat - 1)) (m' := (fl_row f (200 + 4 * i) (upd (f (200 + 4 * i)) ((f (199 + 4 * i) 2).toInt.toNat - 1) x), l)) rfl (fl_oks_ok ⟨True.intro, True.intro, t2_ka2 hi, True.intro⟩) rfl (t2_is (t2_nn (by omega)) (by decide +kernel) (by have c4 : (4 : Int32).toInt = 4 := (by decide +kernel); omega)) (by have c4 : (4 : Int32).toInt = 4 := (by decide +kernel); omega) (t2_upn rfl) ?_
        refine fl_Tq.stp (pc' := 51) (lv' := [some (.inr (.inr (.inl (67, 199 + 4 * i)))), some (.inl x)]) (st' := []) (m' := (fl_row f (200 + 4 * i) (upd (f (200 + 4 * i)) ((f (199 + 4 * i) 2).toInt.toNat - 1) x), l)) rfl rfl (fl_bo rfl) rfl ?_
        refine fl_Tq.stp (pc' := 52) (lv' := [some (.inr (.inr (.inl (67, 199 + 4 * i)))), some (.inl x)]) (st' := [.inr (.inr (.inl (67, 199 + 4 * i)))]) (m' := (fl_row f (200 + 4 * i) (upd (f (200 + 4 * i)) ((f (199 + 4 * i) 2).toInt.toNat - 1) x), l)) rfl rfl (fl_bo rfl) rfl ?_
        refine fl_Tq.cal rfl rfl (fl_oks_ok ⟨t2_kt2 hi, True.intro⟩) rfl ?_
        refine c2_cc_q hi (by simp only [fl_row_ne (show 199 + 4 * i ≠ 200 + 4 * i by omega)]; exact ht) (by rw [fl_row_self]; exact hv.upd hx) ?_
        show fl_Tq _ 88 55 [some (.inr (.inr (.inl (67, 199 + 4 * i)))), some (.inl x)] [] (c2_cc_m (fl_row f (200 + 4 * i) (upd (f (200 + 4 * i)) ((f (199 + 4 * i) 2).toInt.toNat - 1) x)) i, l) _
        refine fl_Tq.ret rfl rfl rfl ?_
        unfold c2_follow_m at k
        simp only [if_neg h1, if_neg h2, if_neg h3] at k
        exact k
noncomputable def c2_keepTrack_j11_0 (f : t2_F) (i : Nat) (x : Int32) : Int32 := if (f (198 + 4 * i) 10).toInt = 0 then c2_voltsAt_v f i x else t2_max_v (f (198 + 4 * i) 12) (c2_voltsAt_v f i x)
noncomputable def c2_keepTrack_j34_0 (f : t2_F) (i : Nat) (x : Int32) : Int32 := if (f (198 + 4 * i) 10).toInt = 0 then c2_voltsAt_v f i x else t2_min_v (f (198 + 4 * i) 13) (c2_voltsAt_v f i x)
noncomputable def c2_keepTrack_m (f : t2_F) (i : Nat) (x : Int32) : t2_F := c2_follow_m (fl_row f (198 + 4 * i) (upd (upd (upd (f (198 + 4 * i)) 12 (c2_keepTrack_j11_0 f i x)) 13 (c2_keepTrack_j34_0 f i x)) 10 (1 : Int32))) i (f (198 + 4 * i) 3)
theorem c2_keepTrack_fr {f : t2_F} {i : Nat} {x : Int32} {p : Nat} (e0 : p ≠ 199 + 4 * i) (e1 : p ≠ 200 + 4 * i) (e2 : p ≠ 201 + 4 * i) (e3 : p ≠ 198 + 4 * i) : c2_keepTrack_m f i x p = f p := by
  unfold c2_keepTrack_m
  repeat' split
  all_goals first | rfl | simp only [fl_row_ne e0, fl_row_ne e1, fl_row_ne e2, fl_row_ne e3, c2_follow_fr e0 e1 e2]
theorem c2_keepTrack_q {L : Nat} {xs : Nat → Int32} {f : t2_F} {l : t2_L} {Q : Option fl_V → fl_M → Prop} {i : Nat} {x : Int32} (hi : i < 16) (ht : 1 ≤ (f (199 + 4 * i) 2).toInt ∧ (f (199 + 4 * i) 2).toInt ≤ 32) (hv : t2_p32 (f (200 + 4 * i))) (hx : t2_pt (f (198 + 4 * i) 3)) (k : Q none (c2_keepTrack_m f i x, l)) : fl_Tq (pw_P L xs) 16 0 (fl_args (am_mxl (pw_P L xs) 16) [.inr (.inr (.inl (66, 198 + 4 * i))), .inl x]) [] (f, l) Q := by
  refine fl_Tq.stp (pc' := 1) (lv' := [some (.inr (.inr (.inl (66, 198 + 4 * i)))), some (.inl x), none]) (st' := [.inr (.inr (.inl (66, 198 + 4 * i)))]) (m' := (f, l)) rfl rfl (fl_bo rfl) rfl ?_
  refine fl_Tq.stp (pc' := 2) (lv' := [some (.inr (.inr (.inl (66, 198 + 4 * i)))), some (.inl x), none]) (st' := [.inl x, .inr (.inr (.inl (66, 198 + 4 * i)))]) (m' := (f, l)) rfl rfl (fl_oks_ok ⟨t2_kc2 hi, True.intro⟩) rfl ?_
  refine fl_Tq.cal rfl rfl (fl_oks_ok ⟨True.intro, t2_kc2 hi, True.intro⟩) rfl ?_
  refine c2_voltsAt_q hi ?_
  show fl_Tq _ 16 5 [some (.inr (.inr (.inl (66, 198 + 4 * i)))), some (.inl x), none] [.inl (c2_voltsAt_v f i x)] (f, l) _
  refine fl_Tq.stp (pc' := 6) (lv' := [some (.inr (.inr (.inl (66, 198 + 4 * i)))), some (.inl x), some (.inl (c2_voltsAt_v f i x))]) (st' := []) (m' := (f, l)) rfl rfl (fl_bo rfl) rfl ?_
  refine fl_Tq.stp (pc' := 7) (lv' := [some (.inr (.inr (.inl (66, 198 + 4 * i)))), some (.inl x), some (.inl (c2_voltsAt_v f i x))]) (st' := [.inr (.inr (.inl (66, 198 + 4 * i)))]) (m' := (f, l)) rfl rfl (fl_bo rfl) rfl ?_
  refine fl_Tq.stp (pc' := 8) (lv' := [some (.inr (.inr (.inl (66, 198 + 4 * i)))), some (.inl x), some (.inl (c2_voltsAt_v f i x))]) (st' := [.inr (.inr (.inl (66, 198 + 4 * i))), .inr (.inr (.inl (66, 198 + 4 * i)))]) (m' := (f, l)) rfl rfl (fl_oks_ok ⟨t2_kc2 hi, True.intro⟩) rfl ?_
  refine fl_Tq.gfV (k := 10) (v := f (198 + 4 * i) 10) rfl (fl_oks_ok ⟨t2_kc2 hi, t2_kc2 hi, True.intro⟩) rfl rfl ?_
  have hj108 : fl_Tq (pw_P L xs) 16 26 [some (.inr (.inr (.inl (66, 198 + 4 * i)))), some (.inl x), some (.inl (c2_voltsAt_v f i x))] [.inl (c2_keepTrack_j11_0 f i x), .inr (.inr (.inl (66, 198 + 4 * i)))] (f, l) Q → fl_Tq (pw_P L xs) 16 11 [some (.inr (.inr (.inl (66, 198 + 4 * i)))), some (.inl x), some (.inl (c2_voltsAt_v f i x))] [.inl (f (198 + 4 * i) 10), .inr (.inr (.inl (66, 198 + 4 * i)))] (f, l) Q := by
    intro hJ
    by_cases h1 : (f (198 + 4 * i) 10).toInt = 0
    · refine fl_Tq.zt rfl (fl_oks_ok ⟨True.intro, t2_kc2 hi, True.intro⟩) (c1_eq_t h1) rfl ?_
      refine fl_Tq.stp (pc' := 26) (lv' := [some (.inr (.inr (.inl (66, 198 + 4 * i)))), some (.inl x), some (.inl (c2_voltsAt_v f i x))]) (st' := [.inl (c2_voltsAt_v f i x), .inr (.inr (.inl (66, 198 + 4 * i)))]) (m' := (f, l)) rfl rfl (fl_oks_ok ⟨t2_kc2 hi, True.intro⟩) rfl ?_
      have e0 : (c2_keepTrack_j11_0 f i x) = c2_voltsAt_v f i x := by simp only [c2_keepTrack_j11_0, if_pos h1]
      rw [e0] at hJ
      exact hJ
    · refine fl_Tq.zf rfl (fl_oks_ok ⟨True.intro, t2_kc2 hi, True.intro⟩) (c1_eq_f h1) rfl ?_
      refine fl_Tq.stp (pc' := 15) (lv' := [some (.inr (.inr (.inl (66, 198 + 4 * i)))), some (.inl x), some (.inl (c2_voltsAt_v f i x))]) (st' := [.inr (.inr (.inl (66, 198 + 4 * i))), .inr (.inr (.inl (66, 198 + 4 * i)))]) (m' := (f, l)) rfl rfl (fl_oks_ok ⟨t2_kc2 hi, True.intro⟩) rfl ?_
      refine fl_Tq.gfV (k := 12) (v := f (198 + 4 * i) 12) rfl (fl_oks_ok ⟨t2_kc2 hi, t2_kc2 hi, True.intro⟩) rfl rfl ?_
      refine fl_Tq.stp (pc' := 19) (lv' := [some (.inr (.inr (.inl (66, 198 + 4 * i)))), some (.inl x), some (.inl (c2_voltsAt_v f i x))]) (st' := [.inl (c2_voltsAt_v f i x), .inl (f (198 + 4 * i) 12), .inr (.inr (.inl (66, 198 + 4 * i)))]) (m' := (f, l)) rfl rfl (fl_oks_ok ⟨True.intro, t2_kc2 hi, True.intro⟩) rfl ?_
      refine fl_Tq.cal rfl rfl (fl_oks_ok ⟨True.intro, True.intro, t2_kc2 hi, True.intro⟩) rfl ?_
      refine t2_max_q  ?_
      show fl_Tq _ 16 22 [some (.inr (.inr (.inl (66, 198 + 4 * i)))), some (.inl x), some (.inl (c2_voltsAt_v f i x))] [.inl (t2_max_v (f (198 + 4 * i) 12) (c2_voltsAt_v f i x)), .inr (.inr (.inl (66, 198 + 4 * i)))] (f, l) _
      refine fl_Tq.stp (pc' := 26) (lv' := [some (.inr (.inr (.inl (66, 198 + 4 * i)))), some (.inl x), some (.inl (c2_voltsAt_v f i x))]) (st' := [.inl (t2_max_v (f (198 + 4 * i) 12) (c2_voltsAt_v f i x)), .inr (.inr (.inl (66, 198 + 4 * i)))]) (m' := (f, l)) rfl rfl (fl_oks_ok ⟨True.intro, t2_kc2 hi, True.intro⟩) rfl ?_
      have e0 : (c2_keepTrack_j11_0 f i x) = t2_max_v (f (198 + 4 * i) 12) (c2_voltsAt_v f i x) := by simp only [c2_keepTrack_j11_0, if_neg h1]
      rw [e0] at hJ
      exact hJ
  refine hj108 ?_
  show fl_Tq _ 16 26 [some (.inr (.inr (.inl (66, 198 + 4 * i)))), some (.inl x), some (.inl (c2_voltsAt_v f i x))] [.inl (c2_keepTrack_j11_0 f i x), .inr (.inr (.inl (66, 198 + 4 * i)))] (f, l) _
  refine fl_Tq.pfV (k := 12) (m' := (fl_row f (198 + 4 * i) (upd (f (198 + 4 * i)) 12 (c2_keepTrack_j11_0 f i x)), l)) rfl (fl_oks_ok ⟨True.intro, t2_kc2 hi, True.intro⟩) rfl (t2_upn rfl) ?_
  refine fl_Tq.stp (pc' := 30) (lv' := [some (.inr (.inr (.inl (66, 198 + 4 * i)))), some (.inl x), some (.inl (c2_voltsAt_v f i x))]) (st' := [.inr (.inr (.inl (66, 198 + 4 * i)))]) (m' := (fl_row f (198 + 4 * i) (upd (f (198 + 4 * i)) 12 (c2_keepTrack_j11_0 f i x)), l)) rfl rfl (fl_bo rfl) rfl ?_
  refine fl_Tq.stp (pc' := 31) (lv' := [some (.inr (.inr (.inl (66, 198 + 4 * i)))), some (.inl x), some (.inl (c2_voltsAt_v f i x))]) (st' := [.inr (.inr (.inl (66, 198 + 4 * i))), .inr (.inr (.inl (66, 198 + 4 * i)))]) (m' := (fl_row f (198 + 4 * i) (upd (f (198 + 4 * i)) 12 (c2_keepTrack_j11_0 f i x)), l)) rfl rfl (fl_oks_ok ⟨t2_kc2 hi, True.intro⟩) rfl ?_
  refine fl_Tq.gfV (k := 10) (v := f (198 + 4 * i) 10) rfl (fl_oks_ok ⟨t2_kc2 hi, t2_kc2 hi, True.intro⟩) rfl (by simp only [fl_row_self, upd_ne (by decide : 10 ≠ 12)]) ?_
  have hj109 : fl_Tq (pw_P L xs) 16 49 [some (.inr (.inr (.inl (66, 198 + 4 * i)))), some (.inl x), some (.inl (c2_voltsAt_v f i x))] [.inl (c2_keepTrack_j34_0 f i x), .inr (.inr (.inl (66, 198 + 4 * i)))] (fl_row f (198 + 4 * i) (upd (f (198 + 4 * i)) 12 (c2_keepTrack_j11_0 f i x)), l) Q → fl_Tq (pw_P L xs) 16 34 [some (.inr (.inr (.inl (66, 198 + 4 * i)))), some (.inl x), some (.inl (c2_voltsAt_v f i x))] [.inl (f (198 + 4 * i) 10), .inr (.inr (.inl (66, 198 + 4 * i)))] (fl_row f (198 + 4 * i) (upd (f (198 + 4 * i)) 12 (c2_keepTrack_j11_0 f i x)), l) Q := by
    intro hJ
    by_cases h2 : (f (198 + 4 * i) 10).toInt = 0
    · refine fl_Tq.zt rfl (fl_oks_ok ⟨True.intro, t2_kc2 hi, True.intro⟩) (c1_eq_t h2) rfl ?_
      refine fl_Tq.stp (pc' := 49) (lv' := [some (.inr (.inr (.inl (66, 198 + 4 * i)))), some (.inl x), some (.inl (c2_voltsAt_v f i x))]) (st' := [.inl (c2_voltsAt_v f i x), .inr (.inr (.inl (66, 198 + 4 * i)))]) (m' := (fl_row f (198 + 4 * i) (upd (f (198 + 4 * i)) 12 (c2_keepTrack_j11_0 f i x)), l)) rfl rfl (fl_oks_ok ⟨t2_kc2 hi, True.intro⟩) rfl ?_
      have e0 : (c2_keepTrack_j34_0 f i x) = c2_voltsAt_v f i x := by simp only [c2_keepTrack_j34_0, if_pos h2]
      rw [e0] at hJ
      exact hJ
    · refine fl_Tq.zf rfl (fl_oks_ok ⟨True.intro, t2_kc2 hi, True.intro⟩) (c1_eq_f h2) rfl ?_
      refine fl_Tq.stp (pc' := 38) (lv' := [some (.inr (.inr (.inl (66, 198 + 4 * i)))), some (.inl x), some (.inl (c2_voltsAt_v f i x))]) (st' := [.inr (.inr (.inl (66, 198 + 4 * i))), .inr (.inr (.inl (66, 198 + 4 * i)))]) (m' := (fl_row f (198 + 4 * i) (upd (f (198 + 4 * i)) 12 (c2_keepTrack_j11_0 f i x)), l)) rfl rfl (fl_oks_ok ⟨t2_kc2 hi, True.intro⟩) rfl ?_
      refine fl_Tq.gfV (k := 13) (v := f (198 + 4 * i) 13) rfl (fl_oks_ok ⟨t2_kc2 hi, t2_kc2 hi, True.intro⟩) rfl (by simp only [fl_row_self, upd_ne (by decide : 13 ≠ 12)]) ?_
      refine fl_Tq.stp (pc' := 42) (lv' := [some (.inr (.inr (.inl (66, 198 + 4 * i)))), some (.inl x), some (.inl (c2_voltsAt_v f i x))]) (st' := [.inl (c2_voltsAt_v f i x), .inl (f (198 + 4 * i) 13), .inr (.inr (.inl (66, 198 + 4 * i)))]) (m' := (fl_row f (198 + 4 * i) (upd (f (198 + 4 * i)) 12 (c2_keepTrack_j11_0 f i x)), l)) rfl rfl (fl_oks_ok ⟨True.intro, t2_kc2 hi, True.intro⟩) rfl ?_
      refine fl_Tq.cal rfl rfl (fl_oks_ok ⟨True.intro, True.intro, t2_kc2 hi, True.intro⟩) rfl ?_
      refine t2_min_q  ?_
      show fl_Tq _ 16 45 [some (.inr (.inr (.inl (66, 198 + 4 * i)))), some (.inl x), some (.inl (c2_voltsAt_v f i x))] [.inl (t2_min_v (f (198 + 4 * i) 13) (c2_voltsAt_v f i x)), .inr (.inr (.inl (66, 198 + 4 * i)))] (fl_row f (198 + 4 * i) (upd (f (198 + 4 * i)) 12 (c2_keepTrack_j11_0 f i x)), l) _
      refine fl_Tq.stp (pc' := 49) (lv' := [some (.inr (.inr (.inl (66, 198 + 4 * i)))), some (.inl x), some (.inl (c2_voltsAt_v f i x))]) (st' := [.inl (t2_min_v (f (198 + 4 * i) 13) (c2_voltsAt_v f i x)), .inr (.inr (.inl (66, 198 + 4 * i)))]) (m' := (fl_row f (198 + 4 * i) (upd (f (198 + 4 * i)) 12 (c2_keepTrack_j11_0 f i x)), l)) rfl rfl (fl_oks_ok ⟨True.intro, t2_kc2 hi, True.intro⟩) rfl ?_
      have e0 : (c2_keepTrack_j34_0 f i x) = t2_min_v (f (198 + 4 * i) 13) (c2_voltsAt_v f i x) := by simp only [c2_keepTrack_j34_0, if_neg h2]
      rw [e0] at hJ
      exact hJ
  refine hj109 ?_
  show fl_Tq _ 16 49 [some (.inr (.inr (.inl (66, 198 + 4 * i)))), some (.inl x), some (.inl (c2_voltsAt_v f i x))] [.inl (c2_keepTrack_j34_0 f i x), .inr (.inr (.inl (66, 198 + 4 * i)))] (fl_row f (198 + 4 * i) (upd (f (198 + 4 * i)) 12 (c2_keepTrack_j11_0 f i x)), l) _
  refine fl_Tq.pfV (k := 13) (m' := (fl_row f (198 + 4 * i) (upd (upd (f (198 + 4 * i)) 12 (c2_keepTrack_j11_0 f i x)) 13 (c2_keepTrack_j34_0 f i x)), l)) rfl (fl_oks_ok ⟨True.intro, t2_kc2 hi, True.intro⟩) rfl (t2_upr) ?_
  refine fl_Tq.stp (pc' := 53) (lv' := [some (.inr (.inr (.inl (66, 198 + 4 * i)))), some (.inl x), some (.inl (c2_voltsAt_v f i x))]) (st' := [.inr (.inr (.inl (66, 198 + 4 * i)))]) (m' := (fl_row f (198 + 4 * i) (upd (upd (f (198 + 4 * i)) 12 (c2_keepTrack_j11_0 f i x)) 13 (c2_keepTrack_j34_0 f i x)), l)) rfl rfl (fl_bo rfl) rfl ?_
  refine fl_Tq.cI (c := (1 : Int32)) rfl (by decide +kernel) (fl_oks_ok ⟨t2_kc2 hi, True.intro⟩) ?_
  refine fl_Tq.pfV (k := 10) (m' := (fl_row f (198 + 4 * i) (upd (upd (upd (f (198 + 4 * i)) 12 (c2_keepTrack_j11_0 f i x)) 13 (c2_keepTrack_j34_0 f i x)) 10 (1 : Int32)), l)) rfl (fl_oks_ok ⟨True.intro, t2_kc2 hi, True.intro⟩) rfl (t2_upr) ?_
  refine fl_Tq.stp (pc' := 58) (lv' := [some (.inr (.inr (.inl (66, 198 + 4 * i)))), some (.inl x), some (.inl (c2_voltsAt_v f i x))]) (st' := [.inr (.inr (.inl (66, 198 + 4 * i)))]) (m' := (fl_row f (198 + 4 * i) (upd (upd (upd (f (198 + 4 * i)) 12 (c2_keepTrack_j11_0 f i x)) 13 (c2_keepTrack_j34_0 f i x)) 10 (1 : Int32)), l)) rfl rfl (fl_bo rfl) rfl ?_
  refine fl_Tq.gfR (d := 1) (p' := 199 + 4 * i) rfl (fl_oks_ok ⟨t2_kc2 hi, True.intro⟩) rfl (by omega) ?_
  refine fl_Tq.stp (pc' := 62) (lv' := [some (.inr (.inr (.inl (66, 198 + 4 * i)))), some (.inl x), some (.inl (c2_voltsAt_v f i x))]) (st' := [.inr (.inr (.inl (66, 198 + 4 * i))), .inr (.inr (.inl (67, 199 + 4 * i)))]) (m' := (fl_row f (198 + 4 * i) (upd (upd (upd (f (198 + 4 * i)) 12 (c2_keepTrack_j11_0 f i x)) 13 (c2_keepTrack_j34_0 f i x)) 10 (1 : Int32)), l)) rfl rfl (fl_oks_ok ⟨t2_kt2 hi, True.intro⟩) rfl ?_
  refine fl_Tq.gfV (k := 3) (v := f (198 + 4 * i) 3) rfl (fl_oks_ok ⟨t2_kc2 hi, t2_kt2 hi, True.intro⟩) rfl (by simp only [fl_row_self, upd_ne (by decide : 3 ≠ 10), upd_ne (by decide : 3 ≠ 13), upd_ne (by decide : 3 ≠ 12)]) ?_
  refine fl_Tq.cal rfl rfl (fl_oks_ok ⟨True.intro, t2_kt2 hi, True.intro⟩) rfl ?_
  refine c2_follow_q hi (by simp only [fl_row_ne (show 199 + 4 * i ≠ 198 + 4 * i by omega)]; exact ht) (by rw [fl_row_ne (show 200 + 4 * i ≠ 198 + 4 * i by omega)]; exact hv) hx ?_
  show fl_Tq _ 16 68 [some (.inr (.inr (.inl (66, 198 + 4 * i)))), some (.inl x), some (.inl (c2_voltsAt_v f i x))] [] (c2_follow_m (fl_row f (198 + 4 * i) (upd (upd (upd (f (198 + 4 * i)) 12 (c2_keepTrack_j11_0 f i x)) 13 (c2_keepTrack_j34_0 f i x)) 10 (1 : Int32))) i (f (198 + 4 * i) 3), l) _
  exact fl_Tq.ret rfl rfl rfl k
noncomputable def c2_sKeep_b25_m (f : t2_F) (k : Nat) : t2_F := c2_keepTrack_m f k (f 181 9)
theorem c2_sKeep_b25_fr {f : t2_F} {k : Nat} {p : Nat} (e0 : p ≠ 199 + 4 * k) (e1 : p ≠ 200 + 4 * k) (e2 : p ≠ 201 + 4 * k) (e3 : p ≠ 198 + 4 * k) : c2_sKeep_b25_m f k p = f p := by
  unfold c2_sKeep_b25_m
  repeat' split
  all_goals first | rfl | simp only [fl_row_ne e0, fl_row_ne e1, fl_row_ne e2, fl_row_ne e3, c2_keepTrack_fr e0 e1 e2 e3]
theorem c2_sKeep_b25_q {L : Nat} {xs : Nat → Int32} {f : t2_F} {l : t2_L} {Q : Option fl_V → fl_M → Prop} {k : Nat} {n : Nat} (hkn : k < n) (hb : (f 181 5).toInt = (n : Int)) (h16 : n ≤ 16) (hkt : (1 ≤ (f (199 + 4 * k) 2).toInt ∧ (f (199 + 4 * k) 2).toInt ≤ 32) ∧ t2_p32 (f (200 + 4 * k)) ∧ t2_pt (f (198 + 4 * k) 3)) (hS : fl_Tq (pw_P L xs) 70 25 [some (.inr (.inr (.inl (49, 181)))), some (.inl (Int32.ofNat (k + 1)))] [] (c2_sKeep_b25_m f k, l) Q) : fl_Tq (pw_P L xs) 70 25 [some (.inr (.inr (.inl (49, 181)))), some (.inl (Int32.ofNat k))] [] (f, l) Q := by
  refine fl_Tq.stp (pc' := 26) (lv' := [some (.inr (.inr (.inl (49, 181)))), some (.inl (Int32.ofNat k))]) (st' := [.inl (Int32.ofNat k)]) (m' := (f, l)) rfl rfl (fl_bo rfl) rfl ?_
  refine fl_Tq.stp (pc' := 27) (lv' := [some (.inr (.inr (.inl (49, 181)))), some (.inl (Int32.ofNat k))]) (st' := [.inr (.inr (.inl (49, 181))), .inl (Int32.ofNat k)]) (m' := (f, l)) rfl rfl (fl_bo rfl) rfl ?_
  refine fl_Tq.gfV (k := 5) (v := f 181 5) rfl (fl_bo rfl) rfl rfl ?_
  refine fl_Tq.jf rfl (fl_bo rfl) (c2_ge_f (t2_lk hkn hb)) rfl ?_
  refine fl_Tq.stp (pc' := 34) (lv' := [some (.inr (.inr (.inl (49, 181)))), some (.inl (Int32.ofNat k))]) (st' := [.inr (.inr (.inl (49, 181)))]) (m' := (f, l)) rfl rfl (fl_bo rfl) rfl ?_
  refine fl_Tq.stp (pc' := 37) (lv' := [some (.inr (.inr (.inl (49, 181)))), some (.inl (Int32.ofNat k))]) (st' := [.inr (.inr (.inl (50, 182)))]) (m' := (f, l)) rfl rfl (fl_bo rfl) rfl ?_
  refine fl_Tq.stp (pc' := 38) (lv' := [some (.inr (.inr (.inl (49, 181)))), some (.inl (Int32.ofNat k))]) (st' := [.inl (Int32.ofNat k), .inr (.inr (.inl (50, 182)))]) (m' := (f, l)) rfl rfl (fl_bo rfl) rfl ?_
  refine fl_Tq.qld (p := 182) (τ := 50) (n := 16) (t := 66) (b := 16) (d := 3) (k := k) rfl (fl_bo rfl) rfl (at_ofN (by omega)) (by omega) ?_
  show fl_Tq _ 70 39 [some (.inr (.inr (.inl (49, 181)))), some (.inl (Int32.ofNat k))] [.inr (.inr (.inl (66, 198 + 4 * k)))] (f, l) _
  refine fl_Tq.stp (pc' := 40) (lv' := [some (.inr (.inr (.inl (49, 181)))), some (.inl (Int32.ofNat k))]) (st' := [.inr (.inr (.inl (49, 181))), .inr (.inr (.inl (66, 198 + 4 * k)))]) (m' := (f, l)) rfl rfl (fl_oks_ok ⟨(t2_kc2 (by omega)), True.intro⟩) rfl ?_
  refine fl_Tq.gfV (k := 9) (v := f 181 9) rfl (fl_oks_ok ⟨fl_okp (by decide +kernel) (by decide), (t2_kc2 (by omega)), True.intro⟩) rfl rfl ?_
  refine fl_Tq.cal rfl rfl (fl_oks_ok ⟨True.intro, (t2_kc2 (by omega)), True.intro⟩) rfl ?_
  refine c2_keepTrack_q (by omega) hkt.1 hkt.2.1 hkt.2.2 ?_
  show fl_Tq _ 70 46 [some (.inr (.inr (.inl (49, 181)))), some (.inl (Int32.ofNat k))] [] (c2_keepTrack_m f k (f 181 9), l) _
  refine fl_Tq.stp (pc' := 49) (lv' := [some (.inr (.inr (.inl (49, 181)))), some (.inl ((Int32.ofNat k) + (1 : Int32)))]) (st' := []) (m' := (c2_keepTrack_m f k (f 181 9), l)) rfl rfl (fl_bo rfl) rfl ?_
  refine fl_Tq.stp (pc' := 25) (lv' := [some (.inr (.inr (.inl (49, 181)))), some (.inl ((Int32.ofNat k) + (1 : Int32)))]) (st' := []) (m' := (c2_keepTrack_m f k (f 181 9), l)) rfl rfl (fl_bo rfl) rfl ?_
  have em : c2_sKeep_b25_m f k = c2_keepTrack_m f k (f 181 9) := rfl
  rw [em, ← t2_k1] at hS
  exact hS
noncomputable def c2_sKeep_f25 (f : t2_F)  : Nat → t2_F
  | 0 => c2_tadd_m f (f 181 9) (c2_packAt_v f (f 181 9)) (c2_partSpread_v f)
  | k + 1 => c2_sKeep_b25_m (c2_sKeep_f25 f k) k
theorem c2_sKeep_f25_fr {f : t2_F}  {p : Nat} : ∀ {k : Nat} (e0 : ∀ j : Nat, j < k → p ≠ 199 + 4 * j) (e1 : ∀ j : Nat, j < k → p ≠ 200 + 4 * j) (e2 : ∀ j : Nat, j < k → p ≠ 201 + 4 * j) (e3 : ∀ j : Nat, j < k → p ≠ 198 + 4 * j), c2_sKeep_f25 f k p = (c2_tadd_m f (f 181 9) (c2_packAt_v f (f 181 9)) (c2_partSpread_v f)) p := by
  intro k
  induction k with
  | zero => intros; rfl
  | succ k ih =>
    intro e0 e1 e2 e3
    exact (c2_sKeep_b25_fr (e0 k (by omega)) (e1 k (by omega)) (e2 k (by omega)) (e3 k (by omega))).trans (ih (fun j hj => e0 j (by omega)) (fun j hj => e1 j (by omega)) (fun j hj => e2 j (by omega)) (fun j hj => e3 j (by omega)))
noncomputable def c2_sKeep_m (f : t2_F) : t2_F := c2_sKeep_f25 f ((f 181 5).toInt.toNat)
theorem c2_sKeep_q {L : Nat} {xs : Nat → Int32} {f : t2_F} {l : t2_L} {Q : Option fl_V → fl_M → Prop}  (hc : 0 ≤ (f 181 5).toInt ∧ (f 181 5).toInt ≤ 16) (hkt : ∀ i : Nat, (i : Int) < (f 181 5).toInt → (1 ≤ (f (199 + 4 * i) 2).toInt ∧ (f (199 + 4 * i) 2).toInt ≤ 32) ∧ t2_p32 (f (200 + 4 * i)) ∧ t2_pt (f (198 + 4 * i) 3)) (hlt : f 196 0 = (32 : Int32) ∧ (0 ≤ (f 196 2).toInt ∧ (f 196 2).toInt ≤ 31) ∧ (0 ≤ (f 196 3).toInt ∧ (f 196 3).toInt ≤ 32)) (k : Q none (c2_sKeep_m f, l)) : fl_Tq (pw_P L xs) 70 0 (fl_args (am_mxl (pw_P L xs) 70) [.inr (.inr (.inl (49, 181)))]) [] (f, l) Q := by
  refine fl_Tq.stp (pc' := 1) (lv' := [some (.inr (.inr (.inl (49, 181)))), none]) (st' := [.inr (.inr (.inl (49, 181)))]) (m' := (f, l)) rfl rfl (fl_bo rfl) rfl ?_
  refine fl_Tq.stp (pc' := 4) (lv' := [some (.inr (.inr (.inl (49, 181)))), none]) (st' := [.inr (.inr (.inl (64, 196)))]) (m' := (f, l)) rfl rfl (fl_bo rfl) rfl ?_
  refine fl_Tq.stp (pc' := 5) (lv' := [some (.inr (.inr (.inl (49, 181)))), none]) (st' := [.inr (.inr (.inl (49, 181))), .inr (.inr (.inl (64, 196)))]) (m' := (f, l)) rfl rfl (fl_bo rfl) rfl ?_
  refine fl_Tq.gfV (k := 9) (v := f 181 9) rfl (fl_bo rfl) rfl rfl ?_
  refine fl_Tq.stp (pc' := 9) (lv' := [some (.inr (.inr (.inl (49, 181)))), none]) (st' := [.inr (.inr (.inl (49, 181))), .inl (f 181 9), .inr (.inr (.inl (64, 196)))]) (m' := (f, l)) rfl rfl (fl_bo rfl) rfl ?_
  refine fl_Tq.stp (pc' := 10) (lv' := [some (.inr (.inr (.inl (49, 181)))), none]) (st' := [.inr (.inr (.inl (49, 181))), .inr (.inr (.inl (49, 181))), .inl (f 181 9), .inr (.inr (.inl (64, 196)))]) (m' := (f, l)) rfl rfl (fl_bo rfl) rfl ?_
  refine fl_Tq.gfV (k := 9) (v := f 181 9) rfl (fl_bo rfl) rfl rfl ?_
  refine fl_Tq.cal rfl rfl (fl_bo rfl) rfl ?_
  refine c2_packAt_q hc ?_
  show fl_Tq _ 70 16 [some (.inr (.inr (.inl (49, 181)))), none] [.inl (c2_packAt_v f (f 181 9)), .inl (f 181 9), .inr (.inr (.inl (64, 196)))] (f, l) _
  refine fl_Tq.stp (pc' := 17) (lv' := [some (.inr (.inr (.inl (49, 181)))), none]) (st' := [.inr (.inr (.inl (49, 181))), .inl (c2_packAt_v f (f 181 9)), .inl (f 181 9), .inr (.inr (.inl (64, 196)))]) (m' := (f, l)) rfl rfl (fl_bo rfl) rfl ?_
  refine fl_Tq.cal rfl rfl (fl_bo rfl) rfl ?_
  refine c2_partSpread_q hc ?_
  show fl_Tq _ 70 20 [some (.inr (.inr (.inl (49, 181)))), none] [.inl (c2_partSpread_v f), .inl (c2_packAt_v f (f 181 9)), .inl (f 181 9), .inr (.inr (.inl (64, 196)))] (f, l) _
  refine fl_Tq.cal rfl rfl (fl_bo rfl) rfl ?_
  refine c2_tadd_q hlt ?_
  show fl_Tq _ 70 23 [some (.inr (.inr (.inl (49, 181)))), none] [] (c2_tadd_m f (f 181 9) (c2_packAt_v f (f 181 9)) (c2_partSpread_v f), l) _
  refine fl_Tq.cI (c := (0 : Int32)) rfl (by decide +kernel) (fl_bo rfl) ?_
  refine fl_Tq.stp (pc' := 25) (lv' := [some (.inr (.inr (.inl (49, 181)))), some (.inl (0 : Int32))]) (st' := []) (m' := (c2_tadd_m f (f 181 9) (c2_packAt_v f (f 181 9)) (c2_partSpread_v f), l)) rfl rfl (fl_bo rfl) rfl ?_
  have hs25 : ∀ k : Nat, k < (f 181 5).toInt.toNat → fl_Tq (pw_P L xs) 70 25 [some (.inr (.inr (.inl (49, 181)))), some (.inl (Int32.ofNat (k + 1)))] [] (c2_sKeep_f25 f (k + 1), l) Q → fl_Tq (pw_P L xs) 70 25 [some (.inr (.inr (.inl (49, 181)))), some (.inl (Int32.ofNat k))] [] (c2_sKeep_f25 f k, l) Q := fun k hkn hS => c2_sKeep_b25_q hkn (by simp only [c2_sKeep_f25_fr (k := k) (p := 181) (fun j hj => by omega) (fun j hj => by omega) (fun j hj => by omega) (fun j hj => by omega), c2_tadd_fr (by decide : 181 ≠ 197) (by decide : 181 ≠ 196)]; exact (t2_nn hc.1)) (by omega) (by simp only [c2_sKeep_f25_fr (k := k) (p := 199 + 4 * k) (fun j hj => by omega) (fun j hj => by omega) (fun j hj => by omega) (fun j hj => by omega), c2_tadd_fr (show 199 + 4 * k ≠ 197 by omega) (show 199 + 4 * k ≠ 196 by omega), c2_sKeep_f25_fr (k := k) (p := 200 + 4 * k) (fun j hj => by omega) (fun j hj => by omega) (fun j hj => by omega) (fun j hj => by omega), c2_tadd_fr (show 200 + 4 * k ≠ 197 by omega) (show 200 + 4 * k ≠ 196 by omega), c2_sKeep_f25_fr (k := k) (p := 198 + 4 * k) (fun j hj => by omega) (fun j hj => by omega) (fun j hj => by omega) (fun j hj => by omega), c2_tadd_fr (show 198 + 4 * k ≠ 197 by omega) (show 198 + 4 * k ≠ 196 by omega)]; exact hkt k (by omega)) hS
  refine t2_for (S := fun k => fl_Tq (pw_P L xs) 70 25 [some (.inr (.inr (.inl (49, 181)))), some (.inl (Int32.ofNat k))] [] (c2_sKeep_f25 f k, l) Q) hs25 ?_
  show fl_Tq (pw_P L xs) 70 25 [some (.inr (.inr (.inl (49, 181)))), some (.inl (Int32.ofNat ((f 181 5).toInt.toNat)))] [] (c2_sKeep_f25 f ((f 181 5).toInt.toNat), l) _
  refine fl_Tq.stp (pc' := 26) (lv' := [some (.inr (.inr (.inl (49, 181)))), some (.inl (Int32.ofNat ((f 181 5).toInt.toNat)))]) (st' := [.inl (Int32.ofNat ((f 181 5).toInt.toNat))]) (m' := (c2_sKeep_f25 f ((f 181 5).toInt.toNat), l)) rfl rfl (fl_bo rfl) rfl ?_
  refine fl_Tq.stp (pc' := 27) (lv' := [some (.inr (.inr (.inl (49, 181)))), some (.inl (Int32.ofNat ((f 181 5).toInt.toNat)))]) (st' := [.inr (.inr (.inl (49, 181))), .inl (Int32.ofNat ((f 181 5).toInt.toNat))]) (m' := (c2_sKeep_f25 f ((f 181 5).toInt.toNat), l)) rfl rfl (fl_bo rfl) rfl ?_
  refine fl_Tq.gfV (k := 5) (v := f 181 5) rfl (fl_bo rfl) rfl (by simp only [c2_sKeep_f25_fr (k := (f 181 5).toInt.toNat) (p := 181) (fun j hj => by omega) (fun j hj => by omega) (fun j hj => by omega) (fun j hj => by omega), c2_tadd_fr (by decide : 181 ≠ 197) (by decide : 181 ≠ 196)]) ?_
  refine fl_Tq.jt rfl (fl_bo rfl) (c2_ge_t (t2_ln (t2_nn hc.1))) rfl ?_
  exact fl_Tq.ret rfl rfl rfl k
