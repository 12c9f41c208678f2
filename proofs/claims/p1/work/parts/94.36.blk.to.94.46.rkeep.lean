/-! 94.36.blk.lean.txt -/
section
/-! ===== a State's block of places, at d: kinds as now's, and kb more ===== -/
theorem fl_Tq.qldM {P : am_Pg} {mi pc p k : Nat} {lv : fl_L} {r : List fl_V} {m : fl_M} {τ n t b d : Nat} {i : Int32} {Q : Option fl_V → fl_M → Prop} (hc : am_code P mi pc = some .aaload) (hok : ∀ v ∈ (.inl i :: .inr (.inr (.inl (τ, p))) :: r : List fl_V), fl_ok m.2.2 v) (hk : fk_kd τ = .inr (3, n, t, b, d + 1)) (hi : i.toInt = k) (hlt : k < n) (q : fl_Tq P mi (pc + 1) lv (.inr (.inr (.inl (t, p + b + (d + 1) * k))) :: r) m Q) : fl_Tq P mi pc lv (.inl i :: .inr (.inr (.inl (τ, p))) :: r) m Q := by
  refine fl_Tq.stp (pc' := pc + 1) (lv' := lv) (st' := .inr (.inr (.inl (t, p + b + (d + 1) * k))) :: r) (m' := m) hc rfl hok ?_ q
  obtain ⟨h1, h2⟩ := at_in_ok (i := i) (n := n) (by omega) (by omega)
  have h3 : i.toNatClampNeg = k := by omega
  show ((match fk_kd τ with
    | .inr (t, n, τ', b, d) => bif decide (2 ≤ t ∧ t < 5) && (decide (d ≠ 0) && am_in i n) then some (pc + 1, lv, .inr (.inr (.inl (τ', p + b + d * i.toNatClampNeg))) :: r, m) else none
    | _ => none) : Option fl_C) = _
  rw [hk]
  show ((bif decide (2 ≤ 3 ∧ 3 < 5) && (decide (d + 1 ≠ 0) && am_in i n) then some (pc + 1, lv, .inr (.inr (.inl (t, p + b + (d + 1) * i.toNatClampNeg))) :: r, m) else none) : Option fl_C) = _
  rw [h1, h3, decide_eq_true (show d + 1 ≠ 0 by omega)]
  rfl
section T2BLK
variable {h d kb j r : Nat}
def t2_blk (h d kb : Nat) : Prop := ∀ o : Nat, o < 90 → fk_K (d + o) = fk_K0.getD (1 + o) 0 + kb ∧ d + o < fl_N h
theorem t2_blk.place (A : t2_blk h d kb) (o τ : Nat) (ho : o < 90) (e : fk_K0.getD (1 + o) 0 + kb = τ) : fk_K (d + o) = τ ∧ d + o < fl_N h := ⟨(A o ho).1.trans e, (A o ho).2⟩
theorem t2_cellk : ∀ j : Nat, j < 16 → ∀ r : Nat, r < 4 → fk_K0.getD (1 + (17 + 4 * j + r)) 0 = 18 + r := by decide +kernel
theorem t2_markk : ∀ j : Nat, j < 3 → ∀ r : Nat, r < 3 → fk_K0.getD (1 + (81 + 3 * j + r)) 0 = 22 + r := by decide +kernel
theorem t2_blk.cell (A : t2_blk h d kb) (r : Nat) (hj : j < 16) (hr : r < 4) : fk_K (d + 17 + 4 * j + r) = 18 + r + kb ∧ d + 17 + 4 * j + r < fl_N h := by
  have a := A (17 + 4 * j + r) (by omega)
  rw [t2_cellk j hj r hr, show d + (17 + 4 * j + r) = d + 17 + 4 * j + r by omega] at a
  exact a
theorem t2_blk.mark (A : t2_blk h d kb) (r : Nat) (hj : j < 3) (hr : r < 3) : fk_K (d + 81 + 3 * j + r) = 22 + r + kb ∧ d + 81 + 3 * j + r < fl_N h := by
  have a := A (81 + 3 * j + r) (by omega)
  rw [t2_markk j hj r hr, show d + (81 + 3 * j + r) = d + 81 + 3 * j + r by omega] at a
  exact a
theorem t2_blk_now : t2_blk h 1 0 := fun o ho => ⟨(by decide +kernel : ∀ o : Nat, o < 90 → fk_K (1 + o) = fk_K0.getD (1 + o) 0 + 0) o ho, by unfold fl_N; omega⟩
theorem t2_blk_image : t2_blk h 91 24 := fun o ho => ⟨(by decide +kernel : ∀ o : Nat, o < 90 → fk_K (91 + o) = fk_K0.getD (1 + o) 0 + 24) o ho, by unfold fl_N; omega⟩
theorem t2_blk_trial : t2_blk h 181 48 := fun o ho => ⟨(by decide +kernel : ∀ o : Nat, o < 90 → fk_K (181 + o) = fk_K0.getD (1 + o) 0 + 48) o ho, by unfold fl_N; omega⟩
theorem t2_blk_made (hj : j < h) : t2_blk h (285 + 90 * j) 24 := fun o ho => by
  refine ⟨?_, by unfold fl_N; omega⟩
  unfold fk_K
  rw [if_neg (by omega), show (285 + 90 * j + o - 285) % 90 = o by omega]
  exact (by decide +kernel : ∀ o : Nat, o < 90 → fk_K1.getD o 0 = fk_K0.getD (1 + o) 0 + 24) o ho
end T2BLK

end

/-! 94.37.g20.lean.txt -/
section
theorem bs_A_24_0 {L : Nat} {xs : Nat → Int32} {f : t2_F} {l : t2_L} {Q : Option fl_V → fl_M → Prop} {p q : Nat} (A : t2_blk l.2 p 24) (B : t2_blk l.2 q 0) (hpq : p + 90 ≤ q ∨ q + 90 ≤ p)  (k : fl_Tq (pw_P L xs) 33 2 [some (.inr (.inr (.inl (25, p)))), some (.inr (.inr (.inl (1, q)))), some (.inl (0 : Int32))] [] (f, l) Q) : fl_Tq (pw_P L xs) 33 0 [some (.inr (.inr (.inl (25, p)))), some (.inr (.inr (.inl (1, q)))), none] [] (f, l) Q := by
  refine fl_Tq.cI (c := (0 : Int32)) rfl (by decide +kernel) (fl_bo rfl) ?_
  refine fl_Tq.stp (pc' := 2) (lv' := [some (.inr (.inr (.inl (25, p)))), some (.inr (.inr (.inl (1, q)))), some (.inl (0 : Int32))]) (st' := []) (m' := (f, l)) rfl rfl (fl_bo rfl) rfl ?_
  exact k
theorem bs_B_24_0 {L : Nat} {xs : Nat → Int32} {f : t2_F} {l : t2_L} {Q : Option fl_V → fl_M → Prop} {p q : Nat} {j : Nat} (A : t2_blk l.2 p 24) (B : t2_blk l.2 q 0) (hpq : p + 90 ≤ q ∨ q + 90 ≤ p) (hj : j < 16) (hk : (Int32.ofNat j).toInt < (f q 5).toInt) (hzc : f (q + 17 + 4 * j) 10 = 0 ∨ f (q + 17 + 4 * j) 10 = 1) (k : fl_Tq (pw_P L xs) 33 2 [some (.inr (.inr (.inl (25, p)))), some (.inr (.inr (.inl (1, q)))), some (.inl ((Int32.ofNat j) + (1 : Int32)))] [] (bc_cell_m f (p + 17 + 4 * j) (q + 17 + 4 * j), l) Q) : fl_Tq (pw_P L xs) 33 2 [some (.inr (.inr (.inl (25, p)))), some (.inr (.inr (.inl (1, q)))), some (.inl (Int32.ofNat j))] [] (f, l) Q := by
  refine fl_Tq.stp (pc' := 3) (lv' := [some (.inr (.inr (.inl (25, p)))), some (.inr (.inr (.inl (1, q)))), some (.inl (Int32.ofNat j))]) (st' := [.inl (Int32.ofNat j)]) (m' := (f, l)) rfl rfl (fl_bo rfl) rfl ?_
  refine fl_Tq.stp (pc' := 4) (lv' := [some (.inr (.inr (.inl (25, p)))), some (.inr (.inr (.inl (1, q)))), some (.inl (Int32.ofNat j))]) (st' := [.inr (.inr (.inl (1, q))), .inl (Int32.ofNat j)]) (m' := (f, l)) rfl rfl (fl_bo rfl) rfl ?_
  refine fl_Tq.gfV (k := 5) (v := f q 5) rfl (fl_oks_ok ⟨(B.place 0 1 (by decide) (by decide +kernel)), True.intro, True.intro⟩) rfl rfl ?_
  refine fl_Tq.jf rfl (fl_bo rfl) (c2_ge_f hk) rfl ?_
  refine fl_Tq.stp (pc' := 11) (lv' := [some (.inr (.inr (.inl (25, p)))), some (.inr (.inr (.inl (1, q)))), some (.inl (Int32.ofNat j))]) (st' := [.inr (.inr (.inl (25, p)))]) (m' := (f, l)) rfl rfl (fl_bo rfl) rfl ?_
  refine fl_Tq.gfR (d := 1) (p' := p + 1) rfl (fl_oks_ok ⟨(A.place 0 25 (by decide) (by decide +kernel)), True.intro⟩) rfl (by omega) ?_
  refine fl_Tq.stp (pc' := 15) (lv' := [some (.inr (.inr (.inl (25, p)))), some (.inr (.inr (.inl (1, q)))), some (.inl (Int32.ofNat j))]) (st' := [.inl (Int32.ofNat j), .inr (.inr (.inl (26, p + 1)))]) (m' := (f, l)) rfl rfl (fl_oks_ok ⟨(A.place 1 26 (by decide) (by decide +kernel)), True.intro⟩) rfl ?_
  refine fl_Tq.qld (p := p + 1) (τ := 26) (n := 16) (t := 42) (b := 16) (d := 3) (k := j) rfl (fl_oks_ok ⟨True.intro, (A.place 1 26 (by decide) (by decide +kernel)), True.intro⟩) rfl (at_ofN (by omega)) (by omega) ?_
  show fl_Tq _ 33 16 [some (.inr (.inr (.inl (25, p)))), some (.inr (.inr (.inl (1, q)))), some (.inl (Int32.ofNat j))] [.inr (.inr (.inl (42, p + 17 + 4 * j)))] (f, l) _
  refine fl_Tq.stp (pc' := 17) (lv' := [some (.inr (.inr (.inl (25, p)))), some (.inr (.inr (.inl (1, q)))), some (.inl (Int32.ofNat j))]) (st' := [.inr (.inr (.inl (1, q))), .inr (.inr (.inl (42, p + 17 + 4 * j)))]) (m' := (f, l)) rfl rfl (fl_oks_ok ⟨(A.cell 0 hj (by decide)), True.intro⟩) rfl ?_
  refine fl_Tq.gfR (d := 1) (p' := q + 1) rfl (fl_oks_ok ⟨(B.place 0 1 (by decide) (by decide +kernel)), (A.cell 0 hj (by decide)), True.intro⟩) rfl (by omega) ?_
  refine fl_Tq.stp (pc' := 21) (lv' := [some (.inr (.inr (.inl (25, p)))), some (.inr (.inr (.inl (1, q)))), some (.inl (Int32.ofNat j))]) (st' := [.inl (Int32.ofNat j), .inr (.inr (.inl (2, q + 1))), .inr (.inr (.inl (42, p + 17 + 4 * j)))]) (m' := (f, l)) rfl rfl (fl_oks_ok ⟨(B.place 1 2 (by decide) (by decide +kernel)), (A.cell 0 hj (by decide)), True.intro⟩) rfl ?_
  refine fl_Tq.qld (p := q + 1) (τ := 2) (n := 16) (t := 18) (b := 16) (d := 3) (k := j) rfl (fl_oks_ok ⟨True.intro, (B.place 1 2 (by decide) (by decide +kernel)), (A.cell 0 hj (by decide)), True.intro⟩) rfl (at_ofN (by omega)) (by omega) ?_
  show fl_Tq _ 33 22 [some (.inr (.inr (.inl (25, p)))), some (.inr (.inr (.inl (1, q)))), some (.inl (Int32.ofNat j))] [.inr (.inr (.inl (18, q + 17 + 4 * j))), .inr (.inr (.inl (42, p + 17 + 4 * j)))] (f, l) _
  refine fl_Tq.cal rfl rfl (fl_oks_ok ⟨(B.cell 0 hj (by decide)), (A.cell 0 hj (by decide)), True.intro⟩) rfl ?_
  refine bc_cell_24_0_q (A.cell 0 hj (by decide)) (B.cell 0 hj (by decide)) (A.cell 1 hj (by decide)) (B.cell 1 hj (by decide)) (A.cell 2 hj (by decide)) (B.cell 2 hj (by decide)) (A.cell 3 hj (by decide)) (B.cell 3 hj (by decide)) (by omega) hzc ?_
  show fl_Tq _ 33 25 [some (.inr (.inr (.inl (25, p)))), some (.inr (.inr (.inl (1, q)))), some (.inl (Int32.ofNat j))] [] (bc_cell_m f (p + 17 + 4 * j) (q + 17 + 4 * j), l) _
  refine fl_Tq.stp (pc' := 28) (lv' := [some (.inr (.inr (.inl (25, p)))), some (.inr (.inr (.inl (1, q)))), some (.inl ((Int32.ofNat j) + (1 : Int32)))]) (st' := []) (m' := (bc_cell_m f (p + 17 + 4 * j) (q + 17 + 4 * j), l)) rfl rfl (fl_bo rfl) rfl ?_
  refine fl_Tq.stp (pc' := 2) (lv' := [some (.inr (.inr (.inl (25, p)))), some (.inr (.inr (.inl (1, q)))), some (.inl ((Int32.ofNat j) + (1 : Int32)))]) (st' := []) (m' := (bc_cell_m f (p + 17 + 4 * j) (q + 17 + 4 * j), l)) rfl rfl (fl_bo rfl) rfl ?_
  exact k
theorem bs_C_24_0 {L : Nat} {xs : Nat → Int32} {f : t2_F} {l : t2_L} {Q : Option fl_V → fl_M → Prop} {p q : Nat} {j : Nat} (A : t2_blk l.2 p 24) (B : t2_blk l.2 q 0) (hpq : p + 90 ≤ q ∨ q + 90 ≤ p) (hk : ¬ ((Int32.ofNat j).toInt < (f q 5).toInt)) (k : fl_Tq (pw_P L xs) 33 33 [some (.inr (.inr (.inl (25, p)))), some (.inr (.inr (.inl (1, q)))), some (.inl (0 : Int32))] [] (f, l) Q) : fl_Tq (pw_P L xs) 33 2 [some (.inr (.inr (.inl (25, p)))), some (.inr (.inr (.inl (1, q)))), some (.inl (Int32.ofNat j))] [] (f, l) Q := by
  refine fl_Tq.stp (pc' := 3) (lv' := [some (.inr (.inr (.inl (25, p)))), some (.inr (.inr (.inl (1, q)))), some (.inl (Int32.ofNat j))]) (st' := [.inl (Int32.ofNat j)]) (m' := (f, l)) rfl rfl (fl_bo rfl) rfl ?_
  refine fl_Tq.stp (pc' := 4) (lv' := [some (.inr (.inr (.inl (25, p)))), some (.inr (.inr (.inl (1, q)))), some (.inl (Int32.ofNat j))]) (st' := [.inr (.inr (.inl (1, q))), .inl (Int32.ofNat j)]) (m' := (f, l)) rfl rfl (fl_bo rfl) rfl ?_
  refine fl_Tq.gfV (k := 5) (v := f q 5) rfl (fl_oks_ok ⟨(B.place 0 1 (by decide) (by decide +kernel)), True.intro, True.intro⟩) rfl rfl ?_
  refine fl_Tq.jt rfl (fl_bo rfl) (c2_ge_t hk) rfl ?_
  refine fl_Tq.cI (c := (0 : Int32)) rfl (by decide +kernel) (fl_bo rfl) ?_
  refine fl_Tq.stp (pc' := 33) (lv' := [some (.inr (.inr (.inl (25, p)))), some (.inr (.inr (.inl (1, q)))), some (.inl (0 : Int32))]) (st' := []) (m' := (f, l)) rfl rfl (fl_bo rfl) rfl ?_
  exact k
theorem bs_D_24_0 {L : Nat} {xs : Nat → Int32} {f : t2_F} {l : t2_L} {Q : Option fl_V → fl_M → Prop} {p q : Nat} {j : Nat} (A : t2_blk l.2 p 24) (B : t2_blk l.2 q 0) (hpq : p + 90 ≤ q ∨ q + 90 ≤ p) (hj : j < 3) (hk : (Int32.ofNat j).toInt < (3 : Int32).toInt) (k : fl_Tq (pw_P L xs) 33 33 [some (.inr (.inr (.inl (25, p)))), some (.inr (.inr (.inl (1, q)))), some (.inl ((Int32.ofNat j) + (1 : Int32)))] [] (bc_mark_m f (p + 81 + 3 * j) (q + 81 + 3 * j), l) Q) : fl_Tq (pw_P L xs) 33 33 [some (.inr (.inr (.inl (25, p)))), some (.inr (.inr (.inl (1, q)))), some (.inl (Int32.ofNat j))] [] (f, l) Q := by
  refine fl_Tq.stp (pc' := 34) (lv' := [some (.inr (.inr (.inl (25, p)))), some (.inr (.inr (.inl (1, q)))), some (.inl (Int32.ofNat j))]) (st' := [.inl (Int32.ofNat j)]) (m' := (f, l)) rfl rfl (fl_bo rfl) rfl ?_
  refine fl_Tq.cI (c := (3 : Int32)) rfl (by decide +kernel) (fl_bo rfl) ?_
  refine fl_Tq.jf rfl (fl_bo rfl) (c2_ge_f hk) rfl ?_
  refine fl_Tq.stp (pc' := 39) (lv' := [some (.inr (.inr (.inl (25, p)))), some (.inr (.inr (.inl (1, q)))), some (.inl (Int32.ofNat j))]) (st' := [.inr (.inr (.inl (25, p)))]) (m' := (f, l)) rfl rfl (fl_bo rfl) rfl ?_
  refine fl_Tq.gfR (d := 14) (p' := p + 14) rfl (fl_oks_ok ⟨(A.place 0 25 (by decide) (by decide +kernel)), True.intro⟩) rfl (by omega) ?_
  refine fl_Tq.stp (pc' := 43) (lv' := [some (.inr (.inr (.inl (25, p)))), some (.inr (.inr (.inl (1, q)))), some (.inl (Int32.ofNat j))]) (st' := [.inl (Int32.ofNat j), .inr (.inr (.inl (39, p + 14)))]) (m' := (f, l)) rfl rfl (fl_oks_ok ⟨(A.place 14 39 (by decide) (by decide +kernel)), True.intro⟩) rfl ?_
  refine fl_Tq.qldM (p := p + 14) (τ := 39) (n := 3) (t := 46) (b := 67) (d := 2) (k := j) rfl (fl_oks_ok ⟨True.intro, (A.place 14 39 (by decide) (by decide +kernel)), True.intro⟩) rfl (at_ofN (by omega)) (by omega) ?_
  show fl_Tq _ 33 44 [some (.inr (.inr (.inl (25, p)))), some (.inr (.inr (.inl (1, q)))), some (.inl (Int32.ofNat j))] [.inr (.inr (.inl (46, p + 81 + 3 * j)))] (f, l) _
  refine fl_Tq.stp (pc' := 45) (lv' := [some (.inr (.inr (.inl (25, p)))), some (.inr (.inr (.inl (1, q)))), some (.inl (Int32.ofNat j))]) (st' := [.inr (.inr (.inl (1, q))), .inr (.inr (.inl (46, p + 81 + 3 * j)))]) (m' := (f, l)) rfl rfl (fl_oks_ok ⟨(A.mark 0 hj (by decide)), True.intro⟩) rfl ?_
  refine fl_Tq.gfR (d := 14) (p' := q + 14) rfl (fl_oks_ok ⟨(B.place 0 1 (by decide) (by decide +kernel)), (A.mark 0 hj (by decide)), True.intro⟩) rfl (by omega) ?_
  refine fl_Tq.stp (pc' := 49) (lv' := [some (.inr (.inr (.inl (25, p)))), some (.inr (.inr (.inl (1, q)))), some (.inl (Int32.ofNat j))]) (st' := [.inl (Int32.ofNat j), .inr (.inr (.inl (15, q + 14))), .inr (.inr (.inl (46, p + 81 + 3 * j)))]) (m' := (f, l)) rfl rfl (fl_oks_ok ⟨(B.place 14 15 (by decide) (by decide +kernel)), (A.mark 0 hj (by decide)), True.intro⟩) rfl ?_
  refine fl_Tq.qldM (p := q + 14) (τ := 15) (n := 3) (t := 22) (b := 67) (d := 2) (k := j) rfl (fl_oks_ok ⟨True.intro, (B.place 14 15 (by decide) (by decide +kernel)), (A.mark 0 hj (by decide)), True.intro⟩) rfl (at_ofN (by omega)) (by omega) ?_
  show fl_Tq _ 33 50 [some (.inr (.inr (.inl (25, p)))), some (.inr (.inr (.inl (1, q)))), some (.inl (Int32.ofNat j))] [.inr (.inr (.inl (22, q + 81 + 3 * j))), .inr (.inr (.inl (46, p + 81 + 3 * j)))] (f, l) _
  refine fl_Tq.cal rfl rfl (fl_oks_ok ⟨(B.mark 0 hj (by decide)), (A.mark 0 hj (by decide)), True.intro⟩) rfl ?_
  refine bc_mark_24_0_q (A.mark 0 hj (by decide)) (B.mark 0 hj (by decide)) (A.mark 1 hj (by decide)) (B.mark 1 hj (by decide)) (A.mark 2 hj (by decide)) (B.mark 2 hj (by decide)) (by omega) ?_
  show fl_Tq _ 33 53 [some (.inr (.inr (.inl (25, p)))), some (.inr (.inr (.inl (1, q)))), some (.inl (Int32.ofNat j))] [] (bc_mark_m f (p + 81 + 3 * j) (q + 81 + 3 * j), l) _
  refine fl_Tq.stp (pc' := 56) (lv' := [some (.inr (.inr (.inl (25, p)))), some (.inr (.inr (.inl (1, q)))), some (.inl ((Int32.ofNat j) + (1 : Int32)))]) (st' := []) (m' := (bc_mark_m f (p + 81 + 3 * j) (q + 81 + 3 * j), l)) rfl rfl (fl_bo rfl) rfl ?_
  refine fl_Tq.stp (pc' := 33) (lv' := [some (.inr (.inr (.inl (25, p)))), some (.inr (.inr (.inl (1, q)))), some (.inl ((Int32.ofNat j) + (1 : Int32)))]) (st' := []) (m' := (bc_mark_m f (p + 81 + 3 * j) (q + 81 + 3 * j), l)) rfl rfl (fl_bo rfl) rfl ?_
  exact k
theorem bs_E_24_0 {L : Nat} {xs : Nat → Int32} {f : t2_F} {l : t2_L} {Q : Option fl_V → fl_M → Prop} {p q : Nat} {j : Nat} (A : t2_blk l.2 p 24) (B : t2_blk l.2 q 0) (hpq : p + 90 ≤ q ∨ q + 90 ≤ p) (hk : ¬ ((Int32.ofNat j).toInt < (3 : Int32).toInt)) (hzw : bc_watch_z (bc_told_m f (p + 2) (q + 2)) (p + 9) (q + 9) = 0 ∨ bc_watch_z (bc_told_m f (p + 2) (q + 2)) (p + 9) (q + 9) = 1) (k : fl_Tq (pw_P L xs) 33 92 [some (.inr (.inr (.inl (25, p)))), some (.inr (.inr (.inl (1, q)))), some (.inl (Int32.ofNat j))] [] (bc_trace_m (bc_watch_m (bc_told_m f (p + 2) (q + 2)) (p + 9) (q + 9)) (p + 15) (q + 15), l) Q) : fl_Tq (pw_P L xs) 33 33 [some (.inr (.inr (.inl (25, p)))), some (.inr (.inr (.inl (1, q)))), some (.inl (Int32.ofNat j))] [] (f, l) Q := by
  refine fl_Tq.stp (pc' := 34) (lv' := [some (.inr (.inr (.inl (25, p)))), some (.inr (.inr (.inl (1, q)))), some (.inl (Int32.ofNat j))]) (st' := [.inl (Int32.ofNat j)]) (m' := (f, l)) rfl rfl (fl_bo rfl) rfl ?_
  refine fl_Tq.cI (c := (3 : Int32)) rfl (by decide +kernel) (fl_bo rfl) ?_
  refine fl_Tq.jt rfl (fl_bo rfl) (c2_ge_t hk) rfl ?_
  refine fl_Tq.stp (pc' := 60) (lv' := [some (.inr (.inr (.inl (25, p)))), some (.inr (.inr (.inl (1, q)))), some (.inl (Int32.ofNat j))]) (st' := [.inr (.inr (.inl (25, p)))]) (m' := (f, l)) rfl rfl (fl_bo rfl) rfl ?_
  refine fl_Tq.gfR (d := 2) (p' := p + 2) rfl (fl_oks_ok ⟨(A.place 0 25 (by decide) (by decide +kernel)), True.intro⟩) rfl (by omega) ?_
  refine fl_Tq.stp (pc' := 64) (lv' := [some (.inr (.inr (.inl (25, p)))), some (.inr (.inr (.inl (1, q)))), some (.inl (Int32.ofNat j))]) (st' := [.inr (.inr (.inl (1, q))), .inr (.inr (.inl (27, p + 2)))]) (m' := (f, l)) rfl rfl (fl_oks_ok ⟨(A.place 2 27 (by decide) (by decide +kernel)), True.intro⟩) rfl ?_
  refine fl_Tq.gfR (d := 2) (p' := q + 2) rfl (fl_oks_ok ⟨(B.place 0 1 (by decide) (by decide +kernel)), (A.place 2 27 (by decide) (by decide +kernel)), True.intro⟩) rfl (by omega) ?_
  refine fl_Tq.cal rfl rfl (fl_oks_ok ⟨(B.place 2 3 (by decide) (by decide +kernel)), (A.place 2 27 (by decide) (by decide +kernel)), True.intro⟩) rfl ?_
  refine bc_told_24_0_q (A.place 2 27 (by decide) (by decide +kernel)) (B.place 2 3 (by decide) (by decide +kernel)) (A.place 3 28 (by decide) (by decide +kernel)) (B.place 3 4 (by decide) (by decide +kernel)) (A.place 4 29 (by decide) (by decide +kernel)) (B.place 4 5 (by decide) (by decide +kernel)) (A.place 5 30 (by decide) (by decide +kernel)) (B.place 5 6 (by decide) (by decide +kernel)) (A.place 6 31 (by decide) (by decide +kernel)) (B.place 6 7 (by decide) (by decide +kernel)) (A.place 7 32 (by decide) (by decide +kernel)) (B.place 7 8 (by decide) (by decide +kernel)) (A.place 8 33 (by decide) (by decide +kernel)) (B.place 8 9 (by decide) (by decide +kernel)) (by omega) ?_
  show fl_Tq _ 33 70 [some (.inr (.inr (.inl (25, p)))), some (.inr (.inr (.inl (1, q)))), some (.inl (Int32.ofNat j))] [] (bc_told_m f (p + 2) (q + 2), l) _
  refine fl_Tq.stp (pc' := 71) (lv' := [some (.inr (.inr (.inl (25, p)))), some (.inr (.inr (.inl (1, q)))), some (.inl (Int32.ofNat j))]) (st' := [.inr (.inr (.inl (25, p)))]) (m' := (bc_told_m f (p + 2) (q + 2), l)) rfl rfl (fl_bo rfl) rfl ?_
  refine fl_Tq.gfR (d := 9) (p' := p + 9) rfl (fl_oks_ok ⟨(A.place 0 25 (by decide) (by decide +kernel)), True.intro⟩) rfl (by omega) ?_
  refine fl_Tq.stp (pc' := 75) (lv' := [some (.inr (.inr (.inl (25, p)))), some (.inr (.inr (.inl (1, q)))), some (.inl (Int32.ofNat j))]) (st' := [.inr (.inr (.inl (1, q))), .inr (.inr (.inl (34, p + 9)))]) (m' := (bc_told_m f (p + 2) (q + 2), l)) rfl rfl (fl_oks_ok ⟨(A.place 9 34 (by decide) (by decide +kernel)), True.intro⟩) rfl ?_
  refine fl_Tq.gfR (d := 9) (p' := q + 9) rfl (fl_oks_ok ⟨(B.place 0 1 (by decide) (by decide +kernel)), (A.place 9 34 (by decide) (by decide +kernel)), True.intro⟩) rfl (by omega) ?_
  refine fl_Tq.cal rfl rfl (fl_oks_ok ⟨(B.place 9 10 (by decide) (by decide +kernel)), (A.place 9 34 (by decide) (by decide +kernel)), True.intro⟩) rfl ?_
  refine bc_watch_24_0_q (A.place 9 34 (by decide) (by decide +kernel)) (B.place 9 10 (by decide) (by decide +kernel)) (A.place 10 35 (by decide) (by decide +kernel)) (B.place 10 11 (by decide) (by decide +kernel)) (A.place 11 36 (by decide) (by decide +kernel)) (B.place 11 12 (by decide) (by decide +kernel)) (A.place 12 37 (by decide) (by decide +kernel)) (B.place 12 13 (by decide) (by decide +kernel)) (A.place 13 38 (by decide) (by decide +kernel)) (B.place 13 14 (by decide) (by decide +kernel)) (by omega) hzw ?_
  show fl_Tq _ 33 81 [some (.inr (.inr (.inl (25, p)))), some (.inr (.inr (.inl (1, q)))), some (.inl (Int32.ofNat j))] [] (bc_watch_m (bc_told_m f (p + 2) (q + 2)) (p + 9) (q + 9), l) _
  refine fl_Tq.stp (pc' := 82) (lv' := [some (.inr (.inr (.inl (25, p)))), some (.inr (.inr (.inl (1, q)))), some (.inl (Int32.ofNat j))]) (st' := [.inr (.inr (.inl (25, p)))]) (m' := (bc_watch_m (bc_told_m f (p + 2) (q + 2)) (p + 9) (q + 9), l)) rfl rfl (fl_bo rfl) rfl ?_
  refine fl_Tq.gfR (d := 15) (p' := p + 15) rfl (fl_oks_ok ⟨(A.place 0 25 (by decide) (by decide +kernel)), True.intro⟩) rfl (by omega) ?_
  refine fl_Tq.stp (pc' := 86) (lv' := [some (.inr (.inr (.inl (25, p)))), some (.inr (.inr (.inl (1, q)))), some (.inl (Int32.ofNat j))]) (st' := [.inr (.inr (.inl (1, q))), .inr (.inr (.inl (40, p + 15)))]) (m' := (bc_watch_m (bc_told_m f (p + 2) (q + 2)) (p + 9) (q + 9), l)) rfl rfl (fl_oks_ok ⟨(A.place 15 40 (by decide) (by decide +kernel)), True.intro⟩) rfl ?_
  refine fl_Tq.gfR (d := 15) (p' := q + 15) rfl (fl_oks_ok ⟨(B.place 0 1 (by decide) (by decide +kernel)), (A.place 15 40 (by decide) (by decide +kernel)), True.intro⟩) rfl (by omega) ?_
  refine fl_Tq.cal rfl rfl (fl_oks_ok ⟨(B.place 15 16 (by decide) (by decide +kernel)), (A.place 15 40 (by decide) (by decide +kernel)), True.intro⟩) rfl ?_
  refine bc_trace_24_0_q (A.place 15 40 (by decide) (by decide +kernel)) (B.place 15 16 (by decide) (by decide +kernel)) (A.place 16 41 (by decide) (by decide +kernel)) (B.place 16 17 (by decide) (by decide +kernel)) (by omega) ?_
  show fl_Tq _ 33 92 [some (.inr (.inr (.inl (25, p)))), some (.inr (.inr (.inl (1, q)))), some (.inl (Int32.ofNat j))] [] (bc_trace_m (bc_watch_m (bc_told_m f (p + 2) (q + 2)) (p + 9) (q + 9)) (p + 15) (q + 15), l) _
  exact k
theorem bs_F_24_0 {L : Nat} {xs : Nat → Int32} {f : t2_F} {l : t2_L} {Q : Option fl_V → fl_M → Prop} {p q : Nat} {z : Int32} (A : t2_blk l.2 p 24) (B : t2_blk l.2 q 0) (hpq : p + 90 ≤ q ∨ q + 90 ≤ p)  (k : Q none (fl_row f p (upd (upd (upd (upd (upd (upd (upd (upd (upd (upd (upd (upd (f p) 5 (f q 5)) 6 (f q 6)) 7 (f q 7)) 8 (f q 8)) 9 (f q 9)) 10 (f q 10)) 11 (f q 11)) 12 (f q 12)) 13 (f q 13)) 14 (f q 14)) 15 (f q 15)) 16 (f q 16)), l)) : fl_Tq (pw_P L xs) 33 92 [some (.inr (.inr (.inl (25, p)))), some (.inr (.inr (.inl (1, q)))), some (.inl z)] [] (f, l) Q := by
  refine fl_Tq.stp (pc' := 93) (lv' := [some (.inr (.inr (.inl (25, p)))), some (.inr (.inr (.inl (1, q)))), some (.inl z)]) (st' := [.inr (.inr (.inl (25, p)))]) (m' := (f, l)) rfl rfl (fl_bo rfl) rfl ?_
  refine fl_Tq.stp (pc' := 94) (lv' := [some (.inr (.inr (.inl (25, p)))), some (.inr (.inr (.inl (1, q)))), some (.inl z)]) (st' := [.inr (.inr (.inl (1, q))), .inr (.inr (.inl (25, p)))]) (m' := (f, l)) rfl rfl (fl_oks_ok ⟨(A.place 0 25 (by decide) (by decide +kernel)), True.intro⟩) rfl ?_
  refine fl_Tq.gfV (k := 5) (v := f q 5) rfl (fl_oks_ok ⟨(B.place 0 1 (by decide) (by decide +kernel)), (A.place 0 25 (by decide) (by decide +kernel)), True.intro⟩) rfl rfl ?_
  refine fl_Tq.pfV (k := 5) (m' := (fl_row f p (upd (f p) 5 (f q 5)), l)) rfl (fl_oks_ok ⟨True.intro, (A.place 0 25 (by decide) (by decide +kernel)), True.intro⟩) rfl (t2_upn rfl) ?_
  refine fl_Tq.stp (pc' := 101) (lv' := [some (.inr (.inr (.inl (25, p)))), some (.inr (.inr (.inl (1, q)))), some (.inl z)]) (st' := [.inr (.inr (.inl (25, p)))]) (m' := (fl_row f p (upd (f p) 5 (f q 5)), l)) rfl rfl (fl_bo rfl) rfl ?_
  refine fl_Tq.stp (pc' := 102) (lv' := [some (.inr (.inr (.inl (25, p)))), some (.inr (.inr (.inl (1, q)))), some (.inl z)]) (st' := [.inr (.inr (.inl (1, q))), .inr (.inr (.inl (25, p)))]) (m' := (fl_row f p (upd (f p) 5 (f q 5)), l)) rfl rfl (fl_oks_ok ⟨(A.place 0 25 (by decide) (by decide +kernel)), True.intro⟩) rfl ?_
  refine fl_Tq.gfV (k := 6) (v := f q 6) rfl (fl_oks_ok ⟨(B.place 0 1 (by decide) (by decide +kernel)), (A.place 0 25 (by decide) (by decide +kernel)), True.intro⟩) rfl (by simp only [fl_row_ne (show q ≠ p by omega)]) ?_
  refine fl_Tq.pfV (k := 6) (m' := (fl_row f p (upd (upd (f p) 5 (f q 5)) 6 (f q 6)), l)) rfl (fl_oks_ok ⟨True.intro, (A.place 0 25 (by decide) (by decide +kernel)), True.intro⟩) rfl (t2_upr) ?_
  refine fl_Tq.stp (pc' := 109) (lv' := [some (.inr (.inr (.inl (25, p)))), some (.inr (.inr (.inl (1, q)))), some (.inl z)]) (st' := [.inr (.inr (.inl (25, p)))]) (m' := (fl_row f p (upd (upd (f p) 5 (f q 5)) 6 (f q 6)), l)) rfl rfl (fl_bo rfl) rfl ?_
  refine fl_Tq.stp (pc' := 110) (lv' := [some (.inr (.inr (.inl (25, p)))), some (.inr (.inr (.inl (1, q)))), some (.inl z)]) (st' := [.inr (.inr (.inl (1, q))), .inr (.inr (.inl (25, p)))]) (m' := (fl_row f p (upd (upd (f p) 5 (f q 5)) 6 (f q 6)), l)) rfl rfl (fl_oks_ok ⟨(A.place 0 25 (by decide) (by decide +kernel)), True.intro⟩) rfl ?_
  refine fl_Tq.gfV (k := 7) (v := f q 7) rfl (fl_oks_ok ⟨(B.place 0 1 (by decide) (by decide +kernel)), (A.place 0 25 (by decide) (by decide +kernel)), True.intro⟩) rfl (by simp only [fl_row_ne (show q ≠ p by omega)]) ?_
  refine fl_Tq.pfV (k := 7) (m' := (fl_row f p (upd (upd (upd (f p) 5 (f q 5)) 6 (f q 6)) 7 (f q 7)), l)) rfl (fl_oks_ok ⟨True.intro, (A.place 0 25 (by decide) (by decide +kernel)), True.intro⟩) rfl (t2_upr) ?_
  refine fl_Tq.stp (pc' := 117) (lv' := [some (.inr (.inr (.inl (25, p)))), some (.inr (.inr (.inl (1, q)))), some (.inl z)]) (st' := [.inr (.inr (.inl (25, p)))]) (m' := (fl_row f p (upd (upd (upd (f p) 5 (f q 5)) 6 (f q 6)) 7 (f q 7)), l)) rfl rfl (fl_bo rfl) rfl ?_
  refine fl_Tq.stp (pc' := 118) (lv' := [some (.inr (.inr (.inl (25, p)))), some (.inr (.inr (.inl (1, q)))), some (.inl z)]) (st' := [.inr (.inr (.inl (1, q))), .inr (.inr (.inl (25, p)))]) (m' := (fl_row f p (upd (upd (upd (f p) 5 (f q 5)) 6 (f q 6)) 7 (f q 7)), l)) rfl rfl (fl_oks_ok ⟨(A.place 0 25 (by decide) (by decide +kernel)), True.intro⟩) rfl ?_
  refine fl_Tq.gfV (k := 8) (v := f q 8) rfl (fl_oks_ok ⟨(B.place 0 1 (by decide) (by decide +kernel)), (A.place 0 25 (by decide) (by decide +kernel)), True.intro⟩) rfl (by simp only [fl_row_ne (show q ≠ p by omega)]) ?_
  refine fl_Tq.pfV (k := 8) (m' := (fl_row f p (upd (upd (upd (upd (f p) 5 (f q 5)) 6 (f q 6)) 7 (f q 7)) 8 (f q 8)), l)) rfl (fl_oks_ok ⟨True.intro, (A.place 0 25 (by decide) (by decide +kernel)), True.intro⟩) rfl (t2_upr) ?_
  refine fl_Tq.stp (pc' := 125) (lv' := [some (.inr (.inr (.inl (25, p)))), some (.inr (.inr (.inl (1, q)))), some (.inl z)]) (st' := [.inr (.inr (.inl (25, p)))]) (m' := (fl_row f p (upd (upd (upd (upd (f p) 5 (f q 5)) 6 (f q 6)) 7 (f q 7)) 8 (f q 8)), l)) rfl rfl (fl_bo rfl) rfl ?_
  refine fl_Tq.stp (pc' := 126) (lv' := [some (.inr (.inr (.inl (25, p)))), some (.inr (.inr (.inl (1, q)))), some (.inl z)]) (st' := [.inr (.inr (.inl (1, q))), .inr (.inr (.inl (25, p)))]) (m' := (fl_row f p (upd (upd (upd (upd (f p) 5 (f q 5)) 6 (f q 6)) 7 (f q 7)) 8 (f q 8)), l)) rfl rfl (fl_oks_ok ⟨(A.place 0 25 (by decide) (by decide +kernel)), True.intro⟩) rfl ?_
  refine fl_Tq.gfV (k := 9) (v := f q 9) rfl (fl_oks_ok ⟨(B.place 0 1 (by decide) (by decide +kernel)), (A.place 0 25 (by decide) (by decide +kernel)), True.intro⟩) rfl (by simp only [fl_row_ne (show q ≠ p by omega)]) ?_
  refine fl_Tq.pfV (k := 9) (m' := (fl_row f p (upd (upd (upd (upd (upd (f p) 5 (f q 5)) 6 (f q 6)) 7 (f q 7)) 8 (f q 8)) 9 (f q 9)), l)) rfl (fl_oks_ok ⟨True.intro, (A.place 0 25 (by decide) (by decide +kernel)), True.intro⟩) rfl (t2_upr) ?_
  refine fl_Tq.stp (pc' := 133) (lv' := [some (.inr (.inr (.inl (25, p)))), some (.inr (.inr (.inl (1, q)))), some (.inl z)]) (st' := [.inr (.inr (.inl (25, p)))]) (m' := (fl_row f p (upd (upd (upd (upd (upd (f p) 5 (f q 5)) 6 (f q 6)) 7 (f q 7)) 8 (f q 8)) 9 (f q 9)), l)) rfl rfl (fl_bo rfl) rfl ?_
  refine fl_Tq.stp (pc' := 134) (lv' := [some (.inr (.inr (.inl (25, p)))), some (.inr (.inr (.inl (1, q)))), some (.inl z)]) (st' := [.inr (.inr (.inl (1, q))), .inr (.inr (.inl (25, p)))]) (m' := (fl_row f p (upd (upd (upd (upd (upd (f p) 5 (f q 5)) 6 (f q 6)) 7 (f q 7)) 8 (f q 8)) 9 (f q 9)), l)) rfl rfl (fl_oks_ok ⟨(A.place 0 25 (by decide) (by decide +kernel)), True.intro⟩) rfl ?_
  refine fl_Tq.gfV (k := 10) (v := f q 10) rfl (fl_oks_ok ⟨(B.place 0 1 (by decide) (by decide +kernel)), (A.place 0 25 (by decide) (by decide +kernel)), True.intro⟩) rfl (by simp only [fl_row_ne (show q ≠ p by omega)]) ?_
  refine fl_Tq.pfV (k := 10) (m' := (fl_row f p (upd (upd (upd (upd (upd (upd (f p) 5 (f q 5)) 6 (f q 6)) 7 (f q 7)) 8 (f q 8)) 9 (f q 9)) 10 (f q 10)), l)) rfl (fl_oks_ok ⟨True.intro, (A.place 0 25 (by decide) (by decide +kernel)), True.intro⟩) rfl (t2_upr) ?_
  refine fl_Tq.stp (pc' := 141) (lv' := [some (.inr (.inr (.inl (25, p)))), some (.inr (.inr (.inl (1, q)))), some (.inl z)]) (st' := [.inr (.inr (.inl (25, p)))]) (m' := (fl_row f p (upd (upd (upd (upd (upd (upd (f p) 5 (f q 5)) 6 (f q 6)) 7 (f q 7)) 8 (f q 8)) 9 (f q 9)) 10 (f q 10)), l)) rfl rfl (fl_bo rfl) rfl ?_
  refine fl_Tq.stp (pc' := 142) (lv' := [some (.inr (.inr (.inl (25, p)))), some (.inr (.inr (.inl (1, q)))), some (.inl z)]) (st' := [.inr (.inr (.inl (1, q))), .inr (.inr (.inl (25, p)))]) (m' := (fl_row f p (upd (upd (upd (upd (upd (upd (f p) 5 (f q 5)) 6 (f q 6)) 7 (f q 7)) 8 (f q 8)) 9 (f q 9)) 10 (f q 10)), l)) rfl rfl (fl_oks_ok ⟨(A.place 0 25 (by decide) (by decide +kernel)), True.intro⟩) rfl ?_
  refine fl_Tq.gfV (k := 11) (v := f q 11) rfl (fl_oks_ok ⟨(B.place 0 1 (by decide) (by decide +kernel)), (A.place 0 25 (by decide) (by decide +kernel)), True.intro⟩) rfl (by simp only [fl_row_ne (show q ≠ p by omega)]) ?_
  refine fl_Tq.pfV (k := 11) (m' := (fl_row f p (upd (upd (upd (upd (upd (upd (upd (f p) 5 (f q 5)) 6 (f q 6)) 7 (f q 7)) 8 (f q 8)) 9 (f q 9)) 10 (f q 10)) 11 (f q 11)), l)) rfl (fl_oks_ok ⟨True.intro, (A.place 0 25 (by decide) (by decide +kernel)), True.intro⟩) rfl (t2_upr) ?_
  refine fl_Tq.stp (pc' := 149) (lv' := [some (.inr (.inr (.inl (25, p)))), some (.inr (.inr (.inl (1, q)))), some (.inl z)]) (st' := [.inr (.inr (.inl (25, p)))]) (m' := (fl_row f p (upd (upd (upd (upd (upd (upd (upd (f p) 5 (f q 5)) 6 (f q 6)) 7 (f q 7)) 8 (f q 8)) 9 (f q 9)) 10 (f q 10)) 11 (f q 11)), l)) rfl rfl (fl_bo rfl) rfl ?_
  refine fl_Tq.stp (pc' := 150) (lv' := [some (.inr (.inr (.inl (25, p)))), some (.inr (.inr (.inl (1, q)))), some (.inl z)]) (st' := [.inr (.inr (.inl (1, q))), .inr (.inr (.inl (25, p)))]) (m' := (fl_row f p (upd (upd (upd (upd (upd (upd (upd (f p) 5 (f q 5)) 6 (f q 6)) 7 (f q 7)) 8 (f q 8)) 9 (f q 9)) 10 (f q 10)) 11 (f q 11)), l)) rfl rfl (fl_oks_ok ⟨(A.place 0 25 (by decide) (by decide +kernel)), True.intro⟩) rfl ?_
  refine fl_Tq.gfV (k := 12) (v := f q 12) rfl (fl_oks_ok ⟨(B.place 0 1 (by decide) (by decide +kernel)), (A.place 0 25 (by decide) (by decide +kernel)), True.intro⟩) rfl (by simp only [fl_row_ne (show q ≠ p by omega)]) ?_
  refine fl_Tq.pfV (k := 12) (m' := (fl_row f p (upd (upd (upd (upd (upd (upd (upd (upd (f p) 5 (f q 5)) 6 (f q 6)) 7 (f q 7)) 8 (f q 8)) 9 (f q 9)) 10 (f q 10)) 11 (f q 11)) 12 (f q 12)), l)) rfl (fl_oks_ok ⟨True.intro, (A.place 0 25 (by decide) (by decide +kernel)), True.intro⟩) rfl (t2_upr) ?_
  refine fl_Tq.stp (pc' := 157) (lv' := [some (.inr (.inr (.inl (25, p)))), some (.inr (.inr (.inl (1, q)))), some (.inl z)]) (st' := [.inr (.inr (.inl (25, p)))]) (m' := (fl_row f p (upd (upd (upd (upd (upd (upd (upd (upd (f p) 5 (f q 5)) 6 (f q 6)) 7 (f q 7)) 8 (f q 8)) 9 (f q 9)) 10 (f q 10)) 11 (f q 11)) 12 (f q 12)), l)) rfl rfl (fl_bo rfl) rfl ?_
  refine fl_Tq.stp (pc' := 158) (lv' := [some (.inr (.inr (.inl (25, p)))), some (.inr (.inr (.inl (1, q)))), some (.inl z)]) (st' := [.inr (.inr (.inl (1, q))), .inr (.inr (.inl (25, p)))]) (m' := (fl_row f p (upd (upd (upd (upd (upd (upd (upd (upd (f p) 5 (f q 5)) 6 (f q 6)) 7 (f q 7)) 8 (f q 8)) 9 (f q 9)) 10 (f q 10)) 11 (f q 11)) 12 (f q 12)), l)) rfl rfl (fl_oks_ok ⟨(A.place 0 25 (by decide) (by decide +kernel)), True.intro⟩) rfl ?_
  refine fl_Tq.gfV (k := 13) (v := f q 13) rfl (fl_oks_ok ⟨(B.place 0 1 (by decide) (by decide +kernel)), (A.place 0 25 (by decide) (by decide +kernel)), True.intro⟩) rfl (by simp only [fl_row_ne (show q ≠ p by omega)]) ?_
  refine fl_Tq.pfV (k := 13) (m' := (fl_row f p (upd (upd (upd (upd (upd (upd (upd (upd (upd (f p) 5 (f q 5)) 6 (f q 6)) 7 (f q 7)) 8 (f q 8)) 9 (f q 9)) 10 (f q 10)) 11 (f q 11)) 12 (f q 12)) 13 (f q 13)), l)) rfl (fl_oks_ok ⟨True.intro, (A.place 0 25 (by decide) (by decide +kernel)), True.intro⟩) rfl (t2_upr) ?_
  refine fl_Tq.stp (pc' := 165) (lv' := [some (.inr (.inr (.inl (25, p)))), some (.inr (.inr (.inl (1, q)))), some (.inl z)]) (st' := [.inr (.inr (.inl (25, p)))]) (m' := (fl_row f p (upd (upd (upd (upd (upd (upd (upd (upd (upd (f p) 5 (f q 5)) 6 (f q 6)) 7 (f q 7)) 8 (f q 8)) 9 (f q 9)) 10 (f q 10)) 11 (f q 11)) 12 (f q 12)) 13 (f q 13)), l)) rfl rfl (fl_bo rfl) rfl ?_
  refine fl_Tq.stp (pc' := 166) (lv' := [some (.inr (.inr (.inl (25, p)))), some (.inr (.inr (.inl (1, q)))), some (.inl z)]) (st' := [.inr (.inr (.inl (1, q))), .inr (.inr (.inl (25, p)))]) (m' := (fl_row f p (upd (upd (upd (upd (upd (upd (upd (upd (upd (f p) 5 (f q 5)) 6 (f q 6)) 7 (f q 7)) 8 (f q 8)) 9 (f q 9)) 10 (f q 10)) 11 (f q 11)) 12 (f q 12)) 13 (f q 13)), l)) rfl rfl (fl_oks_ok ⟨(A.place 0 25 (by decide) (by decide +kernel)), True.intro⟩) rfl ?_
  refine fl_Tq.gfV (k := 14) (v := f q 14) rfl (fl_oks_ok ⟨(B.place 0 1 (by decide) (by decide +kernel)), (A.place 0 25 (by decide) (by decide +kernel)), True.intro⟩) rfl (by simp only [fl_row_ne (show q ≠ p by omega)]) ?_
  refine fl_Tq.pfV (k := 14) (m' := (fl_row f p (upd (upd (upd (upd (upd (upd (upd (upd (upd (upd (f p) 5 (f q 5)) 6 (f q 6)) 7 (f q 7)) 8 (f q 8)) 9 (f q 9)) 10 (f q 10)) 11 (f q 11)) 12 (f q 12)) 13 (f q 13)) 14 (f q 14)), l)) rfl (fl_oks_ok ⟨True.intro, (A.place 0 25 (by decide) (by decide +kernel)), True.intro⟩) rfl (t2_upr) ?_
  refine fl_Tq.stp (pc' := 173) (lv' := [some (.inr (.inr (.inl (25, p)))), some (.inr (.inr (.inl (1, q)))), some (.inl z)]) (st' := [.inr (.inr (.inl (25, p)))]) (m' := (fl_row f p (upd (upd (upd (upd (upd (upd (upd (upd (upd (upd (f p) 5 (f q 5)) 6 (f q 6)) 7 (f q 7)) 8 (f q 8)) 9 (f q 9)) 10 (f q 10)) 11 (f q 11)) 12 (f q 12)) 13 (f q 13)) 14 (f q 14)), l)) rfl rfl (fl_bo rfl) rfl ?_
  refine fl_Tq.stp (pc' := 174) (lv' := [some (.inr (.inr (.inl (25, p)))), some (.inr (.inr (.inl (1, q)))), some (.inl z)]) (st' := [.inr (.inr (.inl (1, q))), .inr (.inr (.inl (25, p)))]) (m' := (fl_row f p (upd (upd (upd (upd (upd (upd (upd (upd (upd (upd (f p) 5 (f q 5)) 6 (f q 6)) 7 (f q 7)) 8 (f q 8)) 9 (f q 9)) 10 (f q 10)) 11 (f q 11)) 12 (f q 12)) 13 (f q 13)) 14 (f q 14)), l)) rfl rfl (fl_oks_ok ⟨(A.place 0 25 (by decide) (by decide +kernel)), True.intro⟩) rfl ?_
  refine fl_Tq.gfV (k := 15) (v := f q 15) rfl (fl_oks_ok ⟨(B.place 0 1 (by decide) (by decide +kernel)), (A.place 0 25 (by decide) (by decide +kernel)), True.intro⟩) rfl (by simp only [fl_row_ne (show q ≠ p by omega)]) ?_
  refine fl_Tq.pfV (k := 15) (m' := (fl_row f p (upd (upd (upd (upd (upd (upd (upd (upd (upd (upd (upd (f p) 5 (f q 5)) 6 (f q 6)) 7 (f q 7)) 8 (f q 8)) 9 (f q 9)) 10 (f q 10)) 11 (f q 11)) 12 (f q 12)) 13 (f q 13)) 14 (f q 14)) 15 (f q 15)), l)) rfl (fl_oks_ok ⟨True.intro, (A.place 0 25 (by decide) (by decide +kernel)), True.intro⟩) rfl (t2_upr) ?_
  refine fl_Tq.stp (pc' := 181) (lv' := [some (.inr (.inr (.inl (25, p)))), some (.inr (.inr (.inl (1, q)))), some (.inl z)]) (st' := [.inr (.inr (.inl (25, p)))]) (m' := (fl_row f p (upd (upd (upd (upd (upd (upd (upd (upd (upd (upd (upd (f p) 5 (f q 5)) 6 (f q 6)) 7 (f q 7)) 8 (f q 8)) 9 (f q 9)) 10 (f q 10)) 11 (f q 11)) 12 (f q 12)) 13 (f q 13)) 14 (f q 14)) 15 (f q 15)), l)) rfl rfl (fl_bo rfl) rfl ?_
  refine fl_Tq.stp (pc' := 182) (lv' := [some (.inr (.inr (.inl (25, p)))), some (.inr (.inr (.inl (1, q)))), some (.inl z)]) (st' := [.inr (.inr (.inl (1, q))), .inr (.inr (.inl (25, p)))]) (m' := (fl_row f p (upd (upd (upd (upd (upd (upd (upd (upd (upd (upd (upd (f p) 5 (f q 5)) 6 (f q 6)) 7 (f q 7)) 8 (f q 8)) 9 (f q 9)) 10 (f q 10)) 11 (f q 11)) 12 (f q 12)) 13 (f q 13)) 14 (f q 14)) 15 (f q 15)), l)) rfl rfl (fl_oks_ok ⟨(A.place 0 25 (by decide) (by decide +kernel)), True.intro⟩) rfl ?_
  refine fl_Tq.gfV (k := 16) (v := f q 16) rfl (fl_oks_ok ⟨(B.place 0 1 (by decide) (by decide +kernel)), (A.place 0 25 (by decide) (by decide +kernel)), True.intro⟩) rfl (by simp only [fl_row_ne (show q ≠ p by omega)]) ?_
  refine fl_Tq.pfV (k := 16) (m' := (fl_row f p (upd (upd (upd (upd (upd (upd (upd (upd (upd (upd (upd (upd (f p) 5 (f q 5)) 6 (f q 6)) 7 (f q 7)) 8 (f q 8)) 9 (f q 9)) 10 (f q 10)) 11 (f q 11)) 12 (f q 12)) 13 (f q 13)) 14 (f q 14)) 15 (f q 15)) 16 (f q 16)), l)) rfl (fl_oks_ok ⟨True.intro, (A.place 0 25 (by decide) (by decide +kernel)), True.intro⟩) rfl (t2_upr) ?_
  exact fl_Tq.ret rfl rfl rfl k
theorem bs_A_0_24 {L : Nat} {xs : Nat → Int32} {f : t2_F} {l : t2_L} {Q : Option fl_V → fl_M → Prop} {p q : Nat} (A : t2_blk l.2 p 0) (B : t2_blk l.2 q 24) (hpq : p + 90 ≤ q ∨ q + 90 ≤ p)  (k : fl_Tq (pw_P L xs) 33 2 [some (.inr (.inr (.inl (1, p)))), some (.inr (.inr (.inl (25, q)))), some (.inl (0 : Int32))] [] (f, l) Q) : fl_Tq (pw_P L xs) 33 0 [some (.inr (.inr (.inl (1, p)))), some (.inr (.inr (.inl (25, q)))), none] [] (f, l) Q := by
  refine fl_Tq.cI (c := (0 : Int32)) rfl (by decide +kernel) (fl_bo rfl) ?_
  refine fl_Tq.stp (pc' := 2) (lv' := [some (.inr (.inr (.inl (1, p)))), some (.inr (.inr (.inl (25, q)))), some (.inl (0 : Int32))]) (st' := []) (m' := (f, l)) rfl rfl (fl_bo rfl) rfl ?_
  exact k
theorem bs_B_0_24 {L : Nat} {xs : Nat → Int32} {f : t2_F} {l : t2_L} {Q : Option fl_V → fl_M → Prop} {p q : Nat} {j : Nat} (A : t2_blk l.2 p 0) (B : t2_blk l.2 q 24) (hpq : p + 90 ≤ q ∨ q + 90 ≤ p) (hj : j < 16) (hk : (Int32.ofNat j).toInt < (f q 5).toInt) (hzc : f (q + 17 + 4 * j) 10 = 0 ∨ f (q + 17 + 4 * j) 10 = 1) (k : fl_Tq (pw_P L xs) 33 2 [some (.inr (.inr (.inl (1, p)))), some (.inr (.inr (.inl (25, q)))), some (.inl ((Int32.ofNat j) + (1 : Int32)))] [] (bc_cell_m f (p + 17 + 4 * j) (q + 17 + 4 * j), l) Q) : fl_Tq (pw_P L xs) 33 2 [some (.inr (.inr (.inl (1, p)))), some (.inr (.inr (.inl (25, q)))), some (.inl (Int32.ofNat j))] [] (f, l) Q := by
  refine fl_Tq.stp (pc' := 3) (lv' := [some (.inr (.inr (.inl (1, p)))), some (.inr (.inr (.inl (25, q)))), some (.inl (Int32.ofNat j))]) (st' := [.inl (Int32.ofNat j)]) (m' := (f, l)) rfl rfl (fl_bo rfl) rfl ?_
  refine fl_Tq.stp (pc' := 4) (lv' := [some (.inr (.inr (.inl (1, p)))), some (.inr (.inr (.inl (25, q)))), some (.inl (Int32.ofNat j))]) (st' := [.inr (.inr (.inl (25, q))), .inl (Int32.ofNat j)]) (m' := (f, l)) rfl rfl (fl_bo rfl) rfl ?_
  refine fl_Tq.gfV (k := 5) (v := f q 5) rfl (fl_oks_ok ⟨(B.place 0 25 (by decide) (by decide +kernel)), True.intro, True.intro⟩) rfl rfl ?_
  refine fl_Tq.jf rfl (fl_bo rfl) (c2_ge_f hk) rfl ?_
  refine fl_Tq.stp (pc' := 11) (lv' := [some (.inr (.inr (.inl (1, p)))), some (.inr (.inr (.inl (25, q)))), some (.inl (Int32.ofNat j))]) (st' := [.inr (.inr (.inl (1, p)))]) (m' := (f, l)) rfl rfl (fl_bo rfl) rfl ?_
  refine fl_Tq.gfR (d := 1) (p' := p + 1) rfl (fl_oks_ok ⟨(A.place 0 1 (by decide) (by decide +kernel)), True.intro⟩) rfl (by omega) ?_
  refine fl_Tq.stp (pc' := 15) (lv' := [some (.inr (.inr (.inl (1, p)))), some (.inr (.inr (.inl (25, q)))), some (.inl (Int32.ofNat j))]) (st' := [.inl (Int32.ofNat j), .inr (.inr (.inl (2, p + 1)))]) (m' := (f, l)) rfl rfl (fl_oks_ok ⟨(A.place 1 2 (by decide) (by decide +kernel)), True.intro⟩) rfl ?_
  refine fl_Tq.qld (p := p + 1) (τ := 2) (n := 16) (t := 18) (b := 16) (d := 3) (k := j) rfl (fl_oks_ok ⟨True.intro, (A.place 1 2 (by decide) (by decide +kernel)), True.intro⟩) rfl (at_ofN (by omega)) (by omega) ?_
  show fl_Tq _ 33 16 [some (.inr (.inr (.inl (1, p)))), some (.inr (.inr (.inl (25, q)))), some (.inl (Int32.ofNat j))] [.inr (.inr (.inl (18, p + 17 + 4 * j)))] (f, l) _
  refine fl_Tq.stp (pc' := 17) (lv' := [some (.inr (.inr (.inl (1, p)))), some (.inr (.inr (.inl (25, q)))), some (.inl (Int32.ofNat j))]) (st' := [.inr (.inr (.inl (25, q))), .inr (.inr (.inl (18, p + 17 + 4 * j)))]) (m' := (f, l)) rfl rfl (fl_oks_ok ⟨(A.cell 0 hj (by decide)), True.intro⟩) rfl ?_
  refine fl_Tq.gfR (d := 1) (p' := q + 1) rfl (fl_oks_ok ⟨(B.place 0 25 (by decide) (by decide +kernel)), (A.cell 0 hj (by decide)), True.intro⟩) rfl (by omega) ?_
  refine fl_Tq.stp (pc' := 21) (lv' := [some (.inr (.inr (.inl (1, p)))), some (.inr (.inr (.inl (25, q)))), some (.inl (Int32.ofNat j))]) (st' := [.inl (Int32.ofNat j), .inr (.inr (.inl (26, q + 1))), .inr (.inr (.inl (18, p + 17 + 4 * j)))]) (m' := (f, l)) rfl rfl (fl_oks_ok ⟨(B.place 1 26 (by decide) (by decide +kernel)), (A.cell 0 hj (by decide)), True.intro⟩) rfl ?_
  refine fl_Tq.qld (p := q + 1) (τ := 26) (n := 16) (t := 42) (b := 16) (d := 3) (k := j) rfl (fl_oks_ok ⟨True.intro, (B.place 1 26 (by decide) (by decide +kernel)), (A.cell 0 hj (by decide)), True.intro⟩) rfl (at_ofN (by omega)) (by omega) ?_
  show fl_Tq _ 33 22 [some (.inr (.inr (.inl (1, p)))), some (.inr (.inr (.inl (25, q)))), some (.inl (Int32.ofNat j))] [.inr (.inr (.inl (42, q + 17 + 4 * j))), .inr (.inr (.inl (18, p + 17 + 4 * j)))] (f, l) _
  refine fl_Tq.cal rfl rfl (fl_oks_ok ⟨(B.cell 0 hj (by decide)), (A.cell 0 hj (by decide)), True.intro⟩) rfl ?_
  refine bc_cell_0_24_q (A.cell 0 hj (by decide)) (B.cell 0 hj (by decide)) (A.cell 1 hj (by decide)) (B.cell 1 hj (by decide)) (A.cell 2 hj (by decide)) (B.cell 2 hj (by decide)) (A.cell 3 hj (by decide)) (B.cell 3 hj (by decide)) (by omega) hzc ?_
  show fl_Tq _ 33 25 [some (.inr (.inr (.inl (1, p)))), some (.inr (.inr (.inl (25, q)))), some (.inl (Int32.ofNat j))] [] (bc_cell_m f (p + 17 + 4 * j) (q + 17 + 4 * j), l) _
  refine fl_Tq.stp (pc' := 28) (lv' := [some (.inr (.inr (.inl (1, p)))), some (.inr (.inr (.inl (25, q)))), some (.inl ((Int32.ofNat j) + (1 : Int32)))]) (st' := []) (m' := (bc_cell_m f (p + 17 + 4 * j) (q + 17 + 4 * j), l)) rfl rfl (fl_bo rfl) rfl ?_
  refine fl_Tq.stp (pc' := 2) (lv' := [some (.inr (.inr (.inl (1, p)))), some (.inr (.inr (.inl (25, q)))), some (.inl ((Int32.ofNat j) + (1 : Int32)))]) (st' := []) (m' := (bc_cell_m f (p + 17 + 4 * j) (q + 17 + 4 * j), l)) rfl rfl (fl_bo rfl) rfl ?_
  exact k
theorem bs_C_0_24 {L : Nat} {xs : Nat → Int32} {f : t2_F} {l : t2_L} {Q : Option fl_V → fl_M → Prop} {p q : Nat} {j : Nat} (A : t2_blk l.2 p 0) (B : t2_blk l.2 q 24) (hpq : p + 90 ≤ q ∨ q + 90 ≤ p) (hk : ¬ ((Int32.ofNat j).toInt < (f q 5).toInt)) (k : fl_Tq (pw_P L xs) 33 33 [some (.inr (.inr (.inl (1, p)))), some (.inr (.inr (.inl (25, q)))), some (.inl (0 : Int32))] [] (f, l) Q) : fl_Tq (pw_P L xs) 33 2 [some (.inr (.inr (.inl (1, p)))), some (.inr (.inr (.inl (25, q)))), some (.inl (Int32.ofNat j))] [] (f, l) Q := by
  refine fl_Tq.stp (pc' := 3) (lv' := [some (.inr (.inr (.inl (1, p)))), some (.inr (.inr (.inl (25, q)))), some (.inl (Int32.ofNat j))]) (st' := [.inl (Int32.ofNat j)]) (m' := (f, l)) rfl rfl (fl_bo rfl) rfl ?_
  refine fl_Tq.stp (pc' := 4) (lv' := [some (.inr (.inr (.inl (1, p)))), some (.inr (.inr (.inl (25, q)))), some (.inl (Int32.ofNat j))]) (st' := [.inr (.inr (.inl (25, q))), .inl (Int32.ofNat j)]) (m' := (f, l)) rfl rfl (fl_bo rfl) rfl ?_
  refine fl_Tq.gfV (k := 5) (v := f q 5) rfl (fl_oks_ok ⟨(B.place 0 25 (by decide) (by decide +kernel)), True.intro, True.intro⟩) rfl rfl ?_
  refine fl_Tq.jt rfl (fl_bo rfl) (c2_ge_t hk) rfl ?_
  refine fl_Tq.cI (c := (0 : Int32)) rfl (by decide +kernel) (fl_bo rfl) ?_
  refine fl_Tq.stp (pc' := 33) (lv' := [some (.inr (.inr (.inl (1, p)))), some (.inr (.inr (.inl (25, q)))), some (.inl (0 : Int32))]) (st' := []) (m' := (f, l)) rfl rfl (fl_bo rfl) rfl ?_
  exact k
theorem bs_D_0_24 {L : Nat} {xs : Nat → Int32} {f : t2_F} {l : t2_L} {Q : Option fl_V → fl_M → Prop} {p q : Nat} {j : Nat} (A : t2_blk l.2 p 0) (B : t2_blk l.2 q 24) (hpq : p + 90 ≤ q ∨ q + 90 ≤ p) (hj : j < 3) (hk : (Int32.ofNat j).toInt < (3 : Int32).toInt) (k : fl_Tq (pw_P L xs) 33 33 [some (.inr (.inr (.inl (1, p)))), some (.inr (.inr (.inl (25, q)))), some (.inl ((Int32.ofNat j) + (1 : Int32)))] [] (bc_mark_m f (p + 81 + 3 * j) (q + 81 + 3 * j), l) Q) : fl_Tq (pw_P L xs) 33 33 [some (.inr (.inr (.inl (1, p)))), some (.inr (.inr (.inl (25, q)))), some (.inl (Int32.ofNat j))] [] (f, l) Q := by
  refine fl_Tq.stp (pc' := 34) (lv' := [some (.inr (.inr (.inl (1, p)))), some (.inr (.inr (.inl (25, q)))), some (.inl (Int32.ofNat j))]) (st' := [.inl (Int32.ofNat j)]) (m' := (f, l)) rfl rfl (fl_bo rfl) rfl ?_
  refine fl_Tq.cI (c := (3 : Int32)) rfl (by decide +kernel) (fl_bo rfl) ?_
  refine fl_Tq.jf rfl (fl_bo rfl) (c2_ge_f hk) rfl ?_
  refine fl_Tq.stp (pc' := 39) (lv' := [some (.inr (.inr (.inl (1, p)))), some (.inr (.inr (.inl (25, q)))), some (.inl (Int32.ofNat j))]) (st' := [.inr (.inr (.inl (1, p)))]) (m' := (f, l)) rfl rfl (fl_bo rfl) rfl ?_
  refine fl_Tq.gfR (d := 14) (p' := p + 14) rfl (fl_oks_ok ⟨(A.place 0 1 (by decide) (by decide +kernel)), True.intro⟩) rfl (by omega) ?_
  refine fl_Tq.stp (pc' := 43) (lv' := [some (.inr (.inr (.inl (1, p)))), some (.inr (.inr (.inl (25, q)))), some (.inl (Int32.ofNat j))]) (st' := [.inl (Int32.ofNat j), .inr (.inr (.inl (15, p + 14)))]) (m' := (f, l)) rfl rfl (fl_oks_ok ⟨(A.place 14 15 (by decide) (by decide +kernel)), True.intro⟩) rfl ?_
  refine fl_Tq.qldM (p := p + 14) (τ := 15) (n := 3) (t := 22) (b := 67) (d := 2) (k := j) rfl (fl_oks_ok ⟨True.intro, (A.place 14 15 (by decide) (by decide +kernel)), True.intro⟩) rfl (at_ofN (by omega)) (by omega) ?_
  show fl_Tq _ 33 44 [some (.inr (.inr (.inl (1, p)))), some (.inr (.inr (.inl (25, q)))), some (.inl (Int32.ofNat j))] [.inr (.inr (.inl (22, p + 81 + 3 * j)))] (f, l) _
  refine fl_Tq.stp (pc' := 45) (lv' := [some (.inr (.inr (.inl (1, p)))), some (.inr (.inr (.inl (25, q)))), some (.inl (Int32.ofNat j))]) (st' := [.inr (.inr (.inl (25, q))), .inr (.inr (.inl (22, p + 81 + 3 * j)))]) (m' := (f, l)) rfl rfl (fl_oks_ok ⟨(A.mark 0 hj (by decide)), True.intro⟩) rfl ?_
  refine fl_Tq.gfR (d := 14) (p' := q + 14) rfl (fl_oks_ok ⟨(B.place 0 25 (by decide) (by decide +kernel)), (A.mark 0 hj (by decide)), True.intro⟩) rfl (by omega) ?_
  refine fl_Tq.stp (pc' := 49) (lv' := [some (.inr (.inr (.inl (1, p)))), some (.inr (.inr (.inl (25, q)))), some (.inl (Int32.ofNat j))]) (st' := [.inl (Int32.ofNat j), .inr (.inr (.inl (39, q + 14))), .inr (.inr (.inl (22, p + 81 + 3 * j)))]) (m' := (f, l)) rfl rfl (fl_oks_ok ⟨(B.place 14 39 (by decide) (by decide +kernel)), (A.mark 0 hj (by decide)), True.intro⟩) rfl ?_
  refine fl_Tq.qldM (p := q + 14) (τ := 39) (n := 3) (t := 46) (b := 67) (d := 2) (k := j) rfl (fl_oks_ok ⟨True.intro, (B.place 14 39 (by decide) (by decide +kernel)), (A.mark 0 hj (by decide)), True.intro⟩) rfl (at_ofN (by omega)) (by omega) ?_
  show fl_Tq _ 33 50 [some (.inr (.inr (.inl (1, p)))), some (.inr (.inr (.inl (25, q)))), some (.inl (Int32.ofNat j))] [.inr (.inr (.inl (46, q + 81 + 3 * j))), .inr (.inr (.inl (22, p + 81 + 3 * j)))] (f, l) _
  refine fl_Tq.cal rfl rfl (fl_oks_ok ⟨(B.mark 0 hj (by decide)), (A.mark 0 hj (by decide)), True.intro⟩) rfl ?_
  refine bc_mark_0_24_q (A.mark 0 hj (by decide)) (B.mark 0 hj (by decide)) (A.mark 1 hj (by decide)) (B.mark 1 hj (by decide)) (A.mark 2 hj (by decide)) (B.mark 2 hj (by decide)) (by omega) ?_
  show fl_Tq _ 33 53 [some (.inr (.inr (.inl (1, p)))), some (.inr (.inr (.inl (25, q)))), some (.inl (Int32.ofNat j))] [] (bc_mark_m f (p + 81 + 3 * j) (q + 81 + 3 * j), l) _
  refine fl_Tq.stp (pc' := 56) (lv' := [some (.inr (.inr (.inl (1, p)))), some (.inr (.inr (.inl (25, q)))), some (.inl ((Int32.ofNat j) + (1 : Int32)))]) (st' := []) (m' := (bc_mark_m f (p + 81 + 3 * j) (q + 81 + 3 * j), l)) rfl rfl (fl_bo rfl) rfl ?_
  refine fl_Tq.stp (pc' := 33) (lv' := [some (.inr (.inr (.inl (1, p)))), some (.inr (.inr (.inl (25, q)))), some (.inl ((Int32.ofNat j) + (1 : Int32)))]) (st' := []) (m' := (bc_mark_m f (p + 81 + 3 * j) (q + 81 + 3 * j), l)) rfl rfl (fl_bo rfl) rfl ?_
  exact k
theorem bs_E_0_24 {L : Nat} {xs : Nat → Int32} {f : t2_F} {l : t2_L} {Q : Option fl_V → fl_M → Prop} {p q : Nat} {j : Nat} (A : t2_blk l.2 p 0) (B : t2_blk l.2 q 24) (hpq : p + 90 ≤ q ∨ q + 90 ≤ p) (hk : ¬ ((Int32.ofNat j).toInt < (3 : Int32).toInt)) (hzw : bc_watch_z (bc_told_m f (p + 2) (q + 2)) (p + 9) (q + 9) = 0 ∨ bc_watch_z (bc_told_m f (p + 2) (q + 2)) (p + 9) (q + 9) = 1) (k : fl_Tq (pw_P L xs) 33 92 [some (.inr (.inr (.inl (1, p)))), some (.inr (.inr (.inl (25, q)))), some (.inl (Int32.ofNat j))] [] (bc_trace_m (bc_watch_m (bc_told_m f (p + 2) (q + 2)) (p + 9) (q + 9)) (p + 15) (q + 15), l) Q) : fl_Tq (pw_P L xs) 33 33 [some (.inr (.inr (.inl (1, p)))), some (.inr (.inr (.inl (25, q)))), some (.inl (Int32.ofNat j))] [] (f, l) Q := by
  refine fl_Tq.stp (pc' := 34) (lv' := [some (.inr (.inr (.inl (1, p)))), some (.inr (.inr (.inl (25, q)))), some (.inl (Int32.ofNat j))]) (st' := [.inl (Int32.ofNat j)]) (m' := (f, l)) rfl rfl (fl_bo rfl) rfl ?_
  refine fl_Tq.cI (c := (3 : Int32)) rfl (by decide +kernel) (fl_bo rfl) ?_
  refine fl_Tq.jt rfl (fl_bo rfl) (c2_ge_t hk) rfl ?_
  refine fl_Tq.stp (pc' := 60) (lv' := [some (.inr (.inr (.inl (1, p)))), some (.inr (.inr (.inl (25, q)))), some (.inl (Int32.ofNat j))]) (st' := [.inr (.inr (.inl (1, p)))]) (m' := (f, l)) rfl rfl (fl_bo rfl) rfl ?_
  refine fl_Tq.gfR (d := 2) (p' := p + 2) rfl (fl_oks_ok ⟨(A.place 0 1 (by decide) (by decide +kernel)), True.intro⟩) rfl (by omega) ?_
  refine fl_Tq.stp (pc' := 64) (lv' := [some (.inr (.inr (.inl (1, p)))), some (.inr (.inr (.inl (25, q)))), some (.inl (Int32.ofNat j))]) (st' := [.inr (.inr (.inl (25, q))), .inr (.inr (.inl (3, p + 2)))]) (m' := (f, l)) rfl rfl (fl_oks_ok ⟨(A.place 2 3 (by decide) (by decide +kernel)), True.intro⟩) rfl ?_
  refine fl_Tq.gfR (d := 2) (p' := q + 2) rfl (fl_oks_ok ⟨(B.place 0 25 (by decide) (by decide +kernel)), (A.place 2 3 (by decide) (by decide +kernel)), True.intro⟩) rfl (by omega) ?_
  refine fl_Tq.cal rfl rfl (fl_oks_ok ⟨(B.place 2 27 (by decide) (by decide +kernel)), (A.place 2 3 (by decide) (by decide +kernel)), True.intro⟩) rfl ?_
  refine bc_told_0_24_q (A.place 2 3 (by decide) (by decide +kernel)) (B.place 2 27 (by decide) (by decide +kernel)) (A.place 3 4 (by decide) (by decide +kernel)) (B.place 3 28 (by decide) (by decide +kernel)) (A.place 4 5 (by decide) (by decide +kernel)) (B.place 4 29 (by decide) (by decide +kernel)) (A.place 5 6 (by decide) (by decide +kernel)) (B.place 5 30 (by decide) (by decide +kernel)) (A.place 6 7 (by decide) (by decide +kernel)) (B.place 6 31 (by decide) (by decide +kernel)) (A.place 7 8 (by decide) (by decide +kernel)) (B.place 7 32 (by decide) (by decide +kernel)) (A.place 8 9 (by decide) (by decide +kernel)) (B.place 8 33 (by decide) (by decide +kernel)) (by omega) ?_
  show fl_Tq _ 33 70 [some (.inr (.inr (.inl (1, p)))), some (.inr (.inr (.inl (25, q)))), some (.inl (Int32.ofNat j))] [] (bc_told_m f (p + 2) (q + 2), l) _
  refine fl_Tq.stp (pc' := 71) (lv' := [some (.inr (.inr (.inl (1, p)))), some (.inr (.inr (.inl (25, q)))), some (.inl (Int32.ofNat j))]) (st' := [.inr (.inr (.inl (1, p)))]) (m' := (bc_told_m f (p + 2) (q + 2), l)) rfl rfl (fl_bo rfl) rfl ?_
  refine fl_Tq.gfR (d := 9) (p' := p + 9) rfl (fl_oks_ok ⟨(A.place 0 1 (by decide) (by decide +kernel)), True.intro⟩) rfl (by omega) ?_
  refine fl_Tq.stp (pc' := 75) (lv' := [some (.inr (.inr (.inl (1, p)))), some (.inr (.inr (.inl (25, q)))), some (.inl (Int32.ofNat j))]) (st' := [.inr (.inr (.inl (25, q))), .inr (.inr (.inl (10, p + 9)))]) (m' := (bc_told_m f (p + 2) (q + 2), l)) rfl rfl (fl_oks_ok ⟨(A.place 9 10 (by decide) (by decide +kernel)), True.intro⟩) rfl ?_
  refine fl_Tq.gfR (d := 9) (p' := q + 9) rfl (fl_oks_ok ⟨(B.place 0 25 (by decide) (by decide +kernel)), (A.place 9 10 (by decide) (by decide +kernel)), True.intro⟩) rfl (by omega) ?_
  refine fl_Tq.cal rfl rfl (fl_oks_ok ⟨(B.place 9 34 (by decide) (by decide +kernel)), (A.place 9 10 (by decide) (by decide +kernel)), True.intro⟩) rfl ?_
  refine bc_watch_0_24_q (A.place 9 10 (by decide) (by decide +kernel)) (B.place 9 34 (by decide) (by decide +kernel)) (A.place 10 11 (by decide) (by decide +kernel)) (B.place 10 35 (by decide) (by decide +kernel)) (A.place 11 12 (by decide) (by decide +kernel)) (B.place 11 36 (by decide) (by decide +kernel)) (A.place 12 13 (by decide) (by decide +kernel)) (B.place 12 37 (by decide) (by decide +kernel)) (A.place 13 14 (by decide) (by decide +kernel)) (B.place 13 38 (by decide) (by decide +kernel)) (by omega) hzw ?_
  show fl_Tq _ 33 81 [some (.inr (.inr (.inl (1, p)))), some (.inr (.inr (.inl (25, q)))), some (.inl (Int32.ofNat j))] [] (bc_watch_m (bc_told_m f (p + 2) (q + 2)) (p + 9) (q + 9), l) _
  refine fl_Tq.stp (pc' := 82) (lv' := [some (.inr (.inr (.inl (1, p)))), some (.inr (.inr (.inl (25, q)))), some (.inl (Int32.ofNat j))]) (st' := [.inr (.inr (.inl (1, p)))]) (m' := (bc_watch_m (bc_told_m f (p + 2) (q + 2)) (p + 9) (q + 9), l)) rfl rfl (fl_bo rfl) rfl ?_
  refine fl_Tq.gfR (d := 15) (p' := p + 15) rfl (fl_oks_ok ⟨(A.place 0 1 (by decide) (by decide +kernel)), True.intro⟩) rfl (by omega) ?_
  refine fl_Tq.stp (pc' := 86) (lv' := [some (.inr (.inr (.inl (1, p)))), some (.inr (.inr (.inl (25, q)))), some (.inl (Int32.ofNat j))]) (st' := [.inr (.inr (.inl (25, q))), .inr (.inr (.inl (16, p + 15)))]) (m' := (bc_watch_m (bc_told_m f (p + 2) (q + 2)) (p + 9) (q + 9), l)) rfl rfl (fl_oks_ok ⟨(A.place 15 16 (by decide) (by decide +kernel)), True.intro⟩) rfl ?_
  refine fl_Tq.gfR (d := 15) (p' := q + 15) rfl (fl_oks_ok ⟨(B.place 0 25 (by decide) (by decide +kernel)), (A.place 15 16 (by decide) (by decide +kernel)), True.intro⟩) rfl (by omega) ?_
  refine fl_Tq.cal rfl rfl (fl_oks_ok ⟨(B.place 15 40 (by decide) (by decide +kernel)), (A.place 15 16 (by decide) (by decide +kernel)), True.intro⟩) rfl ?_
  refine bc_trace_0_24_q (A.place 15 16 (by decide) (by decide +kernel)) (B.place 15 40 (by decide) (by decide +kernel)) (A.place 16 17 (by decide) (by decide +kernel)) (B.place 16 41 (by decide) (by decide +kernel)) (by omega) ?_
  show fl_Tq _ 33 92 [some (.inr (.inr (.inl (1, p)))), some (.inr (.inr (.inl (25, q)))), some (.inl (Int32.ofNat j))] [] (bc_trace_m (bc_watch_m (bc_told_m f (p + 2) (q + 2)) (p + 9) (q + 9)) (p + 15) (q + 15), l) _
  exact k
theorem bs_F_0_24 {L : Nat} {xs : Nat → Int32} {f : t2_F} {l : t2_L} {Q : Option fl_V → fl_M → Prop} {p q : Nat} {z : Int32} (A : t2_blk l.2 p 0) (B : t2_blk l.2 q 24) (hpq : p + 90 ≤ q ∨ q + 90 ≤ p)  (k : Q none (fl_row f p (upd (upd (upd (upd (upd (upd (upd (upd (upd (upd (upd (upd (f p) 5 (f q 5)) 6 (f q 6)) 7 (f q 7)) 8 (f q 8)) 9 (f q 9)) 10 (f q 10)) 11 (f q 11)) 12 (f q 12)) 13 (f q 13)) 14 (f q 14)) 15 (f q 15)) 16 (f q 16)), l)) : fl_Tq (pw_P L xs) 33 92 [some (.inr (.inr (.inl (1, p)))), some (.inr (.inr (.inl (25, q)))), some (.inl z)] [] (f, l) Q := by
  refine fl_Tq.stp (pc' := 93) (lv' := [some (.inr (.inr (.inl (1, p)))), some (.inr (.inr (.inl (25, q)))), some (.inl z)]) (st' := [.inr (.inr (.inl (1, p)))]) (m' := (f, l)) rfl rfl (fl_bo rfl) rfl ?_
  refine fl_Tq.stp (pc' := 94) (lv' := [some (.inr (.inr (.inl (1, p)))), some (.inr (.inr (.inl (25, q)))), some (.inl z)]) (st' := [.inr (.inr (.inl (25, q))), .inr (.inr (.inl (1, p)))]) (m' := (f, l)) rfl rfl (fl_oks_ok ⟨(A.place 0 1 (by decide) (by decide +kernel)), True.intro⟩) rfl ?_
  refine fl_Tq.gfV (k := 5) (v := f q 5) rfl (fl_oks_ok ⟨(B.place 0 25 (by decide) (by decide +kernel)), (A.place 0 1 (by decide) (by decide +kernel)), True.intro⟩) rfl rfl ?_
  refine fl_Tq.pfV (k := 5) (m' := (fl_row f p (upd (f p) 5 (f q 5)), l)) rfl (fl_oks_ok ⟨True.intro, (A.place 0 1 (by decide) (by decide +kernel)), True.intro⟩) rfl (t2_upn rfl) ?_
  refine fl_Tq.stp (pc' := 101) (lv' := [some (.inr (.inr (.inl (1, p)))), some (.inr (.inr (.inl (25, q)))), some (.inl z)]) (st' := [.inr (.inr (.inl (1, p)))]) (m' := (fl_row f p (upd (f p) 5 (f q 5)), l)) rfl rfl (fl_bo rfl) rfl ?_
  refine fl_Tq.stp (pc' := 102) (lv' := [some (.inr (.inr (.inl (1, p)))), some (.inr (.inr (.inl (25, q)))), some (.inl z)]) (st' := [.inr (.inr (.inl (25, q))), .inr (.inr (.inl (1, p)))]) (m' := (fl_row f p (upd (f p) 5 (f q 5)), l)) rfl rfl (fl_oks_ok ⟨(A.place 0 1 (by decide) (by decide +kernel)), True.intro⟩) rfl ?_
  refine fl_Tq.gfV (k := 6) (v := f q 6) rfl (fl_oks_ok ⟨(B.place 0 25 (by decide) (by decide +kernel)), (A.place 0 1 (by decide) (by decide +kernel)), True.intro⟩) rfl (by simp only [fl_row_ne (show q ≠ p by omega)]) ?_
  refine fl_Tq.pfV (k := 6) (m' := (fl_row f p (upd (upd (f p) 5 (f q 5)) 6 (f q 6)), l)) rfl (fl_oks_ok ⟨True.intro, (A.place 0 1 (by decide) (by decide +kernel)), True.intro⟩) rfl (t2_upr) ?_
  refine fl_Tq.stp (pc' := 109) (lv' := [some (.inr (.inr (.inl (1, p)))), some (.inr (.inr (.inl (25, q)))), some (.inl z)]) (st' := [.inr (.inr (.inl (1, p)))]) (m' := (fl_row f p (upd (upd (f p) 5 (f q 5)) 6 (f q 6)), l)) rfl rfl (fl_bo rfl) rfl ?_
  refine fl_Tq.stp (pc' := 110) (lv' := [some (.inr (.inr (.inl (1, p)))), some (.inr (.inr (.inl (25, q)))), some (.inl z)]) (st' := [.inr (.inr (.inl (25, q))), .inr (.inr (.inl (1, p)))]) (m' := (fl_row f p (upd (upd (f p) 5 (f q 5)) 6 (f q 6)), l)) rfl rfl (fl_oks_ok ⟨(A.place 0 1 (by decide) (by decide +kernel)), True.intro⟩) rfl ?_
  refine fl_Tq.gfV (k := 7) (v := f q 7) rfl (fl_oks_ok ⟨(B.place 0 25 (by decide) (by decide +kernel)), (A.place 0 1 (by decide) (by decide +kernel)), True.intro⟩) rfl (by simp only [fl_row_ne (show q ≠ p by omega)]) ?_
  refine fl_Tq.pfV (k := 7) (m' := (fl_row f p (upd (upd (upd (f p) 5 (f q 5)) 6 (f q 6)) 7 (f q 7)), l)) rfl (fl_oks_ok ⟨True.intro, (A.place 0 1 (by decide) (by decide +kernel)), True.intro⟩) rfl (t2_upr) ?_
  refine fl_Tq.stp (pc' := 117) (lv' := [some (.inr (.inr (.inl (1, p)))), some (.inr (.inr (.inl (25, q)))), some (.inl z)]) (st' := [.inr (.inr (.inl (1, p)))]) (m' := (fl_row f p (upd (upd (upd (f p) 5 (f q 5)) 6 (f q 6)) 7 (f q 7)), l)) rfl rfl (fl_bo rfl) rfl ?_
  refine fl_Tq.stp (pc' := 118) (lv' := [some (.inr (.inr (.inl (1, p)))), some (.inr (.inr (.inl (25, q)))), some (.inl z)]) (st' := [.inr (.inr (.inl (25, q))), .inr (.inr (.inl (1, p)))]) (m' := (fl_row f p (upd (upd (upd (f p) 5 (f q 5)) 6 (f q 6)) 7 (f q 7)), l)) rfl rfl (fl_oks_ok ⟨(A.place 0 1 (by decide) (by decide +kernel)), True.intro⟩) rfl ?_
  refine fl_Tq.gfV (k := 8) (v := f q 8) rfl (fl_oks_ok ⟨(B.place 0 25 (by decide) (by decide +kernel)), (A.place 0 1 (by decide) (by decide +kernel)), True.intro⟩) rfl (by simp only [fl_row_ne (show q ≠ p by omega)]) ?_
  refine fl_Tq.pfV (k := 8) (m' := (fl_row f p (upd (upd (upd (upd (f p) 5 (f q 5)) 6 (f q 6)) 7 (f q 7)) 8 (f q 8)), l)) rfl (fl_oks_ok ⟨True.intro, (A.place 0 1 (by decide) (by decide +kernel)), True.intro⟩) rfl (t2_upr) ?_
  refine fl_Tq.stp (pc' := 125) (lv' := [some (.inr (.inr (.inl (1, p)))), some (.inr (.inr (.inl (25, q)))), some (.inl z)]) (st' := [.inr (.inr (.inl (1, p)))]) (m' := (fl_row f p (upd (upd (upd (upd (f p) 5 (f q 5)) 6 (f q 6)) 7 (f q 7)) 8 (f q 8)), l)) rfl rfl (fl_bo rfl) rfl ?_
  refine fl_Tq.stp (pc' := 126) (lv' := [some (.inr (.inr (.inl (1, p)))), some (.inr (.inr (.inl (25, q)))), some (.inl z)]) (st' := [.inr (.inr (.inl (25, q))), .inr (.inr (.inl (1, p)))]) (m' := (fl_row f p (upd (upd (upd (upd (f p) 5 (f q 5)) 6 (f q 6)) 7 (f q 7)) 8 (f q 8)), l)) rfl rfl (fl_oks_ok ⟨(A.place 0 1 (by decide) (by decide +kernel)), True.intro⟩) rfl ?_
  refine fl_Tq.gfV (k := 9) (v := f q 9) rfl (fl_oks_ok ⟨(B.place 0 25 (by decide) (by decide +kernel)), (A.place 0 1 (by decide) (by decide +kernel)), True.intro⟩) rfl (by simp only [fl_row_ne (show q ≠ p by omega)]) ?_
  refine fl_Tq.pfV (k := 9) (m' := (fl_row f p (upd (upd (upd (upd (upd (f p) 5 (f q 5)) 6 (f q 6)) 7 (f q 7)) 8 (f q 8)) 9 (f q 9)), l)) rfl (fl_oks_ok ⟨True.intro, (A.place 0 1 (by decide) (by decide +kernel)), True.intro⟩) rfl (t2_upr) ?_
  refine fl_Tq.stp (pc' := 133) (lv' := [some (.inr (.inr (.inl (1, p)))), some (.inr (.inr (.inl (25, q)))), some (.inl z)]) (st' := [.inr (.inr (.inl (1, p)))]) (m' := (fl_row f p (upd (upd (upd (upd (upd (f p) 5 (f q 5)) 6 (f q 6)) 7 (f q 7)) 8 (f q 8)) 9 (f q 9)), l)) rfl rfl (fl_bo rfl) rfl ?_
  refine fl_Tq.stp (pc' := 134) (lv' := [some (.inr (.inr (.inl (1, p)))), some (.inr (.inr (.inl (25, q)))), some (.inl z)]) (st' := [.inr (.inr (.inl (25, q))), .inr (.inr (.inl (1, p)))]) (m' := (fl_row f p (upd (upd (upd (upd (upd (f p) 5 (f q 5)) 6 (f q 6)) 7 (f q 7)) 8 (f q 8)) 9 (f q 9)), l)) rfl rfl (fl_oks_ok ⟨(A.place 0 1 (by decide) (by decide +kernel)), True.intro⟩) rfl ?_
  refine fl_Tq.gfV (k := 10) (v := f q 10) rfl (fl_oks_ok ⟨(B.place 0 25 (by decide) (by decide +kernel)), (A.place 0 1 (by decide) (by decide +kernel)), True.intro⟩) rfl (by simp only [fl_row_ne (show q ≠ p by omega)]) ?_
  refine fl_Tq.pfV (k := 10) (m' := (fl_row f p (upd (upd (upd (upd (upd (upd (f p) 5 (f q 5)) 6 (f q 6)) 7 (f q 7)) 8 (f q 8)) 9 (f q 9)) 10 (f q 10)), l)) rfl (fl_oks_ok ⟨True.intro, (A.place 0 1 (by decide) (by decide +kernel)), True.intro⟩) rfl (t2_upr) ?_
  refine fl_Tq.stp (pc' := 141) (lv' := [some (.inr (.inr (.inl (1, p)))), some (.inr (.inr (.inl (25, q)))), some (.inl z)]) (st' := [.inr (.inr (.inl (1, p)))]) (m' := (fl_row f p (upd (upd (upd (upd (upd (upd (f p) 5 (f q 5)) 6 (f q 6)) 7 (f q 7)) 8 (f q 8)) 9 (f q 9)) 10 (f q 10)), l)) rfl rfl (fl_bo rfl) rfl ?_
  refine fl_Tq.stp (pc' := 142) (lv' := [some (.inr (.inr (.inl (1, p)))), some (.inr (.inr (.inl (25, q)))), some (.inl z)]) (st' := [.inr (.inr (.inl (25, q))), .inr (.inr (.inl (1, p)))]) (m' := (fl_row f p (upd (upd (upd (upd (upd (upd (f p) 5 (f q 5)) 6 (f q 6)) 7 (f q 7)) 8 (f q 8)) 9 (f q 9)) 10 (f q 10)), l)) rfl rfl (fl_oks_ok ⟨(A.place 0 1 (by decide) (by decide +kernel)), True.intro⟩) rfl ?_
  refine fl_Tq.gfV (k := 11) (v := f q 11) rfl (fl_oks_ok ⟨(B.place 0 25 (by decide) (by decide +kernel)), (A.place 0 1 (by decide) (by decide +kernel)), True.intro⟩) rfl (by simp only [fl_row_ne (show q ≠ p by omega)]) ?_
  refine fl_Tq.pfV (k := 11) (m' := (fl_row f p (upd (upd (upd (upd (upd (upd (upd (f p) 5 (f q 5)) 6 (f q 6)) 7 (f q 7)) 8 (f q 8)) 9 (f q 9)) 10 (f q 10)) 11 (f q 11)), l)) rfl (fl_oks_ok ⟨True.intro, (A.place 0 1 (by decide) (by decide +kernel)), True.intro⟩) rfl (t2_upr) ?_
  refine fl_Tq.stp (pc' := 149) (lv' := [some (.inr (.inr (.inl (1, p)))), some (.inr (.inr (.inl (25, q)))), some (.inl z)]) (st' := [.inr (.inr (.inl (1, p)))]) (m' := (fl_row f p (upd (upd (upd (upd (upd (upd (upd (f p) 5 (f q 5)) 6 (f q 6)) 7 (f q 7)) 8 (f q 8)) 9 (f q 9)) 10 (f q 10)) 11 (f q 11)), l)) rfl rfl (fl_bo rfl) rfl ?_
  refine fl_Tq.stp (pc' := 150) (lv' := [some (.inr (.inr (.inl (1, p)))), some (.inr (.inr (.inl (25, q)))), some (.inl z)]) (st' := [.inr (.inr (.inl (25, q))), .inr (.inr (.inl (1, p)))]) (m' := (fl_row f p (upd (upd (upd (upd (upd (upd (upd (f p) 5 (f q 5)) 6 (f q 6)) 7 (f q 7)) 8 (f q 8)) 9 (f q 9)) 10 (f q 10)) 11 (f q 11)), l)) rfl rfl (fl_oks_ok ⟨(A.place 0 1 (by decide) (by decide +kernel)), True.intro⟩) rfl ?_
  refine fl_Tq.gfV (k := 12) (v := f q 12) rfl (fl_oks_ok ⟨(B.place 0 25 (by decide) (by decide +kernel)), (A.place 0 1 (by decide) (by decide +kernel)), True.intro⟩) rfl (by simp only [fl_row_ne (show q ≠ p by omega)]) ?_
  refine fl_Tq.pfV (k := 12) (m' := (fl_row f p (upd (upd (upd (upd (upd (upd (upd (upd (f p) 5 (f q 5)) 6 (f q 6)) 7 (f q 7)) 8 (f q 8)) 9 (f q 9)) 10 (f q 10)) 11 (f q 11)) 12 (f q 12)), l)) rfl (fl_oks_ok ⟨True.intro, (A.place 0 1 (by decide) (by decide +kernel)), True.intro⟩) rfl (t2_upr) ?_
  refine fl_Tq.stp (pc' := 157) (lv' := [some (.inr (.inr (.inl (1, p)))), some (.inr (.inr (.inl (25, q)))), some (.inl z)]) (st' := [.inr (.inr (.inl (1, p)))]) (m' := (fl_row f p (upd (upd (upd (upd (upd (upd (upd (upd (f p) 5 (f q 5)) 6 (f q 6)) 7 (f q 7)) 8 (f q 8)) 9 (f q 9)) 10 (f q 10)) 11 (f q 11)) 12 (f q 12)), l)) rfl rfl (fl_bo rfl) rfl ?_
  refine fl_Tq.stp (pc' := 158) (lv' := [some (.inr (.inr (.inl (1, p)))), some (.inr (.inr (.inl (25, q)))), some (.inl z)]) (st' := [.inr (.inr (.inl (25, q))), .inr (.inr (.inl (1, p)))]) (m' := (fl_row f p (upd (upd (upd (upd (upd (upd (upd (upd (f p) 5 (f q 5)) 6 (f q 6)) 7 (f q 7)) 8 (f q 8)) 9 (f q 9)) 10 (f q 10)) 11 (f q 11)) 12 (f q 12)), l)) rfl rfl (fl_oks_ok ⟨(A.place 0 1 (by decide) (by decide +kernel)), True.intro⟩) rfl ?_
  refine fl_Tq.gfV (k := 13) (v := f q 13) rfl (fl_oks_ok ⟨(B.place 0 25 (by decide) (by decide +kernel)), (A.place 0 1 (by decide) (by decide +kernel)), True.intro⟩) rfl (by simp only [fl_row_ne (show q ≠ p by omega)]) ?_
  refine fl_Tq.pfV (k := 13) (m' := (fl_row f p (upd (upd (upd (upd (upd (upd (upd (upd (upd (f p) 5 (f q 5)) 6 (f q 6)) 7 (f q 7)) 8 (f q 8)) 9 (f q 9)) 10 (f q 10)) 11 (f q 11)) 12 (f q 12)) 13 (f q 13)), l)) rfl (fl_oks_ok ⟨True.intro, (A.place 0 1 (by decide) (by decide +kernel)), True.intro⟩) rfl (t2_upr) ?_
  refine fl_Tq.stp (pc' := 165) (lv' := [some (.inr (.inr (.inl (1, p)))), some (.inr (.inr (.inl (25, q)))), some (.inl z)]) (st' := [.inr (.inr (.inl (1, p)))]) (m' := (fl_row f p (upd (upd (upd (upd (upd (upd (upd (upd (upd (f p) 5 (f q 5)) 6 (f q 6)) 7 (f q 7)) 8 (f q 8)) 9 (f q 9)) 10 (f q 10)) 11 (f q 11)) 12 (f q 12)) 13 (f q 13)), l)) rfl rfl (fl_bo rfl) rfl ?_
  refine fl_Tq.stp (pc' := 166) (lv' := [some (.inr (.inr (.inl (1, p)))), some (.inr (.inr (.inl (25, q)))), some (.inl z)]) (st' := [.inr (.inr (.inl (25, q))), .inr (.inr (.inl (1, p)))]) (m' := (fl_row f p (upd (upd (upd (upd (upd (upd (upd (upd (upd (f p) 5 (f q 5)) 6 (f q 6)) 7 (f q 7)) 8 (f q 8)) 9 (f q 9)) 10 (f q 10)) 11 (f q 11)) 12 (f q 12)) 13 (f q 13)), l)) rfl rfl (fl_oks_ok ⟨(A.place 0 1 (by decide) (by decide +kernel)), True.intro⟩) rfl ?_
  refine fl_Tq.gfV (k := 14) (v := f q 14) rfl (fl_oks_ok ⟨(B.place 0 25 (by decide) (by decide +kernel)), (A.place 0 1 (by decide) (by decide +kernel)), True.intro⟩) rfl (by simp only [fl_row_ne (show q ≠ p by omega)]) ?_
  refine fl_Tq.pfV (k := 14) (m' := (fl_row f p (upd (upd (upd (upd (upd (upd (upd (upd (upd (upd (f p) 5 (f q 5)) 6 (f q 6)) 7 (f q 7)) 8 (f q 8)) 9 (f q 9)) 10 (f q 10)) 11 (f q 11)) 12 (f q 12)) 13 (f q 13)) 14 (f q 14)), l)) rfl (fl_oks_ok ⟨True.intro, (A.place 0 1 (by decide) (by decide +kernel)), True.intro⟩) rfl (t2_upr) ?_
  refine fl_Tq.stp (pc' := 173) (lv' := [some (.inr (.inr (.inl (1, p)))), some (.inr (.inr (.inl (25, q)))), some (.inl z)]) (st' := [.inr (.inr (.inl (1, p)))]) (m' := (fl_row f p (upd (upd (upd (upd (upd (upd (upd (upd (upd (upd (f p) 5 (f q 5)) 6 (f q 6)) 7 (f q 7)) 8 (f q 8)) 9 (f q 9)) 10 (f q 10)) 11 (f q 11)) 12 (f q 12)) 13 (f q 13)) 14 (f q 14)), l)) rfl rfl (fl_bo rfl) rfl ?_
  refine fl_Tq.stp (pc' := 174) (lv' := [some (.inr (.inr (.inl (1, p)))), some (.inr (.inr (.inl (25, q)))), some (.inl z)]) (st' := [.inr (.inr (.inl (25, q))), .inr (.inr (.inl (1, p)))]) (m' := (fl_row f p (upd (upd (upd (upd (upd (upd (upd (upd (upd (upd (f p) 5 (f q 5)) 6 (f q 6)) 7 (f q 7)) 8 (f q 8)) 9 (f q 9)) 10 (f q 10)) 11 (f q 11)) 12 (f q 12)) 13 (f q 13)) 14 (f q 14)), l)) rfl rfl (fl_oks_ok ⟨(A.place 0 1 (by decide) (by decide +kernel)), True.intro⟩) rfl ?_
  refine fl_Tq.gfV (k := 15) (v := f q 15) rfl (fl_oks_ok ⟨(B.place 0 25 (by decide) (by decide +kernel)), (A.place 0 1 (by decide) (by decide +kernel)), True.intro⟩) rfl (by simp only [fl_row_ne (show q ≠ p by omega)]) ?_
  refine fl_Tq.pfV (k := 15) (m' := (fl_row f p (upd (upd (upd (upd (upd (upd (upd (upd (upd (upd (upd (f p) 5 (f q 5)) 6 (f q 6)) 7 (f q 7)) 8 (f q 8)) 9 (f q 9)) 10 (f q 10)) 11 (f q 11)) 12 (f q 12)) 13 (f q 13)) 14 (f q 14)) 15 (f q 15)), l)) rfl (fl_oks_ok ⟨True.intro, (A.place 0 1 (by decide) (by decide +kernel)), True.intro⟩) rfl (t2_upr) ?_
  refine fl_Tq.stp (pc' := 181) (lv' := [some (.inr (.inr (.inl (1, p)))), some (.inr (.inr (.inl (25, q)))), some (.inl z)]) (st' := [.inr (.inr (.inl (1, p)))]) (m' := (fl_row f p (upd (upd (upd (upd (upd (upd (upd (upd (upd (upd (upd (f p) 5 (f q 5)) 6 (f q 6)) 7 (f q 7)) 8 (f q 8)) 9 (f q 9)) 10 (f q 10)) 11 (f q 11)) 12 (f q 12)) 13 (f q 13)) 14 (f q 14)) 15 (f q 15)), l)) rfl rfl (fl_bo rfl) rfl ?_
  refine fl_Tq.stp (pc' := 182) (lv' := [some (.inr (.inr (.inl (1, p)))), some (.inr (.inr (.inl (25, q)))), some (.inl z)]) (st' := [.inr (.inr (.inl (25, q))), .inr (.inr (.inl (1, p)))]) (m' := (fl_row f p (upd (upd (upd (upd (upd (upd (upd (upd (upd (upd (upd (f p) 5 (f q 5)) 6 (f q 6)) 7 (f q 7)) 8 (f q 8)) 9 (f q 9)) 10 (f q 10)) 11 (f q 11)) 12 (f q 12)) 13 (f q 13)) 14 (f q 14)) 15 (f q 15)), l)) rfl rfl (fl_oks_ok ⟨(A.place 0 1 (by decide) (by decide +kernel)), True.intro⟩) rfl ?_
  refine fl_Tq.gfV (k := 16) (v := f q 16) rfl (fl_oks_ok ⟨(B.place 0 25 (by decide) (by decide +kernel)), (A.place 0 1 (by decide) (by decide +kernel)), True.intro⟩) rfl (by simp only [fl_row_ne (show q ≠ p by omega)]) ?_
  refine fl_Tq.pfV (k := 16) (m' := (fl_row f p (upd (upd (upd (upd (upd (upd (upd (upd (upd (upd (upd (upd (f p) 5 (f q 5)) 6 (f q 6)) 7 (f q 7)) 8 (f q 8)) 9 (f q 9)) 10 (f q 10)) 11 (f q 11)) 12 (f q 12)) 13 (f q 13)) 14 (f q 14)) 15 (f q 15)) 16 (f q 16)), l)) rfl (fl_oks_ok ⟨True.intro, (A.place 0 1 (by decide) (by decide +kernel)), True.intro⟩) rfl (t2_upr) ?_
  exact fl_Tq.ret rfl rfl rfl k
theorem bs_A_48_0 {L : Nat} {xs : Nat → Int32} {f : t2_F} {l : t2_L} {Q : Option fl_V → fl_M → Prop} {p q : Nat} (A : t2_blk l.2 p 48) (B : t2_blk l.2 q 0) (hpq : p + 90 ≤ q ∨ q + 90 ≤ p)  (k : fl_Tq (pw_P L xs) 33 2 [some (.inr (.inr (.inl (49, p)))), some (.inr (.inr (.inl (1, q)))), some (.inl (0 : Int32))] [] (f, l) Q) : fl_Tq (pw_P L xs) 33 0 [some (.inr (.inr (.inl (49, p)))), some (.inr (.inr (.inl (1, q)))), none] [] (f, l) Q := by
  refine fl_Tq.cI (c := (0 : Int32)) rfl (by decide +kernel) (fl_bo rfl) ?_
  refine fl_Tq.stp (pc' := 2) (lv' := [some (.inr (.inr (.inl (49, p)))), some (.inr (.inr (.inl (1, q)))), some (.inl (0 : Int32))]) (st' := []) (m' := (f, l)) rfl rfl (fl_bo rfl) rfl ?_
  exact k
theorem bs_B_48_0 {L : Nat} {xs : Nat → Int32} {f : t2_F} {l : t2_L} {Q : Option fl_V → fl_M → Prop} {p q : Nat} {j : Nat} (A : t2_blk l.2 p 48) (B : t2_blk l.2 q 0) (hpq : p + 90 ≤ q ∨ q + 90 ≤ p) (hj : j < 16) (hk : (Int32.ofNat j).toInt < (f q 5).toInt) (hzc : f (q + 17 + 4 * j) 10 = 0 ∨ f (q + 17 + 4 * j) 10 = 1) (k : fl_Tq (pw_P L xs) 33 2 [some (.inr (.inr (.inl (49, p)))), some (.inr (.inr (.inl (1, q)))), some (.inl ((Int32.ofNat j) + (1 : Int32)))] [] (bc_cell_m f (p + 17 + 4 * j) (q + 17 + 4 * j), l) Q) : fl_Tq (pw_P L xs) 33 2 [some (.inr (.inr (.inl (49, p)))), some (.inr (.inr (.inl (1, q)))), some (.inl (Int32.ofNat j))] [] (f, l) Q := by
  refine fl_Tq.stp (pc' := 3) (lv' := [some (.inr (.inr (.inl (49, p)))), some (.inr (.inr (.inl (1, q)))), some (.inl (Int32.ofNat j))]) (st' := [.inl (Int32.ofNat j)]) (m' := (f, l)) rfl rfl (fl_bo rfl) rfl ?_
  refine fl_Tq.stp (pc' := 4) (lv' := [some (.inr (.inr (.inl (49, p)))), some (.inr (.inr (.inl (1, q)))), some (.inl (Int32.ofNat j))]) (st' := [.inr (.inr (.inl (1, q))), .inl (Int32.ofNat j)]) (m' := (f, l)) rfl rfl (fl_bo rfl) rfl ?_
  refine fl_Tq.gfV (k := 5) (v := f q 5) rfl (fl_oks_ok ⟨(B.place 0 1 (by decide) (by decide +kernel)), True.intro, True.intro⟩) rfl rfl ?_
  refine fl_Tq.jf rfl (fl_bo rfl) (c2_ge_f hk) rfl ?_
  refine fl_Tq.stp (pc' := 11) (lv' := [some (.inr (.inr (.inl (49, p)))), some (.inr (.inr (.inl (1, q)))), some (.inl (Int32.ofNat j))]) (st' := [.inr (.inr (.inl (49, p)))]) (m' := (f, l)) rfl rfl (fl_bo rfl) rfl ?_
  refine fl_Tq.gfR (d := 1) (p' := p + 1) rfl (fl_oks_ok ⟨(A.place 0 49 (by decide) (by decide +kernel)), True.intro⟩) rfl (by omega) ?_
  refine fl_Tq.stp (pc' := 15) (lv' := [some (.inr (.inr (.inl (49, p)))), some (.inr (.inr (.inl (1, q)))), some (.inl (Int32.ofNat j))]) (st' := [.inl (Int32.ofNat j), .inr (.inr (.inl (50, p + 1)))]) (m' := (f, l)) rfl rfl (fl_oks_ok ⟨(A.place 1 50 (by decide) (by decide +kernel)), True.intro⟩) rfl ?_
  refine fl_Tq.qld (p := p + 1) (τ := 50) (n := 16) (t := 66) (b := 16) (d := 3) (k := j) rfl (fl_oks_ok ⟨True.intro, (A.place 1 50 (by decide) (by decide +kernel)), True.intro⟩) rfl (at_ofN (by omega)) (by omega) ?_
  show fl_Tq _ 33 16 [some (.inr (.inr (.inl (49, p)))), some (.inr (.inr (.inl (1, q)))), some (.inl (Int32.ofNat j))] [.inr (.inr (.inl (66, p + 17 + 4 * j)))] (f, l) _
  refine fl_Tq.stp (pc' := 17) (lv' := [some (.inr (.inr (.inl (49, p)))), some (.inr (.inr (.inl (1, q)))), some (.inl (Int32.ofNat j))]) (st' := [.inr (.inr (.inl (1, q))), .inr (.inr (.inl (66, p + 17 + 4 * j)))]) (m' := (f, l)) rfl rfl (fl_oks_ok ⟨(A.cell 0 hj (by decide)), True.intro⟩) rfl ?_
  refine fl_Tq.gfR (d := 1) (p' := q + 1) rfl (fl_oks_ok ⟨(B.place 0 1 (by decide) (by decide +kernel)), (A.cell 0 hj (by decide)), True.intro⟩) rfl (by omega) ?_
  refine fl_Tq.stp (pc' := 21) (lv' := [some (.inr (.inr (.inl (49, p)))), some (.inr (.inr (.inl (1, q)))), some (.inl (Int32.ofNat j))]) (st' := [.inl (Int32.ofNat j), .inr (.inr (.inl (2, q + 1))), .inr (.inr (.inl (66, p + 17 + 4 * j)))]) (m' := (f, l)) rfl rfl (fl_oks_ok ⟨(B.place 1 2 (by decide) (by decide +kernel)), (A.cell 0 hj (by decide)), True.intro⟩) rfl ?_
  refine fl_Tq.qld (p := q + 1) (τ := 2) (n := 16) (t := 18) (b := 16) (d := 3) (k := j) rfl (fl_oks_ok ⟨True.intro, (B.place 1 2 (by decide) (by decide +kernel)), (A.cell 0 hj (by decide)), True.intro⟩) rfl (at_ofN (by omega)) (by omega) ?_
  show fl_Tq _ 33 22 [some (.inr (.inr (.inl (49, p)))), some (.inr (.inr (.inl (1, q)))), some (.inl (Int32.ofNat j))] [.inr (.inr (.inl (18, q + 17 + 4 * j))), .inr (.inr (.inl (66, p + 17 + 4 * j)))] (f, l) _
  refine fl_Tq.cal rfl rfl (fl_oks_ok ⟨(B.cell 0 hj (by decide)), (A.cell 0 hj (by decide)), True.intro⟩) rfl ?_
  refine bc_cell_48_0_q (A.cell 0 hj (by decide)) (B.cell 0 hj (by decide)) (A.cell 1 hj (by decide)) (B.cell 1 hj (by decide)) (A.cell 2 hj (by decide)) (B.cell 2 hj (by decide)) (A.cell 3 hj (by decide)) (B.cell 3 hj (by decide)) (by omega) hzc ?_
  show fl_Tq _ 33 25 [some (.inr (.inr (.inl (49, p)))), some (.inr (.inr (.inl (1, q)))), some (.inl (Int32.ofNat j))] [] (bc_cell_m f (p + 17 + 4 * j) (q + 17 + 4 * j), l) _
  refine fl_Tq.stp (pc' := 28) (lv' := [some (.inr (.inr (.inl (49, p)))), some (.inr (.inr (.inl (1, q)))), some (.inl ((Int32.ofNat j) + (1 : Int32)))]) (st' := []) (m' := (bc_cell_m f (p + 17 + 4 * j) (q + 17 + 4 * j), l)) rfl rfl (fl_bo rfl) rfl ?_
  refine fl_Tq.stp (pc' := 2) (lv' := [some (.inr (.inr (.inl (49, p)))), some (.inr (.inr (.inl (1, q)))), some (.inl ((Int32.ofNat j) + (1 : Int32)))]) (st' := []) (m' := (bc_cell_m f (p + 17 + 4 * j) (q + 17 + 4 * j), l)) rfl rfl (fl_bo rfl) rfl ?_
  exact k
theorem bs_C_48_0 {L : Nat} {xs : Nat → Int32} {f : t2_F} {l : t2_L} {Q : Option fl_V → fl_M → Prop} {p q : Nat} {j : Nat} (A : t2_blk l.2 p 48) (B : t2_blk l.2 q 0) (hpq : p + 90 ≤ q ∨ q + 90 ≤ p) (hk : ¬ ((Int32.ofNat j).toInt < (f q 5).toInt)) (k : fl_Tq (pw_P L xs) 33 33 [some (.inr (.inr (.inl (49, p)))), some (.inr (.inr (.inl (1, q)))), some (.inl (0 : Int32))] [] (f, l) Q) : fl_Tq (pw_P L xs) 33 2 [some (.inr (.inr (.inl (49, p)))), some (.inr (.inr (.inl (1, q)))), some (.inl (Int32.ofNat j))] [] (f, l) Q := by
  refine fl_Tq.stp (pc' := 3) (lv' := [some (.inr (.inr (.inl (49, p)))), some (.inr (.inr (.inl (1, q)))), some (.inl (Int32.ofNat j))]) (st' := [.inl (Int32.ofNat j)]) (m' := (f, l)) rfl rfl (fl_bo rfl) rfl ?_
  refine fl_Tq.stp (pc' := 4) (lv' := [some (.inr (.inr (.inl (49, p)))), some (.inr (.inr (.inl (1, q)))), some (.inl (Int32.ofNat j))]) (st' := [.inr (.inr (.inl (1, q))), .inl (Int32.ofNat j)]) (m' := (f, l)) rfl rfl (fl_bo rfl) rfl ?_
  refine fl_Tq.gfV (k := 5) (v := f q 5) rfl (fl_oks_ok ⟨(B.place 0 1 (by decide) (by decide +kernel)), True.intro, True.intro⟩) rfl rfl ?_
  refine fl_Tq.jt rfl (fl_bo rfl) (c2_ge_t hk) rfl ?_
  refine fl_Tq.cI (c := (0 : Int32)) rfl (by decide +kernel) (fl_bo rfl) ?_
  refine fl_Tq.stp (pc' := 33) (lv' := [some (.inr (.inr (.inl (49, p)))), some (.inr (.inr (.inl (1, q)))), some (.inl (0 : Int32))]) (st' := []) (m' := (f, l)) rfl rfl (fl_bo rfl) rfl ?_
  exact k
theorem bs_D_48_0 {L : Nat} {xs : Nat → Int32} {f : t2_F} {l : t2_L} {Q : Option fl_V → fl_M → Prop} {p q : Nat} {j : Nat} (A : t2_blk l.2 p 48) (B : t2_blk l.2 q 0) (hpq : p + 90 ≤ q ∨ q + 90 ≤ p) (hj : j < 3) (hk : (Int32.ofNat j).toInt < (3 : Int32).toInt) (k : fl_Tq (pw_P L xs) 33 33 [some (.inr (.inr (.inl (49, p)))), some (.inr (.inr (.inl (1, q)))), some (.inl ((Int32.ofNat j) + (1 : Int32)))] [] (bc_mark_m f (p + 81 + 3 * j) (q + 81 + 3 * j), l) Q) : fl_Tq (pw_P L xs) 33 33 [some (.inr (.inr (.inl (49, p)))), some (.inr (.inr (.inl (1, q)))), some (.inl (Int32.ofNat j))] [] (f, l) Q := by
  refine fl_Tq.stp (pc' := 34) (lv' := [some (.inr (.inr (.inl (49, p)))), some (.inr (.inr (.inl (1, q)))), some (.inl (Int32.ofNat j))]) (st' := [.inl (Int32.ofNat j)]) (m' := (f, l)) rfl rfl (fl_bo rfl) rfl ?_
  refine fl_Tq.cI (c := (3 : Int32)) rfl (by decide +kernel) (fl_bo rfl) ?_
  refine fl_Tq.jf rfl (fl_bo rfl) (c2_ge_f hk) rfl ?_
  refine fl_Tq.stp (pc' := 39) (lv' := [some (.inr (.inr (.inl (49, p)))), some (.inr (.inr (.inl (1, q)))), some (.inl (Int32.ofNat j))]) (st' := [.inr (.inr (.inl (49, p)))]) (m' := (f, l)) rfl rfl (fl_bo rfl) rfl ?_
  refine fl_Tq.gfR (d := 14) (p' := p + 14) rfl (fl_oks_ok ⟨(A.place 0 49 (by decide) (by decide +kernel)), True.intro⟩) rfl (by omega) ?_
  refine fl_Tq.stp (pc' := 43) (lv' := [some (.inr (.inr (.inl (49, p)))), some (.inr (.inr (.inl (1, q)))), some (.inl (Int32.ofNat j))]) (st' := [.inl (Int32.ofNat j), .inr (.inr (.inl (63, p + 14)))]) (m' := (f, l)) rfl rfl (fl_oks_ok ⟨(A.place 14 63 (by decide) (by decide +kernel)), True.intro⟩) rfl ?_
  refine fl_Tq.qldM (p := p + 14) (τ := 63) (n := 3) (t := 70) (b := 67) (d := 2) (k := j) rfl (fl_oks_ok ⟨True.intro, (A.place 14 63 (by decide) (by decide +kernel)), True.intro⟩) rfl (at_ofN (by omega)) (by omega) ?_
  show fl_Tq _ 33 44 [some (.inr (.inr (.inl (49, p)))), some (.inr (.inr (.inl (1, q)))), some (.inl (Int32.ofNat j))] [.inr (.inr (.inl (70, p + 81 + 3 * j)))] (f, l) _
  refine fl_Tq.stp (pc' := 45) (lv' := [some (.inr (.inr (.inl (49, p)))), some (.inr (.inr (.inl (1, q)))), some (.inl (Int32.ofNat j))]) (st' := [.inr (.inr (.inl (1, q))), .inr (.inr (.inl (70, p + 81 + 3 * j)))]) (m' := (f, l)) rfl rfl (fl_oks_ok ⟨(A.mark 0 hj (by decide)), True.intro⟩) rfl ?_
  refine fl_Tq.gfR (d := 14) (p' := q + 14) rfl (fl_oks_ok ⟨(B.place 0 1 (by decide) (by decide +kernel)), (A.mark 0 hj (by decide)), True.intro⟩) rfl (by omega) ?_
  refine fl_Tq.stp (pc' := 49) (lv' := [some (.inr (.inr (.inl (49, p)))), some (.inr (.inr (.inl (1, q)))), some (.inl (Int32.ofNat j))]) (st' := [.inl (Int32.ofNat j), .inr (.inr (.inl (15, q + 14))), .inr (.inr (.inl (70, p + 81 + 3 * j)))]) (m' := (f, l)) rfl rfl (fl_oks_ok ⟨(B.place 14 15 (by decide) (by decide +kernel)), (A.mark 0 hj (by decide)), True.intro⟩) rfl ?_
  refine fl_Tq.qldM (p := q + 14) (τ := 15) (n := 3) (t := 22) (b := 67) (d := 2) (k := j) rfl (fl_oks_ok ⟨True.intro, (B.place 14 15 (by decide) (by decide +kernel)), (A.mark 0 hj (by decide)), True.intro⟩) rfl (at_ofN (by omega)) (by omega) ?_
  show fl_Tq _ 33 50 [some (.inr (.inr (.inl (49, p)))), some (.inr (.inr (.inl (1, q)))), some (.inl (Int32.ofNat j))] [.inr (.inr (.inl (22, q + 81 + 3 * j))), .inr (.inr (.inl (70, p + 81 + 3 * j)))] (f, l) _
  refine fl_Tq.cal rfl rfl (fl_oks_ok ⟨(B.mark 0 hj (by decide)), (A.mark 0 hj (by decide)), True.intro⟩) rfl ?_
  refine bc_mark_48_0_q (A.mark 0 hj (by decide)) (B.mark 0 hj (by decide)) (A.mark 1 hj (by decide)) (B.mark 1 hj (by decide)) (A.mark 2 hj (by decide)) (B.mark 2 hj (by decide)) (by omega) ?_
  show fl_Tq _ 33 53 [some (.inr (.inr (.inl (49, p)))), some (.inr (.inr (.inl (1, q)))), some (.inl (Int32.ofNat j))] [] (bc_mark_m f (p + 81 + 3 * j) (q + 81 + 3 * j), l) _
  refine fl_Tq.stp (pc' := 56) (lv' := [some (.inr (.inr (.inl (49, p)))), some (.inr (.inr (.inl (1, q)))), some (.inl ((Int32.ofNat j) + (1 : Int32)))]) (st' := []) (m' := (bc_mark_m f (p + 81 + 3 * j) (q + 81 + 3 * j), l)) rfl rfl (fl_bo rfl) rfl ?_
  refine fl_Tq.stp (pc' := 33) (lv' := [some (.inr (.inr (.inl (49, p)))), some (.inr (.inr (.inl (1, q)))), some (.inl ((Int32.ofNat j) + (1 : Int32)))]) (st' := []) (m' := (bc_mark_m f (p + 81 + 3 * j) (q + 81 + 3 * j), l)) rfl rfl (fl_bo rfl) rfl ?_
  exact k
theorem bs_E_48_0 {L : Nat} {xs : Nat → Int32} {f : t2_F} {l : t2_L} {Q : Option fl_V → fl_M → Prop} {p q : Nat} {j : Nat} (A : t2_blk l.2 p 48) (B : t2_blk l.2 q 0) (hpq : p + 90 ≤ q ∨ q + 90 ≤ p) (hk : ¬ ((Int32.ofNat j).toInt < (3 : Int32).toInt)) (hzw : bc_watch_z (bc_told_m f (p + 2) (q + 2)) (p + 9) (q + 9) = 0 ∨ bc_watch_z (bc_told_m f (p + 2) (q + 2)) (p + 9) (q + 9) = 1) (k : fl_Tq (pw_P L xs) 33 92 [some (.inr (.inr (.inl (49, p)))), some (.inr (.inr (.inl (1, q)))), some (.inl (Int32.ofNat j))] [] (bc_trace_m (bc_watch_m (bc_told_m f (p + 2) (q + 2)) (p + 9) (q + 9)) (p + 15) (q + 15), l) Q) : fl_Tq (pw_P L xs) 33 33 [some (.inr (.inr (.inl (49, p)))), some (.inr (.inr (.inl (1, q)))), some (.inl (Int32.ofNat j))] [] (f, l) Q := by
  refine fl_Tq.stp (pc' := 34) (lv' := [some (.inr (.inr (.inl (49, p)))), some (.inr (.inr (.inl (1, q)))), some (.inl (Int32.ofNat j))]) (st' := [.inl (Int32.ofNat j)]) (m' := (f, l)) rfl rfl (fl_bo rfl) rfl ?_
  refine fl_Tq.cI (c := (3 : Int32)) rfl (by decide +kernel) (fl_bo rfl) ?_
  refine fl_Tq.jt rfl (fl_bo rfl) (c2_ge_t hk) rfl ?_
  refine fl_Tq.stp (pc' := 60) (lv' := [some (.inr (.inr (.inl (49, p)))), some (.inr (.inr (.inl (1, q)))), some (.inl (Int32.ofNat j))]) (st' := [.inr (.inr (.inl (49, p)))]) (m' := (f, l)) rfl rfl (fl_bo rfl) rfl ?_
  refine fl_Tq.gfR (d := 2) (p' := p + 2) rfl (fl_oks_ok ⟨(A.place 0 49 (by decide) (by decide +kernel)), True.intro⟩) rfl (by omega) ?_
  refine fl_Tq.stp (pc' := 64) (lv' := [some (.inr (.inr (.inl (49, p)))), some (.inr (.inr (.inl (1, q)))), some (.inl (Int32.ofNat j))]) (st' := [.inr (.inr (.inl (1, q))), .inr (.inr (.inl (51, p + 2)))]) (m' := (f, l)) rfl rfl (fl_oks_ok ⟨(A.place 2 51 (by decide) (by decide +kernel)), True.intro⟩) rfl ?_
  refine fl_Tq.gfR (d := 2) (p' := q + 2) rfl (fl_oks_ok ⟨(B.place 0 1 (by decide) (by decide +kernel)), (A.place 2 51 (by decide) (by decide +kernel)), True.intro⟩) rfl (by omega) ?_
  refine fl_Tq.cal rfl rfl (fl_oks_ok ⟨(B.place 2 3 (by decide) (by decide +kernel)), (A.place 2 51 (by decide) (by decide +kernel)), True.intro⟩) rfl ?_
  refine bc_told_48_0_q (A.place 2 51 (by decide) (by decide +kernel)) (B.place 2 3 (by decide) (by decide +kernel)) (A.place 3 52 (by decide) (by decide +kernel)) (B.place 3 4 (by decide) (by decide +kernel)) (A.place 4 53 (by decide) (by decide +kernel)) (B.place 4 5 (by decide) (by decide +kernel)) (A.place 5 54 (by decide) (by decide +kernel)) (B.place 5 6 (by decide) (by decide +kernel)) (A.place 6 55 (by decide) (by decide +kernel)) (B.place 6 7 (by decide) (by decide +kernel)) (A.place 7 56 (by decide) (by decide +kernel)) (B.place 7 8 (by decide) (by decide +kernel)) (A.place 8 57 (by decide) (by decide +kernel)) (B.place 8 9 (by decide) (by decide +kernel)) (by omega) ?_
  show fl_Tq _ 33 70 [some (.inr (.inr (.inl (49, p)))), some (.inr (.inr (.inl (1, q)))), some (.inl (Int32.ofNat j))] [] (bc_told_m f (p + 2) (q + 2), l) _
  refine fl_Tq.stp (pc' := 71) (lv' := [some (.inr (.inr (.inl (49, p)))), some (.inr (.inr (.inl (1, q)))), some (.inl (Int32.ofNat j))]) (st' := [.inr (.inr (.inl (49, p)))]) (m' := (bc_told_m f (p + 2) (q + 2), l)) rfl rfl (fl_bo rfl) rfl ?_
  refine fl_Tq.gfR (d := 9) (p' := p + 9) rfl (fl_oks_ok ⟨(A.place 0 49 (by decide) (by decide +kernel)), True.intro⟩) rfl (by omega) ?_
  refine fl_Tq.stp (pc' := 75) (lv' := [some (.inr (.inr (.inl (49, p)))), some (.inr (.inr (.inl (1, q)))), some (.inl (Int32.ofNat j))]) (st' := [.inr (.inr (.inl (1, q))), .inr (.inr (.inl (58, p + 9)))]) (m' := (bc_told_m f (p + 2) (q + 2), l)) rfl rfl (fl_oks_ok ⟨(A.place 9 58 (by decide) (by decide +kernel)), True.intro⟩) rfl ?_
  refine fl_Tq.gfR (d := 9) (p' := q + 9) rfl (fl_oks_ok ⟨(B.place 0 1 (by decide) (by decide +kernel)), (A.place 9 58 (by decide) (by decide +kernel)), True.intro⟩) rfl (by omega) ?_
  refine fl_Tq.cal rfl rfl (fl_oks_ok ⟨(B.place 9 10 (by decide) (by decide +kernel)), (A.place 9 58 (by decide) (by decide +kernel)), True.intro⟩) rfl ?_
  refine bc_watch_48_0_q (A.place 9 58 (by decide) (by decide +kernel)) (B.place 9 10 (by decide) (by decide +kernel)) (A.place 10 59 (by decide) (by decide +kernel)) (B.place 10 11 (by decide) (by decide +kernel)) (A.place 11 60 (by decide) (by decide +kernel)) (B.place 11 12 (by decide) (by decide +kernel)) (A.place 12 61 (by decide) (by decide +kernel)) (B.place 12 13 (by decide) (by decide +kernel)) (A.place 13 62 (by decide) (by decide +kernel)) (B.place 13 14 (by decide) (by decide +kernel)) (by omega) hzw ?_
  show fl_Tq _ 33 81 [some (.inr (.inr (.inl (49, p)))), some (.inr (.inr (.inl (1, q)))), some (.inl (Int32.ofNat j))] [] (bc_watch_m (bc_told_m f (p + 2) (q + 2)) (p + 9) (q + 9), l) _
  refine fl_Tq.stp (pc' := 82) (lv' := [some (.inr (.inr (.inl (49, p)))), some (.inr (.inr (.inl (1, q)))), some (.inl (Int32.ofNat j))]) (st' := [.inr (.inr (.inl (49, p)))]) (m' := (bc_watch_m (bc_told_m f (p + 2) (q + 2)) (p + 9) (q + 9), l)) rfl rfl (fl_bo rfl) rfl ?_
  refine fl_Tq.gfR (d := 15) (p' := p + 15) rfl (fl_oks_ok ⟨(A.place 0 49 (by decide) (by decide +kernel)), True.intro⟩) rfl (by omega) ?_
  refine fl_Tq.stp (pc' := 86) (lv' := [some (.inr (.inr (.inl (49, p)))), some (.inr (.inr (.inl (1, q)))), some (.inl (Int32.ofNat j))]) (st' := [.inr (.inr (.inl (1, q))), .inr (.inr (.inl (64, p + 15)))]) (m' := (bc_watch_m (bc_told_m f (p + 2) (q + 2)) (p + 9) (q + 9), l)) rfl rfl (fl_oks_ok ⟨(A.place 15 64 (by decide) (by decide +kernel)), True.intro⟩) rfl ?_
  refine fl_Tq.gfR (d := 15) (p' := q + 15) rfl (fl_oks_ok ⟨(B.place 0 1 (by decide) (by decide +kernel)), (A.place 15 64 (by decide) (by decide +kernel)), True.intro⟩) rfl (by omega) ?_
  refine fl_Tq.cal rfl rfl (fl_oks_ok ⟨(B.place 15 16 (by decide) (by decide +kernel)), (A.place 15 64 (by decide) (by decide +kernel)), True.intro⟩) rfl ?_
  refine bc_trace_48_0_q (A.place 15 64 (by decide) (by decide +kernel)) (B.place 15 16 (by decide) (by decide +kernel)) (A.place 16 65 (by decide) (by decide +kernel)) (B.place 16 17 (by decide) (by decide +kernel)) (by omega) ?_
  show fl_Tq _ 33 92 [some (.inr (.inr (.inl (49, p)))), some (.inr (.inr (.inl (1, q)))), some (.inl (Int32.ofNat j))] [] (bc_trace_m (bc_watch_m (bc_told_m f (p + 2) (q + 2)) (p + 9) (q + 9)) (p + 15) (q + 15), l) _
  exact k
theorem bs_F_48_0 {L : Nat} {xs : Nat → Int32} {f : t2_F} {l : t2_L} {Q : Option fl_V → fl_M → Prop} {p q : Nat} {z : Int32} (A : t2_blk l.2 p 48) (B : t2_blk l.2 q 0) (hpq : p + 90 ≤ q ∨ q + 90 ≤ p)  (k : Q none (fl_row f p (upd (upd (upd (upd (upd (upd (upd (upd (upd (upd (upd (upd (f p) 5 (f q 5)) 6 (f q 6)) 7 (f q 7)) 8 (f q 8)) 9 (f q 9)) 10 (f q 10)) 11 (f q 11)) 12 (f q 12)) 13 (f q 13)) 14 (f q 14)) 15 (f q 15)) 16 (f q 16)), l)) : fl_Tq (pw_P L xs) 33 92 [some (.inr (.inr (.inl (49, p)))), some (.inr (.inr (.inl (1, q)))), some (.inl z)] [] (f, l) Q := by
  refine fl_Tq.stp (pc' := 93) (lv' := [some (.inr (.inr (.inl (49, p)))), some (.inr (.inr (.inl (1, q)))), some (.inl z)]) (st' := [.inr (.inr (.inl (49, p)))]) (m' := (f, l)) rfl rfl (fl_bo rfl) rfl ?_
  refine fl_Tq.stp (pc' := 94) (lv' := [some (.inr (.inr (.inl (49, p)))), some (.inr (.inr (.inl (1, q)))), some (.inl z)]) (st' := [.inr (.inr (.inl (1, q))), .inr (.inr (.inl (49, p)))]) (m' := (f, l)) rfl rfl (fl_oks_ok ⟨(A.place 0 49 (by decide) (by decide +kernel)), True.intro⟩) rfl ?_
  refine fl_Tq.gfV (k := 5) (v := f q 5) rfl (fl_oks_ok ⟨(B.place 0 1 (by decide) (by decide +kernel)), (A.place 0 49 (by decide) (by decide +kernel)), True.intro⟩) rfl rfl ?_
  refine fl_Tq.pfV (k := 5) (m' := (fl_row f p (upd (f p) 5 (f q 5)), l)) rfl (fl_oks_ok ⟨True.intro, (A.place 0 49 (by decide) (by decide +kernel)), True.intro⟩) rfl (t2_upn rfl) ?_
  refine fl_Tq.stp (pc' := 101) (lv' := [some (.inr (.inr (.inl (49, p)))), some (.inr (.inr (.inl (1, q)))), some (.inl z)]) (st' := [.inr (.inr (.inl (49, p)))]) (m' := (fl_row f p (upd (f p) 5 (f q 5)), l)) rfl rfl (fl_bo rfl) rfl ?_
  refine fl_Tq.stp (pc' := 102) (lv' := [some (.inr (.inr (.inl (49, p)))), some (.inr (.inr (.inl (1, q)))), some (.inl z)]) (st' := [.inr (.inr (.inl (1, q))), .inr (.inr (.inl (49, p)))]) (m' := (fl_row f p (upd (f p) 5 (f q 5)), l)) rfl rfl (fl_oks_ok ⟨(A.place 0 49 (by decide) (by decide +kernel)), True.intro⟩) rfl ?_
  refine fl_Tq.gfV (k := 6) (v := f q 6) rfl (fl_oks_ok ⟨(B.place 0 1 (by decide) (by decide +kernel)), (A.place 0 49 (by decide) (by decide +kernel)), True.intro⟩) rfl (by simp only [fl_row_ne (show q ≠ p by omega)]) ?_
  refine fl_Tq.pfV (k := 6) (m' := (fl_row f p (upd (upd (f p) 5 (f q 5)) 6 (f q 6)), l)) rfl (fl_oks_ok ⟨True.intro, (A.place 0 49 (by decide) (by decide +kernel)), True.intro⟩) rfl (t2_upr) ?_
  refine fl_Tq.stp (pc' := 109) (lv' := [some (.inr (.inr (.inl (49, p)))), some (.inr (.inr (.inl (1, q)))), some (.inl z)]) (st' := [.inr (.inr (.inl (49, p)))]) (m' := (fl_row f p (upd (upd (f p) 5 (f q 5)) 6 (f q 6)), l)) rfl rfl (fl_bo rfl) rfl ?_
  refine fl_Tq.stp (pc' := 110) (lv' := [some (.inr (.inr (.inl (49, p)))), some (.inr (.inr (.inl (1, q)))), some (.inl z)]) (st' := [.inr (.inr (.inl (1, q))), .inr (.inr (.inl (49, p)))]) (m' := (fl_row f p (upd (upd (f p) 5 (f q 5)) 6 (f q 6)), l)) rfl rfl (fl_oks_ok ⟨(A.place 0 49 (by decide) (by decide +kernel)), True.intro⟩) rfl ?_
  refine fl_Tq.gfV (k := 7) (v := f q 7) rfl (fl_oks_ok ⟨(B.place 0 1 (by decide) (by decide +kernel)), (A.place 0 49 (by decide) (by decide +kernel)), True.intro⟩) rfl (by simp only [fl_row_ne (show q ≠ p by omega)]) ?_
  refine fl_Tq.pfV (k := 7) (m' := (fl_row f p (upd (upd (upd (f p) 5 (f q 5)) 6 (f q 6)) 7 (f q 7)), l)) rfl (fl_oks_ok ⟨True.intro, (A.place 0 49 (by decide) (by decide +kernel)), True.intro⟩) rfl (t2_upr) ?_
  refine fl_Tq.stp (pc' := 117) (lv' := [some (.inr (.inr (.inl (49, p)))), some (.inr (.inr (.inl (1, q)))), some (.inl z)]) (st' := [.inr (.inr (.inl (49, p)))]) (m' := (fl_row f p (upd (upd (upd (f p) 5 (f q 5)) 6 (f q 6)) 7 (f q 7)), l)) rfl rfl (fl_bo rfl) rfl ?_
  refine fl_Tq.stp (pc' := 118) (lv' := [some (.inr (.inr (.inl (49, p)))), some (.inr (.inr (.inl (1, q)))), some (.inl z)]) (st' := [.inr (.inr (.inl (1, q))), .inr (.inr (.inl (49, p)))]) (m' := (fl_row f p (upd (upd (upd (f p) 5 (f q 5)) 6 (f q 6)) 7 (f q 7)), l)) rfl rfl (fl_oks_ok ⟨(A.place 0 49 (by decide) (by decide +kernel)), True.intro⟩) rfl ?_
  refine fl_Tq.gfV (k := 8) (v := f q 8) rfl (fl_oks_ok ⟨(B.place 0 1 (by decide) (by decide +kernel)), (A.place 0 49 (by decide) (by decide +kernel)), True.intro⟩) rfl (by simp only [fl_row_ne (show q ≠ p by omega)]) ?_
  refine fl_Tq.pfV (k := 8) (m' := (fl_row f p (upd (upd (upd (upd (f p) 5 (f q 5)) 6 (f q 6)) 7 (f q 7)) 8 (f q 8)), l)) rfl (fl_oks_ok ⟨True.intro, (A.place 0 49 (by decide) (by decide +kernel)), True.intro⟩) rfl (t2_upr) ?_
  refine fl_Tq.stp (pc' := 125) (lv' := [some (.inr (.inr (.inl (49, p)))), some (.inr (.inr (.inl (1, q)))), some (.inl z)]) (st' := [.inr (.inr (.inl (49, p)))]) (m' := (fl_row f p (upd (upd (upd (upd (f p) 5 (f q 5)) 6 (f q 6)) 7 (f q 7)) 8 (f q 8)), l)) rfl rfl (fl_bo rfl) rfl ?_
  refine fl_Tq.stp (pc' := 126) (lv' := [some (.inr (.inr (.inl (49, p)))), some (.inr (.inr (.inl (1, q)))), some (.inl z)]) (st' := [.inr (.inr (.inl (1, q))), .inr (.inr (.inl (49, p)))]) (m' := (fl_row f p (upd (upd (upd (upd (f p) 5 (f q 5)) 6 (f q 6)) 7 (f q 7)) 8 (f q 8)), l)) rfl rfl (fl_oks_ok ⟨(A.place 0 49 (by decide) (by decide +kernel)), True.intro⟩) rfl ?_
  refine fl_Tq.gfV (k := 9) (v := f q 9) rfl (fl_oks_ok ⟨(B.place 0 1 (by decide) (by decide +kernel)), (A.place 0 49 (by decide) (by decide +kernel)), True.intro⟩) rfl (by simp only [fl_row_ne (show q ≠ p by omega)]) ?_
  refine fl_Tq.pfV (k := 9) (m' := (fl_row f p (upd (upd (upd (upd (upd (f p) 5 (f q 5)) 6 (f q 6)) 7 (f q 7)) 8 (f q 8)) 9 (f q 9)), l)) rfl (fl_oks_ok ⟨True.intro, (A.place 0 49 (by decide) (by decide +kernel)), True.intro⟩) rfl (t2_upr) ?_
  refine fl_Tq.stp (pc' := 133) (lv' := [some (.inr (.inr (.inl (49, p)))), some (.inr (.inr (.inl (1, q)))), some (.inl z)]) (st' := [.inr (.inr (.inl (49, p)))]) (m' := (fl_row f p (upd (upd (upd (upd (upd (f p) 5 (f q 5)) 6 (f q 6)) 7 (f q 7)) 8 (f q 8)) 9 (f q 9)), l)) rfl rfl (fl_bo rfl) rfl ?_
  refine fl_Tq.stp (pc' := 134) (lv' := [some (.inr (.inr (.inl (49, p)))), some (.inr (.inr (.inl (1, q)))), some (.inl z)]) (st' := [.inr (.inr (.inl (1, q))), .inr (.inr (.inl (49, p)))]) (m' := (fl_row f p (upd (upd (upd (upd (upd (f p) 5 (f q 5)) 6 (f q 6)) 7 (f q 7)) 8 (f q 8)) 9 (f q 9)), l)) rfl rfl (fl_oks_ok ⟨(A.place 0 49 (by decide) (by decide +kernel)), True.intro⟩) rfl ?_
  refine fl_Tq.gfV (k := 10) (v := f q 10) rfl (fl_oks_ok ⟨(B.place 0 1 (by decide) (by decide +kernel)), (A.place 0 49 (by decide) (by decide +kernel)), True.intro⟩) rfl (by simp only [fl_row_ne (show q ≠ p by omega)]) ?_
  refine fl_Tq.pfV (k := 10) (m' := (fl_row f p (upd (upd (upd (upd (upd (upd (f p) 5 (f q 5)) 6 (f q 6)) 7 (f q 7)) 8 (f q 8)) 9 (f q 9)) 10 (f q 10)), l)) rfl (fl_oks_ok ⟨True.intro, (A.place 0 49 (by decide) (by decide +kernel)), True.intro⟩) rfl (t2_upr) ?_
  refine fl_Tq.stp (pc' := 141) (lv' := [some (.inr (.inr (.inl (49, p)))), some (.inr (.inr (.inl (1, q)))), some (.inl z)]) (st' := [.inr (.inr (.inl (49, p)))]) (m' := (fl_row f p (upd (upd (upd (upd (upd (upd (f p) 5 (f q 5)) 6 (f q 6)) 7 (f q 7)) 8 (f q 8)) 9 (f q 9)) 10 (f q 10)), l)) rfl rfl (fl_bo rfl) rfl ?_
  refine fl_Tq.stp (pc' := 142) (lv' := [some (.inr (.inr (.inl (49, p)))), some (.inr (.inr (.inl (1, q)))), some (.inl z)]) (st' := [.inr (.inr (.inl (1, q))), .inr (.inr (.inl (49, p)))]) (m' := (fl_row f p (upd (upd (upd (upd (upd (upd (f p) 5 (f q 5)) 6 (f q 6)) 7 (f q 7)) 8 (f q 8)) 9 (f q 9)) 10 (f q 10)), l)) rfl rfl (fl_oks_ok ⟨(A.place 0 49 (by decide) (by decide +kernel)), True.intro⟩) rfl ?_
  refine fl_Tq.gfV (k := 11) (v := f q 11) rfl (fl_oks_ok ⟨(B.place 0 1 (by decide) (by decide +kernel)), (A.place 0 49 (by decide) (by decide +kernel)), True.intro⟩) rfl (by simp only [fl_row_ne (show q ≠ p by omega)]) ?_
  refine fl_Tq.pfV (k := 11) (m' := (fl_row f p (upd (upd (upd (upd (upd (upd (upd (f p) 5 (f q 5)) 6 (f q 6)) 7 (f q 7)) 8 (f q 8)) 9 (f q 9)) 10 (f q 10)) 11 (f q 11)), l)) rfl (fl_oks_ok ⟨True.intro, (A.place 0 49 (by decide) (by decide +kernel)), True.intro⟩) rfl (t2_upr) ?_
  refine fl_Tq.stp (pc' := 149) (lv' := [some (.inr (.inr (.inl (49, p)))), some (.inr (.inr (.inl (1, q)))), some (.inl z)]) (st' := [.inr (.inr (.inl (49, p)))]) (m' := (fl_row f p (upd (upd (upd (upd (upd (upd (upd (f p) 5 (f q 5)) 6 (f q 6)) 7 (f q 7)) 8 (f q 8)) 9 (f q 9)) 10 (f q 10)) 11 (f q 11)), l)) rfl rfl (fl_bo rfl) rfl ?_
  refine fl_Tq.stp (pc' := 150) (lv' := [some (.inr (.inr (.inl (49, p)))), some (.inr (.inr (.inl (1, q)))), some (.inl z)]) (st' := [.inr (.inr (.inl (1, q))), .inr (.inr (.inl (49, p)))]) (m' := (fl_row f p (upd (upd (upd (upd (upd (upd (upd (f p) 5 (f q 5)) 6 (f q 6)) 7 (f q 7)) 8 (f q 8)) 9 (f q 9)) 10 (f q 10)) 11 (f q 11)), l)) rfl rfl (fl_oks_ok ⟨(A.place 0 49 (by decide) (by decide +kernel)), True.intro⟩) rfl ?_
  refine fl_Tq.gfV (k := 12) (v := f q 12) rfl (fl_oks_ok ⟨(B.place 0 1 (by decide) (by decide +kernel)), (A.place 0 49 (by decide) (by decide +kernel)), True.intro⟩) rfl (by simp only [fl_row_ne (show q ≠ p by omega)]) ?_
  refine fl_Tq.pfV (k := 12) (m' := (fl_row f p (upd (upd (upd (upd (upd (upd (upd (upd (f p) 5 (f q 5)) 6 (f q 6)) 7 (f q 7)) 8 (f q 8)) 9 (f q 9)) 10 (f q 10)) 11 (f q 11)) 12 (f q 12)), l)) rfl (fl_oks_ok ⟨True.intro, (A.place 0 49 (by decide) (by decide +kernel)), True.intro⟩) rfl (t2_upr) ?_
  refine fl_Tq.stp (pc' := 157) (lv' := [some (.inr (.inr (.inl (49, p)))), some (.inr (.inr (.inl (1, q)))), some (.inl z)]) (st' := [.inr (.inr (.inl (49, p)))]) (m' := (fl_row f p (upd (upd (upd (upd (upd (upd (upd (upd (f p) 5 (f q 5)) 6 (f q 6)) 7 (f q 7)) 8 (f q 8)) 9 (f q 9)) 10 (f q 10)) 11 (f q 11)) 12 (f q 12)), l)) rfl rfl (fl_bo rfl) rfl ?_
  refine fl_Tq.stp (pc' := 158) (lv' := [some (.inr (.inr (.inl (49, p)))), some (.inr (.inr (.inl (1, q)))), some (.inl z)]) (st' := [.inr (.inr (.inl (1, q))), .inr (.inr (.inl (49, p)))]) (m' := (fl_row f p (upd (upd (upd (upd (upd (upd (upd (upd (f p) 5 (f q 5)) 6 (f q 6)) 7 (f q 7)) 8 (f q 8)) 9 (f q 9)) 10 (f q 10)) 11 (f q 11)) 12 (f q 12)), l)) rfl rfl (fl_oks_ok ⟨(A.place 0 49 (by decide) (by decide +kernel)), True.intro⟩) rfl ?_
  refine fl_Tq.gfV (k := 13) (v := f q 13) rfl (fl_oks_ok ⟨(B.place 0 1 (by decide) (by decide +kernel)), (A.place 0 49 (by decide) (by decide +kernel)), True.intro⟩) rfl (by simp only [fl_row_ne (show q ≠ p by omega)]) ?_
  refine fl_Tq.pfV (k := 13) (m' := (fl_row f p (upd (upd (upd (upd (upd (upd (upd (upd (upd (f p) 5 (f q 5)) 6 (f q 6)) 7 (f q 7)) 8 (f q 8)) 9 (f q 9)) 10 (f q 10)) 11 (f q 11)) 12 (f q 12)) 13 (f q 13)), l)) rfl (fl_oks_ok ⟨True.intro, (A.place 0 49 (by decide) (by decide +kernel)), True.intro⟩) rfl (t2_upr) ?_
  refine fl_Tq.stp (pc' := 165) (lv' := [some (.inr (.inr (.inl (49, p)))), some (.inr (.inr (.inl (1, q)))), some (.inl z)]) (st' := [.inr (.inr (.inl (49, p)))]) (m' := (fl_row f p (upd (upd (upd (upd (upd (upd (upd (upd (upd (f p) 5 (f q 5)) 6 (f q 6)) 7 (f q 7)) 8 (f q 8)) 9 (f q 9)) 10 (f q 10)) 11 (f q 11)) 12 (f q 12)) 13 (f q 13)), l)) rfl rfl (fl_bo rfl) rfl ?_
  refine fl_Tq.stp (pc' := 166) (lv' := [some (.inr (.inr (.inl (49, p)))), some (.inr (.inr (.inl (1, q)))), some (.inl z)]) (st' := [.inr (.inr (.inl (1, q))), .inr (.inr (.inl (49, p)))]) (m' := (fl_row f p (upd (upd (upd (upd (upd (upd (upd (upd (upd (f p) 5 (f q 5)) 6 (f q 6)) 7 (f q 7)) 8 (f q 8)) 9 (f q 9)) 10 (f q 10)) 11 (f q 11)) 12 (f q 12)) 13 (f q 13)), l)) rfl rfl (fl_oks_ok ⟨(A.place 0 49 (by decide) (by decide +kernel)), True.intro⟩) rfl ?_
  refine fl_Tq.gfV (k := 14) (v := f q 14) rfl (fl_oks_ok ⟨(B.place 0 1 (by decide) (by decide +kernel)), (A.place 0 49 (by decide) (by decide +kernel)), True.intro⟩) rfl (by simp only [fl_row_ne (show q ≠ p by omega)]) ?_
  refine fl_Tq.pfV (k := 14) (m' := (fl_row f p (upd (upd (upd (upd (upd (upd (upd (upd (upd (upd (f p) 5 (f q 5)) 6 (f q 6)) 7 (f q 7)) 8 (f q 8)) 9 (f q 9)) 10 (f q 10)) 11 (f q 11)) 12 (f q 12)) 13 (f q 13)) 14 (f q 14)), l)) rfl (fl_oks_ok ⟨True.intro, (A.place 0 49 (by decide) (by decide +kernel)), True.intro⟩) rfl (t2_upr) ?_
  refine fl_Tq.stp (pc' := 173) (lv' := [some (.inr (.inr (.inl (49, p)))), some (.inr (.inr (.inl (1, q)))), some (.inl z)]) (st' := [.inr (.inr (.inl (49, p)))]) (m' := (fl_row f p (upd (upd (upd (upd (upd (upd (upd (upd (upd (upd (f p) 5 (f q 5)) 6 (f q 6)) 7 (f q 7)) 8 (f q 8)) 9 (f q 9)) 10 (f q 10)) 11 (f q 11)) 12 (f q 12)) 13 (f q 13)) 14 (f q 14)), l)) rfl rfl (fl_bo rfl) rfl ?_
  refine fl_Tq.stp (pc' := 174) (lv' := [some (.inr (.inr (.inl (49, p)))), some (.inr (.inr (.inl (1, q)))), some (.inl z)]) (st' := [.inr (.inr (.inl (1, q))), .inr (.inr (.inl (49, p)))]) (m' := (fl_row f p (upd (upd (upd (upd (upd (upd (upd (upd (upd (upd (f p) 5 (f q 5)) 6 (f q 6)) 7 (f q 7)) 8 (f q 8)) 9 (f q 9)) 10 (f q 10)) 11 (f q 11)) 12 (f q 12)) 13 (f q 13)) 14 (f q 14)), l)) rfl rfl (fl_oks_ok ⟨(A.place 0 49 (by decide) (by decide +kernel)), True.intro⟩) rfl ?_
  refine fl_Tq.gfV (k := 15) (v := f q 15) rfl (fl_oks_ok ⟨(B.place 0 1 (by decide) (by decide +kernel)), (A.place 0 49 (by decide) (by decide +kernel)), True.intro⟩) rfl (by simp only [fl_row_ne (show q ≠ p by omega)]) ?_
  refine fl_Tq.pfV (k := 15) (m' := (fl_row f p (upd (upd (upd (upd (upd (upd (upd (upd (upd (upd (upd (f p) 5 (f q 5)) 6 (f q 6)) 7 (f q 7)) 8 (f q 8)) 9 (f q 9)) 10 (f q 10)) 11 (f q 11)) 12 (f q 12)) 13 (f q 13)) 14 (f q 14)) 15 (f q 15)), l)) rfl (fl_oks_ok ⟨True.intro, (A.place 0 49 (by decide) (by decide +kernel)), True.intro⟩) rfl (t2_upr) ?_
  refine fl_Tq.stp (pc' := 181) (lv' := [some (.inr (.inr (.inl (49, p)))), some (.inr (.inr (.inl (1, q)))), some (.inl z)]) (st' := [.inr (.inr (.inl (49, p)))]) (m' := (fl_row f p (upd (upd (upd (upd (upd (upd (upd (upd (upd (upd (upd (f p) 5 (f q 5)) 6 (f q 6)) 7 (f q 7)) 8 (f q 8)) 9 (f q 9)) 10 (f q 10)) 11 (f q 11)) 12 (f q 12)) 13 (f q 13)) 14 (f q 14)) 15 (f q 15)), l)) rfl rfl (fl_bo rfl) rfl ?_
  refine fl_Tq.stp (pc' := 182) (lv' := [some (.inr (.inr (.inl (49, p)))), some (.inr (.inr (.inl (1, q)))), some (.inl z)]) (st' := [.inr (.inr (.inl (1, q))), .inr (.inr (.inl (49, p)))]) (m' := (fl_row f p (upd (upd (upd (upd (upd (upd (upd (upd (upd (upd (upd (f p) 5 (f q 5)) 6 (f q 6)) 7 (f q 7)) 8 (f q 8)) 9 (f q 9)) 10 (f q 10)) 11 (f q 11)) 12 (f q 12)) 13 (f q 13)) 14 (f q 14)) 15 (f q 15)), l)) rfl rfl (fl_oks_ok ⟨(A.place 0 49 (by decide) (by decide +kernel)), True.intro⟩) rfl ?_
  refine fl_Tq.gfV (k := 16) (v := f q 16) rfl (fl_oks_ok ⟨(B.place 0 1 (by decide) (by decide +kernel)), (A.place 0 49 (by decide) (by decide +kernel)), True.intro⟩) rfl (by simp only [fl_row_ne (show q ≠ p by omega)]) ?_
  refine fl_Tq.pfV (k := 16) (m' := (fl_row f p (upd (upd (upd (upd (upd (upd (upd (upd (upd (upd (upd (upd (f p) 5 (f q 5)) 6 (f q 6)) 7 (f q 7)) 8 (f q 8)) 9 (f q 9)) 10 (f q 10)) 11 (f q 11)) 12 (f q 12)) 13 (f q 13)) 14 (f q 14)) 15 (f q 15)) 16 (f q 16)), l)) rfl (fl_oks_ok ⟨True.intro, (A.place 0 49 (by decide) (by decide +kernel)), True.intro⟩) rfl (t2_upr) ?_
  exact fl_Tq.ret rfl rfl rfl k
theorem bs_A_24_24 {L : Nat} {xs : Nat → Int32} {f : t2_F} {l : t2_L} {Q : Option fl_V → fl_M → Prop} {p q : Nat} (A : t2_blk l.2 p 24) (B : t2_blk l.2 q 24) (hpq : p + 90 ≤ q ∨ q + 90 ≤ p)  (k : fl_Tq (pw_P L xs) 33 2 [some (.inr (.inr (.inl (25, p)))), some (.inr (.inr (.inl (25, q)))), some (.inl (0 : Int32))] [] (f, l) Q) : fl_Tq (pw_P L xs) 33 0 [some (.inr (.inr (.inl (25, p)))), some (.inr (.inr (.inl (25, q)))), none] [] (f, l) Q := by
  refine fl_Tq.cI (c := (0 : Int32)) rfl (by decide +kernel) (fl_bo rfl) ?_
  refine fl_Tq.stp (pc' := 2) (lv' := [some (.inr (.inr (.inl (25, p)))), some (.inr (.inr (.inl (25, q)))), some (.inl (0 : Int32))]) (st' := []) (m' := (f, l)) rfl rfl (fl_bo rfl) rfl ?_
  exact k
theorem bs_B_24_24 {L : Nat} {xs : Nat → Int32} {f : t2_F} {l : t2_L} {Q : Option fl_V → fl_M → Prop} {p q : Nat} {j : Nat} (A : t2_blk l.2 p 24) (B : t2_blk l.2 q 24) (hpq : p + 90 ≤ q ∨ q + 90 ≤ p) (hj : j < 16) (hk : (Int32.ofNat j).toInt < (f q 5).toInt) (hzc : f (q + 17 + 4 * j) 10 = 0 ∨ f (q + 17 + 4 * j) 10 = 1) (k : fl_Tq (pw_P L xs) 33 2 [some (.inr (.inr (.inl (25, p)))), some (.inr (.inr (.inl (25, q)))), some (.inl ((Int32.ofNat j) + (1 : Int32)))] [] (bc_cell_m f (p + 17 + 4 * j) (q + 17 + 4 * j), l) Q) : fl_Tq (pw_P L xs) 33 2 [some (.inr (.inr (.inl (25, p)))), some (.inr (.inr (.inl (25, q)))), some (.inl (Int32.ofNat j))] [] (f, l) Q := by
  refine fl_Tq.stp (pc' := 3) (lv' := [some (.inr (.inr (.inl (25, p)))), some (.inr (.inr (.inl (25, q)))), some (.inl (Int32.ofNat j))]) (st' := [.inl (Int32.ofNat j)]) (m' := (f, l)) rfl rfl (fl_bo rfl) rfl ?_
  refine fl_Tq.stp (pc' := 4) (lv' := [some (.inr (.inr (.inl (25, p)))), some (.inr (.inr (.inl (25, q)))), some (.inl (Int32.ofNat j))]) (st' := [.inr (.inr (.inl (25, q))), .inl (Int32.ofNat j)]) (m' := (f, l)) rfl rfl (fl_bo rfl) rfl ?_
  refine fl_Tq.gfV (k := 5) (v := f q 5) rfl (fl_oks_ok ⟨(B.place 0 25 (by decide) (by decide +kernel)), True.intro, True.intro⟩) rfl rfl ?_
  refine fl_Tq.jf rfl (fl_bo rfl) (c2_ge_f hk) rfl ?_
  refine fl_Tq.stp (pc' := 11) (lv' := [some (.inr (.inr (.inl (25, p)))), some (.inr (.inr (.inl (25, q)))), some (.inl (Int32.ofNat j))]) (st' := [.inr (.inr (.inl (25, p)))]) (m' := (f, l)) rfl rfl (fl_bo rfl) rfl ?_
  refine fl_Tq.gfR (d := 1) (p' := p + 1) rfl (fl_oks_ok ⟨(A.place 0 25 (by decide) (by decide +kernel)), True.intro⟩) rfl (by omega) ?_
  refine fl_Tq.stp (pc' := 15) (lv' := [some (.inr (.inr (.inl (25, p)))), some (.inr (.inr (.inl (25, q)))), some (.inl (Int32.ofNat j))]) (st' := [.inl (Int32.ofNat j), .inr (.inr (.inl (26, p + 1)))]) (m' := (f, l)) rfl rfl (fl_oks_ok ⟨(A.place 1 26 (by decide) (by decide +kernel)), True.intro⟩) rfl ?_
  refine fl_Tq.qld (p := p + 1) (τ := 26) (n := 16) (t := 42) (b := 16) (d := 3) (k := j) rfl (fl_oks_ok ⟨True.intro, (A.place 1 26 (by decide) (by decide +kernel)), True.intro⟩) rfl (at_ofN (by omega)) (by omega) ?_
  show fl_Tq _ 33 16 [some (.inr (.inr (.inl (25, p)))), some (.inr (.inr (.inl (25, q)))), some (.inl (Int32.ofNat j))] [.inr (.inr (.inl (42, p + 17 + 4 * j)))] (f, l) _
  refine fl_Tq.stp (pc' := 17) (lv' := [some (.inr (.inr (.inl (25, p)))), some (.inr (.inr (.inl (25, q)))), some (.inl (Int32.ofNat j))]) (st' := [.inr (.inr (.inl (25, q))), .inr (.inr (.inl (42, p + 17 + 4 * j)))]) (m' := (f, l)) rfl rfl (fl_oks_ok ⟨(A.cell 0 hj (by decide)), True.intro⟩) rfl ?_
  refine fl_Tq.gfR (d := 1) (p' := q + 1) rfl (fl_oks_ok ⟨(B.place 0 25 (by decide) (by decide +kernel)), (A.cell 0 hj (by decide)), True.intro⟩) rfl (by omega) ?_
  refine fl_Tq.stp (pc' := 21) (lv' := [some (.inr (.inr (.inl (25, p)))), some (.inr (.inr (.inl (25, q)))), some (.inl (Int32.ofNat j))]) (st' := [.inl (Int32.ofNat j), .inr (.inr (.inl (26, q + 1))), .inr (.inr (.inl (42, p + 17 + 4 * j)))]) (m' := (f, l)) rfl rfl (fl_oks_ok ⟨(B.place 1 26 (by decide) (by decide +kernel)), (A.cell 0 hj (by decide)), True.intro⟩) rfl ?_
  refine fl_Tq.qld (p := q + 1) (τ := 26) (n := 16) (t := 42) (b := 16) (d := 3) (k := j) rfl (fl_oks_ok ⟨True.intro, (B.place 1 26 (by decide) (by decide +kernel)), (A.cell 0 hj (by decide)), True.intro⟩) rfl (at_ofN (by omega)) (by omega) ?_
  show fl_Tq _ 33 22 [some (.inr (.inr (.inl (25, p)))), some (.inr (.inr (.inl (25, q)))), some (.inl (Int32.ofNat j))] [.inr (.inr (.inl (42, q + 17 + 4 * j))), .inr (.inr (.inl (42, p + 17 + 4 * j)))] (f, l) _
  refine fl_Tq.cal rfl rfl (fl_oks_ok ⟨(B.cell 0 hj (by decide)), (A.cell 0 hj (by decide)), True.intro⟩) rfl ?_
  refine bc_cell_24_24_q (A.cell 0 hj (by decide)) (B.cell 0 hj (by decide)) (A.cell 1 hj (by decide)) (B.cell 1 hj (by decide)) (A.cell 2 hj (by decide)) (B.cell 2 hj (by decide)) (A.cell 3 hj (by decide)) (B.cell 3 hj (by decide)) (by omega) hzc ?_
  show fl_Tq _ 33 25 [some (.inr (.inr (.inl (25, p)))), some (.inr (.inr (.inl (25, q)))), some (.inl (Int32.ofNat j))] [] (bc_cell_m f (p + 17 + 4 * j) (q + 17 + 4 * j), l) _
  refine fl_Tq.stp (pc' := 28) (lv' := [some (.inr (.inr (.inl (25, p)))), some (.inr (.inr (.inl (25, q)))), some (.inl ((Int32.ofNat j) + (1 : Int32)))]) (st' := []) (m' := (bc_cell_m f (p + 17 + 4 * j) (q + 17 + 4 * j), l)) rfl rfl (fl_bo rfl) rfl ?_
  refine fl_Tq.stp (pc' := 2) (lv' := [some (.inr (.inr (.inl (25, p)))), some (.inr (.inr (.inl (25, q)))), some (.inl ((Int32.ofNat j) + (1 : Int32)))]) (st' := []) (m' := (bc_cell_m f (p + 17 + 4 * j) (q + 17 + 4 * j), l)) rfl rfl (fl_bo rfl) rfl ?_
  exact k
theorem bs_C_24_24 {L : Nat} {xs : Nat → Int32} {f : t2_F} {l : t2_L} {Q : Option fl_V → fl_M → Prop} {p q : Nat} {j : Nat} (A : t2_blk l.2 p 24) (B : t2_blk l.2 q 24) (hpq : p + 90 ≤ q ∨ q + 90 ≤ p) (hk : ¬ ((Int32.ofNat j).toInt < (f q 5).toInt)) (k : fl_Tq (pw_P L xs) 33 33 [some (.inr (.inr (.inl (25, p)))), some (.inr (.inr (.inl (25, q)))), some (.inl (0 : Int32))] [] (f, l) Q) : fl_Tq (pw_P L xs) 33 2 [some (.inr (.inr (.inl (25, p)))), some (.inr (.inr (.inl (25, q)))), some (.inl (Int32.ofNat j))] [] (f, l) Q := by
  refine fl_Tq.stp (pc' := 3) (lv' := [some (.inr (.inr (.inl (25, p)))), some (.inr (.inr (.inl (25, q)))), some (.inl (Int32.ofNat j))]) (st' := [.inl (Int32.ofNat j)]) (m' := (f, l)) rfl rfl (fl_bo rfl) rfl ?_
  refine fl_Tq.stp (pc' := 4) (lv' := [some (.inr (.inr (.inl (25, p)))), some (.inr (.inr (.inl (25, q)))), some (.inl (Int32.ofNat j))]) (st' := [.inr (.inr (.inl (25, q))), .inl (Int32.ofNat j)]) (m' := (f, l)) rfl rfl (fl_bo rfl) rfl ?_
  refine fl_Tq.gfV (k := 5) (v := f q 5) rfl (fl_oks_ok ⟨(B.place 0 25 (by decide) (by decide +kernel)), True.intro, True.intro⟩) rfl rfl ?_
  refine fl_Tq.jt rfl (fl_bo rfl) (c2_ge_t hk) rfl ?_
  refine fl_Tq.cI (c := (0 : Int32)) rfl (by decide +kernel) (fl_bo rfl) ?_
  refine fl_Tq.stp (pc' := 33) (lv' := [some (.inr (.inr (.inl (25, p)))), some (.inr (.inr (.inl (25, q)))), some (.inl (0 : Int32))]) (st' := []) (m' := (f, l)) rfl rfl (fl_bo rfl) rfl ?_
  exact k
theorem bs_D_24_24 {L : Nat} {xs : Nat → Int32} {f : t2_F} {l : t2_L} {Q : Option fl_V → fl_M → Prop} {p q : Nat} {j : Nat} (A : t2_blk l.2 p 24) (B : t2_blk l.2 q 24) (hpq : p + 90 ≤ q ∨ q + 90 ≤ p) (hj : j < 3) (hk : (Int32.ofNat j).toInt < (3 : Int32).toInt) (k : fl_Tq (pw_P L xs) 33 33 [some (.inr (.inr (.inl (25, p)))), some (.inr (.inr (.inl (25, q)))), some (.inl ((Int32.ofNat j) + (1 : Int32)))] [] (bc_mark_m f (p + 81 + 3 * j) (q + 81 + 3 * j), l) Q) : fl_Tq (pw_P L xs) 33 33 [some (.inr (.inr (.inl (25, p)))), some (.inr (.inr (.inl (25, q)))), some (.inl (Int32.ofNat j))] [] (f, l) Q := by
  refine fl_Tq.stp (pc' := 34) (lv' := [some (.inr (.inr (.inl (25, p)))), some (.inr (.inr (.inl (25, q)))), some (.inl (Int32.ofNat j))]) (st' := [.inl (Int32.ofNat j)]) (m' := (f, l)) rfl rfl (fl_bo rfl) rfl ?_
  refine fl_Tq.cI (c := (3 : Int32)) rfl (by decide +kernel) (fl_bo rfl) ?_
  refine fl_Tq.jf rfl (fl_bo rfl) (c2_ge_f hk) rfl ?_
  refine fl_Tq.stp (pc' := 39) (lv' := [some (.inr (.inr (.inl (25, p)))), some (.inr (.inr (.inl (25, q)))), some (.inl (Int32.ofNat j))]) (st' := [.inr (.inr (.inl (25, p)))]) (m' := (f, l)) rfl rfl (fl_bo rfl) rfl ?_
  refine fl_Tq.gfR (d := 14) (p' := p + 14) rfl (fl_oks_ok ⟨(A.place 0 25 (by decide) (by decide +kernel)), True.intro⟩) rfl (by omega) ?_
  refine fl_Tq.stp (pc' := 43) (lv' := [some (.inr (.inr (.inl (25, p)))), some (.inr (.inr (.inl (25, q)))), some (.inl (Int32.ofNat j))]) (st' := [.inl (Int32.ofNat j), .inr (.inr (.inl (39, p + 14)))]) (m' := (f, l)) rfl rfl (fl_oks_ok ⟨(A.place 14 39 (by decide) (by decide +kernel)), True.intro⟩) rfl ?_
  refine fl_Tq.qldM (p := p + 14) (τ := 39) (n := 3) (t := 46) (b := 67) (d := 2) (k := j) rfl (fl_oks_ok ⟨True.intro, (A.place 14 39 (by decide) (by decide +kernel)), True.intro⟩) rfl (at_ofN (by omega)) (by omega) ?_
  show fl_Tq _ 33 44 [some (.inr (.inr (.inl (25, p)))), some (.inr (.inr (.inl (25, q)))), some (.inl (Int32.ofNat j))] [.inr (.inr (.inl (46, p + 81 + 3 * j)))] (f, l) _
  refine fl_Tq.stp (pc' := 45) (lv' := [some (.inr (.inr (.inl (25, p)))), some (.inr (.inr (.inl (25, q)))), some (.inl (Int32.ofNat j))]) (st' := [.inr (.inr (.inl (25, q))), .inr (.inr (.inl (46, p + 81 + 3 * j)))]) (m' := (f, l)) rfl rfl (fl_oks_ok ⟨(A.mark 0 hj (by decide)), True.intro⟩) rfl ?_
  refine fl_Tq.gfR (d := 14) (p' := q + 14) rfl (fl_oks_ok ⟨(B.place 0 25 (by decide) (by decide +kernel)), (A.mark 0 hj (by decide)), True.intro⟩) rfl (by omega) ?_
  refine fl_Tq.stp (pc' := 49) (lv' := [some (.inr (.inr (.inl (25, p)))), some (.inr (.inr (.inl (25, q)))), some (.inl (Int32.ofNat j))]) (st' := [.inl (Int32.ofNat j), .inr (.inr (.inl (39, q + 14))), .inr (.inr (.inl (46, p + 81 + 3 * j)))]) (m' := (f, l)) rfl rfl (fl_oks_ok ⟨(B.place 14 39 (by decide) (by decide +kernel)), (A.mark 0 hj (by decide)), True.intro⟩) rfl ?_
  refine fl_Tq.qldM (p := q + 14) (τ := 39) (n := 3) (t := 46) (b := 67) (d := 2) (k := j) rfl (fl_oks_ok ⟨True.intro, (B.place 14 39 (by decide) (by decide +kernel)), (A.mark 0 hj (by decide)), True.intro⟩) rfl (at_ofN (by omega)) (by omega) ?_
  show fl_Tq _ 33 50 [some (.inr (.inr (.inl (25, p)))), some (.inr (.inr (.inl (25, q)))), some (.inl (Int32.ofNat j))] [.inr (.inr (.inl (46, q + 81 + 3 * j))), .inr (.inr (.inl (46, p + 81 + 3 * j)))] (f, l) _
  refine fl_Tq.cal rfl rfl (fl_oks_ok ⟨(B.mark 0 hj (by decide)), (A.mark 0 hj (by decide)), True.intro⟩) rfl ?_
  refine bc_mark_24_24_q (A.mark 0 hj (by decide)) (B.mark 0 hj (by decide)) (A.mark 1 hj (by decide)) (B.mark 1 hj (by decide)) (A.mark 2 hj (by decide)) (B.mark 2 hj (by decide)) (by omega) ?_
  show fl_Tq _ 33 53 [some (.inr (.inr (.inl (25, p)))), some (.inr (.inr (.inl (25, q)))), some (.inl (Int32.ofNat j))] [] (bc_mark_m f (p + 81 + 3 * j) (q + 81 + 3 * j), l) _
  refine fl_Tq.stp (pc' := 56) (lv' := [some (.inr (.inr (.inl (25, p)))), some (.inr (.inr (.inl (25, q)))), some (.inl ((Int32.ofNat j) + (1 : Int32)))]) (st' := []) (m' := (bc_mark_m f (p + 81 + 3 * j) (q + 81 + 3 * j), l)) rfl rfl (fl_bo rfl) rfl ?_
  refine fl_Tq.stp (pc' := 33) (lv' := [some (.inr (.inr (.inl (25, p)))), some (.inr (.inr (.inl (25, q)))), some (.inl ((Int32.ofNat j) + (1 : Int32)))]) (st' := []) (m' := (bc_mark_m f (p + 81 + 3 * j) (q + 81 + 3 * j), l)) rfl rfl (fl_bo rfl) rfl ?_
  exact k
theorem bs_E_24_24 {L : Nat} {xs : Nat → Int32} {f : t2_F} {l : t2_L} {Q : Option fl_V → fl_M → Prop} {p q : Nat} {j : Nat} (A : t2_blk l.2 p 24) (B : t2_blk l.2 q 24) (hpq : p + 90 ≤ q ∨ q + 90 ≤ p) (hk : ¬ ((Int32.ofNat j).toInt < (3 : Int32).toInt)) (hzw : bc_watch_z (bc_told_m f (p + 2) (q + 2)) (p + 9) (q + 9) = 0 ∨ bc_watch_z (bc_told_m f (p + 2) (q + 2)) (p + 9) (q + 9) = 1) (k : fl_Tq (pw_P L xs) 33 92 [some (.inr (.inr (.inl (25, p)))), some (.inr (.inr (.inl (25, q)))), some (.inl (Int32.ofNat j))] [] (bc_trace_m (bc_watch_m (bc_told_m f (p + 2) (q + 2)) (p + 9) (q + 9)) (p + 15) (q + 15), l) Q) : fl_Tq (pw_P L xs) 33 33 [some (.inr (.inr (.inl (25, p)))), some (.inr (.inr (.inl (25, q)))), some (.inl (Int32.ofNat j))] [] (f, l) Q := by
  refine fl_Tq.stp (pc' := 34) (lv' := [some (.inr (.inr (.inl (25, p)))), some (.inr (.inr (.inl (25, q)))), some (.inl (Int32.ofNat j))]) (st' := [.inl (Int32.ofNat j)]) (m' := (f, l)) rfl rfl (fl_bo rfl) rfl ?_
  refine fl_Tq.cI (c := (3 : Int32)) rfl (by decide +kernel) (fl_bo rfl) ?_
  refine fl_Tq.jt rfl (fl_bo rfl) (c2_ge_t hk) rfl ?_
  refine fl_Tq.stp (pc' := 60) (lv' := [some (.inr (.inr (.inl (25, p)))), some (.inr (.inr (.inl (25, q)))), some (.inl (Int32.ofNat j))]) (st' := [.inr (.inr (.inl (25, p)))]) (m' := (f, l)) rfl rfl (fl_bo rfl) rfl ?_
  refine fl_Tq.gfR (d := 2) (p' := p + 2) rfl (fl_oks_ok ⟨(A.place 0 25 (by decide) (by decide +kernel)), True.intro⟩) rfl (by omega) ?_
  refine fl_Tq.stp (pc' := 64) (lv' := [some (.inr (.inr (.inl (25, p)))), some (.inr (.inr (.inl (25, q)))), some (.inl (Int32.ofNat j))]) (st' := [.inr (.inr (.inl (25, q))), .inr (.inr (.inl (27, p + 2)))]) (m' := (f, l)) rfl rfl (fl_oks_ok ⟨(A.place 2 27 (by decide) (by decide +kernel)), True.intro⟩) rfl ?_
  refine fl_Tq.gfR (d := 2) (p' := q + 2) rfl (fl_oks_ok ⟨(B.place 0 25 (by decide) (by decide +kernel)), (A.place 2 27 (by decide) (by decide +kernel)), True.intro⟩) rfl (by omega) ?_
  refine fl_Tq.cal rfl rfl (fl_oks_ok ⟨(B.place 2 27 (by decide) (by decide +kernel)), (A.place 2 27 (by decide) (by decide +kernel)), True.intro⟩) rfl ?_
  refine bc_told_24_24_q (A.place 2 27 (by decide) (by decide +kernel)) (B.place 2 27 (by decide) (by decide +kernel)) (A.place 3 28 (by decide) (by decide +kernel)) (B.place 3 28 (by decide) (by decide +kernel)) (A.place 4 29 (by decide) (by decide +kernel)) (B.place 4 29 (by decide) (by decide +kernel)) (A.place 5 30 (by decide) (by decide +kernel)) (B.place 5 30 (by decide) (by decide +kernel)) (A.place 6 31 (by decide) (by decide +kernel)) (B.place 6 31 (by decide) (by decide +kernel)) (A.place 7 32 (by decide) (by decide +kernel)) (B.place 7 32 (by decide) (by decide +kernel)) (A.place 8 33 (by decide) (by decide +kernel)) (B.place 8 33 (by decide) (by decide +kernel)) (by omega) ?_
  show fl_Tq _ 33 70 [some (.inr (.inr (.inl (25, p)))), some (.inr (.inr (.inl (25, q)))), some (.inl (Int32.ofNat j))] [] (bc_told_m f (p + 2) (q + 2), l) _
  refine fl_Tq.stp (pc' := 71) (lv' := [some (.inr (.inr (.inl (25, p)))), some (.inr (.inr (.inl (25, q)))), some (.inl (Int32.ofNat j))]) (st' := [.inr (.inr (.inl (25, p)))]) (m' := (bc_told_m f (p + 2) (q + 2), l)) rfl rfl (fl_bo rfl) rfl ?_
  refine fl_Tq.gfR (d := 9) (p' := p + 9) rfl (fl_oks_ok ⟨(A.place 0 25 (by decide) (by decide +kernel)), True.intro⟩) rfl (by omega) ?_
  refine fl_Tq.stp (pc' := 75) (lv' := [some (.inr (.inr (.inl (25, p)))), some (.inr (.inr (.inl (25, q)))), some (.inl (Int32.ofNat j))]) (st' := [.inr (.inr (.inl (25, q))), .inr (.inr (.inl (34, p + 9)))]) (m' := (bc_told_m f (p + 2) (q + 2), l)) rfl rfl (fl_oks_ok ⟨(A.place 9 34 (by decide) (by decide +kernel)), True.intro⟩) rfl ?_
  refine fl_Tq.gfR (d := 9) (p' := q + 9) rfl (fl_oks_ok ⟨(B.place 0 25 (by decide) (by decide +kernel)), (A.place 9 34 (by decide) (by decide +kernel)), True.intro⟩) rfl (by omega) ?_
  refine fl_Tq.cal rfl rfl (fl_oks_ok ⟨(B.place 9 34 (by decide) (by decide +kernel)), (A.place 9 34 (by decide) (by decide +kernel)), True.intro⟩) rfl ?_
  refine bc_watch_24_24_q (A.place 9 34 (by decide) (by decide +kernel)) (B.place 9 34 (by decide) (by decide +kernel)) (A.place 10 35 (by decide) (by decide +kernel)) (B.place 10 35 (by decide) (by decide +kernel)) (A.place 11 36 (by decide) (by decide +kernel)) (B.place 11 36 (by decide) (by decide +kernel)) (A.place 12 37 (by decide) (by decide +kernel)) (B.place 12 37 (by decide) (by decide +kernel)) (A.place 13 38 (by decide) (by decide +kernel)) (B.place 13 38 (by decide) (by decide +kernel)) (by omega) hzw ?_
  show fl_Tq _ 33 81 [some (.inr (.inr (.inl (25, p)))), some (.inr (.inr (.inl (25, q)))), some (.inl (Int32.ofNat j))] [] (bc_watch_m (bc_told_m f (p + 2) (q + 2)) (p + 9) (q + 9), l) _
  refine fl_Tq.stp (pc' := 82) (lv' := [some (.inr (.inr (.inl (25, p)))), some (.inr (.inr (.inl (25, q)))), some (.inl (Int32.ofNat j))]) (st' := [.inr (.inr (.inl (25, p)))]) (m' := (bc_watch_m (bc_told_m f (p + 2) (q + 2)) (p + 9) (q + 9), l)) rfl rfl (fl_bo rfl) rfl ?_
  refine fl_Tq.gfR (d := 15) (p' := p + 15) rfl (fl_oks_ok ⟨(A.place 0 25 (by decide) (by decide +kernel)), True.intro⟩) rfl (by omega) ?_
  refine fl_Tq.stp (pc' := 86) (lv' := [some (.inr (.inr (.inl (25, p)))), some (.inr (.inr (.inl (25, q)))), some (.inl (Int32.ofNat j))]) (st' := [.inr (.inr (.inl (25, q))), .inr (.inr (.inl (40, p + 15)))]) (m' := (bc_watch_m (bc_told_m f (p + 2) (q + 2)) (p + 9) (q + 9), l)) rfl rfl (fl_oks_ok ⟨(A.place 15 40 (by decide) (by decide +kernel)), True.intro⟩) rfl ?_
  refine fl_Tq.gfR (d := 15) (p' := q + 15) rfl (fl_oks_ok ⟨(B.place 0 25 (by decide) (by decide +kernel)), (A.place 15 40 (by decide) (by decide +kernel)), True.intro⟩) rfl (by omega) ?_
  refine fl_Tq.cal rfl rfl (fl_oks_ok ⟨(B.place 15 40 (by decide) (by decide +kernel)), (A.place 15 40 (by decide) (by decide +kernel)), True.intro⟩) rfl ?_
  refine bc_trace_24_24_q (A.place 15 40 (by decide) (by decide +kernel)) (B.place 15 40 (by decide) (by decide +kernel)) (A.place 16 41 (by decide) (by decide +kernel)) (B.place 16 41 (by decide) (by decide +kernel)) (by omega) ?_
  show fl_Tq _ 33 92 [some (.inr (.inr (.inl (25, p)))), some (.inr (.inr (.inl (25, q)))), some (.inl (Int32.ofNat j))] [] (bc_trace_m (bc_watch_m (bc_told_m f (p + 2) (q + 2)) (p + 9) (q + 9)) (p + 15) (q + 15), l) _
  exact k
theorem bs_F_24_24 {L : Nat} {xs : Nat → Int32} {f : t2_F} {l : t2_L} {Q : Option fl_V → fl_M → Prop} {p q : Nat} {z : Int32} (A : t2_blk l.2 p 24) (B : t2_blk l.2 q 24) (hpq : p + 90 ≤ q ∨ q + 90 ≤ p)  (k : Q none (fl_row f p (upd (upd (upd (upd (upd (upd (upd (upd (upd (upd (upd (upd (f p) 5 (f q 5)) 6 (f q 6)) 7 (f q 7)) 8 (f q 8)) 9 (f q 9)) 10 (f q 10)) 11 (f q 11)) 12 (f q 12)) 13 (f q 13)) 14 (f q 14)) 15 (f q 15)) 16 (f q 16)), l)) : fl_Tq (pw_P L xs) 33 92 [some (.inr (.inr (.inl (25, p)))), some (.inr (.inr (.inl (25, q)))), some (.inl z)] [] (f, l) Q := by
  refine fl_Tq.stp (pc' := 93) (lv' := [some (.inr (.inr (.inl (25, p)))), some (.inr (.inr (.inl (25, q)))), some (.inl z)]) (st' := [.inr (.inr (.inl (25, p)))]) (m' := (f, l)) rfl rfl (fl_bo rfl) rfl ?_
  refine fl_Tq.stp (pc' := 94) (lv' := [some (.inr (.inr (.inl (25, p)))), some (.inr (.inr (.inl (25, q)))), some (.inl z)]) (st' := [.inr (.inr (.inl (25, q))), .inr (.inr (.inl (25, p)))]) (m' := (f, l)) rfl rfl (fl_oks_ok ⟨(A.place 0 25 (by decide) (by decide +kernel)), True.intro⟩) rfl ?_
  refine fl_Tq.gfV (k := 5) (v := f q 5) rfl (fl_oks_ok ⟨(B.place 0 25 (by decide) (by decide +kernel)), (A.place 0 25 (by decide) (by decide +kernel)), True.intro⟩) rfl rfl ?_
  refine fl_Tq.pfV (k := 5) (m' := (fl_row f p (upd (f p) 5 (f q 5)), l)) rfl (fl_oks_ok ⟨True.intro, (A.place 0 25 (by decide) (by decide +kernel)), True.intro⟩) rfl (t2_upn rfl) ?_
  refine fl_Tq.stp (pc' := 101) (lv' := [some (.inr (.inr (.inl (25, p)))), some (.inr (.inr (.inl (25, q)))), some (.inl z)]) (st' := [.inr (.inr (.inl (25, p)))]) (m' := (fl_row f p (upd (f p) 5 (f q 5)), l)) rfl rfl (fl_bo rfl) rfl ?_
  refine fl_Tq.stp (pc' := 102) (lv' := [some (.inr (.inr (.inl (25, p)))), some (.inr (.inr (.inl (25, q)))), some (.inl z)]) (st' := [.inr (.inr (.inl (25, q))), .inr (.inr (.inl (25, p)))]) (m' := (fl_row f p (upd (f p) 5 (f q 5)), l)) rfl rfl (fl_oks_ok ⟨(A.place 0 25 (by decide) (by decide +kernel)), True.intro⟩) rfl ?_
  refine fl_Tq.gfV (k := 6) (v := f q 6) rfl (fl_oks_ok ⟨(B.place 0 25 (by decide) (by decide +kernel)), (A.place 0 25 (by decide) (by decide +kernel)), True.intro⟩) rfl (by simp only [fl_row_ne (show q ≠ p by omega)]) ?_
  refine fl_Tq.pfV (k := 6) (m' := (fl_row f p (upd (upd (f p) 5 (f q 5)) 6 (f q 6)), l)) rfl (fl_oks_ok ⟨True.intro, (A.place 0 25 (by decide) (by decide +kernel)), True.intro⟩) rfl (t2_upr) ?_
  refine fl_Tq.stp (pc' := 109) (lv' := [some (.inr (.inr (.inl (25, p)))), some (.inr (.inr (.inl (25, q)))), some (.inl z)]) (st' := [.inr (.inr (.inl (25, p)))]) (m' := (fl_row f p (upd (upd (f p) 5 (f q 5)) 6 (f q 6)), l)) rfl rfl (fl_bo rfl) rfl ?_
  refine fl_Tq.stp (pc' := 110) (lv' := [some (.inr (.inr (.inl (25, p)))), some (.inr (.inr (.inl (25, q)))), some (.inl z)]) (st' := [.inr (.inr (.inl (25, q))), .inr (.inr (.inl (25, p)))]) (m' := (fl_row f p (upd (upd (f p) 5 (f q 5)) 6 (f q 6)), l)) rfl rfl (fl_oks_ok ⟨(A.place 0 25 (by decide) (by decide +kernel)), True.intro⟩) rfl ?_
  refine fl_Tq.gfV (k := 7) (v := f q 7) rfl (fl_oks_ok ⟨(B.place 0 25 (by decide) (by decide +kernel)), (A.place 0 25 (by decide) (by decide +kernel)), True.intro⟩) rfl (by simp only [fl_row_ne (show q ≠ p by omega)]) ?_
  refine fl_Tq.pfV (k := 7) (m' := (fl_row f p (upd (upd (upd (f p) 5 (f q 5)) 6 (f q 6)) 7 (f q 7)), l)) rfl (fl_oks_ok ⟨True.intro, (A.place 0 25 (by decide) (by decide +kernel)), True.intro⟩) rfl (t2_upr) ?_
  refine fl_Tq.stp (pc' := 117) (lv' := [some (.inr (.inr (.inl (25, p)))), some (.inr (.inr (.inl (25, q)))), some (.inl z)]) (st' := [.inr (.inr (.inl (25, p)))]) (m' := (fl_row f p (upd (upd (upd (f p) 5 (f q 5)) 6 (f q 6)) 7 (f q 7)), l)) rfl rfl (fl_bo rfl) rfl ?_
  refine fl_Tq.stp (pc' := 118) (lv' := [some (.inr (.inr (.inl (25, p)))), some (.inr (.inr (.inl (25, q)))), some (.inl z)]) (st' := [.inr (.inr (.inl (25, q))), .inr (.inr (.inl (25, p)))]) (m' := (fl_row f p (upd (upd (upd (f p) 5 (f q 5)) 6 (f q 6)) 7 (f q 7)), l)) rfl rfl (fl_oks_ok ⟨(A.place 0 25 (by decide) (by decide +kernel)), True.intro⟩) rfl ?_
  refine fl_Tq.gfV (k := 8) (v := f q 8) rfl (fl_oks_ok ⟨(B.place 0 25 (by decide) (by decide +kernel)), (A.place 0 25 (by decide) (by decide +kernel)), True.intro⟩) rfl (by simp only [fl_row_ne (show q ≠ p by omega)]) ?_
  refine fl_Tq.pfV (k := 8) (m' := (fl_row f p (upd (upd (upd (upd (f p) 5 (f q 5)) 6 (f q 6)) 7 (f q 7)) 8 (f q 8)), l)) rfl (fl_oks_ok ⟨True.intro, (A.place 0 25 (by decide) (by decide +kernel)), True.intro⟩) rfl (t2_upr) ?_
  refine fl_Tq.stp (pc' := 125) (lv' := [some (.inr (.inr (.inl (25, p)))), some (.inr (.inr (.inl (25, q)))), some (.inl z)]) (st' := [.inr (.inr (.inl (25, p)))]) (m' := (fl_row f p (upd (upd (upd (upd (f p) 5 (f q 5)) 6 (f q 6)) 7 (f q 7)) 8 (f q 8)), l)) rfl rfl (fl_bo rfl) rfl ?_
  refine fl_Tq.stp (pc' := 126) (lv' := [some (.inr (.inr (.inl (25, p)))), some (.inr (.inr (.inl (25, q)))), some (.inl z)]) (st' := [.inr (.inr (.inl (25, q))), .inr (.inr (.inl (25, p)))]) (m' := (fl_row f p (upd (upd (upd (upd (f p) 5 (f q 5)) 6 (f q 6)) 7 (f q 7)) 8 (f q 8)), l)) rfl rfl (fl_oks_ok ⟨(A.place 0 25 (by decide) (by decide +kernel)), True.intro⟩) rfl ?_
  refine fl_Tq.gfV (k := 9) (v := f q 9) rfl (fl_oks_ok ⟨(B.place 0 25 (by decide) (by decide +kernel)), (A.place 0 25 (by decide) (by decide +kernel)), True.intro⟩) rfl (by simp only [fl_row_ne (show q ≠ p by omega)]) ?_
  refine fl_Tq.pfV (k := 9) (m' := (fl_row f p (upd (upd (upd (upd (upd (f p) 5 (f q 5)) 6 (f q 6)) 7 (f q 7)) 8 (f q 8)) 9 (f q 9)), l)) rfl (fl_oks_ok ⟨True.intro, (A.place 0 25 (by decide) (by decide +kernel)), True.intro⟩) rfl (t2_upr) ?_
  refine fl_Tq.stp (pc' := 133) (lv' := [some (.inr (.inr (.inl (25, p)))), some (.inr (.inr (.inl (25, q)))), some (.inl z)]) (st' := [.inr (.inr (.inl (25, p)))]) (m' := (fl_row f p (upd (upd (upd (upd (upd (f p) 5 (f q 5)) 6 (f q 6)) 7 (f q 7)) 8 (f q 8)) 9 (f q 9)), l)) rfl rfl (fl_bo rfl) rfl ?_
  refine fl_Tq.stp (pc' := 134) (lv' := [some (.inr (.inr (.inl (25, p)))), some (.inr (.inr (.inl (25, q)))), some (.inl z)]) (st' := [.inr (.inr (.inl (25, q))), .inr (.inr (.inl (25, p)))]) (m' := (fl_row f p (upd (upd (upd (upd (upd (f p) 5 (f q 5)) 6 (f q 6)) 7 (f q 7)) 8 (f q 8)) 9 (f q 9)), l)) rfl rfl (fl_oks_ok ⟨(A.place 0 25 (by decide) (by decide +kernel)), True.intro⟩) rfl ?_
  refine fl_Tq.gfV (k := 10) (v := f q 10) rfl (fl_oks_ok ⟨(B.place 0 25 (by decide) (by decide +kernel)), (A.place 0 25 (by decide) (by decide +kernel)), True.intro⟩) rfl (by simp only [fl_row_ne (show q ≠ p by omega)]) ?_
  refine fl_Tq.pfV (k := 10) (m' := (fl_row f p (upd (upd (upd (upd (upd (upd (f p) 5 (f q 5)) 6 (f q 6)) 7 (f q 7)) 8 (f q 8)) 9 (f q 9)) 10 (f q 10)), l)) rfl (fl_oks_ok ⟨True.intro, (A.place 0 25 (by decide) (by decide +kernel)), True.intro⟩) rfl (t2_upr) ?_
  refine fl_Tq.stp (pc' := 141) (lv' := [some (.inr (.inr (.inl (25, p)))), some (.inr (.inr (.inl (25, q)))), some (.inl z)]) (st' := [.inr (.inr (.inl (25, p)))]) (m' := (fl_row f p (upd (upd (upd (upd (upd (upd (f p) 5 (f q 5)) 6 (f q 6)) 7 (f q 7)) 8 (f q 8)) 9 (f q 9)) 10 (f q 10)), l)) rfl rfl (fl_bo rfl) rfl ?_
  refine fl_Tq.stp (pc' := 142) (lv' := [some (.inr (.inr (.inl (25, p)))), some (.inr (.inr (.inl (25, q)))), some (.inl z)]) (st' := [.inr (.inr (.inl (25, q))), .inr (.inr (.inl (25, p)))]) (m' := (fl_row f p (upd (upd (upd (upd (upd (upd (f p) 5 (f q 5)) 6 (f q 6)) 7 (f q 7)) 8 (f q 8)) 9 (f q 9)) 10 (f q 10)), l)) rfl rfl (fl_oks_ok ⟨(A.place 0 25 (by decide) (by decide +kernel)), True.intro⟩) rfl ?_
  refine fl_Tq.gfV (k := 11) (v := f q 11) rfl (fl_oks_ok ⟨(B.place 0 25 (by decide) (by decide +kernel)), (A.place 0 25 (by decide) (by decide +kernel)), True.intro⟩) rfl (by simp only [fl_row_ne (show q ≠ p by omega)]) ?_
  refine fl_Tq.pfV (k := 11) (m' := (fl_row f p (upd (upd (upd (upd (upd (upd (upd (f p) 5 (f q 5)) 6 (f q 6)) 7 (f q 7)) 8 (f q 8)) 9 (f q 9)) 10 (f q 10)) 11 (f q 11)), l)) rfl (fl_oks_ok ⟨True.intro, (A.place 0 25 (by decide) (by decide +kernel)), True.intro⟩) rfl (t2_upr) ?_
  refine fl_Tq.stp (pc' := 149) (lv' := [some (.inr (.inr (.inl (25, p)))), some (.inr (.inr (.inl (25, q)))), some (.inl z)]) (st' := [.inr (.inr (.inl (25, p)))]) (m' := (fl_row f p (upd (upd (upd (upd (upd (upd (upd (f p) 5 (f q 5)) 6 (f q 6)) 7 (f q 7)) 8 (f q 8)) 9 (f q 9)) 10 (f q 10)) 11 (f q 11)), l)) rfl rfl (fl_bo rfl) rfl ?_
  refine fl_Tq.stp (pc' := 150) (lv' := [some (.inr (.inr (.inl (25, p)))), some (.inr (.inr (.inl (25, q)))), some (.inl z)]) (st' := [.inr (.inr (.inl (25, q))), .inr (.inr (.inl (25, p)))]) (m' := (fl_row f p (upd (upd (upd (upd (upd (upd (upd (f p) 5 (f q 5)) 6 (f q 6)) 7 (f q 7)) 8 (f q 8)) 9 (f q 9)) 10 (f q 10)) 11 (f q 11)), l)) rfl rfl (fl_oks_ok ⟨(A.place 0 25 (by decide) (by decide +kernel)), True.intro⟩) rfl ?_
  refine fl_Tq.gfV (k := 12) (v := f q 12) rfl (fl_oks_ok ⟨(B.place 0 25 (by decide) (by decide +kernel)), (A.place 0 25 (by decide) (by decide +kernel)), True.intro⟩) rfl (by simp only [fl_row_ne (show q ≠ p by omega)]) ?_
  refine fl_Tq.pfV (k := 12) (m' := (fl_row f p (upd (upd (upd (upd (upd (upd (upd (upd (f p) 5 (f q 5)) 6 (f q 6)) 7 (f q 7)) 8 (f q 8)) 9 (f q 9)) 10 (f q 10)) 11 (f q 11)) 12 (f q 12)), l)) rfl (fl_oks_ok ⟨True.intro, (A.place 0 25 (by decide) (by decide +kernel)), True.intro⟩) rfl (t2_upr) ?_
  refine fl_Tq.stp (pc' := 157) (lv' := [some (.inr (.inr (.inl (25, p)))), some (.inr (.inr (.inl (25, q)))), some (.inl z)]) (st' := [.inr (.inr (.inl (25, p)))]) (m' := (fl_row f p (upd (upd (upd (upd (upd (upd (upd (upd (f p) 5 (f q 5)) 6 (f q 6)) 7 (f q 7)) 8 (f q 8)) 9 (f q 9)) 10 (f q 10)) 11 (f q 11)) 12 (f q 12)), l)) rfl rfl (fl_bo rfl) rfl ?_
  refine fl_Tq.stp (pc' := 158) (lv' := [some (.inr (.inr (.inl (25, p)))), some (.inr (.inr (.inl (25, q)))), some (.inl z)]) (st' := [.inr (.inr (.inl (25, q))), .inr (.inr (.inl (25, p)))]) (m' := (fl_row f p (upd (upd (upd (upd (upd (upd (upd (upd (f p) 5 (f q 5)) 6 (f q 6)) 7 (f q 7)) 8 (f q 8)) 9 (f q 9)) 10 (f q 10)) 11 (f q 11)) 12 (f q 12)), l)) rfl rfl (fl_oks_ok ⟨(A.place 0 25 (by decide) (by decide +kernel)), True.intro⟩) rfl ?_
  refine fl_Tq.gfV (k := 13) (v := f q 13) rfl (fl_oks_ok ⟨(B.place 0 25 (by decide) (by decide +kernel)), (A.place 0 25 (by decide) (by decide +kernel)), True.intro⟩) rfl (by simp only [fl_row_ne (show q ≠ p by omega)]) ?_
  refine fl_Tq.pfV (k := 13) (m' := (fl_row f p (upd (upd (upd (upd (upd (upd (upd (upd (upd (f p) 5 (f q 5)) 6 (f q 6)) 7 (f q 7)) 8 (f q 8)) 9 (f q 9)) 10 (f q 10)) 11 (f q 11)) 12 (f q 12)) 13 (f q 13)), l)) rfl (fl_oks_ok ⟨True.intro, (A.place 0 25 (by decide) (by decide +kernel)), True.intro⟩) rfl (t2_upr) ?_
  refine fl_Tq.stp (pc' := 165) (lv' := [some (.inr (.inr (.inl (25, p)))), some (.inr (.inr (.inl (25, q)))), some (.inl z)]) (st' := [.inr (.inr (.inl (25, p)))]) (m' := (fl_row f p (upd (upd (upd (upd (upd (upd (upd (upd (upd (f p) 5 (f q 5)) 6 (f q 6)) 7 (f q 7)) 8 (f q 8)) 9 (f q 9)) 10 (f q 10)) 11 (f q 11)) 12 (f q 12)) 13 (f q 13)), l)) rfl rfl (fl_bo rfl) rfl ?_
  refine fl_Tq.stp (pc' := 166) (lv' := [some (.inr (.inr (.inl (25, p)))), some (.inr (.inr (.inl (25, q)))), some (.inl z)]) (st' := [.inr (.inr (.inl (25, q))), .inr (.inr (.inl (25, p)))]) (m' := (fl_row f p (upd (upd (upd (upd (upd (upd (upd (upd (upd (f p) 5 (f q 5)) 6 (f q 6)) 7 (f q 7)) 8 (f q 8)) 9 (f q 9)) 10 (f q 10)) 11 (f q 11)) 12 (f q 12)) 13 (f q 13)), l)) rfl rfl (fl_oks_ok ⟨(A.place 0 25 (by decide) (by decide +kernel)), True.intro⟩) rfl ?_
  refine fl_Tq.gfV (k := 14) (v := f q 14) rfl (fl_oks_ok ⟨(B.place 0 25 (by decide) (by decide +kernel)), (A.place 0 25 (by decide) (by decide +kernel)), True.intro⟩) rfl (by simp only [fl_row_ne (show q ≠ p by omega)]) ?_
  refine fl_Tq.pfV (k := 14) (m' := (fl_row f p (upd (upd (upd (upd (upd (upd (upd (upd (upd (upd (f p) 5 (f q 5)) 6 (f q 6)) 7 (f q 7)) 8 (f q 8)) 9 (f q 9)) 10 (f q 10)) 11 (f q 11)) 12 (f q 12)) 13 (f q 13)) 14 (f q 14)), l)) rfl (fl_oks_ok ⟨True.intro, (A.place 0 25 (by decide) (by decide +kernel)), True.intro⟩) rfl (t2_upr) ?_
  refine fl_Tq.stp (pc' := 173) (lv' := [some (.inr (.inr (.inl (25, p)))), some (.inr (.inr (.inl (25, q)))), some (.inl z)]) (st' := [.inr (.inr (.inl (25, p)))]) (m' := (fl_row f p (upd (upd (upd (upd (upd (upd (upd (upd (upd (upd (f p) 5 (f q 5)) 6 (f q 6)) 7 (f q 7)) 8 (f q 8)) 9 (f q 9)) 10 (f q 10)) 11 (f q 11)) 12 (f q 12)) 13 (f q 13)) 14 (f q 14)), l)) rfl rfl (fl_bo rfl) rfl ?_
  refine fl_Tq.stp (pc' := 174) (lv' := [some (.inr (.inr (.inl (25, p)))), some (.inr (.inr (.inl (25, q)))), some (.inl z)]) (st' := [.inr (.inr (.inl (25, q))), .inr (.inr (.inl (25, p)))]) (m' := (fl_row f p (upd (upd (upd (upd (upd (upd (upd (upd (upd (upd (f p) 5 (f q 5)) 6 (f q 6)) 7 (f q 7)) 8 (f q 8)) 9 (f q 9)) 10 (f q 10)) 11 (f q 11)) 12 (f q 12)) 13 (f q 13)) 14 (f q 14)), l)) rfl rfl (fl_oks_ok ⟨(A.place 0 25 (by decide) (by decide +kernel)), True.intro⟩) rfl ?_
  refine fl_Tq.gfV (k := 15) (v := f q 15) rfl (fl_oks_ok ⟨(B.place 0 25 (by decide) (by decide +kernel)), (A.place 0 25 (by decide) (by decide +kernel)), True.intro⟩) rfl (by simp only [fl_row_ne (show q ≠ p by omega)]) ?_
  refine fl_Tq.pfV (k := 15) (m' := (fl_row f p (upd (upd (upd (upd (upd (upd (upd (upd (upd (upd (upd (f p) 5 (f q 5)) 6 (f q 6)) 7 (f q 7)) 8 (f q 8)) 9 (f q 9)) 10 (f q 10)) 11 (f q 11)) 12 (f q 12)) 13 (f q 13)) 14 (f q 14)) 15 (f q 15)), l)) rfl (fl_oks_ok ⟨True.intro, (A.place 0 25 (by decide) (by decide +kernel)), True.intro⟩) rfl (t2_upr) ?_
  refine fl_Tq.stp (pc' := 181) (lv' := [some (.inr (.inr (.inl (25, p)))), some (.inr (.inr (.inl (25, q)))), some (.inl z)]) (st' := [.inr (.inr (.inl (25, p)))]) (m' := (fl_row f p (upd (upd (upd (upd (upd (upd (upd (upd (upd (upd (upd (f p) 5 (f q 5)) 6 (f q 6)) 7 (f q 7)) 8 (f q 8)) 9 (f q 9)) 10 (f q 10)) 11 (f q 11)) 12 (f q 12)) 13 (f q 13)) 14 (f q 14)) 15 (f q 15)), l)) rfl rfl (fl_bo rfl) rfl ?_
  refine fl_Tq.stp (pc' := 182) (lv' := [some (.inr (.inr (.inl (25, p)))), some (.inr (.inr (.inl (25, q)))), some (.inl z)]) (st' := [.inr (.inr (.inl (25, q))), .inr (.inr (.inl (25, p)))]) (m' := (fl_row f p (upd (upd (upd (upd (upd (upd (upd (upd (upd (upd (upd (f p) 5 (f q 5)) 6 (f q 6)) 7 (f q 7)) 8 (f q 8)) 9 (f q 9)) 10 (f q 10)) 11 (f q 11)) 12 (f q 12)) 13 (f q 13)) 14 (f q 14)) 15 (f q 15)), l)) rfl rfl (fl_oks_ok ⟨(A.place 0 25 (by decide) (by decide +kernel)), True.intro⟩) rfl ?_
  refine fl_Tq.gfV (k := 16) (v := f q 16) rfl (fl_oks_ok ⟨(B.place 0 25 (by decide) (by decide +kernel)), (A.place 0 25 (by decide) (by decide +kernel)), True.intro⟩) rfl (by simp only [fl_row_ne (show q ≠ p by omega)]) ?_
  refine fl_Tq.pfV (k := 16) (m' := (fl_row f p (upd (upd (upd (upd (upd (upd (upd (upd (upd (upd (upd (upd (f p) 5 (f q 5)) 6 (f q 6)) 7 (f q 7)) 8 (f q 8)) 9 (f q 9)) 10 (f q 10)) 11 (f q 11)) 12 (f q 12)) 13 (f q 13)) 14 (f q 14)) 15 (f q 15)) 16 (f q 16)), l)) rfl (fl_oks_ok ⟨True.intro, (A.place 0 25 (by decide) (by decide +kernel)), True.intro⟩) rfl (t2_upr) ?_
  exact fl_Tq.ret rfl rfl rfl k

end

/-! 94.38.cpy.lean.txt -/
section
/-! ===== what a become leaves: the source's words, nothing else ===== -/
section T2CPY
variable {f : t2_F} {p q r w n : Nat} {g h : Nat → Int32}
theorem t2_cpy0 (hw : w < n) : va_cpy g h 0 0 n w = g w := by
  unfold va_cpy
  rw [if_pos (by omega)]
  congr 1
  omega
theorem bc_turns_fr (h : r < p ∨ p + 3 ≤ r) : bc_turns_m f p q r = f r := by
  unfold bc_turns_m
  rw [fl_row_ne (by omega), fl_row_ne (by omega), fl_row_ne (by omega)]
theorem bc_turns_w (hpq : p + 3 ≤ q ∨ q + 3 ≤ p) : bc_turns_m f p q p 2 = f q 2 ∧ (∀ w : Nat, w < 32 → bc_turns_m f p q (p + 1) w = f (q + 1) w) ∧ ∀ w : Nat, w < 11 → bc_turns_m f p q (p + 2) w = f (q + 2) w := by
  unfold bc_turns_m
  refine ⟨?_, fun w hw => ?_, fun w hw => ?_⟩
  · rw [fl_row_self, upd_self]
  · rw [fl_row_ne (by omega), fl_row_ne (by omega), fl_row_self, t2_cpy0 hw]
  · rw [fl_row_ne (by omega), fl_row_self, t2_cpy0 hw]
theorem bc_mark_fr (h : r < p ∨ p + 3 ≤ r) : bc_mark_m f p q r = f r := by
  unfold bc_mark_m
  rw [fl_row_ne (by omega), fl_row_ne (by omega), fl_row_ne (by omega)]
theorem bc_mark_w (hpq : p + 3 ≤ q ∨ q + 3 ≤ p) : (bc_mark_m f p q p 2 = f q 2 ∧ bc_mark_m f p q p 3 = f q 3) ∧ (∀ w : Nat, w < 16 → bc_mark_m f p q (p + 1) w = f (q + 1) w) ∧ ∀ w : Nat, w < 16 → bc_mark_m f p q (p + 2) w = f (q + 2) w := by
  unfold bc_mark_m
  refine ⟨⟨?_, ?_⟩, fun w hw => ?_, fun w hw => ?_⟩
  · rw [fl_row_self, upd_ne (by decide), upd_self]
  · rw [fl_row_self, upd_self]
  · rw [fl_row_ne (by omega), fl_row_ne (by omega), fl_row_self, t2_cpy0 hw]
  · rw [fl_row_ne (by omega), fl_row_self, t2_cpy0 hw]
theorem bc_book_fr (h : r < p ∨ p + 2 ≤ r) : bc_book_m f p q r = f r := by
  unfold bc_book_m
  rw [fl_row_ne (by omega), fl_row_ne (by omega)]
theorem bc_book_w (hpq : p + 2 ≤ q ∨ q + 2 ≤ p) : (bc_book_m f p q p 0 = f p 0 ∧ bc_book_m f p q p 2 = f q 2 ∧ bc_book_m f p q p 3 = f q 3) ∧ ∀ w : Nat, w < 72 → bc_book_m f p q (p + 1) w = f (q + 1) w := by
  unfold bc_book_m
  refine ⟨⟨?_, ?_, ?_⟩, fun w hw => ?_⟩
  · rw [fl_row_self, upd_ne (by decide), upd_ne (by decide)]
  · rw [fl_row_self, upd_ne (by decide), upd_self]
  · rw [fl_row_self, upd_self]
  · rw [fl_row_ne (by omega), fl_row_self, t2_cpy0 hw]
theorem bc_trace_fr (h : r < p ∨ p + 2 ≤ r) : bc_trace_m f p q r = f r := by
  unfold bc_trace_m
  rw [fl_row_ne (by omega), fl_row_ne (by omega)]
theorem bc_trace_w (hpq : p + 2 ≤ q ∨ q + 2 ≤ p) : (bc_trace_m f p q p 0 = f p 0 ∧ bc_trace_m f p q p 2 = f q 2 ∧ bc_trace_m f p q p 3 = f q 3) ∧ ∀ w : Nat, w < 96 → bc_trace_m f p q (p + 1) w = f (q + 1) w := by
  unfold bc_trace_m
  refine ⟨⟨?_, ?_, ?_⟩, fun w hw => ?_⟩
  · rw [fl_row_self, upd_ne (by decide), upd_ne (by decide)]
  · rw [fl_row_self, upd_ne (by decide), upd_self]
  · rw [fl_row_self, upd_self]
  · rw [fl_row_ne (by omega), fl_row_self, t2_cpy0 hw]
theorem bc_told_fr (h : r < p ∨ p + 7 ≤ r) : bc_told_m f p q r = f r := by
  unfold bc_told_m
  simp (disch := omega) only [fl_row_ne]
theorem bc_told_w (hpq : p + 7 ≤ q ∨ q + 7 ≤ p) : (bc_told_m f p q p 6 = f q 6 ∧ bc_told_m f p q p 7 = f q 7 ∧ bc_told_m f p q p 8 = f q 8) ∧ (∀ w : Nat, w < 30 → bc_told_m f p q (p + 1) w = f (q + 1) w) ∧ (∀ w : Nat, w < 3 → bc_told_m f p q (p + 2) w = f (q + 2) w) ∧ (∀ w : Nat, w < 24 → bc_told_m f p q (p + 3) w = f (q + 3) w) ∧ (∀ w : Nat, w < 12 → bc_told_m f p q (p + 4) w = f (q + 4) w) ∧ (∀ w : Nat, w < 48 → bc_told_m f p q (p + 5) w = f (q + 5) w) ∧ ∀ w : Nat, w < 40 → bc_told_m f p q (p + 6) w = f (q + 6) w := by
  unfold bc_told_m
  refine ⟨⟨?_, ?_, ?_⟩, fun w hw => ?_, fun w hw => ?_, fun w hw => ?_, fun w hw => ?_, fun w hw => ?_, fun w hw => ?_⟩
  · simp (disch := omega) only [fl_row_self, upd_self, upd_ne]
  · simp (disch := omega) only [fl_row_self, upd_self, upd_ne]
  · simp (disch := omega) only [fl_row_self, upd_self, upd_ne]
  all_goals simp (disch := omega) only [fl_row_self, fl_row_ne, t2_cpy0]
theorem bc_cell_fr (h : r < p ∨ p + 4 ≤ r) : bc_cell_m f p q r = f r := by
  unfold bc_cell_m
  rw [bc_turns_fr (by omega), fl_row_ne (by omega)]
theorem bc_cell_w (hpq : p + 4 ≤ q ∨ q + 4 ≤ p) : (∀ w : Nat, w < 19 → bc_cell_m f p q p w = f q w) ∧ bc_cell_m f p q (p + 1) 2 = f (q + 1) 2 ∧ (∀ w : Nat, w < 32 → bc_cell_m f p q (p + 2) w = f (q + 2) w) ∧ ∀ w : Nat, w < 11 → bc_cell_m f p q (p + 3) w = f (q + 3) w := by
  unfold bc_cell_m
  generalize hR : (upd (upd (upd (upd (upd (upd (upd (upd (upd (upd (upd (upd (upd (upd (upd (upd (upd (upd (upd (f p) 0 (f q 0)) 1 (f q 1)) 2 (f q 2)) 3 (f q 3)) 4 (f q 4)) 5 (f q 5)) 6 (f q 6)) 7 (f q 7)) 8 (f q 8)) 9 (f q 9)) 10 (f q 10)) 11 (f q 11)) 12 (f q 12)) 13 (f q 13)) 14 (f q 14)) 15 (f q 15)) 16 (f q 16)) 17 (f q 17)) 18 (f q 18)) = R
  have tw := bc_turns_w (f := fl_row f p R) (p := p + 1) (q := q + 1) (by omega)
  have e : ∀ w : Nat, w < 19 → R w = f q w := fun w hw => by
    rw [← hR]
    have : w = 0 ∨ w = 1 ∨ w = 2 ∨ w = 3 ∨ w = 4 ∨ w = 5 ∨ w = 6 ∨ w = 7 ∨ w = 8 ∨ w = 9 ∨ w = 10 ∨ w = 11 ∨ w = 12 ∨ w = 13 ∨ w = 14 ∨ w = 15 ∨ w = 16 ∨ w = 17 ∨ w = 18 := by omega
    rcases this with e | e | e | e | e | e | e | e | e | e | e | e | e | e | e | e | e | e | e <;> subst e <;> simp (disch := omega) only [upd_self, upd_ne]
  refine ⟨fun w hw => ?_, ?_, fun w hw => ?_, fun w hw => ?_⟩
  · rw [bc_turns_fr (by omega), fl_row_self, e w hw]
  · rw [tw.1, fl_row_ne (by omega)]
  · rw [show p + 2 = p + 1 + 1 by omega, tw.2.1 w hw, fl_row_ne (by omega)]
  · rw [show p + 3 = p + 1 + 2 by omega, tw.2.2 w hw, fl_row_ne (by omega)]
end T2CPY

end

/-! 94.39.cps.lean.txt -/
section
/-! ===== what State.become leaves ===== -/
section T2CPS
variable {f : t2_F} {p q r w n j : Nat}
theorem bc_watch_fr (h : r < p ∨ p + 5 ≤ r) : bc_watch_m f p q r = f r := by
  unfold bc_watch_m
  rw [fl_row_ne (by omega), bc_book_fr (by omega), fl_row_ne (by omega), fl_row_ne (by omega)]
theorem bc_watch_w (hpq : p + 5 ≤ q ∨ q + 5 ≤ p) : (bc_watch_m f p q p 3 = f q 3 ∧ bc_watch_m f p q p 4 = f q 4 ∧ bc_watch_m f p q p 5 = f q 5 ∧ bc_watch_m f p q p 6 = f q 6) ∧ (∀ w : Nat, w < 11 → bc_watch_m f p q (p + 1) w = f (q + 1) w) ∧ (∀ w : Nat, w < 4 → bc_watch_m f p q (p + 2) w = f (q + 2) w) ∧ (bc_watch_m f p q (p + 3) 0 = f (p + 3) 0 ∧ bc_watch_m f p q (p + 3) 2 = f (q + 3) 2 ∧ bc_watch_m f p q (p + 3) 3 = f (q + 3) 3) ∧ ∀ w : Nat, w < 72 → bc_watch_m f p q (p + 4) w = f (q + 4) w := by
  unfold bc_watch_m
  generalize hF : fl_row (fl_row f (p + 1) (va_cpy (f (q + 1)) (f (p + 1)) 0 0 11)) (p + 2) (va_cpy (f (q + 2)) (f (p + 2)) 0 0 4) = F
  have o : ∀ r : Nat, r ≠ p + 1 → r ≠ p + 2 → F r = f r := fun r h1 h2 => by rw [← hF, fl_row_ne h2, fl_row_ne h1]
  obtain ⟨⟨b0, b2, b3⟩, b4⟩ := bc_book_w (f := F) (p := p + 3) (q := q + 3) (by omega)
  have bq : bc_book_m F (p + 3) (q + 3) q = f q := by rw [bc_book_fr (by omega), o _ (by omega) (by omega)]
  rw [bq]
  refine ⟨⟨?_, ?_, ?_, ?_⟩, fun w hw => ?_, fun w hw => ?_, ⟨?_, ?_, ?_⟩, fun w hw => ?_⟩
  · simp (disch := omega) only [fl_row_self, upd_self, upd_ne]
  · simp (disch := omega) only [fl_row_self, upd_self, upd_ne]
  · simp (disch := omega) only [fl_row_self, upd_self, upd_ne]
  · simp (disch := omega) only [fl_row_self, upd_self, upd_ne]
  · rw [fl_row_ne (by omega), bc_book_fr (by omega), ← hF, fl_row_ne (by omega), fl_row_self, t2_cpy0 hw]
  · rw [fl_row_ne (by omega), bc_book_fr (by omega), ← hF, fl_row_self, t2_cpy0 hw]
  · rw [fl_row_ne (by omega), b0, o _ (by omega) (by omega)]
  · rw [fl_row_ne (by omega), b2, o _ (by omega) (by omega)]
  · rw [fl_row_ne (by omega), b3, o _ (by omega) (by omega)]
  · rw [fl_row_ne (by omega), show p + 4 = p + 3 + 1 by omega, b4 w hw, o _ (by omega) (by omega)]
theorem bc_watch_z_e (hpq : p + 5 ≤ q ∨ q + 5 ≤ p) : bc_watch_z f p q = f q 6 := by
  unfold bc_watch_z
  rw [bc_book_fr (by omega), fl_row_ne (by omega), fl_row_ne (by omega)]
/-- the whole -/
noncomputable def bs_cells (f : t2_F) (p q : Nat) : Nat → t2_F
  | 0 => f
  | j + 1 => bc_cell_m (bs_cells f p q j) (p + 17 + 4 * j) (q + 17 + 4 * j)
noncomputable def bs_marks (f : t2_F) (p q : Nat) : Nat → t2_F
  | 0 => f
  | j + 1 => bc_mark_m (bs_marks f p q j) (p + 81 + 3 * j) (q + 81 + 3 * j)
noncomputable def bs_told (f : t2_F) (p q : Nat) : t2_F := bc_trace_m (bc_watch_m (bc_told_m f (p + 2) (q + 2)) (p + 9) (q + 9)) (p + 15) (q + 15)
noncomputable def bs_end (f : t2_F) (p q : Nat) : t2_F := fl_row f p (upd (upd (upd (upd (upd (upd (upd (upd (upd (upd (upd (upd (f p) 5 (f q 5)) 6 (f q 6)) 7 (f q 7)) 8 (f q 8)) 9 (f q 9)) 10 (f q 10)) 11 (f q 11)) 12 (f q 12)) 13 (f q 13)) 14 (f q 14)) 15 (f q 15)) 16 (f q 16))
noncomputable def bs_m (f : t2_F) (p q : Nat) : t2_F := bs_end (bs_told (bs_marks (bs_cells f p q (f q 5).toInt.toNat) p q 3) p q) p q
theorem bs_cells_fr : ∀ {n : Nat}, (r < p + 17 ∨ p + 17 + 4 * n ≤ r) → bs_cells f p q n r = f r := by
  intro n
  induction n with
  | zero => intro _; rfl
  | succ n ih =>
    intro h
    show bc_cell_m _ _ _ r = _
    rw [bc_cell_fr (by omega), ih (by omega)]
theorem bs_marks_fr : ∀ {n : Nat}, (r < p + 81 ∨ p + 81 + 3 * n ≤ r) → bs_marks f p q n r = f r := by
  intro n
  induction n with
  | zero => intro _; rfl
  | succ n ih =>
    intro h
    show bc_mark_m _ _ _ r = _
    rw [bc_mark_fr (by omega), ih (by omega)]
theorem bs_cells_w (hpq : p + 90 ≤ q ∨ q + 90 ≤ p) : ∀ {n : Nat}, n ≤ 16 → j < n → (∀ w : Nat, w < 19 → bs_cells f p q n (p + 17 + 4 * j) w = f (q + 17 + 4 * j) w) ∧ bs_cells f p q n (p + 17 + 4 * j + 1) 2 = f (q + 17 + 4 * j + 1) 2 ∧ (∀ w : Nat, w < 32 → bs_cells f p q n (p + 17 + 4 * j + 2) w = f (q + 17 + 4 * j + 2) w) ∧ ∀ w : Nat, w < 11 → bs_cells f p q n (p + 17 + 4 * j + 3) w = f (q + 17 + 4 * j + 3) w := by
  intro n
  induction n with
  | zero => intro _ h; exact absurd h (Nat.not_lt_zero _)
  | succ n ih =>
    intro h16 hj
    have S : ∀ r : Nat, q ≤ r → r < q + 90 → bs_cells f p q n r = f r := fun r h1 h2 => bs_cells_fr (by omega)
    obtain ⟨c1, c2, c3, c4⟩ := bc_cell_w (f := bs_cells f p q n) (p := p + 17 + 4 * n) (q := q + 17 + 4 * n) (by omega)
    by_cases e : j = n
    · subst e
      refine ⟨fun w hw => ?_, ?_, fun w hw => ?_, fun w hw => ?_⟩
      · show bc_cell_m _ _ _ _ w = _
        rw [c1 w hw, S _ (by omega) (by omega)]
      · show bc_cell_m _ _ _ _ 2 = _
        rw [c2, S _ (by omega) (by omega)]
      · show bc_cell_m _ _ _ _ w = _
        rw [c3 w hw, S _ (by omega) (by omega)]
      · show bc_cell_m _ _ _ _ w = _
        rw [c4 w hw, S _ (by omega) (by omega)]
    · obtain ⟨d1, d2, d3, d4⟩ := ih (by omega) (by omega)
      refine ⟨fun w hw => ?_, ?_, fun w hw => ?_, fun w hw => ?_⟩
      · show bc_cell_m _ _ _ _ w = _
        rw [bc_cell_fr (by omega), d1 w hw]
      · show bc_cell_m _ _ _ _ 2 = _
        rw [bc_cell_fr (by omega), d2]
      · show bc_cell_m _ _ _ _ w = _
        rw [bc_cell_fr (by omega), d3 w hw]
      · show bc_cell_m _ _ _ _ w = _
        rw [bc_cell_fr (by omega), d4 w hw]
theorem bs_marks_w (hpq : p + 90 ≤ q ∨ q + 90 ≤ p) : ∀ {n : Nat}, n ≤ 3 → j < n → (bs_marks f p q n (p + 81 + 3 * j) 2 = f (q + 81 + 3 * j) 2 ∧ bs_marks f p q n (p + 81 + 3 * j) 3 = f (q + 81 + 3 * j) 3) ∧ (∀ w : Nat, w < 16 → bs_marks f p q n (p + 81 + 3 * j + 1) w = f (q + 81 + 3 * j + 1) w) ∧ ∀ w : Nat, w < 16 → bs_marks f p q n (p + 81 + 3 * j + 2) w = f (q + 81 + 3 * j + 2) w := by
  intro n
  induction n with
  | zero => intro _ h; exact absurd h (Nat.not_lt_zero _)
  | succ n ih =>
    intro h16 hj
    have S : ∀ r : Nat, q ≤ r → r < q + 90 → bs_marks f p q n r = f r := fun r h1 h2 => bs_marks_fr (by omega)
    obtain ⟨⟨c1, c2⟩, c3, c4⟩ := bc_mark_w (f := bs_marks f p q n) (p := p + 81 + 3 * n) (q := q + 81 + 3 * n) (by omega)
    by_cases e : j = n
    · subst e
      refine ⟨⟨?_, ?_⟩, fun w hw => ?_, fun w hw => ?_⟩
      · show bc_mark_m _ _ _ _ 2 = _
        rw [c1, S _ (by omega) (by omega)]
      · show bc_mark_m _ _ _ _ 3 = _
        rw [c2, S _ (by omega) (by omega)]
      · show bc_mark_m _ _ _ _ w = _
        rw [c3 w hw, S _ (by omega) (by omega)]
      · show bc_mark_m _ _ _ _ w = _
        rw [c4 w hw, S _ (by omega) (by omega)]
    · obtain ⟨⟨d1, d2⟩, d3, d4⟩ := ih (by omega) (by omega)
      refine ⟨⟨?_, ?_⟩, fun w hw => ?_, fun w hw => ?_⟩
      · show bc_mark_m _ _ _ _ 2 = _
        rw [bc_mark_fr (by omega), d1]
      · show bc_mark_m _ _ _ _ 3 = _
        rw [bc_mark_fr (by omega), d2]
      · show bc_mark_m _ _ _ _ w = _
        rw [bc_mark_fr (by omega), d3 w hw]
      · show bc_mark_m _ _ _ _ w = _
        rw [bc_mark_fr (by omega), d4 w hw]
theorem bs_told_fr (h : r < p + 2 ∨ (p + 14 ≤ r ∧ r < p + 15) ∨ p + 17 ≤ r) : bs_told f p q r = f r := by
  unfold bs_told
  rw [bc_trace_fr (by omega), bc_watch_fr (by omega), bc_told_fr (by omega)]
theorem bs_fr (hn : 0 ≤ (f q 5).toInt ∧ (f q 5).toInt ≤ 16) (h : r < p ∨ p + 90 ≤ r) : bs_m f p q r = f r := by
  unfold bs_m bs_end
  rw [fl_row_ne (by omega), bs_told_fr (by omega), bs_marks_fr (by omega), bs_cells_fr (by omega)]
end T2CPS

end

/-! 94.40.same.lean.txt -/
section
/-! ===== the same words: the same relation ===== -/
section C0SAME
variable {f g F G fc fr : t2_F} {p q r w n j : Nat}
/-- two blocks whose words are the same, cells up to n -/
def t2_same (F G : t2_F) (n : Nat) : Prop :=
  (∀ w : Nat, 5 ≤ w → w ≤ 16 → F 0 w = G 0 w) ∧
  ((F 2 6 = G 2 6 ∧ F 2 7 = G 2 7 ∧ F 2 8 = G 2 8) ∧ (∀ w : Nat, w < 30 → F 3 w = G 3 w) ∧ (∀ w : Nat, w < 3 → F 4 w = G 4 w) ∧ (∀ w : Nat, w < 24 → F 5 w = G 5 w) ∧ (∀ w : Nat, w < 12 → F 6 w = G 6 w) ∧ (∀ w : Nat, w < 48 → F 7 w = G 7 w) ∧ ∀ w : Nat, w < 40 → F 8 w = G 8 w) ∧
  ((F 9 3 = G 9 3 ∧ F 9 4 = G 9 4 ∧ F 9 5 = G 9 5 ∧ F 9 6 = G 9 6) ∧ (∀ w : Nat, w < 11 → F 10 w = G 10 w) ∧ (∀ w : Nat, w < 4 → F 11 w = G 11 w) ∧ (F 12 2 = G 12 2 ∧ F 12 3 = G 12 3) ∧ ∀ w : Nat, w < 72 → F 13 w = G 13 w) ∧
  ((F 15 2 = G 15 2 ∧ F 15 3 = G 15 3) ∧ ∀ w : Nat, w < 96 → F 16 w = G 16 w) ∧
  (∀ j : Nat, j < n → (∀ w : Nat, w < 19 → F (17 + 4 * j) w = G (17 + 4 * j) w) ∧ F (17 + 4 * j + 1) 2 = G (17 + 4 * j + 1) 2 ∧ (∀ w : Nat, w < 32 → F (17 + 4 * j + 2) w = G (17 + 4 * j + 2) w) ∧ ∀ w : Nat, w < 11 → F (17 + 4 * j + 3) w = G (17 + 4 * j + 3) w) ∧
  ∀ j : Nat, j < 3 → (F (81 + 3 * j) 2 = G (81 + 3 * j) 2 ∧ F (81 + 3 * j) 3 = G (81 + 3 * j) 3) ∧ (∀ w : Nat, w < 16 → F (81 + 3 * j + 1) w = G (81 + 3 * j + 1) w) ∧ ∀ w : Nat, w < 16 → F (81 + 3 * j + 2) w = G (81 + 3 * j + 2) w
theorem t2_same.src {H : t2_F} (h : t2_same F G n) (R : ∀ o : Nat, o < 90 → G o = H o) (hn : n ≤ 16) : t2_same F H n := by
  obtain ⟨s1, ⟨⟨s26, s27, s28⟩, s3, s4, s5, s6, s7, s8⟩, ⟨⟨s93, s94, s95, s96⟩, s10, s11, ⟨s122, s123⟩, s13⟩, ⟨⟨s152, s153⟩, s16⟩, sc, sm⟩ := h
  rw [R 0 (by decide)] at s1
  rw [R 2 (by decide)] at s26 s27 s28
  rw [R 3 (by decide)] at s3
  rw [R 4 (by decide)] at s4
  rw [R 5 (by decide)] at s5
  rw [R 6 (by decide)] at s6
  rw [R 7 (by decide)] at s7
  rw [R 8 (by decide)] at s8
  rw [R 9 (by decide)] at s93 s94 s95 s96
  rw [R 10 (by decide)] at s10
  rw [R 11 (by decide)] at s11
  rw [R 12 (by decide)] at s122 s123
  rw [R 13 (by decide)] at s13
  rw [R 15 (by decide)] at s152 s153
  rw [R 16 (by decide)] at s16
  refine ⟨s1, ⟨⟨s26, s27, s28⟩, s3, s4, s5, s6, s7, s8⟩, ⟨⟨s93, s94, s95, s96⟩, s10, s11, ⟨s122, s123⟩, s13⟩, ⟨⟨s152, s153⟩, s16⟩, fun j hj => ?_, fun j hj => ?_⟩
  · have k := sc j hj
    rw [R (17 + 4 * j) (by omega), R (17 + 4 * j + 1) (by omega), R (17 + 4 * j + 2) (by omega), R (17 + 4 * j + 3) (by omega)] at k
    exact k
  · have k := sm j hj
    rw [R (81 + 3 * j) (by omega), R (81 + 3 * j + 1) (by omega), R (81 + 3 * j + 2) (by omega)] at k
    exact k
/-- State.become: the dest's block is the source's -/
theorem bs_same (hpq : p + 90 ≤ q ∨ q + 90 ≤ p) (hn : 0 ≤ (f q 5).toInt ∧ (f q 5).toInt ≤ 16) : t2_same (fun o => bs_m f p q (p + o)) (fun o => f (q + o)) (f q 5).toInt.toNat ∧ bs_m f p q (p + 12) 0 = f (p + 12) 0 ∧ bs_m f p q (p + 15) 0 = f (p + 15) 0 := by
  generalize hN : (f q 5).toInt.toNat = n
  have h16 : n ≤ 16 := by omega
  -- the source stays
  have C : ∀ r : Nat, q ≤ r → r < q + 90 → bs_cells f p q n r = f r := fun r h1 h2 => bs_cells_fr (by omega)
  have M : ∀ r : Nat, q ≤ r → r < q + 90 → bs_marks (bs_cells f p q n) p q 3 r = f r := fun r h1 h2 => by rw [bs_marks_fr (by omega), C r h1 h2]
  have ML : ∀ r : Nat, p ≤ r → r < p + 17 → bs_marks (bs_cells f p q n) p q 3 r = f r := fun r h1 h2 => by rw [bs_marks_fr (by omega), bs_cells_fr (by omega)]
  have E : ∀ r : Nat, r ≠ p → bs_m f p q r = bs_told (bs_marks (bs_cells f p q n) p q 3) p q r := fun r hr => by
    unfold bs_m bs_end
    rw [hN, fl_row_ne hr]
  generalize hX : bs_marks (bs_cells f p q n) p q 3 = X at M ML E
  obtain ⟨⟨t6, t7, t8⟩, t1, t2, t3, t4, t5, t66⟩ := bc_told_w (f := X) (p := p + 2) (q := q + 2) (by omega)
  obtain ⟨⟨w3, w4, w5, w6⟩, w1, w2, ⟨b0, b2, b3⟩, b4⟩ := bc_watch_w (f := bc_told_m X (p + 2) (q + 2)) (p := p + 9) (q := q + 9) (by omega)
  obtain ⟨⟨r0, r2, r3⟩, r4⟩ := bc_trace_w (f := bc_watch_m (bc_told_m X (p + 2) (q + 2)) (p + 9) (q + 9)) (p := p + 15) (q := q + 15) (by omega)
  have T1 : ∀ r : Nat, (r < p + 15 ∨ p + 17 ≤ r) → bs_told X p q r = bc_watch_m (bc_told_m X (p + 2) (q + 2)) (p + 9) (q + 9) r := fun r hr => by
    unfold bs_told
    rw [bc_trace_fr (by omega)]
  have T2 : ∀ r : Nat, (r < p + 9 ∨ p + 14 ≤ r) → bc_watch_m (bc_told_m X (p + 2) (q + 2)) (p + 9) (q + 9) r = bc_told_m X (p + 2) (q + 2) r := fun r hr => bc_watch_fr (by omega)
  have T3 : ∀ r : Nat, (r < p + 2 ∨ p + 9 ≤ r) → bc_told_m X (p + 2) (q + 2) r = X r := fun r hr => bc_told_fr (by omega)
  refine ⟨⟨fun w h5 h16' => ?_, ⟨⟨?_, ?_, ?_⟩, fun w hw => ?_, fun w hw => ?_, fun w hw => ?_, fun w hw => ?_, fun w hw => ?_, fun w hw => ?_⟩, ⟨⟨?_, ?_, ?_, ?_⟩, fun w hw => ?_, fun w hw => ?_, ⟨?_, ?_⟩, fun w hw => ?_⟩, ⟨⟨?_, ?_⟩, fun w hw => ?_⟩, fun j hj => ?_, fun j hj => ?_⟩, ?_, ?_⟩
  · show bs_m f p q (p + 0) w = f (q + 0) w
    unfold bs_m
    rw [hN, hX]
    unfold bs_end
    have e : ∀ k : Nat, bs_told X p q q k = f q k := fun k => by rw [bs_told_fr (by omega), M q (by omega) (by omega)]
    rw [show p + 0 = p by omega, show q + 0 = q by omega, fl_row_self]
    have : w = 5 ∨ w = 6 ∨ w = 7 ∨ w = 8 ∨ w = 9 ∨ w = 10 ∨ w = 11 ∨ w = 12 ∨ w = 13 ∨ w = 14 ∨ w = 15 ∨ w = 16 := by omega
    rcases this with h | h | h | h | h | h | h | h | h | h | h | h <;> subst h <;> simp (disch := omega) only [upd_self, upd_ne, e]
  · show bs_m f p q (p + 2) 6 = f (q + 2) 6
    rw [E _ (by omega), T1 _ (by omega), T2 _ (by omega), t6, M _ (by omega) (by omega)]
  · show bs_m f p q (p + 2) 7 = f (q + 2) 7
    rw [E _ (by omega), T1 _ (by omega), T2 _ (by omega), t7, M _ (by omega) (by omega)]
  · show bs_m f p q (p + 2) 8 = f (q + 2) 8
    rw [E _ (by omega), T1 _ (by omega), T2 _ (by omega), t8, M _ (by omega) (by omega)]
  · show bs_m f p q (p + 3) w = f (q + 3) w
    rw [E _ (by omega), T1 _ (by omega), T2 _ (by omega), show p + 3 = p + 2 + 1 by omega, t1 w hw, M _ (by omega) (by omega)]
  · show bs_m f p q (p + 4) w = f (q + 4) w
    rw [E _ (by omega), T1 _ (by omega), T2 _ (by omega), show p + 4 = p + 2 + 2 by omega, t2 w hw, M _ (by omega) (by omega)]
  · show bs_m f p q (p + 5) w = f (q + 5) w
    rw [E _ (by omega), T1 _ (by omega), T2 _ (by omega), show p + 5 = p + 2 + 3 by omega, t3 w hw, M _ (by omega) (by omega)]
  · show bs_m f p q (p + 6) w = f (q + 6) w
    rw [E _ (by omega), T1 _ (by omega), T2 _ (by omega), show p + 6 = p + 2 + 4 by omega, t4 w hw, M _ (by omega) (by omega)]
  · show bs_m f p q (p + 7) w = f (q + 7) w
    rw [E _ (by omega), T1 _ (by omega), T2 _ (by omega), show p + 7 = p + 2 + 5 by omega, t5 w hw, M _ (by omega) (by omega)]
  · show bs_m f p q (p + 8) w = f (q + 8) w
    rw [E _ (by omega), T1 _ (by omega), T2 _ (by omega), show p + 8 = p + 2 + 6 by omega, t66 w hw, M _ (by omega) (by omega)]
  · show bs_m f p q (p + 9) 3 = f (q + 9) 3
    rw [E _ (by omega), T1 _ (by omega), w3, T3 _ (by omega), M _ (by omega) (by omega)]
  · show bs_m f p q (p + 9) 4 = f (q + 9) 4
    rw [E _ (by omega), T1 _ (by omega), w4, T3 _ (by omega), M _ (by omega) (by omega)]
  · show bs_m f p q (p + 9) 5 = f (q + 9) 5
    rw [E _ (by omega), T1 _ (by omega), w5, T3 _ (by omega), M _ (by omega) (by omega)]
  · show bs_m f p q (p + 9) 6 = f (q + 9) 6
    rw [E _ (by omega), T1 _ (by omega), w6, T3 _ (by omega), M _ (by omega) (by omega)]
  · show bs_m f p q (p + 10) w = f (q + 10) w
    rw [E _ (by omega), T1 _ (by omega), show p + 10 = p + 9 + 1 by omega, w1 w hw, T3 _ (by omega), M _ (by omega) (by omega)]
  · show bs_m f p q (p + 11) w = f (q + 11) w
    rw [E _ (by omega), T1 _ (by omega), show p + 11 = p + 9 + 2 by omega, w2 w hw, T3 _ (by omega), M _ (by omega) (by omega)]
  · show bs_m f p q (p + 12) 2 = f (q + 12) 2
    rw [E _ (by omega), T1 _ (by omega), show p + 12 = p + 9 + 3 by omega, b2, T3 _ (by omega), M _ (by omega) (by omega)]
  · show bs_m f p q (p + 12) 3 = f (q + 12) 3
    rw [E _ (by omega), T1 _ (by omega), show p + 12 = p + 9 + 3 by omega, b3, T3 _ (by omega), M _ (by omega) (by omega)]
  · show bs_m f p q (p + 13) w = f (q + 13) w
    rw [E _ (by omega), T1 _ (by omega), show p + 13 = p + 9 + 4 by omega, b4 w hw, T3 _ (by omega), M _ (by omega) (by omega)]
  · show bs_m f p q (p + 15) 2 = f (q + 15) 2
    rw [E _ (by omega)]
    unfold bs_told
    rw [r2, T2 _ (by omega), T3 _ (by omega), M _ (by omega) (by omega)]
  · show bs_m f p q (p + 15) 3 = f (q + 15) 3
    rw [E _ (by omega)]
    unfold bs_told
    rw [r3, T2 _ (by omega), T3 _ (by omega), M _ (by omega) (by omega)]
  · show bs_m f p q (p + 16) w = f (q + 16) w
    rw [E _ (by omega)]
    unfold bs_told
    rw [show p + 16 = p + 15 + 1 by omega, r4 w hw, T2 _ (by omega), T3 _ (by omega), M _ (by omega) (by omega)]
  · obtain ⟨c1, c2, c3, c4⟩ := bs_cells_w (f := f) (p := p) (q := q) (j := j) hpq h16 hj
    have K : ∀ r : Nat, p + 17 + 4 * j ≤ r → r < p + 17 + 4 * j + 4 → bs_m f p q r = bs_cells f p q n r := fun r h1 h2 => by
      rw [E r (by omega), bs_told_fr (by omega), ← hX, bs_marks_fr (by omega)]
    refine ⟨fun w hw => ?_, ?_, fun w hw => ?_, fun w hw => ?_⟩
    · show bs_m f p q (p + (17 + 4 * j)) w = f (q + (17 + 4 * j)) w
      rw [K _ (by omega) (by omega), show p + (17 + 4 * j) = p + 17 + 4 * j by omega, c1 w hw, show q + (17 + 4 * j) = q + 17 + 4 * j by omega]
    · show bs_m f p q (p + (17 + 4 * j + 1)) 2 = f (q + (17 + 4 * j + 1)) 2
      rw [K _ (by omega) (by omega), show p + (17 + 4 * j + 1) = p + 17 + 4 * j + 1 by omega, c2, show q + (17 + 4 * j + 1) = q + 17 + 4 * j + 1 by omega]
    · show bs_m f p q (p + (17 + 4 * j + 2)) w = f (q + (17 + 4 * j + 2)) w
      rw [K _ (by omega) (by omega), show p + (17 + 4 * j + 2) = p + 17 + 4 * j + 2 by omega, c3 w hw, show q + (17 + 4 * j + 2) = q + 17 + 4 * j + 2 by omega]
    · show bs_m f p q (p + (17 + 4 * j + 3)) w = f (q + (17 + 4 * j + 3)) w
      rw [K _ (by omega) (by omega), show p + (17 + 4 * j + 3) = p + 17 + 4 * j + 3 by omega, c4 w hw, show q + (17 + 4 * j + 3) = q + 17 + 4 * j + 3 by omega]
  · obtain ⟨⟨c1, c2⟩, c3, c4⟩ := bs_marks_w (f := bs_cells f p q n) (p := p) (q := q) (j := j) hpq (Nat.le_refl 3) hj
    have K : ∀ r : Nat, p + 81 ≤ r → bs_m f p q r = bs_marks (bs_cells f p q n) p q 3 r := fun r h1 => by
      rw [E r (by omega), bs_told_fr (by omega), ← hX]
    refine ⟨⟨?_, ?_⟩, fun w hw => ?_, fun w hw => ?_⟩
    · show bs_m f p q (p + (81 + 3 * j)) 2 = f (q + (81 + 3 * j)) 2
      rw [K _ (by omega), show p + (81 + 3 * j) = p + 81 + 3 * j by omega, c1, C _ (by omega) (by omega), show q + (81 + 3 * j) = q + 81 + 3 * j by omega]
    · show bs_m f p q (p + (81 + 3 * j)) 3 = f (q + (81 + 3 * j)) 3
      rw [K _ (by omega), show p + (81 + 3 * j) = p + 81 + 3 * j by omega, c2, C _ (by omega) (by omega), show q + (81 + 3 * j) = q + 81 + 3 * j by omega]
    · show bs_m f p q (p + (81 + 3 * j + 1)) w = f (q + (81 + 3 * j + 1)) w
      rw [K _ (by omega), show p + (81 + 3 * j + 1) = p + 81 + 3 * j + 1 by omega, c3 w hw, C _ (by omega) (by omega), show q + (81 + 3 * j + 1) = q + 81 + 3 * j + 1 by omega]
    · show bs_m f p q (p + (81 + 3 * j + 2)) w = f (q + (81 + 3 * j + 2)) w
      rw [K _ (by omega), show p + (81 + 3 * j + 2) = p + 81 + 3 * j + 2 by omega, c4 w hw, C _ (by omega) (by omega), show q + (81 + 3 * j + 2) = q + 81 + 3 * j + 2 by omega]
  · rw [E _ (by omega), T1 _ (by omega), show p + 12 = p + 9 + 3 by omega, b0, T3 _ (by omega), ML _ (by omega) (by omega)]
  · rw [E _ (by omega)]
    unfold bs_told
    rw [r0, T2 _ (by omega), T3 _ (by omega), ML _ (by omega) (by omega)]
end C0SAME

end

/-! 94.41.beq.lean.txt -/
section
theorem bs_24_0_q {L : Nat} {xs : Nat → Int32} {f : t2_F} {l : t2_L} {Q : Option fl_V → fl_M → Prop} {p q : Nat} (A : t2_blk l.2 p 24) (B : t2_blk l.2 q 0) (hpq : p + 90 ≤ q ∨ q + 90 ≤ p) (hn : 0 ≤ (f q 5).toInt ∧ (f q 5).toInt ≤ 16) (hz : ∀ j : Nat, (j : Int) < (f q 5).toInt → f (q + 17 + 4 * j) 10 = 0 ∨ f (q + 17 + 4 * j) 10 = 1) (hw : f (q + 9) 6 = 0 ∨ f (q + 9) 6 = 1) (k : Q none (bs_m f p q, l)) : fl_Tq (pw_P L xs) 33 0 (fl_args (am_mxl (pw_P L xs) 33) [.inr (.inr (.inl (25, p))), .inr (.inr (.inl (1, q)))]) [] (f, l) Q := by
  refine bs_A_24_0 A B hpq ?_
  refine t2_for (n := (f q 5).toInt.toNat) (S := fun j => fl_Tq (pw_P L xs) 33 2 [some (.inr (.inr (.inl (25, p)))), some (.inr (.inr (.inl (1, q)))), some (.inl (Int32.ofNat j))] [] (bs_cells f p q j, l) Q) (fun j hj hS => ?_) ?_
  · have hj16 : j < 16 := by omega
    have e : bs_cells f p q j q = f q := bs_cells_fr (by omega)
    refine bs_B_24_0 A B hpq hj16 (by rw [e]; exact t2_lk hj (by omega)) (by rw [bs_cells_fr (by omega)]; exact hz j (by omega)) ?_
    rw [t2_k1]
    exact hS
  · have e : bs_cells f p q (f q 5).toInt.toNat q = f q := bs_cells_fr (by omega)
    refine bs_C_24_0 A B hpq (by rw [e]; exact t2_ln (by omega)) ?_
    refine t2_for (n := 3) (S := fun j => fl_Tq (pw_P L xs) 33 33 [some (.inr (.inr (.inl (25, p)))), some (.inr (.inr (.inl (1, q)))), some (.inl (Int32.ofNat j))] [] (bs_marks (bs_cells f p q (f q 5).toInt.toNat) p q j, l) Q) (fun j hj hS => ?_) ?_
    · refine bs_D_24_0 A B hpq hj (t2_lk hj (by decide +kernel)) ?_
      rw [t2_k1]
      exact hS
    · refine bs_E_24_0 A B hpq (t2_ln (by decide +kernel)) ?_ ?_
      · rw [bc_watch_z_e (by omega), bc_told_fr (by omega), bs_marks_fr (by omega), bs_cells_fr (by omega)]
        exact hw
      · exact bs_F_24_0 A B hpq k
theorem bs_0_24_q {L : Nat} {xs : Nat → Int32} {f : t2_F} {l : t2_L} {Q : Option fl_V → fl_M → Prop} {p q : Nat} (A : t2_blk l.2 p 0) (B : t2_blk l.2 q 24) (hpq : p + 90 ≤ q ∨ q + 90 ≤ p) (hn : 0 ≤ (f q 5).toInt ∧ (f q 5).toInt ≤ 16) (hz : ∀ j : Nat, (j : Int) < (f q 5).toInt → f (q + 17 + 4 * j) 10 = 0 ∨ f (q + 17 + 4 * j) 10 = 1) (hw : f (q + 9) 6 = 0 ∨ f (q + 9) 6 = 1) (k : Q none (bs_m f p q, l)) : fl_Tq (pw_P L xs) 33 0 (fl_args (am_mxl (pw_P L xs) 33) [.inr (.inr (.inl (1, p))), .inr (.inr (.inl (25, q)))]) [] (f, l) Q := by
  refine bs_A_0_24 A B hpq ?_
  refine t2_for (n := (f q 5).toInt.toNat) (S := fun j => fl_Tq (pw_P L xs) 33 2 [some (.inr (.inr (.inl (1, p)))), some (.inr (.inr (.inl (25, q)))), some (.inl (Int32.ofNat j))] [] (bs_cells f p q j, l) Q) (fun j hj hS => ?_) ?_
  · have hj16 : j < 16 := by omega
    have e : bs_cells f p q j q = f q := bs_cells_fr (by omega)
    refine bs_B_0_24 A B hpq hj16 (by rw [e]; exact t2_lk hj (by omega)) (by rw [bs_cells_fr (by omega)]; exact hz j (by omega)) ?_
    rw [t2_k1]
    exact hS
  · have e : bs_cells f p q (f q 5).toInt.toNat q = f q := bs_cells_fr (by omega)
    refine bs_C_0_24 A B hpq (by rw [e]; exact t2_ln (by omega)) ?_
    refine t2_for (n := 3) (S := fun j => fl_Tq (pw_P L xs) 33 33 [some (.inr (.inr (.inl (1, p)))), some (.inr (.inr (.inl (25, q)))), some (.inl (Int32.ofNat j))] [] (bs_marks (bs_cells f p q (f q 5).toInt.toNat) p q j, l) Q) (fun j hj hS => ?_) ?_
    · refine bs_D_0_24 A B hpq hj (t2_lk hj (by decide +kernel)) ?_
      rw [t2_k1]
      exact hS
    · refine bs_E_0_24 A B hpq (t2_ln (by decide +kernel)) ?_ ?_
      · rw [bc_watch_z_e (by omega), bc_told_fr (by omega), bs_marks_fr (by omega), bs_cells_fr (by omega)]
        exact hw
      · exact bs_F_0_24 A B hpq k
theorem bs_48_0_q {L : Nat} {xs : Nat → Int32} {f : t2_F} {l : t2_L} {Q : Option fl_V → fl_M → Prop} {p q : Nat} (A : t2_blk l.2 p 48) (B : t2_blk l.2 q 0) (hpq : p + 90 ≤ q ∨ q + 90 ≤ p) (hn : 0 ≤ (f q 5).toInt ∧ (f q 5).toInt ≤ 16) (hz : ∀ j : Nat, (j : Int) < (f q 5).toInt → f (q + 17 + 4 * j) 10 = 0 ∨ f (q + 17 + 4 * j) 10 = 1) (hw : f (q + 9) 6 = 0 ∨ f (q + 9) 6 = 1) (k : Q none (bs_m f p q, l)) : fl_Tq (pw_P L xs) 33 0 (fl_args (am_mxl (pw_P L xs) 33) [.inr (.inr (.inl (49, p))), .inr (.inr (.inl (1, q)))]) [] (f, l) Q := by
  refine bs_A_48_0 A B hpq ?_
  refine t2_for (n := (f q 5).toInt.toNat) (S := fun j => fl_Tq (pw_P L xs) 33 2 [some (.inr (.inr (.inl (49, p)))), some (.inr (.inr (.inl (1, q)))), some (.inl (Int32.ofNat j))] [] (bs_cells f p q j, l) Q) (fun j hj hS => ?_) ?_
  · have hj16 : j < 16 := by omega
    have e : bs_cells f p q j q = f q := bs_cells_fr (by omega)
    refine bs_B_48_0 A B hpq hj16 (by rw [e]; exact t2_lk hj (by omega)) (by rw [bs_cells_fr (by omega)]; exact hz j (by omega)) ?_
    rw [t2_k1]
    exact hS
  · have e : bs_cells f p q (f q 5).toInt.toNat q = f q := bs_cells_fr (by omega)
    refine bs_C_48_0 A B hpq (by rw [e]; exact t2_ln (by omega)) ?_
    refine t2_for (n := 3) (S := fun j => fl_Tq (pw_P L xs) 33 33 [some (.inr (.inr (.inl (49, p)))), some (.inr (.inr (.inl (1, q)))), some (.inl (Int32.ofNat j))] [] (bs_marks (bs_cells f p q (f q 5).toInt.toNat) p q j, l) Q) (fun j hj hS => ?_) ?_
    · refine bs_D_48_0 A B hpq hj (t2_lk hj (by decide +kernel)) ?_
      rw [t2_k1]
      exact hS
    · refine bs_E_48_0 A B hpq (t2_ln (by decide +kernel)) ?_ ?_
      · rw [bc_watch_z_e (by omega), bc_told_fr (by omega), bs_marks_fr (by omega), bs_cells_fr (by omega)]
        exact hw
      · exact bs_F_48_0 A B hpq k
theorem bs_24_24_q {L : Nat} {xs : Nat → Int32} {f : t2_F} {l : t2_L} {Q : Option fl_V → fl_M → Prop} {p q : Nat} (A : t2_blk l.2 p 24) (B : t2_blk l.2 q 24) (hpq : p + 90 ≤ q ∨ q + 90 ≤ p) (hn : 0 ≤ (f q 5).toInt ∧ (f q 5).toInt ≤ 16) (hz : ∀ j : Nat, (j : Int) < (f q 5).toInt → f (q + 17 + 4 * j) 10 = 0 ∨ f (q + 17 + 4 * j) 10 = 1) (hw : f (q + 9) 6 = 0 ∨ f (q + 9) 6 = 1) (k : Q none (bs_m f p q, l)) : fl_Tq (pw_P L xs) 33 0 (fl_args (am_mxl (pw_P L xs) 33) [.inr (.inr (.inl (25, p))), .inr (.inr (.inl (25, q)))]) [] (f, l) Q := by
  refine bs_A_24_24 A B hpq ?_
  refine t2_for (n := (f q 5).toInt.toNat) (S := fun j => fl_Tq (pw_P L xs) 33 2 [some (.inr (.inr (.inl (25, p)))), some (.inr (.inr (.inl (25, q)))), some (.inl (Int32.ofNat j))] [] (bs_cells f p q j, l) Q) (fun j hj hS => ?_) ?_
  · have hj16 : j < 16 := by omega
    have e : bs_cells f p q j q = f q := bs_cells_fr (by omega)
    refine bs_B_24_24 A B hpq hj16 (by rw [e]; exact t2_lk hj (by omega)) (by rw [bs_cells_fr (by omega)]; exact hz j (by omega)) ?_
    rw [t2_k1]
    exact hS
  · have e : bs_cells f p q (f q 5).toInt.toNat q = f q := bs_cells_fr (by omega)
    refine bs_C_24_24 A B hpq (by rw [e]; exact t2_ln (by omega)) ?_
    refine t2_for (n := 3) (S := fun j => fl_Tq (pw_P L xs) 33 33 [some (.inr (.inr (.inl (25, p)))), some (.inr (.inr (.inl (25, q)))), some (.inl (Int32.ofNat j))] [] (bs_marks (bs_cells f p q (f q 5).toInt.toNat) p q j, l) Q) (fun j hj hS => ?_) ?_
    · refine bs_D_24_24 A B hpq hj (t2_lk hj (by decide +kernel)) ?_
      rw [t2_k1]
      exact hS
    · refine bs_E_24_24 A B hpq (t2_ln (by decide +kernel)) ?_ ?_
      · rw [bc_watch_z_e (by omega), bc_told_fr (by omega), bs_marks_fr (by omega), bs_cells_fr (by omega)]
        exact hw
      · exact bs_F_24_24 A B hpq k

end

/-! 94.42.carry.lean.txt -/
section
/-! ===== block 0: the relation goes over where the words are the same ===== -/
section C0CARRY
variable {F G fr : t2_F} {n : Nat}
theorem c0_I.same (h : c0_I F fr) (e : t2_same (fun o => G (1 + o)) (fun o => F (1 + o)) (fr 280 2).toInt.toNat) (h13 : G 13 0 = (24 : Int32)) (h16 : G 16 0 = (32 : Int32)) : c0_I G fr := by
  have cn := h.cnt
  obtain ⟨⟨⟨g5, g6, g7, g8⟩, ⟨g9, g10, g11, g12⟩, g13, g14, g15, g16⟩, rs, ⟨⟨rk, ⟨z1, z2, z3⟩, ⟨u1, u2, u3⟩, pr, pc, pw⟩, ⟨⟨w3, w4, w5, w6⟩, wh, wc, ⟨b1, b2, b3, b4, b5⟩⟩, ⟨t1, t2, t3, t4, t5⟩, gm⟩, cl, ok⟩ := h
  obtain ⟨e1, ⟨⟨e26, e27, e28⟩, e3, e4, e5, e6, e7, e8⟩, ⟨⟨e93, e94, e95, e96⟩, e10, e11, ⟨e122, e123⟩, e13⟩, ⟨⟨e152, e153⟩, e16⟩, ec, em⟩ := e
  have E1 : ∀ w : Nat, 5 ≤ w → w ≤ 16 → G 1 w = F 1 w := e1
  have E26 : G 3 6 = F 3 6 := e26
  have E27 : G 3 7 = F 3 7 := e27
  have E28 : G 3 8 = F 3 8 := e28
  have E3 : ∀ w : Nat, w < 30 → G 4 w = F 4 w := e3
  have E4 : ∀ w : Nat, w < 3 → G 5 w = F 5 w := e4
  have E5 : ∀ w : Nat, w < 24 → G 6 w = F 6 w := e5
  have E6 : ∀ w : Nat, w < 12 → G 7 w = F 7 w := e6
  have E7 : ∀ w : Nat, w < 48 → G 8 w = F 8 w := e7
  have E8 : ∀ w : Nat, w < 40 → G 9 w = F 9 w := e8
  have E93 : G 10 3 = F 10 3 := e93
  have E94 : G 10 4 = F 10 4 := e94
  have E95 : G 10 5 = F 10 5 := e95
  have E96 : G 10 6 = F 10 6 := e96
  have E10 : ∀ w : Nat, w < 11 → G 11 w = F 11 w := e10
  have E11 : ∀ w : Nat, w < 4 → G 12 w = F 12 w := e11
  have E122 : G 13 2 = F 13 2 := e122
  have E123 : G 13 3 = F 13 3 := e123
  have E13 : ∀ w : Nat, w < 72 → G 14 w = F 14 w := e13
  have E152 : G 16 2 = F 16 2 := e152
  have E153 : G 16 3 = F 16 3 := e153
  have E16 : ∀ w : Nat, w < 96 → G 17 w = F 17 w := e16
  have PL : ∀ m a i : Nat, a < m → i < m → t2_pl m a i < m := fun m a i h1 h2 => by
    unfold t2_pl
    split <;> omega
  have n19 := ok.2.2.2.2.2.1.1
  refine ⟨⟨⟨?_, ?_, ?_, ?_⟩, ⟨?_, ?_, ?_, ?_⟩, ?_, ?_, ?_, ?_⟩, fun k hk => by rw [E3 k hk]; exact rs k hk, ⟨⟨fun k hk => by rw [E4 k hk]; exact rk k hk, ⟨by rw [E26]; exact z1, fun k hk => by rw [E6 k hk]; exact z2 k hk, z3⟩, ⟨by rw [E28]; exact u1, u2, fun j hj => by rw [E8 j (by omega)]; exact u3 j hj⟩, fun k hk => by rw [E5 k hk]; exact pr k hk, by rw [E27]; exact pc, fun j hj => by rw [E7 j (by omega)]; exact pw j hj⟩, ⟨⟨by rw [E93]; exact w3, by rw [E94]; exact w4, by rw [E95]; exact w5, by rw [E96]; exact w6⟩, fun j hj => by rw [E10 j hj]; exact wh j hj, fun j hj => by rw [E11 j hj]; exact wc j hj, ⟨h13, by rw [E122]; exact b2, by rw [E123]; exact b3, b4, fun i hi => ?_⟩⟩, ⟨h16, by rw [E152]; exact t2, by rw [E153]; exact t3, t4, fun i hi => ?_⟩, fun m hm => ?_⟩, fun C hC => ?_, ok⟩
  · rw [E1 5 (by decide) (by decide), g5]
  · rw [E1 6 (by decide) (by decide), g6]
  · rw [E1 7 (by decide) (by decide), g7]
  · rw [E1 8 (by decide) (by decide), g8]
  · rw [E1 9 (by decide) (by decide), g9]
  · rw [E1 10 (by decide) (by decide), g10]
  · rw [E1 11 (by decide) (by decide), g11]
  · rw [E1 12 (by decide) (by decide), g12]
  · rw [E1 13 (by decide) (by decide), g13]
  · rw [E1 14 (by decide) (by decide), g14]
  · rw [E1 15 (by decide) (by decide), g15]
  · rw [E1 16 (by decide) (by decide), g16]
  · have p := PL 24 (F 13 2).toInt.toNat i (by omega) (by omega)
    rw [E122, E13 _ (by omega), E13 _ (by omega)]
    exact b5 i hi
  · have p := PL 32 (F 16 2).toInt.toNat i (by omega) (by omega)
    rw [E152, E16 _ (by omega), E16 _ (by omega)]
    exact t5 i hi
  · obtain ⟨m1, m2, m3, m4⟩ := gm m hm
    obtain ⟨⟨f2, f3⟩, f4, f5⟩ := em m hm
    have F2 : G (1 + (81 + 3 * m)) 2 = F (1 + (81 + 3 * m)) 2 := f2
    have F3 : G (1 + (81 + 3 * m)) 3 = F (1 + (81 + 3 * m)) 3 := f3
    have F4 : ∀ w : Nat, w < 16 → G (1 + (81 + 3 * m + 1)) w = F (1 + (81 + 3 * m + 1)) w := f4
    have F5 : ∀ w : Nat, w < 16 → G (1 + (81 + 3 * m + 2)) w = F (1 + (81 + 3 * m + 2)) w := f5
    rw [show 1 + (81 + 3 * m) = 82 + 3 * m by omega] at F2 F3
    rw [show 1 + (81 + 3 * m + 1) = 83 + 3 * m by omega] at F4
    rw [show 1 + (81 + 3 * m + 2) = 84 + 3 * m by omega] at F5
    refine ⟨by rw [F2]; exact m1, m2, fun q => ⟨(m3 q).1, by rw [F3]; exact (m3 q).2⟩, fun c hc => ?_⟩
    rw [F4 c (by omega), F5 c (by omega)]
    exact m4 c hc
  · have hC' : C < (fr 280 2).toInt.toNat := by omega
    obtain ⟨ra, ⟨m1, m2, m3, m4⟩, ⟨d1, d2⟩, rh, ⟨i1, i2, i3, i4⟩⟩ := cl C hC
    obtain ⟨f1, f2, f3, f4⟩ := ec C hC'
    have F1 : ∀ w : Nat, w < 19 → G (1 + (17 + 4 * C)) w = F (1 + (17 + 4 * C)) w := f1
    have F2 : G (1 + (17 + 4 * C + 1)) 2 = F (1 + (17 + 4 * C + 1)) 2 := f2
    have F3 : ∀ w : Nat, w < 32 → G (1 + (17 + 4 * C + 2)) w = F (1 + (17 + 4 * C + 2)) w := f3
    have F4 : ∀ w : Nat, w < 11 → G (1 + (17 + 4 * C + 3)) w = F (1 + (17 + 4 * C + 3)) w := f4
    rw [show 1 + (17 + 4 * C) = 18 + 4 * C by omega] at F1
    rw [show 1 + (17 + 4 * C + 1) = 19 + 4 * C by omega] at F2
    rw [show 1 + (17 + 4 * C + 2) = 20 + 4 * C by omega] at F3
    rw [show 1 + (17 + 4 * C + 3) = 21 + 4 * C by omega] at F4
    refine ⟨ra.c18 (fun j hj => F1 j (by omega)) (by rw [F1 18 (by decide)]; exact ra.2.2.2.2.2) (fun w _ => rfl), ⟨?_, ?_, ?_, ?_⟩, ⟨?_, fun q => ?_⟩, ?_, ⟨?_, fun i hi => ?_, fun k hk => ?_, i4⟩⟩
    · rw [F1 14 (by decide), m1]
    · rw [F1 15 (by decide), m2]
    · rw [F1 16 (by decide), m3]
    · rw [F1 17 (by decide), m4]
    · rw [F1 10 (by decide), d1]
    · rw [F1 11 (by decide), d2 q]
    · unfold c0_Rh
      rw [F1 10 (by decide), F1 12 (by decide), F1 13 (by decide)]
      exact rh
    · rw [F2, i1]
    · have := i4.1
      rw [F3 i (by omega)]
      exact i2 i hi
    · rw [F4 k hk]
      exact i3 k hk
end C0CARRY

end

/-! 94.43.madex.lean.txt -/
section
/-! ===== a state made, where only what is said of the histories is known ===== -/
section T2MX
variable {L : Nat} {xs : Nat → Int32} {m : fl_M} {Q : Option fl_V → fl_M → Prop}
theorem t2_madeX {q i : Nat} {x : Int32} (hX0 : at_XI m) (hq : q = 272 ∨ q = 274) (hi : i < 20) (h0 : m.1 q i = 0) (hx : x.toInt = 285 + 90 * (m.2.2 : Int)) : m.2.2 < 40 ∧ at_XI (fl_up m.1 q i x, m.2.1, m.2.2 + 1) := by
  have hxne : x ≠ 0 := fun h => by
    rw [h] at hx
    have : (0 : Int32).toInt = 0 := rfl
    omega
  have ne : ∀ p j : Nat, p ≠ q → fl_up m.1 q i x p j = m.1 p j := fun p j e => bl_un (fun h => absurd h e)
  obtain ⟨a1, a2, a3, a4, a5, ⟨a6, a7, a8⟩, a9, a10⟩ := hX0
  have hc : ∀ q', q' = q → at_cnt (fl_up m.1 q i x, m.2.1, m.2.2 + 1) q' = at_cnt m q' + 1 := by
    intro q' e
    subst e
    unfold at_cnt
    rw [at_sum1 (f := at_nzr m q') (g := at_nzr (fl_up m.1 q' i x, m.2.1, m.2.2 + 1) q') (i := i) (fun j hj => by
      unfold at_nzr
      show (if fl_up m.1 q' i x q' j = 0 then 0 else 1) = _
      rw [bl_un (fun _ => hj)]) (by
      unfold at_nzr
      show (if fl_up m.1 q' i x q' i = 0 then 0 else 1) = _
      rw [bl_ue, if_neg hxne, if_pos h0]), if_pos hi]
  have hc2 : ∀ q', q' ≠ q → at_cnt (fl_up m.1 q i x, m.2.1, m.2.2 + 1) q' = at_cnt m q' := by
    intro q' e
    unfold at_cnt at_nzr
    simp only [fun j => ne q' j e]
  have hX : at_XI (fl_up m.1 q i x, m.2.1, m.2.2 + 1) := by
    refine ⟨fun q' hq' i' hi' => ?_, ?_, fun p hp j => ?_, ?_, fun s hs => ?_, ⟨?_, ?_, ?_⟩, fun s hs => ?_, fun p j hp => ?_⟩
    · show fl_up m.1 q i x q' i' = 0 ∨ ∃ j, j < m.2.2 + 1 ∧ (fl_up m.1 q i x q' i').toInt = _
      by_cases e : q' = q ∧ i' = i
      · obtain ⟨rfl, rfl⟩ := e
        rw [bl_ue]
        exact Or.inr ⟨m.2.2, by omega, hx⟩
      · rw [bl_un (fun h h2 => e ⟨h, h2⟩)]
        rcases a1 q' hq' i' hi' with h | ⟨j, hj, h⟩
        · exact Or.inl h
        · exact Or.inr ⟨j, by omega, h⟩
    · show at_cnt _ 272 + at_cnt _ 274 = m.2.2 + 1
      rcases hq with rfl | rfl
      · rw [hc 272 rfl, hc2 274 (by decide)]; omega
      · rw [hc 274 rfl, hc2 272 (by decide)]; omega
    · have hp : fl_N (m.2.2 + 1) ≤ p := hp
      show fl_up m.1 q i x p j = _
      rw [ne p j (by unfold fl_N at hp; omega)]
      exact a3 p (by unfold fl_N at hp ⊢; omega) j
    · exact a4.congr (fun j _ _ => by (try dsimp only); rw [ne 283 _ (by omega)])
    · exact (a5 s hs).congr (fun j _ _ => by (try dsimp only); rw [ne 280 _ (by omega)])
    · exact a6.congr (fun j _ _ => by (try dsimp only); rw [ne 281 _ (by omega)])
    · show 0 ≤ (fl_up m.1 q i x 281 0).toInt ∧ (fl_up m.1 q i x 281 0).toInt ≤ 20
      rw [ne 281 0 (by omega)]; exact a7
    · show 0 ≤ (fl_up m.1 q i x 281 1).toInt ∧ (fl_up m.1 q i x 281 1).toInt ≤ 19
      rw [ne 281 1 (by omega)]; exact a8
    · exact (a9 s hs).congr (fun j _ _ => by (try dsimp only); rw [ne 281 _ (by omega)])
    · show fl_up m.1 q i x p j = _
      rw [ne p j (by omega)]
      exact a10 p j hp
  have h40 := hX.h40
  exact ⟨by have : m.2.2 + 1 ≤ 40 := h40; omega, hX⟩
theorem t2_stateX_q {p i : Nat} {ii : Int32} (hX0 : at_XI m) (hkp : fk_K p = 73) (hi : ii.toInt = i) (hi2 : i < 20)
    (k0 : ∀ j : Nat, j < m.2.2 → (m.1 (p + 1) i).toInt = 285 + 90 * (j : Int) → Q (some (.inr (.inr (.inl (25, 285 + 90 * j))))) m)
    (k1 : ∀ x : Int32, m.1 (p + 1) i = 0 → x.toInt = 285 + 90 * (m.2.2 : Int) → at_XI (fl_up m.1 (p + 1) i x, m.2.1, m.2.2 + 1) → m.2.2 < 40 → Q (some (.inr (.inr (.inl (25, 285 + 90 * m.2.2))))) (fl_up m.1 (p + 1) i x, m.2.1, m.2.2 + 1)) :
    fl_Tq (pw_P L xs) 24 0 (fl_args (am_mxl (pw_P L xs) 24) [.inr (.inr (.inl (73, p))), .inl ii]) [] m Q := by
  have hp := at_K73 (h := 0) hkp
  have hpl : p < 285 := by omega
  have hq : p + 1 = 272 ∨ p + 1 = 274 := by omega
  have hkq : fk_K (p + 1) = 74 := by rcases hp with rfl | rfl <;> decide +kernel
  refine fl_Tq.stp rfl rfl (fl_bo rfl) rfl ?_
  refine fl_Tq.stp rfl rfl (fl_oks_ok ⟨fl_okp hkp hpl, True.intro⟩) rfl ?_
  refine fl_Tq.stp rfl rfl (fl_oks_ok ⟨fl_okp hkq (by show p + 1 < 285; omega), True.intro⟩) rfl ?_
  have e := fun la => at_row (m := m) (pc := 4 + 1) (r := []) (la := la) hq hi hi2
  by_cases h0 : m.1 (p + 1) i = 0
  · -- made now
    rw [if_pos h0] at e
    have k9 : ∀ Q : Option fl_V → fl_M → Prop, fl_Tq (pw_P L xs) 24 9 [some (.inr (.inr (.inl (73, p)))), some (.inl ii)] [] m Q → fl_Tq (pw_P L xs) 24 5 [some (.inr (.inr (.inl (73, p)))), some (.inl ii)] [.inl ii, .inr (.inr (.inl (74, p + 1)))] m Q := fun Q k la hl =>
      am_To.stp (ins := .aaload) (pc := 5) (lv := la) (st := [.int ii, .ref (p + 1)]) (M := fl_H m) (pc' := 6) (lv' := la) (st' := [.null]) (M' := fl_H m) rfl rfl rfl (e la) (am_To.stp (ins := .ifnonnull 16) (pc := 6) (lv := la) (st := [.null]) (M := fl_H m) (pc' := 9) (lv' := la) (st' := []) (M' := fl_H m) rfl rfl rfl rfl (k la hl))
    refine k9 _ ?_
    refine fl_Tq.stp rfl rfl (fl_bo rfl) rfl ?_
    refine fl_Tq.stp rfl rfl (fl_oks_ok ⟨fl_okp hkp hpl, True.intro⟩) rfl ?_
    refine fl_Tq.stp rfl rfl (fl_oks_ok ⟨fl_okp hkq (by show p + 1 < 285; omega), True.intro⟩) rfl ?_
    have hN : (fl_H m).1.length = 285 + 90 * m.2.2 := by unfold fl_H fl_N; simp
    have hh40 := hX0.h40
    obtain ⟨x, hx⟩ : ∃ x : Int32, x.toInt = 285 + 90 * (m.2.2 : Int) := ⟨Int32.ofNat (285 + 90 * m.2.2), by rw [at_ofN (by omega)]; omega⟩
    obtain ⟨g1, g2⟩ := t2_madeX hX0 hq hi2 h0 hx
    obtain ⟨H, eH, l1, l2, l3⟩ := nw_state1 g1
    have em := at_more hX0 l1 l2 l3
    intro la hl
    refine am_To.stp (ins := .new 9) (pc' := 17) (lv' := la) (st' := [.ref (fl_H m).1.length, .int ii, .ref (p + 1)]) (M' := nw_h (fl_H m) ([nw_obj0], 17)) rfl rfl rfl rfl ?_
    refine am_To.stp (ins := .dup) (pc' := 18) (lv' := la) (st' := [.ref (fl_H m).1.length, .ref (fl_H m).1.length, .int ii, .ref (p + 1)]) (M' := nw_h (fl_H m) ([nw_obj0], 17)) rfl rfl rfl rfl ?_
    refine am_To.cal (ins := .invokespecial 36) (mj := 32) (n := 1) rfl rfl rfl ?_
    refine ⟨2000, none, nw_h (fl_H m) H, nw_ev_ok (B := fl_H m) 2000 32 0 _ [] _ none H ?_, ?_⟩
    · rw [hN]
      exact eH
    · rw [em]
      have hrow := at_hrow (m := ((m.1, m.2.1, m.2.2 + 1) : fl_M)) hq
      obtain ⟨n1, n2⟩ := at_in_ok (i := ii) (n := 20) (by omega) (by omega)
      have n3 : ii.toNatClampNeg = i := by omega
      have hN2 : (fl_H (m.1, m.2.1, m.2.2 + 1)).1[285 + 90 * m.2.2]? = some (fl_ob (fk_kd (fk_K (285 + 90 * m.2.2))) (285 + 90 * m.2.2) (m.1 (285 + 90 * m.2.2)) (m.2.1 (285 + 90 * m.2.2))) := fl_get (m := (m.1, m.2.1, m.2.2 + 1)) (by show _ < fl_N (m.2.2 + 1); unfold fl_N; omega)
      rw [at_K25] at hN2
      have exN : x.toNatClampNeg = 285 + 90 * m.2.2 := by
        have : x.toNatClampNeg = x.toInt.toNat := rfl
        omega
      have hxne : x ≠ 0 := fun h => by
        rw [h] at hx
        have : (0 : Int32).toInt = 0 := rfl
        omega
      have es : am_qast (pw_P L xs) 21 la [.ref (285 + 90 * m.2.2), .int ii, .ref (p + 1)] (fl_H (m.1, m.2.1, m.2.2 + 1)) = some (22, la, [], fl_H (fl_up m.1 (p + 1) i x, m.2.1, m.2.2 + 1)) := by
        show ((match (fl_H (m.1, m.2.1, m.2.2 + 1)).1[p + 1]?, (fl_H (m.1, m.2.1, m.2.2 + 1)).1[285 + 90 * m.2.2]? with
          | some (.inl (t, n, .inr (.inr (.inr (.inr f))))), some (.inr (cj, _)) => bif decide (2 ≤ t ∧ t < 5) && (decide (pw_elt t = cj) && am_in ii n) then some (21 + 1, la, [], ((fl_H (m.1, m.2.1, m.2.2 + 1)).1.set (p + 1) (.inl (t, n, .inr (.inr (.inr (.inr (va_up f ii.toNatClampNeg (some (285 + 90 * m.2.2)))))))), (fl_H (m.1, m.2.1, m.2.2 + 1)).2)) else none
          | _, _ => none) : Option am_C) = _
        rw [hrow, hN2]
        show ((bif decide (2 ≤ 4 ∧ 4 < 5) && (decide (pw_elt 4 = 4) && am_in ii 20) then some (21 + 1, la, [], ((fl_H (m.1, m.2.1, m.2.2 + 1)).1.set (p + 1) (.inl (4, 20, .inr (.inr (.inr (.inr (va_up (fun i => if i < 20 then (if m.1 (p + 1) i = 0 then none else some (m.1 (p + 1) i).toNatClampNeg) else none) ii.toNatClampNeg (some (285 + 90 * m.2.2)))))))), (fl_H (m.1, m.2.1, m.2.2 + 1)).2)) else none) : Option am_C) = _
        rw [n1, n3]
        have ef : va_up (fun i => if i < 20 then (if m.1 (p + 1) i = 0 then none else some (m.1 (p + 1) i).toNatClampNeg) else none) i (some (285 + 90 * m.2.2)) = (fun j => if j < 20 then (if upd (m.1 (p + 1)) i x j = 0 then none else some (upd (m.1 (p + 1)) i x j).toNatClampNeg) else none) := by
          funext j
          unfold va_up upd
          by_cases hj : j = i
          · rw [if_pos hj, if_pos hj, if_pos (by omega), if_neg hxne, exN]
          · rw [if_neg hj, if_neg hj]
        rw [ef]
        have hset := fl_setR (m := ((m.1, m.2.1, m.2.2 + 1) : fl_M)) (p := p + 1) (w := upd (m.1 (p + 1)) i x) (by show p + 1 < fl_N (m.2.2 + 1); unfold fl_N; omega)
        rw [hkq] at hset
        rw [fl_up_row]
        show some (22, la, [], ((fl_H (m.1, m.2.1, m.2.2 + 1)).1.set (p + 1) (fl_ob (fk_kd 74) (p + 1) (upd (m.1 (p + 1)) i x) (m.2.1 (p + 1))), (fl_H (m.1, m.2.1, m.2.2 + 1)).2)) = _
        rw [hset]
      refine am_To.stp (ins := .aastore) (pc' := 22) (lv' := la) (st' := []) (M' := fl_H (fl_up m.1 (p + 1) i x, m.2.1, m.2.2 + 1)) rfl rfl rfl ?_ ?_
      · rw [hN]
        exact es
      · refine at_t22 (m := (fl_up m.1 (p + 1) i x, m.2.1, m.2.2 + 1)) (x := 285 + 90 * m.2.2) hkp hpl hkq hq hi hi2 ?_ ?_ (k1 x h0 hx g2 g1) la hl
        · show fl_up m.1 (p + 1) i x (p + 1) i ≠ 0
          rw [bl_ue]
          exact hxne
        · show (fl_up m.1 (p + 1) i x (p + 1) i).toInt = _
          rw [bl_ue, hx]
          omega
  · -- there already
    rw [if_neg h0] at e
    obtain ⟨j, hj, hx⟩ : ∃ j, j < m.2.2 ∧ (m.1 (p + 1) i).toInt = 285 + 90 * (j : Int) := by
      rcases hX0.1 (p + 1) hq i hi2 with h | h
      · exact absurd h h0
      · exact h
    have ex : (m.1 (p + 1) i).toNatClampNeg = 285 + 90 * j := by
      have : (m.1 (p + 1) i).toNatClampNeg = (m.1 (p + 1) i).toInt.toNat := rfl
      omega
    rw [ex] at e
    refine fl_Tq.gen (ins := .aaload) (pc' := 6) (lv' := [some (.inr (.inr (.inl (73, p)))), some (.inl ii)]) (st' := [.inr (.inr (.inl (25, 285 + 90 * j)))]) rfl rfl rfl (fun la hl => ⟨la, e la, hl⟩) ?_
    refine fl_Tq.gen (ins := .ifnonnull 16) (pc' := 22) (lv' := [some (.inr (.inr (.inl (73, p)))), some (.inl ii)]) (st' := []) rfl rfl rfl (fun la hl => ⟨la, rfl, hl⟩) ?_
    have h40 := hX0.h40
    refine at_t22 (x := 285 + 90 * j) hkp hpl hkq hq hi hi2 h0 (by omega) (k0 j hj hx)
end T2MX

end

/-! 94.44.g21.lean.txt -/
section
theorem hk_A {L : Nat} {xs : Nat → Int32} {f : t2_F} {l : t2_L} {Q : Option fl_V → fl_M → Prop}   (k : ((f 271 2).toInt = (20 : Int32).toInt) → fl_Tq (pw_P L xs) 20 28 [some (.inr (.inr (.inl (73, 271)))), some (.inr (.inr (.inl (1, 1))))] [] (fl_row f 271 (upd (upd (f 271) 1 (((f 271 1) + (1 : Int32)) - ((f 271 1) + (1 : Int32)) / (20 : Int32) * (20 : Int32))) 2 ((f 271 2) - (1 : Int32))), l) Q) (k1 : (¬ ((f 271 2).toInt = (20 : Int32).toInt)) → fl_Tq (pw_P L xs) 20 28 [some (.inr (.inr (.inl (73, 271)))), some (.inr (.inr (.inl (1, 1))))] [] (f, l) Q) : fl_Tq (pw_P L xs) 20 0 [some (.inr (.inr (.inl (73, 271)))), some (.inr (.inr (.inl (1, 1))))] [] (f, l) Q := by
  refine fl_Tq.stp (pc' := 1) (lv' := [some (.inr (.inr (.inl (73, 271)))), some (.inr (.inr (.inl (1, 1))))]) (st' := [.inr (.inr (.inl (73, 271)))]) (m' := (f, l)) rfl rfl (fl_bo rfl) rfl ?_
  refine fl_Tq.gfV (k := 2) (v := f 271 2) rfl (fl_bo rfl) rfl rfl ?_
  refine fl_Tq.cB (c := (20 : Int32)) rfl (by decide +kernel) (fl_bo rfl) ?_
  by_cases h1 : (f 271 2).toInt = (20 : Int32).toInt
  · refine fl_Tq.jf rfl (fl_bo rfl) (c2_ne_f h1) rfl ?_
    refine fl_Tq.stp (pc' := 10) (lv' := [some (.inr (.inr (.inl (73, 271)))), some (.inr (.inr (.inl (1, 1))))]) (st' := [.inr (.inr (.inl (73, 271)))]) (m' := (f, l)) rfl rfl (fl_bo rfl) rfl ?_
    refine fl_Tq.stp (pc' := 11) (lv' := [some (.inr (.inr (.inl (73, 271)))), some (.inr (.inr (.inl (1, 1))))]) (st' := [.inr (.inr (.inl (73, 271))), .inr (.inr (.inl (73, 271)))]) (m' := (f, l)) rfl rfl (fl_bo rfl) rfl ?_
    refine fl_Tq.cI (c := (1 : Int32)) rfl (by decide +kernel) (fl_bo rfl) ?_
    refine fl_Tq.cal rfl rfl (fl_bo rfl) rfl ?_
    refine fl_Tq.stp (pc' := 1) (lv' := [some (.inr (.inr (.inl (73, 271)))), some (.inl (1 : Int32))]) (st' := [.inr (.inr (.inl (73, 271)))]) (m' := (f, l)) rfl rfl (fl_bo rfl) rfl ?_
    refine fl_Tq.gfV (k := 1) (v := f 271 1) rfl (fl_bo rfl) rfl rfl ?_
    refine fl_Tq.stp (pc' := 5) (lv' := [some (.inr (.inr (.inl (73, 271)))), some (.inl (1 : Int32))]) (st' := [.inl (1 : Int32), .inl (f 271 1)]) (m' := (f, l)) rfl rfl (fl_bo rfl) rfl ?_
    refine fl_Tq.stp (pc' := 6) (lv' := [some (.inr (.inr (.inl (73, 271)))), some (.inl (1 : Int32))]) (st' := [.inl ((f 271 1) + (1 : Int32))]) (m' := (f, l)) rfl rfl (fl_bo rfl) rfl ?_
    refine fl_Tq.cB (c := (20 : Int32)) rfl (by decide +kernel) (fl_bo rfl) ?_
    refine fl_Tq.rm rfl (fl_bo rfl) (by decide +kernel) ?_
    refine fl_Tq.ret rfl rfl rfl ?_
    show fl_Tq _ 20 15 [some (.inr (.inr (.inl (73, 271)))), some (.inr (.inr (.inl (1, 1))))] [.inl (((f 271 1) + (1 : Int32)) - ((f 271 1) + (1 : Int32)) / (20 : Int32) * (20 : Int32)), .inr (.inr (.inl (73, 271)))] (f, l) _
    refine fl_Tq.pfV (k := 1) (m' := (fl_row f 271 (upd (f 271) 1 (((f 271 1) + (1 : Int32)) - ((f 271 1) + (1 : Int32)) / (20 : Int32) * (20 : Int32))), l)) rfl (fl_bo rfl) rfl (t2_upn rfl) ?_
    refine fl_Tq.stp (pc' := 19) (lv' := [some (.inr (.inr (.inl (73, 271)))), some (.inr (.inr (.inl (1, 1))))]) (st' := [.inr (.inr (.inl (73, 271)))]) (m' := (fl_row f 271 (upd (f 271) 1 (((f 271 1) + (1 : Int32)) - ((f 271 1) + (1 : Int32)) / (20 : Int32) * (20 : Int32))), l)) rfl rfl (fl_bo rfl) rfl ?_
    refine fl_Tq.stp (pc' := 20) (lv' := [some (.inr (.inr (.inl (73, 271)))), some (.inr (.inr (.inl (1, 1))))]) (st' := [.inr (.inr (.inl (73, 271))), .inr (.inr (.inl (73, 271)))]) (m' := (fl_row f 271 (upd (f 271) 1 (((f 271 1) + (1 : Int32)) - ((f 271 1) + (1 : Int32)) / (20 : Int32) * (20 : Int32))), l)) rfl rfl (fl_bo rfl) rfl ?_
    refine fl_Tq.gfV (k := 2) (v := f 271 2) rfl (fl_bo rfl) rfl (by simp only [fl_row_self, upd_ne (by decide : 2 ≠ 1)]) ?_
    refine fl_Tq.cI (c := (1 : Int32)) rfl (by decide +kernel) (fl_bo rfl) ?_
    refine fl_Tq.stp (pc' := 25) (lv' := [some (.inr (.inr (.inl (73, 271)))), some (.inr (.inr (.inl (1, 1))))]) (st' := [.inl ((f 271 2) - (1 : Int32)), .inr (.inr (.inl (73, 271)))]) (m' := (fl_row f 271 (upd (f 271) 1 (((f 271 1) + (1 : Int32)) - ((f 271 1) + (1 : Int32)) / (20 : Int32) * (20 : Int32))), l)) rfl rfl (fl_bo rfl) rfl ?_
    refine fl_Tq.pfV (k := 2) (m' := (fl_row f 271 (upd (upd (f 271) 1 (((f 271 1) + (1 : Int32)) - ((f 271 1) + (1 : Int32)) / (20 : Int32) * (20 : Int32))) 2 ((f 271 2) - (1 : Int32))), l)) rfl (fl_bo rfl) rfl (t2_upr) ?_
    exact k h1
  · refine fl_Tq.jt rfl (fl_bo rfl) (c2_ne_t h1) rfl ?_
    exact k1 h1
theorem hk_B {L : Nat} {xs : Nat → Int32} {f : t2_F} {l : t2_L} {Q : Option fl_V → fl_M → Prop}   (k : fl_Tq (pw_P L xs) 20 37 [some (.inr (.inr (.inl (73, 271)))), some (.inr (.inr (.inl (1, 1))))] [.inl (((f 271 1) + (f 271 2)) - ((f 271 1) + (f 271 2)) / (20 : Int32) * (20 : Int32)), .inr (.inr (.inl (73, 271)))] (f, l) Q) : fl_Tq (pw_P L xs) 20 28 [some (.inr (.inr (.inl (73, 271)))), some (.inr (.inr (.inl (1, 1))))] [] (f, l) Q := by
  refine fl_Tq.stp (pc' := 29) (lv' := [some (.inr (.inr (.inl (73, 271)))), some (.inr (.inr (.inl (1, 1))))]) (st' := [.inr (.inr (.inl (73, 271)))]) (m' := (f, l)) rfl rfl (fl_bo rfl) rfl ?_
  refine fl_Tq.stp (pc' := 30) (lv' := [some (.inr (.inr (.inl (73, 271)))), some (.inr (.inr (.inl (1, 1))))]) (st' := [.inr (.inr (.inl (73, 271))), .inr (.inr (.inl (73, 271)))]) (m' := (f, l)) rfl rfl (fl_bo rfl) rfl ?_
  refine fl_Tq.stp (pc' := 31) (lv' := [some (.inr (.inr (.inl (73, 271)))), some (.inr (.inr (.inl (1, 1))))]) (st' := [.inr (.inr (.inl (73, 271))), .inr (.inr (.inl (73, 271))), .inr (.inr (.inl (73, 271)))]) (m' := (f, l)) rfl rfl (fl_bo rfl) rfl ?_
  refine fl_Tq.gfV (k := 2) (v := f 271 2) rfl (fl_bo rfl) rfl rfl ?_
  refine fl_Tq.cal rfl rfl (fl_bo rfl) rfl ?_
  refine fl_Tq.stp (pc' := 1) (lv' := [some (.inr (.inr (.inl (73, 271)))), some (.inl (f 271 2))]) (st' := [.inr (.inr (.inl (73, 271)))]) (m' := (f, l)) rfl rfl (fl_bo rfl) rfl ?_
  refine fl_Tq.gfV (k := 1) (v := f 271 1) rfl (fl_bo rfl) rfl rfl ?_
  refine fl_Tq.stp (pc' := 5) (lv' := [some (.inr (.inr (.inl (73, 271)))), some (.inl (f 271 2))]) (st' := [.inl (f 271 2), .inl (f 271 1)]) (m' := (f, l)) rfl rfl (fl_bo rfl) rfl ?_
  refine fl_Tq.stp (pc' := 6) (lv' := [some (.inr (.inr (.inl (73, 271)))), some (.inl (f 271 2))]) (st' := [.inl ((f 271 1) + (f 271 2))]) (m' := (f, l)) rfl rfl (fl_bo rfl) rfl ?_
  refine fl_Tq.cB (c := (20 : Int32)) rfl (by decide +kernel) (fl_bo rfl) ?_
  refine fl_Tq.rm rfl (fl_bo rfl) (by decide +kernel) ?_
  refine fl_Tq.ret rfl rfl rfl ?_
  show fl_Tq _ 20 37 [some (.inr (.inr (.inl (73, 271)))), some (.inr (.inr (.inl (1, 1))))] [.inl (((f 271 1) + (f 271 2)) - ((f 271 1) + (f 271 2)) / (20 : Int32) * (20 : Int32)), .inr (.inr (.inl (73, 271)))] (f, l) _
  exact k
theorem hk_C {L : Nat} {xs : Nat → Int32} {f : t2_F} {l : t2_L} {Q : Option fl_V → fl_M → Prop} {d : Nat} (hd : fk_K d = 25 ∧ d < fl_N l.2) (A : t2_blk l.2 d 24) (B : t2_blk l.2 1 0) (hpq : d + 90 ≤ 1 ∨ 1 + 90 ≤ d) (hn : 0 ≤ (f 1 5).toInt ∧ (f 1 5).toInt ≤ 16) (hz : ∀ j : Nat, (j : Int) < (f 1 5).toInt → f (1 + 17 + 4 * j) 10 = 0 ∨ f (1 + 17 + 4 * j) 10 = 1) (hw : f (1 + 9) 6 = 0 ∨ f (1 + 9) 6 = 1) (k : fl_Tq (pw_P L xs) 20 44 [some (.inr (.inr (.inl (73, 271)))), some (.inr (.inr (.inl (1, 1))))] [] (bs_m f d 1, l) Q) : fl_Tq (pw_P L xs) 20 40 [some (.inr (.inr (.inl (73, 271)))), some (.inr (.inr (.inl (1, 1))))] [.inr (.inr (.inl (25, d)))] (f, l) Q := by
  refine fl_Tq.stp (pc' := 41) (lv' := [some (.inr (.inr (.inl (73, 271)))), some (.inr (.inr (.inl (1, 1))))]) (st' := [.inr (.inr (.inl (1, 1))), .inr (.inr (.inl (25, d)))]) (m' := (f, l)) rfl rfl (fl_oks_ok ⟨hd, True.intro⟩) rfl ?_
  refine fl_Tq.cal rfl rfl (fl_oks_ok ⟨fl_okp (by decide +kernel) (by decide), hd, True.intro⟩) rfl ?_
  refine bs_24_0_q A B hpq hn hz hw ?_
  show fl_Tq _ 20 44 [some (.inr (.inr (.inl (73, 271)))), some (.inr (.inr (.inl (1, 1))))] [] (bs_m f d 1, l) _
  exact k
theorem hk_D {L : Nat} {xs : Nat → Int32} {f : t2_F} {l : t2_L} {Q : Option fl_V → fl_M → Prop}   (k : Q none (fl_row f 271 (upd (f 271) 2 ((f 271 2) + (1 : Int32))), l)) : fl_Tq (pw_P L xs) 20 44 [some (.inr (.inr (.inl (73, 271)))), some (.inr (.inr (.inl (1, 1))))] [] (f, l) Q := by
  refine fl_Tq.stp (pc' := 45) (lv' := [some (.inr (.inr (.inl (73, 271)))), some (.inr (.inr (.inl (1, 1))))]) (st' := [.inr (.inr (.inl (73, 271)))]) (m' := (f, l)) rfl rfl (fl_bo rfl) rfl ?_
  refine fl_Tq.stp (pc' := 46) (lv' := [some (.inr (.inr (.inl (73, 271)))), some (.inr (.inr (.inl (1, 1))))]) (st' := [.inr (.inr (.inl (73, 271))), .inr (.inr (.inl (73, 271)))]) (m' := (f, l)) rfl rfl (fl_bo rfl) rfl ?_
  refine fl_Tq.gfV (k := 2) (v := f 271 2) rfl (fl_bo rfl) rfl rfl ?_
  refine fl_Tq.cI (c := (1 : Int32)) rfl (by decide +kernel) (fl_bo rfl) ?_
  refine fl_Tq.stp (pc' := 51) (lv' := [some (.inr (.inr (.inl (73, 271)))), some (.inr (.inr (.inl (1, 1))))]) (st' := [.inl ((f 271 2) + (1 : Int32)), .inr (.inr (.inl (73, 271)))]) (m' := (f, l)) rfl rfl (fl_bo rfl) rfl ?_
  refine fl_Tq.pfV (k := 2) (m' := (fl_row f 271 (upd (f 271) 2 ((f 271 2) + (1 : Int32))), l)) rfl (fl_bo rfl) rfl (t2_upn rfl) ?_
  exact fl_Tq.ret rfl rfl rfl k
theorem hu_A {L : Nat} {xs : Nat → Int32} {f : t2_F} {l : t2_L} {Q : Option fl_V → fl_M → Prop}   (k : fl_Tq (pw_P L xs) 21 20 [some (.inr (.inr (.inl (73, 271)))), some (.inr (.inr (.inl (1, 1))))] [.inl (((f 271 1) + ((f 271 2) - (1 : Int32))) - ((f 271 1) + ((f 271 2) - (1 : Int32))) / (20 : Int32) * (20 : Int32)), .inr (.inr (.inl (73, 271))), .inr (.inr (.inl (1, 1)))] (fl_row f 271 (upd (f 271) 2 ((f 271 2) - (1 : Int32))), l) Q) : fl_Tq (pw_P L xs) 21 0 [some (.inr (.inr (.inl (73, 271)))), some (.inr (.inr (.inl (1, 1))))] [] (f, l) Q := by
  refine fl_Tq.stp (pc' := 1) (lv' := [some (.inr (.inr (.inl (73, 271)))), some (.inr (.inr (.inl (1, 1))))]) (st' := [.inr (.inr (.inl (73, 271)))]) (m' := (f, l)) rfl rfl (fl_bo rfl) rfl ?_
  refine fl_Tq.stp (pc' := 2) (lv' := [some (.inr (.inr (.inl (73, 271)))), some (.inr (.inr (.inl (1, 1))))]) (st' := [.inr (.inr (.inl (73, 271))), .inr (.inr (.inl (73, 271)))]) (m' := (f, l)) rfl rfl (fl_bo rfl) rfl ?_
  refine fl_Tq.gfV (k := 2) (v := f 271 2) rfl (fl_bo rfl) rfl rfl ?_
  refine fl_Tq.cI (c := (1 : Int32)) rfl (by decide +kernel) (fl_bo rfl) ?_
  refine fl_Tq.stp (pc' := 7) (lv' := [some (.inr (.inr (.inl (73, 271)))), some (.inr (.inr (.inl (1, 1))))]) (st' := [.inl ((f 271 2) - (1 : Int32)), .inr (.inr (.inl (73, 271)))]) (m' := (f, l)) rfl rfl (fl_bo rfl) rfl ?_
  refine fl_Tq.pfV (k := 2) (m' := (fl_row f 271 (upd (f 271) 2 ((f 271 2) - (1 : Int32))), l)) rfl (fl_bo rfl) rfl (t2_upn rfl) ?_
  refine fl_Tq.stp (pc' := 11) (lv' := [some (.inr (.inr (.inl (73, 271)))), some (.inr (.inr (.inl (1, 1))))]) (st' := [.inr (.inr (.inl (1, 1)))]) (m' := (fl_row f 271 (upd (f 271) 2 ((f 271 2) - (1 : Int32))), l)) rfl rfl (fl_bo rfl) rfl ?_
  refine fl_Tq.stp (pc' := 12) (lv' := [some (.inr (.inr (.inl (73, 271)))), some (.inr (.inr (.inl (1, 1))))]) (st' := [.inr (.inr (.inl (73, 271))), .inr (.inr (.inl (1, 1)))]) (m' := (fl_row f 271 (upd (f 271) 2 ((f 271 2) - (1 : Int32))), l)) rfl rfl (fl_bo rfl) rfl ?_
  refine fl_Tq.stp (pc' := 13) (lv' := [some (.inr (.inr (.inl (73, 271)))), some (.inr (.inr (.inl (1, 1))))]) (st' := [.inr (.inr (.inl (73, 271))), .inr (.inr (.inl (73, 271))), .inr (.inr (.inl (1, 1)))]) (m' := (fl_row f 271 (upd (f 271) 2 ((f 271 2) - (1 : Int32))), l)) rfl rfl (fl_bo rfl) rfl ?_
  refine fl_Tq.stp (pc' := 14) (lv' := [some (.inr (.inr (.inl (73, 271)))), some (.inr (.inr (.inl (1, 1))))]) (st' := [.inr (.inr (.inl (73, 271))), .inr (.inr (.inl (73, 271))), .inr (.inr (.inl (73, 271))), .inr (.inr (.inl (1, 1)))]) (m' := (fl_row f 271 (upd (f 271) 2 ((f 271 2) - (1 : Int32))), l)) rfl rfl (fl_bo rfl) rfl ?_
  refine fl_Tq.gfV (k := 2) (v := (f 271 2) - (1 : Int32)) rfl (fl_bo rfl) rfl (by simp only [fl_row_self, upd_self]) ?_
  refine fl_Tq.cal rfl rfl (fl_bo rfl) rfl ?_
  refine fl_Tq.stp (pc' := 1) (lv' := [some (.inr (.inr (.inl (73, 271)))), some (.inl ((f 271 2) - (1 : Int32)))]) (st' := [.inr (.inr (.inl (73, 271)))]) (m' := (fl_row f 271 (upd (f 271) 2 ((f 271 2) - (1 : Int32))), l)) rfl rfl (fl_bo rfl) rfl ?_
  refine fl_Tq.gfV (k := 1) (v := f 271 1) rfl (fl_bo rfl) rfl (by simp only [fl_row_self, upd_ne (by decide : 1 ≠ 2)]) ?_
  refine fl_Tq.stp (pc' := 5) (lv' := [some (.inr (.inr (.inl (73, 271)))), some (.inl ((f 271 2) - (1 : Int32)))]) (st' := [.inl ((f 271 2) - (1 : Int32)), .inl (f 271 1)]) (m' := (fl_row f 271 (upd (f 271) 2 ((f 271 2) - (1 : Int32))), l)) rfl rfl (fl_bo rfl) rfl ?_
  refine fl_Tq.stp (pc' := 6) (lv' := [some (.inr (.inr (.inl (73, 271)))), some (.inl ((f 271 2) - (1 : Int32)))]) (st' := [.inl ((f 271 1) + ((f 271 2) - (1 : Int32)))]) (m' := (fl_row f 271 (upd (f 271) 2 ((f 271 2) - (1 : Int32))), l)) rfl rfl (fl_bo rfl) rfl ?_
  refine fl_Tq.cB (c := (20 : Int32)) rfl (by decide +kernel) (fl_bo rfl) ?_
  refine fl_Tq.rm rfl (fl_bo rfl) (by decide +kernel) ?_
  refine fl_Tq.ret rfl rfl rfl ?_
  show fl_Tq _ 21 20 [some (.inr (.inr (.inl (73, 271)))), some (.inr (.inr (.inl (1, 1))))] [.inl (((f 271 1) + ((f 271 2) - (1 : Int32))) - ((f 271 1) + ((f 271 2) - (1 : Int32))) / (20 : Int32) * (20 : Int32)), .inr (.inr (.inl (73, 271))), .inr (.inr (.inl (1, 1)))] (fl_row f 271 (upd (f 271) 2 ((f 271 2) - (1 : Int32))), l) _
  exact k
theorem hu_B {L : Nat} {xs : Nat → Int32} {f : t2_F} {l : t2_L} {Q : Option fl_V → fl_M → Prop} {d : Nat} (hd : fk_K d = 25 ∧ d < fl_N l.2) (A : t2_blk l.2 1 0) (B : t2_blk l.2 d 24) (hpq : 1 + 90 ≤ d ∨ d + 90 ≤ 1) (hn : 0 ≤ (f d 5).toInt ∧ (f d 5).toInt ≤ 16) (hz : ∀ j : Nat, (j : Int) < (f d 5).toInt → f (d + 17 + 4 * j) 10 = 0 ∨ f (d + 17 + 4 * j) 10 = 1) (hw : f (d + 9) 6 = 0 ∨ f (d + 9) 6 = 1) (k : fl_Tq (pw_P L xs) 21 26 [some (.inr (.inr (.inl (73, 271)))), some (.inr (.inr (.inl (1, 1))))] [] (bs_m f 1 d, l) Q) : fl_Tq (pw_P L xs) 21 23 [some (.inr (.inr (.inl (73, 271)))), some (.inr (.inr (.inl (1, 1))))] [.inr (.inr (.inl (25, d))), .inr (.inr (.inl (1, 1)))] (f, l) Q := by
  refine fl_Tq.cal rfl rfl (fl_oks_ok ⟨hd, fl_okp (by decide +kernel) (by decide), True.intro⟩) rfl ?_
  refine bs_0_24_q A B hpq hn hz hw ?_
  show fl_Tq _ 21 26 [some (.inr (.inr (.inl (73, 271)))), some (.inr (.inr (.inl (1, 1))))] [] (bs_m f 1 d, l) _
  exact k

end

/-! 94.45.keep.lean.txt -/
section
/-! ===== History.keep, run ===== -/
section T2KEEP
variable {L : Nat} {xs : Nat → Int32} {f : t2_F} {l : t2_L} {Q : Option fl_V → fl_M → Prop}
theorem t2_mod20 {a b : Int32} (ha : 0 ≤ a.toInt ∧ a.toInt ≤ 20) (hb : 0 ≤ b.toInt ∧ b.toInt ≤ 20) : ((a + b) - (a + b) / (20 : Int32) * (20 : Int32)).toInt = (a.toInt + b.toInt) % 20 := by
  have c20 : (20 : Int32).toInt = 20 := by decide +kernel
  have e : (a + b).toInt = a.toInt + b.toInt := at_add32 (by omega) (by omega)
  have := (t2_irem (T := a + b) (l := (20 : Int32)) (by omega) (by omega)).1
  rw [this, e, c20]
/-- what is left of the histories by a keep at place i, in the block d -/
def t2_kept (f g : t2_F) (l l' : t2_L) (q i d : Nat) : Prop :=
  l'.1 = l.1 ∧ ((l'.2 = l.2 ∧ (f (q + 1) i).toInt = d ∧ ∃ j, j < l.2 ∧ d = 285 + 90 * j) ∨ (l'.2 = l.2 + 1 ∧ f (q + 1) i = 0 ∧ d = 285 + 90 * l.2 ∧ l.2 < 40)) ∧
  (g (q + 1) i).toInt = d ∧ (∀ k : Nat, k ≠ i → g (q + 1) k = f (q + 1) k)
theorem hk_q (hX : at_XI (f, l)) (hF : 0 ≤ (f 271 1).toInt ∧ (f 271 1).toInt ≤ 19) (hc : 0 ≤ (f 271 2).toInt ∧ (f 271 2).toInt ≤ 20) (hn : 0 ≤ (f 1 5).toInt ∧ (f 1 5).toInt ≤ 16) (hz : ∀ j : Nat, (j : Int) < (f 1 5).toInt → f (1 + 17 + 4 * j) 10 = 0 ∨ f (1 + 17 + 4 * j) 10 = 1) (hw : f (1 + 9) 6 = 0 ∨ f (1 + 9) 6 = 1)
    (k : ∀ (g : t2_F) (l' : t2_L) (i d : Nat), (i : Int) = ((f 271 1).toInt + (f 271 2).toInt) % 20 → t2_kept f g l l' 271 i d → (g 271 2).toInt = min ((f 271 2).toInt + 1) 20 → (g 271 1).toInt = (if (f 271 2).toInt = 20 then ((f 271 1).toInt + 1) % 20 else (f 271 1).toInt) → (∀ r : Nat, r ≠ 271 → r ≠ 272 → (r < d ∨ d + 90 ≤ r) → g r = f r) → t2_same (fun o => g (d + o)) (fun o => f (1 + o)) (f 1 5).toInt.toNat → g (d + 12) 0 = f (d + 12) 0 → g (d + 15) 0 = f (d + 15) 0 → Q none (g, l')) :
    fl_Tq (pw_P L xs) 20 0 (fl_args (am_mxl (pw_P L xs) 20) [.inr (.inr (.inl (73, 271))), .inr (.inr (.inl (1, 1)))]) [] (f, l) Q := by
  have c20 : (20 : Int32).toInt = 20 := by decide +kernel
  have c1 : (1 : Int32).toInt = 1 := by decide +kernel
  -- from 28 on
  have go : ∀ F : t2_F, (∀ r : Nat, r ≠ 271 → F r = f r) → 0 ≤ (F 271 1).toInt ∧ (F 271 1).toInt ≤ 19 → 0 ≤ (F 271 2).toInt ∧ (F 271 2).toInt ≤ 19 → ((F 271 1).toInt + (F 271 2).toInt) % 20 = ((f 271 1).toInt + (f 271 2).toInt) % 20 → (F 271 2).toInt + 1 = min ((f 271 2).toInt + 1) 20 → (F 271 1).toInt = (if (f 271 2).toInt = 20 then ((f 271 1).toInt + 1) % 20 else (f 271 1).toInt) → fl_Tq (pw_P L xs) 20 28 [some (.inr (.inr (.inl (73, 271)))), some (.inr (.inr (.inl (1, 1))))] [] (F, l) Q := by
    intro F hFr f1 f2 fi fc ff
    have X : at_XI (F, l) := at_XI.keep hX rfl (fun p j hp => by
      show F p j = f p j
      rw [hFr p (by
        rcases hp with h | h | h | h | h | h | h | h
        · omega
        · omega
        · unfold fl_N at h; omega
        · omega
        · omega
        · omega
        · omega
        · omega)])
    have md := t2_mod20 (a := F 271 1) (b := F 271 2) (by omega) (by omega)
    refine hk_B ?_
    refine fl_Tq.cal rfl rfl (fl_bo rfl) rfl ?_
    -- the end, whatever block it is
    have fin : ∀ (G : t2_F) (l' : t2_L) (d : Nat), t2_blk l'.2 d 24 → 285 ≤ d → (∀ r : Nat, r ≠ 272 → G r = F r) → t2_kept f (fl_row (bs_m G d 1) 271 (upd ((bs_m G d 1) 271) 2 ((bs_m G d 1) 271 2 + (1 : Int32)))) l l' 271 ((((F 271 1).toInt + (F 271 2).toInt) % 20).toNat) d → fl_Tq (pw_P L xs) 20 40 [some (.inr (.inr (.inl (73, 271)))), some (.inr (.inr (.inl (1, 1))))] [.inr (.inr (.inl (25, d)))] (G, l') Q := by
      intro G l' d B hd hG hkk
      have e1 : G 1 = f 1 := by rw [hG _ (by decide), hFr _ (by decide)]
      have hn' : 0 ≤ (G 1 5).toInt ∧ (G 1 5).toInt ≤ 16 := by rw [e1]; exact hn
      have en : (G 1 5).toInt.toNat = (f 1 5).toInt.toNat := by rw [e1]
      have S := bs_same (f := G) (p := d) (q := 1) (by omega) hn'
      have fr : ∀ r : Nat, r < d ∨ d + 90 ≤ r → bs_m G d 1 r = G r := fun r hr => bs_fr hn' hr
      refine hk_C ⟨(B.place 0 25 (by decide) (by decide +kernel)).1, (B.place 0 25 (by decide) (by decide +kernel)).2⟩ B t2_blk_now (by omega) hn' (fun j hj => ?_) (by rw [hG _ (by decide), hFr _ (by decide)]; exact hw) ?_
      · rw [hG _ (by rw [e1] at hj; omega), hFr _ (by rw [e1] at hj; omega)]
        exact hz j (by rw [← e1]; exact hj)
      · refine hk_D ?_
        have g2 : bs_m G d 1 271 = F 271 := by rw [fr _ (by omega), hG _ (by decide)]
        refine k _ l' _ d (by omega) hkk ?_ ?_ (fun r h1 h2 h3 => ?_) ?_ ?_ ?_
        · rw [fl_row_self, upd_self, g2, at_add32 (by omega) (by omega), c1]
          omega
        · rw [fl_row_self, upd_ne (by decide), g2]
          exact ff
        · rw [fl_row_ne h1, fr r h3, hG r h2, hFr r h1]
        · have S1 := S.1
          rw [en] at S1
          have es : (fun o => fl_row (bs_m G d 1) 271 (upd ((bs_m G d 1) 271) 2 ((bs_m G d 1) 271 2 + (1 : Int32))) (d + o)) = (fun o => bs_m G d 1 (d + o)) := by
            funext o
            rw [fl_row_ne (by omega)]
          rw [es]
          exact S1.src (fun o ho => by show G (1 + o) = f (1 + o); rw [hG _ (by omega), hFr _ (by omega)]) (by omega)
        · rw [fl_row_ne (by omega), S.2.1, hG _ (by omega), hFr _ (by omega)]
        · rw [fl_row_ne (by omega), S.2.2, hG _ (by omega), hFr _ (by omega)]
    refine t2_stateX_q (p := 271) (i := (((F 271 1).toInt + (F 271 2).toInt) % 20).toNat) X (by decide +kernel) (by omega) (by omega) (fun j hj hx => ?_) (fun x h0 hx hX2 h40 => ?_)
    · have hx' : (F 272 (((F 271 1).toInt + (F 271 2).toInt) % 20).toNat).toInt = 285 + 90 * (j : Int) := hx
      have B : t2_blk l.2 (285 + 90 * j) 24 := t2_blk_made hj
      refine fin F l (285 + 90 * j) B (by omega) (fun r _ => rfl) ⟨rfl, Or.inl ⟨rfl, ?_, j, hj, rfl⟩, ?_, fun k' hk' => ?_⟩
      · show (f 272 _).toInt = _
        rw [← hFr 272 (by decide), hx']
        omega
      · show (fl_row (bs_m F (285 + 90 * j) 1) 271 _ 272 _).toInt = _
        have e1 : F 1 = f 1 := hFr _ (by decide)
        rw [fl_row_ne (by decide), bs_fr (by rw [e1]; exact hn) (by omega), hx']
        omega
      · show fl_row (bs_m F (285 + 90 * j) 1) 271 _ 272 k' = f 272 k'
        have e1 : F 1 = f 1 := hFr _ (by decide)
        rw [fl_row_ne (by decide), bs_fr (by rw [e1]; exact hn) (by omega), hFr _ (by decide)]
    · have h0' : F 272 (((F 271 1).toInt + (F 271 2).toInt) % 20).toNat = 0 := h0
      have hx' : x.toInt = 285 + 90 * (l.2 : Int) := hx
      have h40' : l.2 < 40 := h40
      have gr : ∀ r : Nat, r ≠ 272 → fl_up F 272 (((F 271 1).toInt + (F 271 2).toInt) % 20).toNat x r = F r := fun r hr => by
        funext w
        exact bl_un (fun h => absurd h hr)
      refine fin (fl_up F 272 (((F 271 1).toInt + (F 271 2).toInt) % 20).toNat x) (l.1, l.2 + 1) (285 + 90 * l.2) (t2_blk_made (Nat.lt_succ_self _)) (by omega) gr ⟨rfl, Or.inr ⟨rfl, ?_, rfl, h40'⟩, ?_, fun k' hk' => ?_⟩
      · show f 272 _ = 0
        rw [← hFr 272 (by decide)]
        exact h0'
      · show (fl_row (bs_m _ (285 + 90 * l.2) 1) 271 _ 272 _).toInt = _
        have e1 : fl_up F 272 (((F 271 1).toInt + (F 271 2).toInt) % 20).toNat x 1 = f 1 := by rw [gr _ (by decide), hFr _ (by decide)]
        rw [fl_row_ne (by decide), bs_fr (by rw [e1]; exact hn) (by omega), bl_ue, hx']
        omega
      · show fl_row (bs_m _ (285 + 90 * l.2) 1) 271 _ 272 k' = f 272 k'
        have e1 : fl_up F 272 (((F 271 1).toInt + (F 271 2).toInt) % 20).toNat x 1 = f 1 := by rw [gr _ (by decide), hFr _ (by decide)]
        rw [fl_row_ne (by decide), bs_fr (by rw [e1]; exact hn) (by omega), bl_un (fun _ => hk'), hFr _ (by decide)]
  show fl_Tq (pw_P L xs) 20 0 [some (.inr (.inr (.inl (73, 271)))), some (.inr (.inr (.inl (1, 1))))] [] (f, l) Q
  refine hk_A (fun e => ?_) (fun e => ?_)
  · have md := t2_mod20 (a := f 271 1) (b := (1 : Int32)) (by omega) (by omega)
    have s : ((f 271 2) - (1 : Int32)).toInt = (f 271 2).toInt - 1 := by rw [at_sub32 (by omega) (by omega), c1]
    rw [c1] at md
    refine go _ (fun r hr => fl_row_ne hr) ?_ ?_ ?_ ?_ ?_
    · rw [fl_row_self, upd_ne (by decide), upd_self, md]
      omega
    · rw [fl_row_self, upd_self, s]
      omega
    · rw [fl_row_self, upd_ne (by decide), upd_self, upd_self, md, s]
      omega
    · rw [fl_row_self, upd_self, s]
      omega
    · rw [fl_row_self, upd_ne (by decide), upd_self, md, if_pos (by omega)]
  · refine go f (fun r _ => rfl) hF ?_ rfl ?_ ?_
    · omega
    · omega
    · rw [if_neg (by omega)]
/-- takeBackInto -/
theorem hu_q {i j : Nat} (hX : at_XI (f, l)) (hF : 0 ≤ (f 271 1).toInt ∧ (f 271 1).toInt ≤ 19) (hc : 1 ≤ (f 271 2).toInt ∧ (f 271 2).toInt ≤ 20) (hi : (i : Int) = ((f 271 1).toInt + ((f 271 2).toInt - 1)) % 20) (hj : j < l.2) (hd : (f 272 i).toInt = 285 + 90 * (j : Int)) (hn : 0 ≤ (f (285 + 90 * j) 5).toInt ∧ (f (285 + 90 * j) 5).toInt ≤ 16) (hz : ∀ c : Nat, (c : Int) < (f (285 + 90 * j) 5).toInt → f (285 + 90 * j + 17 + 4 * c) 10 = 0 ∨ f (285 + 90 * j + 17 + 4 * c) 10 = 1) (hw : f (285 + 90 * j + 9) 6 = 0 ∨ f (285 + 90 * j + 9) 6 = 1)
    (k : ∀ g : t2_F, (g 271 2).toInt = (f 271 2).toInt - 1 → g 271 1 = f 271 1 → (∀ r : Nat, r ≠ 271 → 91 ≤ r → g r = f r) → g 0 = f 0 → t2_same (fun o => g (1 + o)) (fun o => f (285 + 90 * j + o)) (f (285 + 90 * j) 5).toInt.toNat → g 13 0 = f 13 0 → g 16 0 = f 16 0 → Q none (g, l)) :
    fl_Tq (pw_P L xs) 21 0 (fl_args (am_mxl (pw_P L xs) 21) [.inr (.inr (.inl (73, 271))), .inr (.inr (.inl (1, 1)))]) [] (f, l) Q := by
  have c20 : (20 : Int32).toInt = 20 := by decide +kernel
  have c1 : (1 : Int32).toInt = 1 := by decide +kernel
  have s : ((f 271 2) - (1 : Int32)).toInt = (f 271 2).toInt - 1 := by rw [at_sub32 (by omega) (by omega), c1]
  have md := t2_mod20 (a := f 271 1) (b := (f 271 2) - (1 : Int32)) (by omega) (by omega)
  show fl_Tq (pw_P L xs) 21 0 [some (.inr (.inr (.inl (73, 271)))), some (.inr (.inr (.inl (1, 1))))] [] (f, l) Q
  refine hu_A ?_
  generalize hG : fl_row f 271 (upd (f 271) 2 ((f 271 2) - (1 : Int32))) = G
  have Gr : ∀ r : Nat, r ≠ 271 → G r = f r := fun r hr => by rw [← hG, fl_row_ne hr]
  have X : at_XI (G, l) := at_XI.keep hX rfl (fun p j hp => by
    show G p j = f p j
    rw [Gr p (by
      rcases hp with h | h | h | h | h | h | h | h
      · omega
      · omega
      · unfold fl_N at h; omega
      · omega
      · omega
      · omega
      · omega
      · omega)])
  have B : t2_blk l.2 (285 + 90 * j) 24 := t2_blk_made hj
  refine fl_Tq.cal rfl rfl (fl_bo rfl) rfl ?_
  refine t2_stateX_q (p := 271) (i := i) X (by decide +kernel) (by rw [md, s]; omega) (by omega) (fun j' hj' hx => ?_) (fun x h0 => ?_)
  · have hx' : (G 272 i).toInt = 285 + 90 * (j' : Int) := hx
    rw [Gr 272 (by decide), hd] at hx'
    have : j' = j := by omega
    subst this
    have ed : G (285 + 90 * j') = f (285 + 90 * j') := Gr _ (by omega)
    have hn' : 0 ≤ (G (285 + 90 * j') 5).toInt ∧ (G (285 + 90 * j') 5).toInt ≤ 16 := by rw [ed]; exact hn
    have S := bs_same (f := G) (p := 1) (q := 285 + 90 * j') (by omega) hn'
    refine hu_B (d := 285 + 90 * j') ⟨(B.place 0 25 (by decide) (by decide +kernel)).1, (B.place 0 25 (by decide) (by decide +kernel)).2⟩ t2_blk_now B (by omega) hn' (fun c hcc => ?_) (by rw [Gr _ (by omega)]; exact hw) ?_
    · rw [Gr _ (by omega)]
      exact hz c (by rw [← ed]; exact hcc)
    · refine fl_Tq.ret rfl rfl rfl (k _ ?_ ?_ (fun r h1 h2 => ?_) ?_ ?_ ?_ ?_)
      · rw [bs_fr hn' (by omega), ← hG, fl_row_self, upd_self, s]
      · rw [bs_fr hn' (by omega), ← hG, fl_row_self, upd_ne (by decide)]
      · rw [bs_fr hn' (by omega), Gr r h1]
      · rw [bs_fr hn' (by omega), Gr 0 (by decide)]
      · have S1 := S.1
        rw [ed] at S1
        exact S1.src (fun o ho => by show G (285 + 90 * j' + o) = f (285 + 90 * j' + o); rw [Gr _ (by omega)]) (by omega)
      · have := S.2.1
        rw [Gr (1 + 12) (by decide)] at this
        exact this
      · have := S.2.2
        rw [Gr (1 + 15) (by decide)] at this
        exact this
  · have h0' : G 272 i = 0 := h0
    rw [Gr 272 (by decide)] at h0'
    rw [h0'] at hd
    have c0 : (0 : Int32).toInt = 0 := rfl
    omega
end T2KEEP

end

/-! 94.46.rkeep.lean.txt -/
section
/-! ===== the reference's keep, as a function ===== -/
section T2RK
variable {L : Nat} {xs : Nat → Int32} {m : fl_M} {Q : Option fl_V → fl_M → Prop}
theorem r_keep_q (w0 : 0 ≤ (m.1 280 0).toInt ∧ (m.1 280 0).toInt ≤ 20) (w1 : 0 ≤ (m.1 280 1).toInt ∧ (m.1 280 1).toInt ≤ 19)
    (k : ∀ (g : t2_F) (s : Nat), s < 20 → (s : Int) = ((m.1 280 1).toInt + (m.1 280 0).toInt) % 20 → (∀ p : Nat, p ≠ 280 → g p = m.1 p) → (∀ j : Nat, 2 ≤ j → (j < 1420 + 1418 * s ∨ 1420 + 1418 * s + 1418 ≤ j) → g 280 j = m.1 280 j) → (∀ j : Nat, j < 1418 → g 280 (1420 + 1418 * s + j) = m.1 280 (2 + j)) → (g 280 0).toInt = min ((m.1 280 0).toInt + 1) 20 → (g 280 1).toInt = (if (m.1 280 0).toInt = 20 then ((m.1 280 1).toInt + 1) % 20 else (m.1 280 1).toInt) → Q none (g, m.2)) :
    fl_Tq (pw_P L xs) 241 0 (fl_args (am_mxl (pw_P L xs) 241) [.inr (.inr (.inl (76, 277)))]) [] m Q := by
  have e1 : (Int32.ofInt 1).toInt = 1 := rfl
  -- from place 38 on
  have tail : ∀ m1 : fl_M, m1.2 = m.2 → (∀ p j : Nat, (p = 280 → 2 ≤ j) → m1.1 p j = m.1 p j) → (0 ≤ (m1.1 280 0).toInt ∧ (m1.1 280 0).toInt ≤ 19) → (0 ≤ (m1.1 280 1).toInt ∧ (m1.1 280 1).toInt ≤ 19) →
      ((m1.1 280 1).toInt + (m1.1 280 0).toInt) % 20 = ((m.1 280 1).toInt + (m.1 280 0).toInt) % 20 → (m1.1 280 0).toInt + 1 = min ((m.1 280 0).toInt + 1) 20 → (m1.1 280 1).toInt = (if (m.1 280 0).toInt = 20 then ((m.1 280 1).toInt + 1) % 20 else (m.1 280 1).toInt) → fl_Tq (pw_P L xs) 241 38 (fl_args (am_mxl (pw_P L xs) 241) [at_this]) [] m1 Q := by
    intro m1 eh1 ne1 x0 x1 y0 y1 y2
    refine fl_Tq.stp rfl rfl (fl_bo rfl) rfl ?_
    refine fl_Tq.stp rfl rfl (fl_bo rfl) rfl ?_
    refine fl_Tq.stp rfl rfl (fl_bo rfl) rfl ?_
    refine fl_Tq.ld (p := 280) (τ := 79) (n := 29780) (z := (0, 0, 0)) (k := 1) rfl (fl_bo rfl) rfl rfl (by decide) ?_
    refine fl_Tq.stp rfl rfl (fl_bo rfl) rfl ?_
    refine fl_Tq.stp rfl rfl (fl_bo rfl) rfl ?_
    refine fl_Tq.stp rfl rfl (fl_bo rfl) rfl ?_
    refine fl_Tq.ld (p := 280) (τ := 79) (n := 29780) (z := (0, 0, 0)) (k := 0) rfl (fl_bo rfl) rfl rfl (by decide) ?_
    refine fl_Tq.cal rfl rfl (fl_bo rfl) rfl ?_
    refine at_st240 (x := m1.1 280 1) (y := m1.1 280 0) (by omega) (by omega) (fun v hv => ?_)
    obtain ⟨s, hs, hsn⟩ : ∃ s : Nat, s < 20 ∧ v.toInt = ((1420 + 1418 * s : Nat) : Int) := ⟨(((m1.1 280 1).toInt + (m1.1 280 0).toInt) % 20).toNat, by omega, by omega⟩
    have hss : (s : Int) = ((m.1 280 1).toInt + (m.1 280 0).toInt) % 20 := by omega
    refine fl_Tq.stp rfl rfl (fl_bo rfl) rfl ?_
    refine fl_Tq.stp rfl rfl (fl_bo rfl) rfl ?_
    refine fl_Tq.stp rfl rfl (fl_bo rfl) rfl ?_
    have hR : ∀ Q : Option fl_V → fl_M → Prop, (∀ m2, m2 = bl_cp 280 2 280 (1420 + 1418 * s) 1418 m1 → Q none (fl_up m2.1 280 0 (m2.1 280 0 + Int32.ofInt 1), m2.2)) → fl_Tq (pw_P L xs) 241 56 [some (.inr (.inr (.inl (76, 277)))), some (.inl v), some (.inl (Int32.ofNat 0))] [] m1 Q := by
      intro Q k
      have loop : ∀ (d n : Nat), n + d = 1418 → fl_Tq (pw_P L xs) 241 56 [some (.inr (.inr (.inl (76, 277)))), some (.inl v), some (.inl (Int32.ofNat n))] [] (bl_cp 280 2 280 (1420 + 1418 * s) n m1) Q := by
        intro d
        induction d with
        | zero =>
          intro n hn
          have hn : n = 1418 := by omega
          subst hn
          refine fl_Tq.stp rfl rfl (fl_bo rfl) rfl ?_
          refine fl_Tq.stp rfl rfl (fl_bo rfl) rfl ?_
          refine fl_Tq.jt rfl (fl_bo rfl) (by decide +kernel) rfl ?_
          refine fl_Tq.stp rfl rfl (fl_bo rfl) rfl ?_
          refine fl_Tq.stp rfl rfl (fl_bo rfl) rfl ?_
          refine fl_Tq.stp rfl rfl (fl_bo rfl) rfl ?_
          refine fl_Tq.stp rfl rfl (fl_bo rfl) rfl ?_
          refine fl_Tq.ld (p := 280) (τ := 79) (n := 29780) (z := (0, 0, 0)) (k := 0) rfl (fl_bo rfl) rfl rfl (by decide) ?_
          refine fl_Tq.stp rfl rfl (fl_bo rfl) rfl ?_
          refine fl_Tq.stp rfl rfl (fl_bo rfl) rfl ?_
          refine fl_Tq.sv (p := 280) (τ := 79) (n := 29780) (z := (0, 0, 0)) (k := 0) rfl (fl_bo rfl) rfl rfl (by decide) ?_
          exact fl_Tq.ret rfl rfl rfl (k _ rfl)
        | succ d ih =>
          intro n hn
          have en := at_ofN (k := n) (by omega)
          refine fl_Tq.stp rfl rfl (fl_bo rfl) rfl ?_
          refine fl_Tq.stp rfl rfl (fl_bo rfl) rfl ?_
          refine fl_Tq.jf rfl (fl_bo rfl) ?_ rfl ?_
          · rw [at_c2, en]
            exact decide_eq_false (by show ¬ (0 ≤ (n : Int) - (1418 : Int)); omega)
          have h2 : (Int32.ofInt 2 + Int32.ofNat n).toInt = ((2 + n : Nat) : Int) := by rw [at_2n (by omega), Nat.add_comm]
          have h3 : (v + Int32.ofNat n).toInt = ((1420 + 1418 * s + n : Nat) : Int) := by
            rw [at_add32] <;> omega
          refine fl_Tq.stp rfl rfl (fl_bo rfl) rfl ?_
          refine fl_Tq.stp rfl rfl (fl_bo rfl) rfl ?_
          refine fl_Tq.stp rfl rfl (fl_bo rfl) rfl ?_
          refine fl_Tq.stp rfl rfl (fl_bo rfl) rfl ?_
          refine fl_Tq.stp rfl rfl (fl_bo rfl) rfl ?_
          refine fl_Tq.stp rfl rfl (fl_bo rfl) rfl ?_
          refine fl_Tq.stp rfl rfl (fl_bo rfl) rfl ?_
          refine fl_Tq.stp rfl rfl (fl_bo rfl) rfl ?_
          refine fl_Tq.stp rfl rfl (fl_bo rfl) rfl ?_
          refine fl_Tq.stp rfl rfl (fl_bo rfl) rfl ?_
          refine fl_Tq.ld (p := 280) (τ := 79) (n := 29780) (z := (0, 0, 0)) (k := 2 + n) rfl (fl_bo rfl) rfl h2 (by omega) ?_
          refine fl_Tq.sv (p := 280) (τ := 79) (n := 29780) (z := (0, 0, 0)) (k := 1420 + 1418 * s + n) rfl (fl_bo rfl) rfl h3 (by omega) ?_
          rw [bl_cp_s (src := 280) (s0 := 2) (dst := 280) (d0 := 1420 + 1418 * s) (n := n) (fun _ => Or.inl (by omega))]
          refine fl_Tq.stp rfl rfl (fl_bo rfl) rfl ?_
          refine fl_Tq.stp rfl rfl (fl_bo rfl) rfl ?_
          have := ih (n + 1) (by omega)
          rw [← at_inc (by omega)] at this
          exact this
      have := loop 1418 0 (by omega)
      rw [bl_cp_0] at this
      exact this
    refine hR _ (fun m2 em2 => ?_)
    have f0 : m2.1 280 0 = m1.1 280 0 := by rw [em2]; exact bl_cp_out (fun _ => Or.inl (by omega))
    have f1 : m2.1 280 1 = m1.1 280 1 := by rw [em2]; exact bl_cp_out (fun _ => Or.inl (by omega))
    have eh : m2.2 = m.2 := by rw [em2]; exact eh1
    have hv := at_add32 (x := m2.1 280 0) (y := Int32.ofInt 1) (by rw [f0]; omega) (by rw [f0]; omega)
    generalize m2.1 280 0 + Int32.ofInt 1 = v1 at hv
    have ne2 : ∀ p j : Nat, (p = 280 → 2 ≤ j ∧ (j < 1420 + 1418 * s ∨ 1420 + 1418 * s + 1418 ≤ j)) → fl_up m2.1 280 0 v1 p j = m.1 p j := fun p j e => by
      rw [bl_un (fun h => by have := e h; omega), em2, bl_cp_out (fun h => by have := e h; omega)]
      exact ne1 p j (fun h => (e h).1)
    have f1' : fl_up m2.1 280 0 v1 280 1 = m1.1 280 1 := by rw [bl_un (fun _ => by decide), f1]
    rw [eh]
    refine k _ s hs hss (fun p hp => funext (fun j => ne2 p j (fun h => absurd h hp))) (fun j h1 h2 => ne2 280 j (fun _ => ⟨h1, h2⟩)) (fun j hj => ?_) ?_ ?_
    · rw [bl_un (fun _ => by omega), em2, bl_cp_in (by omega) (by omega), ne1 280 _ (fun _ => by omega), show 1420 + 1418 * s + j - (1420 + 1418 * s) + 2 = 2 + j by omega]
    · rw [bl_ue, hv, f0]
      exact y1
    · rw [f1']
      exact y2
  refine fl_Tq.stp rfl rfl (fl_bo rfl) rfl ?_
  refine fl_Tq.stp rfl rfl (fl_bo rfl) rfl ?_
  refine fl_Tq.stp rfl rfl (fl_bo rfl) rfl ?_
  refine fl_Tq.ld (p := 280) (τ := 79) (n := 29780) (z := (0, 0, 0)) (k := 0) rfl (fl_bo rfl) rfl rfl (by decide) ?_
  refine fl_Tq.stp rfl rfl (fl_bo rfl) rfl ?_
  have e20 : (Int8.ofInt 20).toInt32.toInt = 20 := by decide +kernel
  by_cases h0 : (m.1 280 0).toInt = 20
  · refine fl_Tq.jf rfl (fl_bo rfl) ?_ rfl ?_
    · rw [at_c2, h0, e20]; rfl
    refine fl_Tq.stp rfl rfl (fl_bo rfl) rfl ?_
    refine fl_Tq.stp rfl rfl (fl_bo rfl) rfl ?_
    refine fl_Tq.stp rfl rfl (fl_bo rfl) rfl ?_
    refine fl_Tq.stp rfl rfl (fl_bo rfl) rfl ?_
    refine fl_Tq.stp rfl rfl (fl_bo rfl) rfl ?_
    refine fl_Tq.stp rfl rfl (fl_bo rfl) rfl ?_
    refine fl_Tq.ld (p := 280) (τ := 79) (n := 29780) (z := (0, 0, 0)) (k := 1) rfl (fl_bo rfl) rfl rfl (by decide) ?_
    refine fl_Tq.stp rfl rfl (fl_bo rfl) rfl ?_
    refine fl_Tq.stp rfl rfl (fl_bo rfl) rfl ?_
    refine fl_Tq.stp rfl rfl (fl_bo rfl) rfl ?_
    refine fl_Tq.rm rfl (fl_bo rfl) (by decide +kernel) ?_
    refine fl_Tq.sv (p := 280) (τ := 79) (n := 29780) (z := (0, 0, 0)) (k := 1) rfl (fl_bo rfl) rfl rfl (by decide) ?_
    dsimp only
    have hs := at_add32 (x := m.1 280 1) (y := Int32.ofInt 1) (by omega) (by omega)
    generalize m.1 280 1 + Int32.ofInt 1 = u1 at hs
    have hr := at_rem20 (s := u1) e20 (by omega)
    generalize u1 - u1 / (Int8.ofInt 20).toInt32 * (Int8.ofInt 20).toInt32 = u2 at hr
    refine fl_Tq.stp rfl rfl (fl_bo rfl) rfl ?_
    refine fl_Tq.stp rfl rfl (fl_bo rfl) rfl ?_
    refine fl_Tq.stp rfl rfl (fl_bo rfl) rfl ?_
    refine fl_Tq.stp rfl rfl (fl_bo rfl) rfl ?_
    refine fl_Tq.ld (p := 280) (τ := 79) (n := 29780) (z := (0, 0, 0)) (k := 0) rfl (fl_bo rfl) rfl rfl (by decide) ?_
    refine fl_Tq.stp rfl rfl (fl_bo rfl) rfl ?_
    refine fl_Tq.stp rfl rfl (fl_bo rfl) rfl ?_
    refine fl_Tq.sv (p := 280) (τ := 79) (n := 29780) (z := (0, 0, 0)) (k := 0) rfl (fl_bo rfl) rfl rfl (by decide) ?_
    have q0 : fl_up m.1 280 1 u2 280 0 = m.1 280 0 := bl_un (fun _ => by decide)
    refine tail _ rfl (fun p j e => ?_) ?_ ?_ ?_ ?_ ?_
    · show fl_up (fl_up m.1 280 1 u2) 280 0 _ p j = _
      rw [bl_un (fun h => by have := e h; omega), bl_un (fun h => by have := e h; omega)]
    · show 0 ≤ (fl_up (fl_up m.1 280 1 u2) 280 0 (fl_up m.1 280 1 u2 280 0 - Int32.ofInt 1) 280 0).toInt ∧ (fl_up (fl_up m.1 280 1 u2) 280 0 (fl_up m.1 280 1 u2 280 0 - Int32.ofInt 1) 280 0).toInt ≤ 19
      rw [bl_ue, q0, at_sub32 (by omega) (by omega)]
      omega
    · show 0 ≤ (fl_up (fl_up m.1 280 1 u2) 280 0 (fl_up m.1 280 1 u2 280 0 - Int32.ofInt 1) 280 1).toInt ∧ (fl_up (fl_up m.1 280 1 u2) 280 0 (fl_up m.1 280 1 u2 280 0 - Int32.ofInt 1) 280 1).toInt ≤ 19
      rw [bl_un (fun _ => by decide), bl_ue]
      omega
    · show ((fl_up (fl_up m.1 280 1 u2) 280 0 (fl_up m.1 280 1 u2 280 0 - Int32.ofInt 1) 280 1).toInt + (fl_up (fl_up m.1 280 1 u2) 280 0 (fl_up m.1 280 1 u2 280 0 - Int32.ofInt 1) 280 0).toInt) % 20 = _
      rw [bl_ue, q0, at_sub32 (by omega) (by omega), bl_un (fun _ => by decide), bl_ue]
      omega
    · show (fl_up (fl_up m.1 280 1 u2) 280 0 (fl_up m.1 280 1 u2 280 0 - Int32.ofInt 1) 280 0).toInt + 1 = _
      rw [bl_ue, q0, at_sub32 (by omega) (by omega)]
      omega
    · show (fl_up (fl_up m.1 280 1 u2) 280 0 (fl_up m.1 280 1 u2 280 0 - Int32.ofInt 1) 280 1).toInt = _
      rw [bl_un (fun _ => by decide), bl_ue, if_pos h0]
      omega
  · refine fl_Tq.jt rfl (fl_bo rfl) ?_ rfl ?_
    · rw [at_c2, e20]; show (!decide ((m.1 280 0).toInt - 20 = 0)) = true; rw [decide_eq_false (by omega)]; rfl
    exact tail m rfl (fun p j _ => rfl) (by omega) w1 rfl (by omega) (by rw [if_neg h0])
end T2RK

end
