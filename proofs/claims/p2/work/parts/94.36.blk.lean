/-! ===== a State's block of places, at d: kinds as now's, and kb more ===== -/
theorem fl_Tq.qldM {P : am_Pg} {mi pc p k : Nat} {lv : fl_L} {r : List fl_V} {m : fl_M} {τ n t b d : Nat} {i : Int32} {Q : Option fl_V → fl_M → Prop} (hc : am_code P mi pc = some .aaload) (hok : ∀ v ∈ (.inl i :: .inr (.inr (.inl (τ, p))) :: r : List fl_V), fl_ok m.2.2 v) (hk : fk_kd τ = .inr (3, n, t, b, d + 1)) (hi : i.toInt = k) (hlt : k < n) (q : fl_Tq P mi (pc + 1) lv (.inr (.inr (.inl (t, p + b + (d + 1) * k))) :: r) m Q) : fl_Tq P mi pc lv (.inl i :: .inr (.inr (.inl (τ, p))) :: r) m Q := by
  refine fl_Tq.stp (pc' := pc + 1) (lv' := lv) (st' := .inr (.inr (.inl (t, p + b + (d + 1) * k))) :: r) (m' := m) hc rfl hok ?_ q
  obtain ⟨h1, h2⟩ := at_in_ok (i := i) (n := n) (by omega) (by omega)
  have h3 : i.toNatClampNeg = k := by omega
  show ((match fk_kd τ with
    | .inr (t, n, τ', b, d) => bif decide (2 ≤ t ∧ t < 5) && (decide (d ≠ 0) && am_in i n) then some (pc + 1, lv, .inr (.inr (.inl (τ', p + b + d * i.toNatClampNeg))) :: r, m) else none
    | _ => none) : Option fl_C) = _
  rw [hk]
  show ((bif decide (2 ≤ 3 ∧ 3 < 5) && (decide (d + 1 ≠ 0) && am_in i n) then some (pc + 1, lv, .inr (.inr (.inl (t, p + b + (d + 1) * i.toNatClampNeg))) :: r, m) else none) : Option fl_C) = _
  rw [h1, h3, decide_eq_true (show d + 1 ≠ 0 by omega)]
  rfl
section T2BLK
variable {h d kb j r : Nat}
def t2_blk (h d kb : Nat) : Prop := ∀ o : Nat, o < 90 → fk_K (d + o) = fk_K0.getD (1 + o) 0 + kb ∧ d + o < fl_N h
theorem t2_blk.place (A : t2_blk h d kb) (o τ : Nat) (ho : o < 90) (e : fk_K0.getD (1 + o) 0 + kb = τ) : fk_K (d + o) = τ ∧ d + o < fl_N h := ⟨(A o ho).1.trans e, (A o ho).2⟩
theorem t2_cellk : ∀ j : Nat, j < 16 → ∀ r : Nat, r < 4 → fk_K0.getD (1 + (17 + 4 * j + r)) 0 = 18 + r := by decide +kernel
theorem t2_markk : ∀ j : Nat, j < 3 → ∀ r : Nat, r < 3 → fk_K0.getD (1 + (81 + 3 * j + r)) 0 = 22 + r := by decide +kernel
theorem t2_blk.cell (A : t2_blk h d kb) (r : Nat) (hj : j < 16) (hr : r < 4) : fk_K (d + 17 + 4 * j + r) = 18 + r + kb ∧ d + 17 + 4 * j + r < fl_N h := by
  have a := A (17 + 4 * j + r) (by omega)
  rw [t2_cellk j hj r hr, show d + (17 + 4 * j + r) = d + 17 + 4 * j + r by omega] at a
  exact a
theorem t2_blk.mark (A : t2_blk h d kb) (r : Nat) (hj : j < 3) (hr : r < 3) : fk_K (d + 81 + 3 * j + r) = 22 + r + kb ∧ d + 81 + 3 * j + r < fl_N h := by
  have a := A (81 + 3 * j + r) (by omega)
  rw [t2_markk j hj r hr, show d + (81 + 3 * j + r) = d + 81 + 3 * j + r by omega] at a
  exact a
theorem t2_blk_now : t2_blk h 1 0 := fun o ho => ⟨(by decide +kernel : ∀ o : Nat, o < 90 → fk_K (1 + o) = fk_K0.getD (1 + o) 0 + 0) o ho, by unfold fl_N; omega⟩
theorem t2_blk_image : t2_blk h 91 24 := fun o ho => ⟨(by decide +kernel : ∀ o : Nat, o < 90 → fk_K (91 + o) = fk_K0.getD (1 + o) 0 + 24) o ho, by unfold fl_N; omega⟩
theorem t2_blk_trial : t2_blk h 181 48 := fun o ho => ⟨(by decide +kernel : ∀ o : Nat, o < 90 → fk_K (181 + o) = fk_K0.getD (1 + o) 0 + 48) o ho, by unfold fl_N; omega⟩
theorem t2_blk_made (hj : j < h) : t2_blk h (285 + 90 * j) 24 := fun o ho => by
  refine ⟨?_, by unfold fl_N; omega⟩
  unfold fk_K
  rw [if_neg (by omega), show (285 + 90 * j + o - 285) % 90 = o by omega]
  exact (by decide +kernel : ∀ o : Nat, o < 90 → fk_K1.getD o 0 = fk_K0.getD (1 + o) 0 + 24) o ho
end T2BLK
