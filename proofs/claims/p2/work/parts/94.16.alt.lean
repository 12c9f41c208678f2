/-! ===== turns: the reference's ===== -/
theorem t2_ab {p q : Int32} (hp : 0 ≤ p.toInt ∧ p.toInt ≤ 1000) (hq : 0 ≤ q.toInt ∧ q.toInt ≤ 1000) : (t2_abs_v (p - q)).toInt = (if q.toInt ≤ p.toInt then p.toInt - q.toInt else q.toInt - p.toInt) ∧ r_size_v (q - p) = t2_abs_v (p - q) := by
  have e : (p - q).toInt = p.toInt - q.toInt := at_sub32 (by omega) (by omega)
  have e' : (q - p).toInt = q.toInt - p.toInt := at_sub32 (by omega) (by omega)
  have e2 : (-(p - q)).toInt = -(p.toInt - q.toInt) := by
    rw [Int32.toInt_neg, e]
    exact Int.bmod_eq_of_le (by omega) (by omega)
  have e3 : (-(q - p)).toInt = -(q.toInt - p.toInt) := by
    rw [Int32.toInt_neg, e']
    exact Int.bmod_eq_of_le (by omega) (by omega)
  have a : (t2_abs_v (p - q)).toInt = (if q.toInt ≤ p.toInt then p.toInt - q.toInt else q.toInt - p.toInt) := by
    unfold t2_abs_v
    split <;> split <;> omega
  refine ⟨a, Int32.toInt.inj ?_⟩
  rw [a]
  unfold r_size_v
  split <;> split <;> omega
def r_tI (f : t2_F) (C i : Nat) : Int := (f 280 (444 + 61 * C + (17 + i))).toInt
/-- the turns of a cell go to and fro -/
def r_alt (f : t2_F) (C : Nat) : Prop := (1 ≤ (f 280 (444 + 61 * C + 10)).toInt ∧ (f 280 (444 + 61 * C + 10)).toInt ≤ 32) ∧ r_tv f C ∧ (∀ i : Nat, (i : Int) + 1 < (f 280 (444 + 61 * C + 10)).toInt → r_tI f C i ≠ r_tI f C (i + 1)) ∧ ∀ i : Nat, (i : Int) + 2 < (f 280 (444 + 61 * C + 10)).toInt → (r_tI f C i < r_tI f C (i + 1) ↔ ¬ r_tI f C (i + 1) < r_tI f C (i + 2))
theorem r_alt.congr {f f' : t2_F} {C : Nat} (h : r_alt f C) (e : ∀ w : Nat, (w = 10 ∨ (17 ≤ w ∧ w < 49)) → f' 280 (444 + 61 * C + w) = f 280 (444 + 61 * C + w)) : r_alt f' C := by
  have et : ∀ i : Nat, i < 32 → r_tI f' C i = r_tI f C i := fun i hi => by unfold r_tI; rw [e (17 + i) (by omega)]
  obtain ⟨h1, h2, h3, h4⟩ := h
  unfold r_alt
  rw [e 10 (by omega)]
  refine ⟨h1, fun k hk => by rw [e (17 + k) (by omega)]; exact h2 k hk, fun i hi => ?_, fun i hi => ?_⟩
  · rw [et i (by omega), et (i + 1) (by omega)]
    exact h3 i hi
  · rw [et i (by omega), et (i + 1) (by omega), et (i + 2) (by omega)]
    exact h4 i hi
/-- a round of the reference's count, by words -/
theorem r_round_w {f g f' : t2_F} {c : Int32} {C n q : Nat} {v : Int32} (hn : (f 280 (444 + 61 * C + 10)).toInt = (n : Int)) (h4 : 4 ≤ n) (h32 : n ≤ 32) (hq : q < 12) (hg : g = fl_row f 280 (upd (f 280) (444 + 61 * C + (49 + q)) v)) (hf : f' = r_dropTurnN_m (r_dropTurnN_m g c C (n - 3)) c C (n - 3)) :
    f' 280 (444 + 61 * C + 10) = f 280 (444 + 61 * C + 10) - (1 : Int32) - (1 : Int32) ∧ (∀ j : Nat, j < n - 2 → f' 280 (444 + 61 * C + (17 + j)) = f 280 (444 + 61 * C + (17 + (if j = n - 3 then n - 1 else j)))) ∧ (∀ w : Nat, (w < 444 + 61 * C + 10 ∨ (444 + 61 * C + 10 < w ∧ w < 444 + 61 * C + 17) ∨ 444 + 61 * C + 49 ≤ w) → f' 280 w = g 280 w) := by
  have c1 : (1 : Int32).toInt = 1 := by decide +kernel
  have g10 : g 280 (444 + 61 * C + 10) = f 280 (444 + 61 * C + 10) := by rw [hg, fl_row_self, upd_ne (by omega)]
  have gt : ∀ j : Nat, j < 32 → g 280 (444 + 61 * C + (17 + j)) = f 280 (444 + 61 * C + (17 + j)) := fun j hj => by rw [hg, fl_row_self, upd_ne (by omega)]
  have t1 := r_dropTurnN_t (f := g) (c := c) (C := C) (X := n - 3)
  have i1 : (r_dropTurnN_m g c C (n - 3) 280 (444 + 61 * C + 10)).toInt = ((n - 1 : Nat) : Int) := by rw [t1, g10, at_sub32] <;> omega
  have t2 := r_dropTurnN_t (f := r_dropTurnN_m g c C (n - 3)) (c := c) (C := C) (X := n - 3)
  have a1 := r_dropTurnN_at (f := g) (c := c) (C := C) (X := n - 3) (n := n) (by rw [g10]; exact hn) (by omega) h32 (by omega)
  have a2 := r_dropTurnN_at (f := r_dropTurnN_m g c C (n - 3)) (c := c) (C := C) (X := n - 3) (n := n - 1) i1 (by omega) (by omega) (by omega)
  refine ⟨?_, fun j hj => ?_, fun w hw => ?_⟩
  · rw [hf, t2, t1, g10]
  · rw [hf, a2 j (by omega), if_neg (by omega)]
    by_cases e : j = n - 3
    · rw [if_pos (by omega), a1 (j + 1) (by omega), if_neg (by omega), if_pos (by omega), gt (j + 1 + 1) (by omega), if_pos e, show j + 1 + 1 = n - 1 by omega]
    · rw [if_neg (by omega), a1 j (by omega), if_neg (by omega), if_neg (by omega), gt j (by omega), if_neg e]
  · rw [hf, r_dropTurnN_w (by omega) (by omega) (by omega), r_dropTurnN_w (by rw [g10]; omega) (by omega) (by omega)]
theorem r_round_alt {f f' : t2_F} {C n : Nat} (h : r_alt f C) (hn : (f 280 (444 + 61 * C + 10)).toInt = (n : Int)) (h4 : 4 ≤ n) (h10 : f' 280 (444 + 61 * C + 10) = f 280 (444 + 61 * C + 10) - (1 : Int32) - (1 : Int32)) (ht : ∀ j : Nat, j < n - 2 → f' 280 (444 + 61 * C + (17 + j)) = f 280 (444 + 61 * C + (17 + (if j = n - 3 then n - 1 else j)))) (hv : r_tv f' C)
    (m1 : ¬ (t2_abs_v (f 280 (444 + 61 * C + (17 + (n - 3))) - f 280 (444 + 61 * C + (17 + (n - 4))))).toInt < (t2_abs_v (f 280 (444 + 61 * C + (17 + (n - 2))) - f 280 (444 + 61 * C + (17 + (n - 3))))).toInt) (m2 : ¬ (t2_abs_v (f 280 (444 + 61 * C + (17 + (n - 1))) - f 280 (444 + 61 * C + (17 + (n - 2))))).toInt < (t2_abs_v (f 280 (444 + 61 * C + (17 + (n - 2))) - f 280 (444 + 61 * C + (17 + (n - 3))))).toInt) : r_alt f' C := by
  have c1 : (1 : Int32).toInt = 1 := by decide +kernel
  obtain ⟨h1, h2, h3, h5⟩ := h
  have e10 : (f' 280 (444 + 61 * C + 10)).toInt = (n : Int) - 2 := by
    rw [h10, at_sub32] <;> rw [at_sub32] <;> omega
  have va := h2 (n - 4) (by omega)
  have vb := h2 (n - 3) (by omega)
  have vc := h2 (n - 2) (by omega)
  have vd := h2 (n - 1) (by omega)
  rw [(t2_ab vb va).1, (t2_ab vc vb).1] at m1
  rw [(t2_ab vd vc).1, (t2_ab vc vb).1] at m2
  have n1 := h3 (n - 4) (by omega)
  have n2 := h3 (n - 3) (by omega)
  have n3 := h3 (n - 2) (by omega)
  have o1 := h5 (n - 4) (by omega)
  have o2 := h5 (n - 3) (by omega)
  rw [show n - 4 + 1 = n - 3 by omega] at n1 o1
  rw [show n - 4 + 2 = n - 2 by omega] at o1
  rw [show n - 3 + 1 = n - 2 by omega] at n2 o2
  rw [show n - 3 + 2 = n - 1 by omega] at o2
  rw [show n - 2 + 1 = n - 1 by omega] at n3
  unfold r_tI at n1 n2 n3 o1 o2
  have dir : ((f 280 (444 + 61 * C + (17 + (n - 4)))).toInt < (f 280 (444 + 61 * C + (17 + (n - 1)))).toInt ↔ (f 280 (444 + 61 * C + (17 + (n - 4)))).toInt < (f 280 (444 + 61 * C + (17 + (n - 3)))).toInt) ∧ (f 280 (444 + 61 * C + (17 + (n - 4)))).toInt ≠ (f 280 (444 + 61 * C + (17 + (n - 1)))).toInt := by
    split at m1 <;> split at m1 <;> split at m2 <;> refine ⟨⟨fun q => ?_, fun q => ?_⟩, fun q => ?_⟩ <;> omega
  have et : ∀ j : Nat, j < n - 3 → r_tI f' C j = r_tI f C j := fun j hj => by unfold r_tI; rw [ht j (by omega), if_neg (by omega)]
  have el : r_tI f' C (n - 3) = r_tI f C (n - 1) := by unfold r_tI; rw [ht (n - 3) (by omega), if_pos rfl]
  refine ⟨by omega, hv, fun i hi => ?_, fun i hi => ?_⟩
  · by_cases e : i + 1 = n - 3
    · rw [e, el, et i (by omega), show i = n - 4 by omega]
      exact dir.2
    · rw [et i (by omega), et (i + 1) (by omega)]
      exact h3 i (by omega)
  · by_cases e : i + 2 = n - 3
    · rw [e, el, et i (by omega), et (i + 1) (by omega), show i + 1 = n - 4 by omega]
      have := h5 i (by omega)
      rw [show i + 1 = n - 4 by omega, show i + 2 = n - 3 by omega] at this
      rw [this]
      unfold r_tI
      constructor
      · intro q r
        exact q (dir.1.mp r)
      · intro q r
        exact q (dir.1.mpr r)
    · rw [et i (by omega), et (i + 1) (by omega), et (i + 2) (by omega)]
      exact h5 i (by omega)
