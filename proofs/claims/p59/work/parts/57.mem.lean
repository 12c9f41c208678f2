/-! ===== the looker's memory: ranges of words, what is known of single words, what was written ===== -/
def at_TA : Nat := 79
/-- a region of words: its mark (1 .. 4: what a cell of the reference keeps; 5: a mark's count), base, stride, how many, how wide, least, most -/
abbrev at_R : Type := Nat × Int × Int × Int × Int × Int × Int
def at_mem (j : Int) (r : at_R) : Prop := ∃ o i : Int, 0 ≤ o ∧ o ≤ r.2.2.2.1 - 1 ∧ 0 ≤ i ∧ i ≤ r.2.2.2.2.1 - 1 ∧ j = r.2.1 + r.2.2.1 * o + i
def at_fi (S : Int) (b : Bool) (l : List (Int × Nat)) : List (Int × Nat) := l.filter (fun t => bif decide (t.1 % S = 0) then b else !b)
/-- the part within a stride: base, its least, its most; how many strides -/
def at_q (sy : List (Int × Int)) (idx : at_A) (base S : Int) : Int := (idx.1 - base + at_los sy (at_fi S false idx.2)) / S
/-- the outer number of an index that stands wholly in a region -/
def at_rin (sy : List (Int × Int)) (idx : at_A) (base S n m : Int) : Option at_A :=
  bif decide (S = 0) then (bif decide (base ≤ at_lo sy idx) && decide (at_hi sy idx ≤ base + m - 1) && decide (1 ≤ n) then some (at_c 0) else none)
  else bif decide (0 < S) then
    (fun (q : Int) (o : at_A) => bif decide (at_his sy (at_fi S false idx.2) + (idx.1 - base) - q * S ≤ m - 1) && (decide (0 ≤ at_lo sy o) && decide (at_hi sy o ≤ n - 1)) then some o else none) (at_q sy idx base S) (at_q sy idx base S, (at_fi S true idx.2).map (fun t => (t.1 / S, t.2)))
  else none
/-- an index that never stands in a region -/
def at_dj (sy : List (Int × Int)) (idx : at_A) (r : at_R) : Bool :=
  (decide (0 ≤ r.2.2.1) && (decide (at_hi sy idx < r.2.1) || decide (r.2.1 + r.2.2.1 * (r.2.2.2.1 - 1) + (r.2.2.2.2.1 - 1) < at_lo sy idx)))
  || (decide (0 < r.2.2.1) && (fun q : Int => decide (r.2.2.2.2.1 - 1 < at_los sy (at_fi r.2.2.1 false idx.2) + (idx.1 - r.2.1) - q * r.2.2.1) && decide (at_his sy (at_fi r.2.2.1 false idx.2) + (idx.1 - r.2.1) - q * r.2.2.1 < r.2.2.1)) (at_q sy idx r.2.1 r.2.2.1))
theorem at_evl_cons (ν : Nat → Int) (t : Int × Nat) (l : List (Int × Nat)) : at_evl ν (t :: l) = t.1 * ν t.2 + at_evl ν l := rfl
theorem at_fi_sum (ν : Nat → Int) (S : Int) (l : List (Int × Nat)) : at_evl ν l = at_evl ν (at_fi S true l) + at_evl ν (at_fi S false l) := by
  induction l with
  | nil => rfl
  | cons t l ih =>
    unfold at_fi at ih ⊢
    cases h : decide (t.1 % S = 0) with
    | true =>
      rw [List.filter_cons_of_pos (by simp [h]), List.filter_cons_of_neg (by simp [h])]
      rw [at_evl_cons, at_evl_cons, ih]
      omega
    | false =>
      rw [List.filter_cons_of_neg (by simp [h]), List.filter_cons_of_pos (by simp [h])]
      rw [at_evl_cons, at_evl_cons, ih]
      omega
theorem at_fi_div {ν : Nat → Int} {S : Int} {l : List (Int × Nat)} : at_evl ν (at_fi S true l) = S * at_evl ν ((at_fi S true l).map (fun t => (t.1 / S, t.2))) := by
  refine at_evl_div (fun t ht => ?_)
  unfold at_fi at ht
  have := (List.mem_filter.mp ht).2
  refine Int.dvd_of_emod_eq_zero ?_
  cases h : decide (t.1 % S = 0) with
  | true => exact of_decide_eq_true h
  | false => rw [h] at this; cases this
theorem at_rin_ok {ν : Nat → Int} {sy : List (Int × Int)} (hR : at_Rg ν sy) {idx o : at_A} {base S n m : Int} (h : at_rin sy idx base S n m = some o) : ∃ i : Int, 0 ≤ at_ev ν o ∧ at_ev ν o ≤ n - 1 ∧ 0 ≤ i ∧ i ≤ m - 1 ∧ at_ev ν idx = base + S * at_ev ν o + i := by
  unfold at_rin at h
  cases h0 : decide (S = 0) with
  | true =>
    rw [h0] at h
    dsimp only [cond_true] at h
    obtain ⟨hb, h⟩ := am_bif h
    cases h
    simp only [Bool.and_eq_true, decide_eq_true_eq] at hb
    have e := of_decide_eq_true h0
    have := at_lo_le hR idx
    have := at_hi_le hR idx
    refine ⟨at_ev ν idx - base, ?_, ?_, by omega, by omega, ?_⟩
    · rw [at_ev_c]; omega
    · rw [at_ev_c]; omega
    · rw [at_ev_c, e]; omega
  | false =>
    rw [h0] at h
    dsimp only [cond_false] at h
    cases hS : decide (0 < S) with
    | false => rw [hS] at h; cases h
    | true =>
      have hS := of_decide_eq_true hS
      rw [decide_eq_true hS] at h
      dsimp only [cond_true] at h
      obtain ⟨hb, h⟩ := am_bif h
      cases h
      simp only [Bool.and_eq_true, decide_eq_true_eq] at hb
      obtain ⟨b1, b2, b3⟩ := hb
      have l1 := at_los_le hR (at_fi S false idx.2)
      have l2 := at_his_le hR (at_fi S false idx.2)
      have ol := at_lo_le hR (at_q sy idx base S, (at_fi S true idx.2).map (fun t => (t.1 / S, t.2)))
      have oh := at_hi_le hR (at_q sy idx base S, (at_fi S true idx.2).map (fun t => (t.1 / S, t.2)))
      have e1 := at_fi_sum ν S idx.2
      have e2 := at_fi_div (ν := ν) (S := S) (l := idx.2)
      have q1 : at_q sy idx base S * S ≤ idx.1 - base + at_los sy (at_fi S false idx.2) := Int.ediv_mul_le _ (by omega)
      refine ⟨at_evl ν (at_fi S false idx.2) + (idx.1 - base) - at_q sy idx base S * S, by omega, by omega, by omega, by omega, ?_⟩
      show idx.1 + at_evl ν idx.2 = base + S * (at_q sy idx base S + at_evl ν ((at_fi S true idx.2).map (fun t => (t.1 / S, t.2)))) + _
      rw [e1, e2, Int.mul_add, Int.mul_comm S (at_q sy idx base S)]
      omega
theorem at_rin_wf {k : Nat} {sy : List (Int × Int)} {idx o : at_A} {base S n m : Int} (hw : at_wf k idx) (h : at_rin sy idx base S n m = some o) : at_wf k o := by
  unfold at_rin at h
  cases h0 : decide (S = 0) with
  | true =>
    rw [h0] at h
    dsimp only [cond_true] at h
    obtain ⟨hb, h⟩ := am_bif h
    cases h
    exact at_wf_c
  | false =>
    rw [h0] at h
    dsimp only [cond_false] at h
    cases hS : decide (0 < S) with
    | false => rw [hS] at h; cases h
    | true =>
      rw [hS] at h
      dsimp only [cond_true] at h
      obtain ⟨hb, h⟩ := am_bif h
      cases h
      intro t ht
      obtain ⟨s, hs, rfl⟩ := List.mem_map.mp ht
      exact hw s (List.mem_filter.mp hs).1
theorem at_dj_ok {ν : Nat → Int} {sy : List (Int × Int)} (hR : at_Rg ν sy) {idx : at_A} {r : at_R} (h : at_dj sy idx r = true) : ¬ at_mem (at_ev ν idx) r := by
  obtain ⟨w, base, S, n, m, lo, hi⟩ := r
  rintro ⟨o, i, h1, h2, h3, h4, h5⟩
  dsimp only at h2 h4 h5
  unfold at_dj at h
  simp only [Bool.or_eq_true, Bool.and_eq_true, decide_eq_true_eq] at h
  have a1 := at_lo_le hR idx
  have a2 := at_hi_le hR idx
  rcases h with ⟨h, h' | h'⟩ | ⟨hS, h6, h7⟩
  · have := Int.mul_nonneg h h1
    omega
  · have : S * o ≤ S * (n - 1) := Int.mul_le_mul_of_nonneg_left h2 h
    omega
  · have l1 := at_los_le hR (at_fi S false idx.2)
    have l2 := at_his_le hR (at_fi S false idx.2)
    have e1 := at_fi_sum ν S idx.2
    have e2 := at_fi_div (ν := ν) (S := S) (l := idx.2)
    have e0 : at_ev ν idx = idx.1 + at_evl ν idx.2 := rfl
    generalize at_evl ν ((at_fi S true idx.2).map (fun t => (t.1 / S, t.2))) = z at e2
    generalize at_evl ν (at_fi S false idx.2) = y at l1 l2 e1
    generalize at_evl ν (at_fi S true idx.2) = x at e1 e2
    generalize at_q sy idx base S = q at h6 h7
    have e3 : S * (z + q - o) = i - (y + (idx.1 - base) - q * S) := by
      rw [Int.mul_sub, Int.mul_add, Int.mul_comm S q]
      omega
    have h8 : S * (z + q - o) < 0 := by omega
    have h9 : -S < S * (z + q - o) := by omega
    have h10 : z + q - o < 0 := by
      rcases Int.lt_or_le (z + q - o) 0 with h | h
      · exact h
      · have := Int.mul_nonneg (Int.le_of_lt hS) h
        omega
    have h11 : S * (z + q - o) ≤ S * (-1) := Int.mul_le_mul_of_nonneg_left (by omega) (by omega)
    omega
