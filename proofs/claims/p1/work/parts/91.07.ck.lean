theorem t2_full_r {x : Int32} (h : t2_cap x) : ((3600 : Int32) * x).toInt = 3600 * x.toInt := by
  obtain ⟨h1, h2⟩ := h
  have e : (3600 : Int32).toInt = 3600 := by decide +kernel
  rw [at_mul32] <;> rw [e] <;> omega
theorem t2_nzf {x : Int32} (h : t2_cap x) : ((3600 : Int32) * x).toInt64 ≠ 0 := t2_nz64 (by rw [t2_full_r h]; have := h.1; omega)
def t2_ck (f : t2_F) (C : Nat) : Prop := t2_cap (f 280 (444 + 61 * C + 0)) ∧ 0 ≤ (f 280 (444 + 61 * C + 1)).toInt ∧ (f 280 (444 + 61 * C + 1)).toInt ≤ 3600 * (f 280 (444 + 61 * C + 0)).toInt
theorem t2_partAt_eq {c x : Int32} (h : t2_cap x) : (((1000 : Int64) * c.toInt64) / ((3600 : Int32) * x).toInt64).toInt32 = t2_partOf_v c (x * (3600 : Int32)) := by
  unfold t2_partOf_v
  have e1 := t2_full_i h
  have e2 : (3600 : Int32) * x = x * (3600 : Int32) := Int32.mul_comm _ _
  have e3 : (1000 : Int64) * c.toInt64 = c.toInt64 * (1000 : Int64) := Int64.mul_comm _ _
  rw [if_pos (by rw [e1]; have := h.1; omega), e2, e3]
theorem t2_ckp {f : t2_F} {C : Nat} (h : t2_ck f C) : 0 ≤ ((((1000 : Int64) * (f 280 (444 + 61 * C + 1)).toInt64) / ((3600 : Int32) * (f 280 (444 + 61 * C + 0))).toInt64).toInt32).toInt ∧ ((((1000 : Int64) * (f 280 (444 + 61 * C + 1)).toInt64) / ((3600 : Int32) * (f 280 (444 + 61 * C + 0))).toInt64).toInt32).toInt ≤ 1000 := by
  rw [t2_partAt_eq h.1]
  have e := t2_full_i h.1
  exact (t2_partOf_b h.2.1 (by rw [e]; have := h.2.2; omega)).2
theorem t2_RS.r {f : t2_F} {w : Nat → Int32} (h : t2_RS f) : t2_RS (fl_row f 280 w) := fun j => by
  rw [fl_row_ne (by decide : (279 : Nat) ≠ 280)]
  exact h j
theorem t2_cka.r {f : t2_F} {w : Nat → Int32} (h : ∀ C : Nat, (C : Int) < (f 280 2).toInt → t2_ck f C) (e : ∀ j : Nat, j = 2 ∨ 444 ≤ j → w j = f 280 j) : ∀ C : Nat, (C : Int) < ((fl_row f 280 w) 280 2).toInt → t2_ck (fl_row f 280 w) C := by
  intro C hC
  rw [fl_row_self, e 2 (Or.inl rfl)] at hC
  have := h C hC
  unfold t2_ck
  rw [fl_row_self, e _ (Or.inr (by omega)), e _ (Or.inr (by omega))]
  exact this
theorem t2_zl {x : Int32} (hz : 0 ≤ x.toInt ∧ x.toInt ≤ 6) (h : ¬ x.toInt = 0) : (x * (2 : Int32) - (2 : Int32)).toInt = ((2 * x.toInt.toNat - 2 : Nat) : Int) := by
  have e : (2 : Int32).toInt = 2 := by decide +kernel
  have e1 : (x * (2 : Int32)).toInt = 2 * x.toInt := by rw [at_mul32] <;> rw [e] <;> omega
  rw [at_sub32] <;> rw [e1, e] <;> omega
theorem t2_lp_ex (v : Int) : ∃ n : Nat, t2_lp v n := by
  have H : ∀ k : Nat, k ≤ 1000 → (∃ n : Nat, t2_lp v n) ∨ ∀ p : Nat, p < k → t2_rv p < v := by
    intro k
    induction k with
    | zero => intro _; exact Or.inr (fun p hp => absurd hp (by omega))
    | succ k ih =>
      intro hk
      rcases ih (by omega) with h | h
      · exact Or.inl h
      · by_cases hv : v ≤ t2_rv k
        · exact Or.inl ⟨k, by omega, h, Or.inr hv⟩
        · refine Or.inr (fun p hp => ?_)
          by_cases e : p = k
          · subst e
            omega
          · exact h p (by omega)
  rcases H 1000 (by omega) with h | h
  · exact h
  · exact ⟨1000, by omega, h, Or.inl rfl⟩
theorem t2_pb_b (v : Int32) : 0 ≤ (t2_pb v).toInt ∧ (t2_pb v).toInt ≤ 1000 := by
  have h : t2_lp v.toInt (Classical.epsilon (fun n => t2_lp v.toInt n)) := Classical.epsilon_spec (t2_lp_ex v.toInt)
  have h1 := h.1
  unfold t2_pb
  rw [at_ofN (by omega)]
  omega
theorem t2_rest_nz {p q : Int32} (hp : 0 ≤ p.toInt ∧ p.toInt ≤ 1000) (hw : -1 ≤ q.toInt ∧ q.toInt ≤ 1000) (h : ¬ (r_size_v (p - q)).toInt < (100 : Int32).toInt) : ((3600 : Int32) * (r_size_v (p - q))).toInt64 ≠ 0 := by
  have e100 : (100 : Int32).toInt = 100 := by decide +kernel
  have e36 : (3600 : Int32).toInt = 3600 := by decide +kernel
  have e : (p - q).toInt = p.toInt - q.toInt := at_sub32 (by omega) (by omega)
  have e2 : (-(p - q)).toInt = -(p.toInt - q.toInt) := by
    rw [Int32.toInt_neg, e]
    exact Int.bmod_eq_of_le (by omega) (by omega)
  have e3 : (r_size_v (p - q)).toInt ≤ 1001 := by
    unfold r_size_v
    split <;> omega
  refine t2_nz64 ?_
  rw [at_mul32] <;> rw [e36] <;> omega
theorem r_size_nz {x : Int32} (h : ¬ (r_size_v x).toInt < (1000 : Int32).toInt) : x ≠ 0 := by
  intro e
  apply h
  rw [e]
  decide +kernel
