/-! ===== places of a ring ===== -/
def t2_pl (m F i : Nat) : Nat := if F + i < m then F + i else F + i - m
theorem t2_pl_lt {m F i : Nat} (hF : F < m) (hi : i ≤ m) : t2_pl m F i < m := by unfold t2_pl; split <;> omega
theorem t2_pl_ne {m F i j : Nat} (hF : F < m) (hi : i < m) (hj : j < m) (h : i ≠ j) : t2_pl m F i ≠ t2_pl m F j := by unfold t2_pl; split <;> split <;> omega
theorem t2_pl_m {m F : Nat} (hF : F < m) : t2_pl m F m = F := by unfold t2_pl; rw [if_neg (by omega)]; omega
theorem t2_pl_0 {m F : Nat} (hF : F < m) : t2_pl m F 0 = F := by unfold t2_pl; rw [if_pos (by omega)]; omega
theorem t2_pl_s {m F i : Nat} (hF : F < m) (hi : i + 1 < m) : t2_pl m (t2_pl m F 1) i = t2_pl m F (i + 1) := by unfold t2_pl; split <;> split <;> (try split) <;> omega
theorem t2_pl_e {m F : Nat} (hF : F < m) (hm : 2 ≤ m) : t2_pl m (t2_pl m F 1) (m - 1) = F := by unfold t2_pl; split <;> split <;> omega
theorem t2_pl_n0 {m F i : Nat} (hF : F < m) (hi : i + 1 < m) : t2_pl m F (i + 1) ≠ F := by unfold t2_pl; split <;> omega
theorem t2_if2 {P R : Prop} [Decidable P] [Decidable R] {c : Int32} : (if P then (0 : Int32) else (if R then c else (0 : Int32))) = if (¬ P ∧ R) then c else (0 : Int32) := by
  by_cases p : P
  · rw [if_pos p, if_neg (fun h => h.1 p)]
  · by_cases r : R
    · rw [if_neg p, if_pos r, if_pos ⟨p, r⟩]
    · rw [if_neg p, if_neg r, if_neg (fun h => r h.2)]
theorem t2_if3 {P R : Prop} [Decidable P] [Decidable R] {c : Int32} : (if (if P then (if R then (1 : Int32) else (0 : Int32)) else (0 : Int32)).toInt = 0 then (0 : Int32) else c) = if (P ∧ R) then c else (0 : Int32) := by
  have c1 : (1 : Int32).toInt = 1 := by decide +kernel
  have c0 : (0 : Int32).toInt = 0 := rfl
  by_cases p : P
  · by_cases r : R
    · rw [if_pos p, if_pos r, if_neg (by omega), if_pos ⟨p, r⟩]
    · rw [if_pos p, if_neg r, if_pos c0, if_neg (fun h => r h.2)]
  · rw [if_neg p, if_pos c0, if_neg (fun h => p h.1)]
theorem t2_if4 {P : Prop} [Decidable P] {c : Int32} : (if (if P then (0 : Int32) else (1 : Int32)).toInt = 0 then (0 : Int32) else c) = if (¬ P) then c else (0 : Int32) := by
  have c1 : (1 : Int32).toInt = 1 := by decide +kernel
  have c0 : (0 : Int32).toInt = 0 := rfl
  by_cases p : P
  · rw [if_pos p, if_pos c0, if_neg (fun h => h p)]
  · rw [if_neg p, if_neg (by omega), if_pos p]
def t2_pk (b4 b6 b7 b8 b9 b10 : Bool) (k : Nat) : Bool := if k = 4 then b4 else if k = 6 then b6 else if k = 7 then b7 else if k = 8 then b8 else if k = 9 then b9 else if k = 10 then b10 else false
theorem t2_pk_or {b4 b6 b7 b8 b9 b10 : Bool} {k : Nat} (hk : k < 11) : ((((((b4 && decide (k = 4)) || (b6 && decide (k = 6))) || (b7 && decide (k = 7))) || (b8 && decide (k = 8))) || (b9 && decide (k = 9))) || (b10 && decide (k = 10))) = t2_pk b4 b6 b7 b8 b9 b10 k := by
  unfold t2_pk
  rcases (show k = 0 ∨ k = 1 ∨ k = 2 ∨ k = 3 ∨ k = 4 ∨ k = 5 ∨ k = 6 ∨ k = 7 ∨ k = 8 ∨ k = 9 ∨ k = 10 by omega) with h | h | h | h | h | h | h | h | h | h | h <;> subst h <;> simp
