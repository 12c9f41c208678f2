/-! ===== block 0: (7) of a second, whole ===== -/
section C0FTS
variable {fc fr f g F G : t2_F} {C n k : Nat} {c x y z : Int32}
/-- the reference's words when it asks which faults are so -/
noncomputable def r_gp (f : t2_F) : t2_F := fl_row f 280 (upd (upd (upd (f 280) 15 (r_goFaults_j18_0 f)) 16 (r_goFaults_j53_0 f)) 22 ((f 280 22) + (1 : Int32)))
theorem r_gp_w {w : Nat} (h1 : w ≠ 15) (h2 : w ≠ 16) (h3 : w ≠ 22) : r_gp fr 280 w = fr 280 w := by
  unfold r_gp
  rw [fl_row_self, upd_ne h3, upd_ne h2, upd_ne h1]
theorem r_a91_bt : ∀ n : Nat, n ≤ 11 → ∀ k : Nat, k < 11 → t2_bt (r_goFaults_a91 fr n) k = (decide (k < n) && decide (¬ (r_isSo_v (r_gp fr) (Int32.ofNat k)).toInt = 0)) := by
  intro n
  induction n with
  | zero => intro _ k _; rw [decide_eq_false (Nat.not_lt_zero k), Bool.false_and]; exact t2_bt0
  | succ n ih =>
    intro hn k hk
    show t2_bt ((r_goFaults_a91 fr n) ||| (if (r_isSo_v (r_gp fr) (Int32.ofNat n)).toInt = 0 then (0 : Int32) else (1 : Int32) <<< ((Int32.ofNat n) &&& 31))) k = _
    rw [t2_bt_or, ih (by omega) k hk]
    have hb : t2_bt ((1 : Int32) <<< ((Int32.ofNat n) &&& 31)) k = decide (k = n) := by
      unfold t2_bt
      rw [t2_one ⟨n, by omega⟩]
      exact t2_bs (by omega)
    by_cases e : k = n
    · subst e
      rw [decide_eq_false (Nat.lt_irrefl k), Bool.false_and, Bool.false_or, decide_eq_true (show k < k + 1 by omega), Bool.true_and]
      by_cases h : (r_isSo_v (r_gp fr) (Int32.ofNat k)).toInt = 0
      · rw [if_pos h, t2_bt0]
        exact (decide_eq_false (fun q => q h)).symm
      · rw [if_neg h, hb, decide_eq_true rfl]
        exact (decide_eq_true h).symm
    · have h0 : t2_bt (if (r_isSo_v (r_gp fr) (Int32.ofNat n)).toInt = 0 then (0 : Int32) else (1 : Int32) <<< ((Int32.ofNat n) &&& 31)) k = false := by
        by_cases h : (r_isSo_v (r_gp fr) (Int32.ofNat n)).toInt = 0
        · rw [if_pos h, t2_bt0]
        · rw [if_neg h, hb, decide_eq_false e]
      rw [h0, Bool.or_false]
      by_cases l : k < n
      · rw [decide_eq_true l, decide_eq_true (show k < n + 1 by omega)]
      · rw [decide_eq_false l, decide_eq_false (show ¬ k < n + 1 by omega)]
/-- which faults are so, by number: the reference -/
theorem r_isSo_b {slow : Bool} (hs : g 277 4 = if slow = true then 1 else 0) : ∀ k : Nat, k < 11 → decide (¬ (r_isSo_v g (Int32.ofNat k)).toInt = 0) = ((slow && decide (k = 5)) || t2_cb (decide (¬ (r_soBy_v g (0 : Int32)).toInt = (-1 : Int32).toInt)) (decide (¬ (r_soBy_v g (1 : Int32)).toInt = (-1 : Int32).toInt)) (decide (¬ (r_soBy_v g (2 : Int32)).toInt = (-1 : Int32).toInt) || decide ((g 280 36).toInt < (g 280 8).toInt)) (decide (¬ (r_soBy_v g (3 : Int32)).toInt = (-1 : Int32).toInt)) k || t2_pk (decide ((g 280 3).toInt = (2 : Int32).toInt ∧ (g 280 38).toInt < (r_size_v (g 280 54)).toInt)) (decide (¬ (g 280 15).toInt < (3 : Int32).toInt)) (decide ((g 280 51).toInt < (r_spreadOf_v g).toInt)) (decide (¬ (g 280 16).toInt < (2 : Int32).toInt)) (decide (¬ (g 280 62).toInt = 0 ∧ (g 280 62).toInt < (g 280 22).toInt)) (decide ((g 280 63).toInt = 0)) k) := by
  have c1 : (1 : Int32).toInt = 1 := by decide +kernel
  have c0 : (0 : Int32).toInt = 0 := rfl
  have d10 : ∀ (P : Prop) [Decidable P], decide (¬ (if P then (1 : Int32) else (0 : Int32)).toInt = 0) = decide P := by
    intro P _
    by_cases h : P
    · rw [if_pos h, decide_eq_true h]; exact decide_eq_true (by omega)
    · rw [if_neg h, decide_eq_false h]; exact decide_eq_false (fun q => q c0)
  have d01 : ∀ (P : Prop) [Decidable P], decide (¬ (if P then (0 : Int32) else (1 : Int32)).toInt = 0) = decide (¬ P) := by
    intro P _
    by_cases h : P
    · rw [if_pos h, decide_eq_false (fun q => q c0), decide_eq_false (fun q => q h)]
    · rw [if_neg h, decide_eq_true (show ¬ (1 : Int32).toInt = 0 by omega), decide_eq_true h]
  have d2 : ∀ (P R : Prop) [Decidable P] [Decidable R], decide (¬ (if P then (if R then (1 : Int32) else (0 : Int32)) else (0 : Int32)).toInt = 0) = decide (P ∧ R) := by
    intro P R _ _
    by_cases h : P
    · rw [if_pos h, d10 R]
      by_cases r : R
      · rw [decide_eq_true r, decide_eq_true ⟨h, r⟩]
      · rw [decide_eq_false r, decide_eq_false (fun q => r q.2)]
    · rw [if_neg h, decide_eq_false (fun q => q c0), decide_eq_false (fun q => h q.1)]
  have d3 : ∀ (P R : Prop) [Decidable P] [Decidable R], decide (¬ (if P then (if R then (1 : Int32) else (0 : Int32)) else (1 : Int32)).toInt = 0) = (decide (¬ P) || decide R) := by
    intro P R _ _
    by_cases h : P
    · have hf : decide (¬ P) = false := decide_eq_false (fun q => q h)
      rw [if_pos h, d10 R, hf, Bool.false_or]
    · rw [if_neg h, decide_eq_true (show ¬ (1 : Int32).toInt = 0 by omega), decide_eq_true h, Bool.true_or]
  have d4 : ∀ (P R : Prop) [Decidable P] [Decidable R], decide (¬ (if P then (0 : Int32) else (if R then (1 : Int32) else (0 : Int32))).toInt = 0) = decide (¬ P ∧ R) := by
    intro P R _ _
    by_cases h : P
    · rw [if_pos h, decide_eq_false (fun q => q c0), decide_eq_false (fun q => q.1 h)]
    · rw [if_neg h, d10 R]
      by_cases r : R
      · rw [decide_eq_true r, decide_eq_true ⟨h, r⟩]
      · rw [decide_eq_false r, decide_eq_false (fun q => r q.2)]
  intro k hk
  unfold r_isSo_v
  have n2 : (2 : Int32).toInt = 2 := by decide +kernel
  have n4 : (4 : Int32).toInt = 4 := by decide +kernel
  have n3 : (3 : Int32).toInt = 3 := by decide +kernel
  have n5 : (5 : Int32).toInt = 5 := by decide +kernel
  have n6 : (6 : Int32).toInt = 6 := by decide +kernel
  have n7 : (7 : Int32).toInt = 7 := by decide +kernel
  have n8 : (8 : Int32).toInt = 8 := by decide +kernel
  have n9 : (9 : Int32).toInt = 9 := by decide +kernel
  rcases (show k = 0 ∨ k = 1 ∨ k = 2 ∨ k = 3 ∨ k = 4 ∨ k = 5 ∨ k = 6 ∨ k = 7 ∨ k = 8 ∨ k = 9 ∨ k = 10 by omega) with h | h | h | h | h | h | h | h | h | h | h <;> subst h
  · have ex : (Int32.ofNat 0).toInt = 0 := at_ofN (by omega)
    rw [if_pos (show (Int32.ofNat 0).toInt < (4 : Int32).toInt by omega), if_neg (show ¬ (Int32.ofNat 0).toInt = (2 : Int32).toInt by omega), d01]
    have eo : Int32.ofNat 0 = (0 : Int32) := rfl
    rw [eo]
    simp [t2_cb, t2_pk]
  · have ex : (Int32.ofNat 1).toInt = 1 := at_ofN (by omega)
    rw [if_pos (show (Int32.ofNat 1).toInt < (4 : Int32).toInt by omega), if_neg (show ¬ (Int32.ofNat 1).toInt = (2 : Int32).toInt by omega), d01]
    have eo : Int32.ofNat 1 = (1 : Int32) := rfl
    rw [eo]
    simp [t2_cb, t2_pk]
  · have ex : (Int32.ofNat 2).toInt = 2 := at_ofN (by omega)
    rw [if_pos (show (Int32.ofNat 2).toInt < (4 : Int32).toInt by omega), if_pos (show (Int32.ofNat 2).toInt = (2 : Int32).toInt by omega), d3]
    have eo : Int32.ofNat 2 = (2 : Int32) := rfl
    rw [eo]
    simp [t2_cb, t2_pk]
  · have ex : (Int32.ofNat 3).toInt = 3 := at_ofN (by omega)
    rw [if_pos (show (Int32.ofNat 3).toInt < (4 : Int32).toInt by omega), if_neg (show ¬ (Int32.ofNat 3).toInt = (2 : Int32).toInt by omega), d01]
    have eo : Int32.ofNat 3 = (3 : Int32) := rfl
    rw [eo]
    simp [t2_cb, t2_pk]
  · have ex : (Int32.ofNat 4).toInt = 4 := at_ofN (by omega)
    rw [if_neg (show ¬ (Int32.ofNat 4).toInt < (4 : Int32).toInt by omega), if_pos (show (Int32.ofNat 4).toInt = (4 : Int32).toInt by omega), d2]
    simp [t2_cb, t2_pk]
  · have ex : (Int32.ofNat 5).toInt = 5 := at_ofN (by omega)
    rw [if_neg (show ¬ (Int32.ofNat 5).toInt < (4 : Int32).toInt by omega), if_neg (show ¬ (Int32.ofNat 5).toInt = (4 : Int32).toInt by omega), if_pos (show (Int32.ofNat 5).toInt = (5 : Int32).toInt by omega), hs]
    cases slow
    · simp [t2_cb, t2_pk]
    · simp [t2_cb, t2_pk]
  · have ex : (Int32.ofNat 6).toInt = 6 := at_ofN (by omega)
    rw [if_neg (show ¬ (Int32.ofNat 6).toInt < (4 : Int32).toInt by omega), if_neg (show ¬ (Int32.ofNat 6).toInt = (4 : Int32).toInt by omega), if_neg (show ¬ (Int32.ofNat 6).toInt = (5 : Int32).toInt by omega), if_pos (show (Int32.ofNat 6).toInt = (6 : Int32).toInt by omega), d01]
    simp [t2_cb, t2_pk]
  · have ex : (Int32.ofNat 7).toInt = 7 := at_ofN (by omega)
    rw [if_neg (show ¬ (Int32.ofNat 7).toInt < (4 : Int32).toInt by omega), if_neg (show ¬ (Int32.ofNat 7).toInt = (4 : Int32).toInt by omega), if_neg (show ¬ (Int32.ofNat 7).toInt = (5 : Int32).toInt by omega), if_neg (show ¬ (Int32.ofNat 7).toInt = (6 : Int32).toInt by omega), if_pos (show (Int32.ofNat 7).toInt = (7 : Int32).toInt by omega), d10]
    simp [t2_cb, t2_pk]
  · have ex : (Int32.ofNat 8).toInt = 8 := at_ofN (by omega)
    rw [if_neg (show ¬ (Int32.ofNat 8).toInt < (4 : Int32).toInt by omega), if_neg (show ¬ (Int32.ofNat 8).toInt = (4 : Int32).toInt by omega), if_neg (show ¬ (Int32.ofNat 8).toInt = (5 : Int32).toInt by omega), if_neg (show ¬ (Int32.ofNat 8).toInt = (6 : Int32).toInt by omega), if_neg (show ¬ (Int32.ofNat 8).toInt = (7 : Int32).toInt by omega), if_pos (show (Int32.ofNat 8).toInt = (8 : Int32).toInt by omega), d01]
    simp [t2_cb, t2_pk]
  · have ex : (Int32.ofNat 9).toInt = 9 := at_ofN (by omega)
    rw [if_neg (show ¬ (Int32.ofNat 9).toInt < (4 : Int32).toInt by omega), if_neg (show ¬ (Int32.ofNat 9).toInt = (4 : Int32).toInt by omega), if_neg (show ¬ (Int32.ofNat 9).toInt = (5 : Int32).toInt by omega), if_neg (show ¬ (Int32.ofNat 9).toInt = (6 : Int32).toInt by omega), if_neg (show ¬ (Int32.ofNat 9).toInt = (7 : Int32).toInt by omega), if_neg (show ¬ (Int32.ofNat 9).toInt = (8 : Int32).toInt by omega), if_pos (show (Int32.ofNat 9).toInt = (9 : Int32).toInt by omega), d4]
    simp [t2_cb, t2_pk]
  · have ex : (Int32.ofNat 10).toInt = 10 := at_ofN (by omega)
    rw [if_neg (show ¬ (Int32.ofNat 10).toInt < (4 : Int32).toInt by omega), if_neg (show ¬ (Int32.ofNat 10).toInt = (4 : Int32).toInt by omega), if_neg (show ¬ (Int32.ofNat 10).toInt = (5 : Int32).toInt by omega), if_neg (show ¬ (Int32.ofNat 10).toInt = (6 : Int32).toInt by omega), if_neg (show ¬ (Int32.ofNat 10).toInt = (7 : Int32).toInt by omega), if_neg (show ¬ (Int32.ofNat 10).toInt = (8 : Int32).toInt by omega), if_neg (show ¬ (Int32.ofNat 10).toInt = (9 : Int32).toInt by omega), d10]
    simp [t2_cb, t2_pk]
end C0FTS
