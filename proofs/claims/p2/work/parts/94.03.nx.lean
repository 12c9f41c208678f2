/-! ===== shunts: the next one, sums over bits, the reference's rounds ===== -/
noncomputable def t2_nx (p : Nat → Int32) (b x : Int32) : Nat → Int32
  | 0 => (-1 : Int32)
  | k + 1 => if (r_has_v b (Int32.ofNat k)).toInt = 0 then (if x.toInt < (p k).toInt then (if (t2_nx p b x k).toInt = (-1 : Int32).toInt then Int32.ofNat k else (if (p ((t2_nx p b x k).toInt.toNat)).toInt < (p k).toInt then Int32.ofNat k else t2_nx p b x k)) else t2_nx p b x k) else t2_nx p b x k
theorem r_nx {f : t2_F} {x : Int32} : ∀ n : Nat, r_nextShunt_a4 f x n = t2_nx (f 282) (f 280 13) x n := by
  intro n
  induction n with
  | zero => rfl
  | succ n ih =>
    unfold r_nextShunt_a4 t2_nx
    rw [ih]
theorem t2_nx_in {p : Nat → Int32} {b x : Int32} : ∀ n : Nat, n ≤ 16 → t2_nx p b x n = (-1 : Int32) ∨ ∃ j : Nat, j < n ∧ t2_nx p b x n = Int32.ofNat j ∧ t2_bt b j = false ∧ x.toInt < (p j).toInt := by
  intro n
  induction n with
  | zero => intro _; exact Or.inl rfl
  | succ n ih =>
    intro hn
    have keep : t2_nx p b x n = (-1 : Int32) ∨ ∃ j : Nat, j < n + 1 ∧ t2_nx p b x n = Int32.ofNat j ∧ t2_bt b j = false ∧ x.toInt < (p j).toInt := by
      rcases ih (by omega) with h | ⟨j, h1, h2⟩
      · exact Or.inl h
      · exact Or.inr ⟨j, by omega, h2⟩
    unfold t2_nx
    by_cases hb : (r_has_v b (Int32.ofNat n)).toInt = 0
    · rw [if_pos hb]
      have hb2 := (t2_has0 (by omega)).mp hb
      by_cases hx : x.toInt < (p n).toInt
      · rw [if_pos hx]
        split
        · exact Or.inr ⟨n, by omega, rfl, hb2, hx⟩
        · split
          · exact Or.inr ⟨n, by omega, rfl, hb2, hx⟩
          · exact keep
      · rw [if_neg hx]
        exact keep
    · rw [if_neg hb]
      exact keep
/-- a sum over the bits that are set -/
def t2_sb (b : Int32) (v : Nat → Int32) : Nat → Int32
  | 0 => 0
  | n + 1 => t2_sb b v n + (if t2_bt b n = true then v n else 0)
theorem t2_sb_z {b : Int32} {v : Nat → Int32} : t2_sb b v 0 = 0 := rfl
theorem t2_sb0 {v : Nat → Int32} : ∀ n : Nat, t2_sb 0 v n = 0 := by
  intro n
  induction n with
  | zero => rfl
  | succ n ih =>
    unfold t2_sb
    rw [ih, if_neg (by rw [t2_bt0]; exact Bool.false_ne_true)]
    rfl
theorem t2_sb_add {b : Int32} {v : Nat → Int32} {c : Nat} (hc : c < 32) (hb : t2_bt b c = false) : ∀ n : Nat, n ≤ 32 → t2_sb (b ||| ((1 : Int32) <<< (Int32.ofNat c &&& 31))) v n = if c < n then t2_sb b v n + v c else t2_sb b v n := by
  intro n
  induction n with
  | zero => intro _; rfl
  | succ n ih =>
    intro hn
    have ih := ih (by omega)
    unfold t2_sb
    rw [ih, t2_bor hc (by omega)]
    by_cases e : n = c
    · subst e
      rw [if_neg (Nat.lt_irrefl n), if_pos (show n < n + 1 by omega), hb, if_pos (by simp), if_neg Bool.false_ne_true, Int32.add_zero]
    · rw [decide_eq_false e, Bool.or_false]
      by_cases l : c < n
      · rw [if_pos l, if_pos (show c < n + 1 by omega), Int32.add_assoc, Int32.add_comm (v c), ← Int32.add_assoc]
      · rw [if_neg l, if_neg (show ¬ c < n + 1 by omega)]
section RNX
variable {f : t2_F} {a a0 : Int32} {X k j n : Nat}
theorem r_b81_w (hj : j < 16) {by_ : Int32} (hb : r_lesser_v (f 280 46) (f 280 (444 + 61 * j + 1)) = by_) :
    (r_shuntAll_b81_m f a X (Int32.ofNat j) k 280 (444 + 61 * j + 1) = r_held_v (f 280 (444 + 61 * j + 1) - by_) (0 : Int32) ((3600 : Int32) * f 280 (444 + 61 * j + 0)) ∧ r_shuntAll_b81_m f a X (Int32.ofNat j) k 280 (444 + 61 * j + 4) = r_held_v (f 280 (444 + 61 * j + 4) - f 280 46) (0 : Int32) ((3600 : Int32) * f 280 (444 + 61 * j + 0))) ∧
    (∀ w : Nat, w ≠ 8 → w ≠ 10 → w ≠ 13 → w ≠ 444 + 61 * j + 1 → w ≠ 444 + 61 * j + 4 → r_shuntAll_b81_m f a X (Int32.ofNat j) k 280 w = f 280 w) ∧
    r_shuntAll_b81_m f a X (Int32.ofNat j) k 280 8 = f 280 8 + (3 : Int32) ∧ r_shuntAll_b81_m f a X (Int32.ofNat j) k 280 10 = f 280 10 + by_ ∧ r_shuntAll_b81_m f a X (Int32.ofNat j) k 280 13 = f 280 13 ||| ((1 : Int32) <<< (Int32.ofNat j &&& 31)) ∧ r_shuntAll_b81_m f a X (Int32.ofNat j) k 282 = f 282 := by
  have e : (Int32.ofNat j).toInt.toNat = j := by rw [at_ofN (by omega)]; exact Int.toNat_natCast j
  unfold r_shuntAll_b81_m
  simp only [e, hb]
  generalize hM : r_hold_m (fl_row f 280 (upd (upd (f 280) (444 + 61 * j + 1) (f 280 (444 + 61 * j + 1) - by_)) (444 + 61 * j + 4) (f 280 (444 + 61 * j + 4) - f 280 46))) (Int32.ofNat j) j = M
  have m1 : M 280 (444 + 61 * j + 1) = r_held_v (f 280 (444 + 61 * j + 1) - by_) (0 : Int32) ((3600 : Int32) * f 280 (444 + 61 * j + 0)) := by
    rw [← hM, r_hld_1]
    simp (disch := omega) only [fl_row_self, upd_self, upd_ne]
  have m4 : M 280 (444 + 61 * j + 4) = r_held_v (f 280 (444 + 61 * j + 4) - f 280 46) (0 : Int32) ((3600 : Int32) * f 280 (444 + 61 * j + 0)) := by
    rw [← hM, r_hld_4]
    simp (disch := omega) only [fl_row_self, upd_self, upd_ne]
  have mo : ∀ w : Nat, w ≠ 444 + 61 * j + 1 → w ≠ 444 + 61 * j + 4 → M 280 w = f 280 w := fun w h1 h4 => by
    rw [← hM, r_hld_o h1 h4, fl_row_self, upd_ne h4, upd_ne h1]
  have mp : M 282 = f 282 := by
    rw [← hM, r_hld_p (by decide), fl_row_ne (by decide)]
  refine ⟨⟨?_, ?_⟩, fun w h8 h10 h13 h1 h4 => ?_, ?_, ?_, ?_, ?_⟩
  · rw [fl_row_ne (by decide), fl_row_self, upd_ne (by omega), upd_ne (by omega), upd_ne (by omega), m1]
  · rw [fl_row_ne (by decide), fl_row_self, upd_ne (by omega), upd_ne (by omega), upd_ne (by omega), m4]
  · rw [fl_row_ne (by decide), fl_row_self, upd_ne h13, upd_ne h8, upd_ne h10, mo w h1 h4]
  · rw [fl_row_ne (by decide), fl_row_self, upd_ne (by decide), upd_self]
  · rw [fl_row_ne (by decide), fl_row_self, upd_ne (by decide), upd_ne (by decide), upd_self]
  · rw [fl_row_ne (by decide), fl_row_self, upd_self]
  · rw [fl_row_ne (by decide), fl_row_ne (by decide), mp]
/-- what the reference's rounds have left -/
def r_SI (g0 G : t2_F) (n : Nat) : Prop :=
  (∀ C : Nat, C < n → G 282 C = r_partOf_v g0 0 C) ∧
  (∀ C : Nat, C < n → (t2_bt (G 280 13) C = true → G 280 (444 + 61 * C + 1) = r_held_v (g0 280 (444 + 61 * C + 1) - r_lesser_v (g0 280 46) (g0 280 (444 + 61 * C + 1))) (0 : Int32) ((3600 : Int32) * g0 280 (444 + 61 * C + 0)) ∧ G 280 (444 + 61 * C + 4) = r_held_v (g0 280 (444 + 61 * C + 4) - g0 280 46) (0 : Int32) ((3600 : Int32) * g0 280 (444 + 61 * C + 0))) ∧ (t2_bt (G 280 13) C = false → G 280 (444 + 61 * C + 1) = g0 280 (444 + 61 * C + 1) ∧ G 280 (444 + 61 * C + 4) = g0 280 (444 + 61 * C + 4))) ∧
  (∀ w : Nat, w ≠ 8 → w ≠ 10 → w ≠ 13 → (∀ C : Nat, C < n → w ≠ 444 + 61 * C + 1 ∧ w ≠ 444 + 61 * C + 4) → G 280 w = g0 280 w) ∧
  G 280 8 = g0 280 8 + t2_sb (G 280 13) (fun _ => (3 : Int32)) n ∧ G 280 10 = g0 280 10 + t2_sb (G 280 13) (fun C => r_lesser_v (g0 280 46) (g0 280 (444 + 61 * C + 1))) n
theorem r_SI_step {g0 G : t2_F} (hn : n ≤ 16) (h : r_SI g0 G n) (hj : j < n) (hb : t2_bt (G 280 13) j = false) : r_SI g0 (r_shuntAll_b81_m G a X (Int32.ofNat j) k) n := by
  obtain ⟨h1, h2, h3, h4, h5⟩ := h
  obtain ⟨⟨w1, w4⟩, wo, w8, w10, w13, wp⟩ := r_b81_w (f := G) (a := a) (X := X) (k := k) (j := j) (by omega) rfl
  have k46 : G 280 46 = g0 280 46 := h3 46 (by decide) (by decide) (by decide) (fun C hC => ⟨by omega, by omega⟩)
  have k0 : ∀ C : Nat, C < n → G 280 (444 + 61 * C + 0) = g0 280 (444 + 61 * C + 0) := fun C hC => h3 _ (by omega) (by omega) (by omega) (fun D hD => ⟨by omega, by omega⟩)
  obtain ⟨j1, j4⟩ := (h2 j hj).2 hb
  have bits : ∀ C : Nat, C < n → t2_bt (G 280 13 ||| ((1 : Int32) <<< (Int32.ofNat j &&& 31))) C = (t2_bt (G 280 13) C || decide (C = j)) := fun C hC => t2_bor (by omega) (by omega)
  refine ⟨fun C hC => by rw [wp]; exact h1 C hC, fun C hC => ?_, fun w a8 a10 a13 ac => ?_, ?_, ?_⟩
  · rw [w13, bits C hC]
    by_cases e : C = j
    · subst e
      refine ⟨fun _ => ⟨?_, ?_⟩, fun hf => ?_⟩
      · rw [w1, k46, j1, k0 C hC]
      · rw [w4, k46, j4, k0 C hC]
      · rw [decide_eq_true rfl, Bool.or_true] at hf
        cases hf
    · rw [decide_eq_false e, Bool.or_false, wo _ (by omega) (by omega) (by omega) (by omega) (by omega), wo _ (by omega) (by omega) (by omega) (by omega) (by omega)]
      exact h2 C hC
  · rw [wo w a8 a10 a13 (ac j hj).1 (ac j hj).2]
    exact h3 w a8 a10 a13 ac
  · rw [w13, t2_sb_add (by omega) hb n (by omega), if_pos hj, w8, h4, Int32.add_assoc]
  · rw [w13, t2_sb_add (by omega) hb n (by omega), if_pos hj, w10, h5, k46, j1, Int32.add_assoc]
/-- the reference's choice at each round -/
theorem r_shunt_a {g0 : t2_F} (k : Nat) (hk : k ≤ (r_shuntAll_j24_0 g0).toInt.toNat) : r_shuntAll_a81_0 g0 k = if k < (r_shuntAll_j24_0 g0).toInt.toNat then r_nextShunt_v (r_shuntAll_f81 g0 k) ((r_leastPart_v g0) + (g0 280 48)) else (-1 : Int32) := by
  cases k with
  | zero =>
    show r_shuntAll_j68_0 g0 = if _ then r_nextShunt_v (r_shuntAll_f40 g0 ((g0 280 2).toInt.toNat)) _ else _
    unfold r_shuntAll_j68_0
    by_cases h : 0 < (r_shuntAll_j24_0 g0).toInt
    · rw [if_pos h, if_pos (by omega)]
    · rw [if_neg h, if_neg (by omega)]
  | succ k =>
    have b := at_i32 (r_shuntAll_j24_0 g0)
    rw [r_shuntAll_aS, r_shuntAll_fS]
    show (if 0 < ((Int32.ofNat ((r_shuntAll_j24_0 g0).toInt.toNat - k)) + (-1 : Int32)).toInt then r_nextShunt_v (r_shuntAll_b81_m (r_shuntAll_f81 g0 k) ((r_leastPart_v g0) + (g0 280 48)) ((r_shuntAll_j24_0 g0).toInt.toNat) (r_shuntAll_a81_0 g0 k) k) ((r_leastPart_v g0) + (g0 280 48)) else (-1 : Int32)) = _
    rw [← t2_kd (by omega), at_ofN (by omega)]
    by_cases h : k + 1 < (r_shuntAll_j24_0 g0).toInt.toNat
    · rw [if_pos h, if_pos (by omega)]
    · rw [if_neg h, if_neg (by omega)]
theorem r_shunt_0 {g0 : t2_F} (hn : (g0 280 2).toInt.toNat = n) (hn16 : n ≤ 16) (h13 : g0 280 13 = 0) : r_SI g0 (r_shuntAll_f81 g0 0) n := by
  have e : r_shuntAll_f81 g0 0 = r_shuntAll_f40 g0 n := by
    unfold r_shuntAll_f81 r_shuntAll_l81
    rw [hn]
  have e280 : ∀ k : Nat, r_shuntAll_f40 g0 k 280 = g0 280 := fun k => r_shuntAll_f40_fr (k := k) (p := 280) (fun j hj => by decide)
  have e282 : ∀ k : Nat, ∀ C : Nat, C < k → r_shuntAll_f40 g0 k 282 C = r_partOf_v g0 0 C := by
    intro k
    induction k with
    | zero => intro C h; exact absurd h (Nat.not_lt_zero _)
    | succ k ih =>
      intro C h
      show r_shuntAll_b40_m (r_shuntAll_f40 g0 k) _ _ k 282 C = _
      unfold r_shuntAll_b40_m
      rw [fl_row_self]
      by_cases e : C = k
      · subst e
        rw [upd_self]
        unfold r_partOf_v
        rw [e280]
      · rw [upd_ne e]
        exact ih C (by omega)
  rw [e]
  refine ⟨fun C hC => e282 n C hC, fun C hC => ?_, fun w _ _ _ _ => by rw [e280], ?_, ?_⟩
  · rw [e280, h13, t2_bt0]
    exact ⟨fun h => (Bool.false_ne_true h).elim, fun _ => ⟨rfl, rfl⟩⟩
  · rw [e280, h13, t2_sb0, Int32.add_zero]
  · rw [e280, h13, t2_sb0, Int32.add_zero]
end RNX
