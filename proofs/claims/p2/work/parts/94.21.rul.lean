/-! ===== block 0: (8) of a second: rules ===== -/
section C0RUL
variable {fc fr f f' g F G A B : t2_F} {C n k : Nat} {c x y z : Int32}
theorem c0_tell_c (h : ∀ p : Nat, p ≠ 4 → f' p = f p) : c0_tell_v f' x = c0_tell_v f x := by
  have h1 := h 1 (by decide)
  have hp : c0_packAt_v f' (f 1 9) = c0_packAt_v f (f 1 9) := by
    unfold c0_packAt_v
    rw [h1, c0_pack_c (f := f) (fun C hC j hj => by rw [h _ (by omega)])]
  have ha := (c0_live_c (f := f) (f' := f') (by rw [h1]) (h 5 (by decide))).1
  unfold c0_tell_v
  rw [h1, hp, ha, h 10 (by decide), h 3 (by decide)]
theorem r_is_c (h : ∀ w : Nat, (w < 34 ∨ 64 ≤ w) → f' 280 w = f 280 w) : r_is_v f' x = r_is_v f x := by
  have hp : r_pack_v f' = r_pack_v f := by
    unfold r_pack_v
    rw [h 2 (by omega), r_pack_c (h 5 (by omega)) (fun C hC w hw => h _ (by omega))]
  have ha := (r_live_c (f := f) (f' := f') (h 3 (by omega)) (fun k hk => h _ (by omega))).1
  unfold r_is_v
  rw [hp, ha, h 2 (by omega), h 3 (by omega), h 4 (by omega), h 5 (by omega), h 6 (by omega), h 7 (by omega), h 8 (by omega), h 9 (by omega), h 10 (by omega), h 11 (by omega), h 12 (by omega), h 19 (by omega), h 13 (by omega), h 17 (by omega)]
def c0_Rr (fc fr : t2_F) : Prop := fc 3 8 = fr 280 18 ∧ (0 ≤ (fr 280 18).toInt ∧ (fr 280 18).toInt ≤ 8) ∧ ∀ j : Nat, (j : Int) < 5 * (fr 280 18).toInt → fc 9 j = fr 280 (79 + j)
theorem c0_rules_eq (hs : c0_Rs fc fr) (hr : c0_Rr fc fr) (hri : ∀ k : Nat, k < 8 → 0 ≤ (fr 280 ((79 + (5 * k)) + 3)).toInt ∧ (fr 280 ((79 + (5 * k)) + 3)).toInt ≤ 29) (hT : ∀ x : Int32, c0_tell_v fc x = r_is_v fr x) : c0_Rs (c0_obeyRules_m fc) (r_goRules_m fr) := by
  obtain ⟨r1, r2, r3⟩ := hr
  generalize hN : (fr 280 18).toInt.toNat = N
  have eN : (fr 280 18).toInt = (N : Int) := by omega
  have FA : ∀ k : Nat, ∀ p : Nat, p ≠ 4 → c0_obeyRules_f10 fc k p = fc p := by
    intro k
    induction k with
    | zero => intro p _; rfl
    | succ k ih =>
      intro p hp
      show c0_obeyRules_b10_m (c0_obeyRules_f10 fc k) k p = _
      unfold c0_obeyRules_b10_m
      rw [fl_row_ne hp]
      exact ih p hp
  have FB : ∀ k : Nat, k ≤ 8 → ∀ w : Nat, (w < 34 ∨ 64 ≤ w) → r_goRules_f2 fr k 280 w = fr 280 w := fun k hk w hw => r_goRules_f2_w r2 hri hk hw
  have loop : ∀ k : Nat, k ≤ N → c0_Rs (c0_obeyRules_f10 fc k) (r_goRules_f2 fr k) := by
    intro k
    induction k with
    | zero => intro _; exact hs
    | succ k ih =>
      intro hk
      have ih := ih (by omega)
      have tT : ∀ x : Int32, c0_tell_v (c0_obeyRules_f10 fc k) x = r_is_v (r_goRules_f2 fr k) x := fun x => by
        rw [c0_tell_c (FA k), r_is_c (FB k (by omega)), hT]
      have q : ∀ i : Nat, i < 5 → c0_obeyRules_f10 fc k 9 (k * 5 + i) = r_goRules_f2 fr k 280 ((79 + (5 * k)) + i) := fun i hi => by
        rw [FA k _ (by decide), FB k (by omega) _ (by omega), r3 _ (by omega)]
        congr 1
        omega
      have q0 : c0_obeyRules_f10 fc k 9 (k * 5) = r_goRules_f2 fr k 280 (79 + (5 * k)) := q 0 (by decide)
      have b3 := hri k (by omega)
      have i3 : (r_goRules_f2 fr k 280 ((79 + (5 * k)) + 3)).toInt.toNat ≤ 29 := by rw [FB k (by omega) _ (by omega)]; omega
      show c0_Rs (c0_obeyRules_b10_m (c0_obeyRules_f10 fc k) k) (r_goRules_b2_m (r_goRules_f2 fr k) k)
      unfold c0_obeyRules_b10_m r_goRules_b2_m
      have ej : c0_obeyRules_b10_j47_0 (c0_obeyRules_f10 fc k) k = r_goRules_b2_j40_0 (r_goRules_f2 fr k) k := by
        unfold c0_obeyRules_b10_j47_0 r_goRules_b2_j40_0
        rw [q 1 (by decide), q 2 (by decide), q 3 (by decide), q 4 (by decide), q0, tT, ih _ (by omega)]
      rw [ej, q 3 (by decide)]
      intro j hj
      rw [fl_row_self, fl_row_self]
      by_cases e : j = (r_goRules_f2 fr k 280 ((79 + (5 * k)) + 3)).toInt.toNat
      · rw [← e, upd_self, upd_self]
      · rw [upd_ne e, upd_ne (by omega)]
        exact ih j hj
  unfold c0_obeyRules_m r_goRules_m
  rw [r1, hN]
  exact loop N (Nat.le_refl N)
end C0RUL
