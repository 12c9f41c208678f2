/-! 94.47.rundo.lean.txt -/
section
/-! ===== the reference's undo, as a function ===== -/
section T2RU
variable {L : Nat} {xs : Nat → Int32} {m : fl_M} {Q : Option fl_V → fl_M → Prop}
theorem r_undo_q (w0 : 0 ≤ (m.1 280 0).toInt ∧ (m.1 280 0).toInt ≤ 20) (w1 : 0 ≤ (m.1 280 1).toInt ∧ (m.1 280 1).toInt ≤ 19)
    (kn : (m.1 280 0).toInt = 0 → Q (some (.inl (Int32.ofInt (-1)))) m)
    (k : ∀ (g : t2_F) (s : Nat), ¬ (m.1 280 0).toInt = 0 → s < 20 → (s : Int) = ((m.1 280 1).toInt + ((m.1 280 0).toInt - 1)) % 20 → (∀ p : Nat, p ≠ 280 → g p = m.1 p) → (∀ j : Nat, (j = 1 ∨ 1420 ≤ j) → g 280 j = m.1 280 j) → (∀ j : Nat, j < 1418 → g 280 (2 + j) = m.1 280 (1420 + 1418 * s + j)) → (g 280 0).toInt = (m.1 280 0).toInt - 1 → Q (some (.inl (g 280 0))) (g, m.2)) :
    fl_Tq (pw_P L xs) 242 0 (fl_args (am_mxl (pw_P L xs) 242) [.inr (.inr (.inl (76, 277)))]) [] m Q := by
  refine fl_Tq.stp rfl rfl (fl_bo rfl) rfl ?_
  refine fl_Tq.stp rfl rfl (fl_bo rfl) rfl ?_
  refine fl_Tq.stp rfl rfl (fl_bo rfl) rfl ?_
  refine fl_Tq.ld (p := 280) (τ := 79) (n := 29780) (z := (0, 0, 0)) (k := 0) rfl (fl_bo rfl) rfl rfl (by decide) ?_
  by_cases h0 : (m.1 280 0).toInt = 0
  · refine fl_Tq.zf rfl (fl_bo rfl) ?_ rfl ?_
    · rw [at_c1, h0]; rfl
    refine fl_Tq.stp rfl rfl (fl_bo rfl) rfl ?_
    exact fl_Tq.ret rfl rfl rfl (kn h0)
  · refine fl_Tq.zt rfl (fl_bo rfl) ?_ rfl ?_
    · rw [at_c1]; show (!decide ((m.1 280 0).toInt = 0)) = true; rw [decide_eq_false h0]; rfl
    refine fl_Tq.stp rfl rfl (fl_bo rfl) rfl ?_
    refine fl_Tq.stp rfl rfl (fl_bo rfl) rfl ?_
    refine fl_Tq.stp rfl rfl (fl_bo rfl) rfl ?_
    refine fl_Tq.stp rfl rfl (fl_bo rfl) rfl ?_
    refine fl_Tq.ld (p := 280) (τ := 79) (n := 29780) (z := (0, 0, 0)) (k := 0) rfl (fl_bo rfl) rfl rfl (by decide) ?_
    refine fl_Tq.stp rfl rfl (fl_bo rfl) rfl ?_
    refine fl_Tq.stp rfl rfl (fl_bo rfl) rfl ?_
    refine fl_Tq.sv (p := 280) (τ := 79) (n := 29780) (z := (0, 0, 0)) (k := 0) rfl (fl_bo rfl) rfl rfl (by decide) ?_
    dsimp only
    have e1 : (Int32.ofInt 1).toInt = 1 := rfl
    have hv0 := at_sub32 (x := m.1 280 0) (y := Int32.ofInt 1) (by omega) (by omega)
    generalize m.1 280 0 - Int32.ofInt 1 = v0 at hv0
    refine fl_Tq.stp rfl rfl (fl_bo rfl) rfl ?_
    refine fl_Tq.stp rfl rfl (fl_bo rfl) rfl ?_
    refine fl_Tq.stp rfl rfl (fl_bo rfl) rfl ?_
    refine fl_Tq.ld (p := 280) (τ := 79) (n := 29780) (z := (0, 0, 0)) (k := 1) rfl (fl_bo rfl) rfl rfl (by decide) ?_
    refine fl_Tq.stp rfl rfl (fl_bo rfl) rfl ?_
    refine fl_Tq.stp rfl rfl (fl_bo rfl) rfl ?_
    refine fl_Tq.stp rfl rfl (fl_bo rfl) rfl ?_
    refine fl_Tq.ld (p := 280) (τ := 79) (n := 29780) (z := (0, 0, 0)) (k := 0) rfl (fl_bo rfl) rfl rfl (by decide) ?_
    have q1 : fl_up m.1 280 0 v0 280 1 = m.1 280 1 := bl_un (fun _ => by decide)
    have q0 : fl_up m.1 280 0 v0 280 0 = v0 := bl_ue
    refine fl_Tq.cal rfl rfl (fl_bo rfl) rfl ?_
    refine at_st240 (x := fl_up m.1 280 0 v0 280 1) (y := fl_up m.1 280 0 v0 280 0) (by rw [q1]; omega) (by rw [q0]; omega) (fun v hv => ?_)
    rw [q1, q0] at hv
    obtain ⟨s, hs, hsn⟩ : ∃ s : Nat, s < 20 ∧ v.toInt = ((1420 + 1418 * s : Nat) : Int) := ⟨(((m.1 280 1).toInt + v0.toInt) % 20).toNat, by omega, by omega⟩
    refine fl_Tq.stp rfl rfl (fl_bo rfl) rfl ?_
    refine fl_Tq.stp rfl rfl (fl_bo rfl) rfl ?_
    refine fl_Tq.stp rfl rfl (fl_bo rfl) rfl ?_
    have hR : ∀ Q : Option fl_V → fl_M → Prop, (∀ m2, m2 = bl_cp 280 (1420 + 1418 * s) 280 2 1418 (fl_up m.1 280 0 v0, m.2) → Q (some (.inl (m2.1 280 0))) m2) → fl_Tq (pw_P L xs) 242 39 [some (.inr (.inr (.inl (76, 277)))), some (.inl v), some (.inl (Int32.ofNat 0))] [] (fl_up m.1 280 0 v0, m.2) Q := by
      intro Q k
      have loop : ∀ (d n : Nat), n + d = 1418 → fl_Tq (pw_P L xs) 242 39 [some (.inr (.inr (.inl (76, 277)))), some (.inl v), some (.inl (Int32.ofNat n))] [] (bl_cp 280 (1420 + 1418 * s) 280 2 n (fl_up m.1 280 0 v0, m.2)) Q := by
        intro d
        induction d with
        | zero =>
          intro n hn
          have hn : n = 1418 := by omega
          subst hn
          refine fl_Tq.stp rfl rfl (fl_bo rfl) rfl ?_
          refine fl_Tq.stp rfl rfl (fl_bo rfl) rfl ?_
          refine fl_Tq.jt rfl (fl_bo rfl) (by decide +kernel) rfl ?_
          refine fl_Tq.stp rfl rfl (fl_bo rfl) rfl ?_
          refine fl_Tq.stp rfl rfl (fl_bo rfl) rfl ?_
          refine fl_Tq.stp rfl rfl (fl_bo rfl) rfl ?_
          refine fl_Tq.ld (p := 280) (τ := 79) (n := 29780) (z := (0, 0, 0)) (k := 0) rfl (fl_bo rfl) rfl rfl (by decide) ?_
          exact fl_Tq.ret rfl rfl rfl (k _ rfl)
        | succ d ih =>
          intro n hn
          have en := at_ofN (k := n) (by omega)
          refine fl_Tq.stp rfl rfl (fl_bo rfl) rfl ?_
          refine fl_Tq.stp rfl rfl (fl_bo rfl) rfl ?_
          refine fl_Tq.jf rfl (fl_bo rfl) ?_ rfl ?_
          · rw [at_c2, en]
            exact decide_eq_false (by show ¬ (0 ≤ (n : Int) - (1418 : Int)); omega)
          have h2 : (Int32.ofInt 2 + Int32.ofNat n).toInt = ((2 + n : Nat) : Int) := by rw [at_2n (by omega), Nat.add_comm]
          have h3 : (v + Int32.ofNat n).toInt = ((1420 + 1418 * s + n : Nat) : Int) := by
            rw [at_add32] <;> omega
          refine fl_Tq.stp rfl rfl (fl_bo rfl) rfl ?_
          refine fl_Tq.stp rfl rfl (fl_bo rfl) rfl ?_
          refine fl_Tq.stp rfl rfl (fl_bo rfl) rfl ?_
          refine fl_Tq.stp rfl rfl (fl_bo rfl) rfl ?_
          refine fl_Tq.stp rfl rfl (fl_bo rfl) rfl ?_
          refine fl_Tq.stp rfl rfl (fl_bo rfl) rfl ?_
          refine fl_Tq.stp rfl rfl (fl_bo rfl) rfl ?_
          refine fl_Tq.stp rfl rfl (fl_bo rfl) rfl ?_
          refine fl_Tq.stp rfl rfl (fl_bo rfl) rfl ?_
          refine fl_Tq.stp rfl rfl (fl_bo rfl) rfl ?_
          refine fl_Tq.ld (p := 280) (τ := 79) (n := 29780) (z := (0, 0, 0)) (k := 1420 + 1418 * s + n) rfl (fl_bo rfl) rfl h3 (by omega) ?_
          refine fl_Tq.sv (p := 280) (τ := 79) (n := 29780) (z := (0, 0, 0)) (k := 2 + n) rfl (fl_bo rfl) rfl h2 (by omega) ?_
          rw [bl_cp_s (src := 280) (s0 := 1420 + 1418 * s) (dst := 280) (d0 := 2) (n := n) (fun _ => Or.inr (by omega))]
          refine fl_Tq.stp rfl rfl (fl_bo rfl) rfl ?_
          refine fl_Tq.stp rfl rfl (fl_bo rfl) rfl ?_
          have := ih (n + 1) (by omega)
          rw [← at_inc (by omega)] at this
          exact this
      have := loop 1418 0 (by omega)
      rw [bl_cp_0] at this
      exact this
    refine hR _ (fun m2 em2 => ?_)
    have ne : ∀ p j : Nat, (p = 280 → j = 1 ∨ 1420 ≤ j) → m2.1 p j = m.1 p j := fun p j e => by
      rw [em2, bl_cp_out (fun h => by have := e h; omega)]
      exact bl_un (fun h => by have := e h; omega)
    have e0 : m2.1 280 0 = v0 := by
      rw [em2, bl_cp_out (fun _ => Or.inl (by decide))]
      show fl_up m.1 280 0 v0 280 0 = v0
      exact bl_ue
    have eh : m2.2 = m.2 := by rw [em2]; rfl
    rw [show m2 = (m2.1, m.2) by rw [← eh]]
    refine k m2.1 s h0 hs ?_ (fun p hp => funext (fun j => ne p j (fun h => absurd h hp))) (fun j hj => ne 280 j (fun _ => hj)) (fun j hj => ?_) (by rw [e0, hv0, e1])
    · omega
    · rw [em2, bl_cp_in (by omega) (by omega), show 2 + j - 2 + (1420 + 1418 * s) = 1420 + 1418 * s + j by omega]
      show fl_up m.1 280 0 v0 280 _ = _
      rw [bl_un (fun _ => by omega)]
end T2RU

end

/-! 94.48.rimg.lean.txt -/
section
/-! ===== the reference's image and back, as functions ===== -/
section T2RI
variable {L : Nat} {xs : Nat → Int32} {m : fl_M} {Q : Option fl_V → fl_M → Prop}
theorem r_image_q (k : ∀ g : t2_F, (∀ p : Nat, p ≠ 281 → g p = m.1 p) → (∀ j : Nat, j < 29780 → g 281 j = m.1 280 j) → Q (some (.inl (g 280 7))) (g, m.2)) : fl_Tq (pw_P L xs) 323 0 (fl_args (am_mxl (pw_P L xs) 323) [.inr (.inr (.inl (76, 277)))]) [] m Q := by
  have k81 : fk_K 281 = 80 := by decide +kernel
  refine fl_Tq.stp rfl rfl (fl_bo rfl) rfl ?_
  refine fl_Tq.stp rfl rfl (fl_bo rfl) rfl ?_
  refine fl_Tq.stp rfl rfl (fl_bo rfl) rfl ?_
  refine fl_Tq.stp rfl rfl (fl_bo rfl) rfl ?_
  refine fl_Tq.cal rfl rfl (fl_bo rfl) rfl ?_
  refine at_copy (p := 280) (q := 281) (tp := 79) (tq := 80) fk_K_280 k81 (by decide) (by decide) rfl rfl (by decide) ?_
  refine fl_Tq.stp rfl rfl (fl_bo rfl) rfl ?_
  refine fl_Tq.stp rfl rfl (fl_bo rfl) rfl ?_
  refine fl_Tq.stp rfl rfl (fl_bo rfl) rfl ?_
  refine fl_Tq.ld (p := 280) (τ := 79) (n := 29780) (z := (0, 0, 0)) (k := 7) rfl (fl_bo rfl) rfl (by decide +kernel) (by decide) ?_
  refine fl_Tq.ret rfl rfl rfl ?_
  refine k (bl_cp 280 0 281 0 29780 m).1 (fun p hp => funext (fun j => bl_cp_out (fun h => absurd h hp))) (fun j hj => ?_)
  rw [bl_cp_in (by omega) (by omega)]
  rfl
theorem r_back_q (k : ∀ g : t2_F, (∀ p : Nat, p ≠ 280 → g p = m.1 p) → (∀ j : Nat, j < 29780 → g 280 j = m.1 281 j) → Q (some (.inl (g 280 7))) (g, m.2)) : fl_Tq (pw_P L xs) 324 0 (fl_args (am_mxl (pw_P L xs) 324) [.inr (.inr (.inl (76, 277)))]) [] m Q := by
  have k81 : fk_K 281 = 80 := by decide +kernel
  refine fl_Tq.stp rfl rfl (fl_bo rfl) rfl ?_
  refine fl_Tq.stp rfl rfl (fl_bo rfl) rfl ?_
  refine fl_Tq.stp rfl rfl (fl_bo rfl) rfl ?_
  refine fl_Tq.stp rfl rfl (fl_bo rfl) rfl ?_
  refine fl_Tq.cal rfl rfl (fl_bo rfl) rfl ?_
  refine at_copy (p := 281) (q := 280) (tp := 80) (tq := 79) k81 fk_K_280 (by decide) (by decide) rfl rfl (by decide) ?_
  refine fl_Tq.stp rfl rfl (fl_bo rfl) rfl ?_
  refine fl_Tq.stp rfl rfl (fl_bo rfl) rfl ?_
  refine fl_Tq.stp rfl rfl (fl_bo rfl) rfl ?_
  refine fl_Tq.ld (p := 280) (τ := 79) (n := 29780) (z := (0, 0, 0)) (k := 7) rfl (fl_bo rfl) rfl (by decide +kernel) (by decide) ?_
  refine fl_Tq.ret rfl rfl rfl ?_
  refine k (bl_cp 281 0 280 0 29780 m).1 (fun p hp => funext (fun j => bl_cp_out (fun h => absurd h hp))) (fun j hj => ?_)
  rw [bl_cp_in (by omega) (by omega)]
  rfl
end T2RI

end

/-! 94.49.aside.lean.txt -/
section
/-! ===== putAside, bringBack, as functions ===== -/
section T2PB
variable {L : Nat} {xs : Nat → Int32} {m : fl_M} {Q : Option fl_V → fl_M → Prop}
theorem r_putAside_q (k : ∀ g : t2_F, (∀ p : Nat, p ≠ 283 → g p = m.1 p) → (∀ j : Nat, j < 1418 → g 283 j = m.1 280 (2 + j)) → Q none (g, m.2)) : fl_Tq (pw_P L xs) 238 0 (fl_args (am_mxl (pw_P L xs) 238) [.inr (.inr (.inl (76, 277)))]) [] m Q := by
  have k82 : fk_K 283 = 82 := by decide +kernel
  have hR : ∀ Q : Option fl_V → fl_M → Prop, Q none (bl_cp 280 2 283 0 1418 m) → fl_Tq (pw_P L xs) 238 0 (fl_args (am_mxl (pw_P L xs) 238) [at_this]) [] m Q := by
    intro Q k
    have loop : ∀ (d n : Nat), n + d = 1418 → fl_Tq (pw_P L xs) 238 2 [some (.inr (.inr (.inl (76, 277)))), some (.inl (Int32.ofNat n))] [] (bl_cp 280 2 283 0 n m) Q := by
      intro d
      induction d with
      | zero =>
        intro n hn
        have hn : n = 1418 := by omega
        subst hn
        refine fl_Tq.stp rfl rfl (fl_bo rfl) rfl ?_
        refine fl_Tq.stp rfl rfl (fl_bo rfl) rfl ?_
        refine fl_Tq.jt rfl (fl_bo rfl) (by decide +kernel) rfl ?_
        exact fl_Tq.ret rfl rfl rfl k
      | succ d ih =>
        intro n hn
        have en := at_ofN (k := n) (by omega)
        refine fl_Tq.stp rfl rfl (fl_bo rfl) rfl ?_
        refine fl_Tq.stp rfl rfl (fl_bo rfl) rfl ?_
        refine fl_Tq.jf rfl (fl_bo rfl) ?_ rfl ?_
        · rw [at_c2, en]
          exact decide_eq_false (by show ¬ (0 ≤ (n : Int) - (1418 : Int)); omega)
        refine fl_Tq.stp rfl rfl (fl_bo rfl) rfl ?_
        refine fl_Tq.stp rfl rfl (fl_bo rfl) rfl ?_
        refine fl_Tq.stp rfl rfl (fl_bo rfl) rfl ?_
        refine fl_Tq.stp rfl rfl (fl_bo rfl) rfl ?_
        refine fl_Tq.stp rfl rfl (fl_bo rfl) rfl ?_
        refine fl_Tq.stp rfl rfl (fl_bo rfl) rfl ?_
        refine fl_Tq.stp rfl rfl (fl_bo rfl) rfl ?_
        refine fl_Tq.stp rfl rfl (fl_bo rfl) rfl ?_
        refine fl_Tq.ld (p := 280) (τ := 79) (n := 29780) (z := (0, 0, 0)) (k := n + 2) rfl (fl_bo rfl) rfl (at_2n (by omega)) (by omega) ?_
        refine fl_Tq.sv (p := 283) (τ := 82) (n := 1418) (z := (0, 0, 0)) (k := n) rfl (fl_bo rfl) rfl en (by omega) ?_
        have e2 := bl_cp_s (src := 280) (s0 := 2) (dst := 283) (d0 := 0) (n := n) (m := m) (fun h => absurd h (by decide))
        rw [Nat.zero_add, Nat.add_comm 2 n] at e2
        rw [e2]
        refine fl_Tq.stp rfl rfl (fl_bo rfl) rfl ?_
        refine fl_Tq.stp rfl rfl (fl_bo rfl) rfl ?_
        have := ih (n + 1) (by omega)
        rw [← at_inc (by omega)] at this
        exact this
    refine fl_Tq.stp rfl rfl (fl_bo rfl) rfl ?_
    refine fl_Tq.stp rfl rfl (fl_bo rfl) rfl ?_
    have := loop 1418 0 (by omega)
    rw [bl_cp_0] at this
    exact this
  refine hR _ ?_
  refine k (bl_cp 280 2 283 0 1418 m).1 (fun p hp => funext (fun j => bl_cp_out (fun h => absurd h hp))) (fun j hj => ?_)
  rw [bl_cp_in (by omega) (by omega), show j - 0 + 2 = 2 + j by omega]
theorem r_bringBack_q (k : ∀ g : t2_F, (∀ p : Nat, p ≠ 280 → g p = m.1 p) → (∀ j : Nat, (j < 2 ∨ 1420 ≤ j) → g 280 j = m.1 280 j) → (∀ j : Nat, j < 1418 → g 280 (2 + j) = m.1 283 j) → Q none (g, m.2)) : fl_Tq (pw_P L xs) 239 0 (fl_args (am_mxl (pw_P L xs) 239) [.inr (.inr (.inl (76, 277)))]) [] m Q := by
  have k82 : fk_K 283 = 82 := by decide +kernel
  have hR : ∀ Q : Option fl_V → fl_M → Prop, Q none (bl_cp 283 0 280 2 1418 m) → fl_Tq (pw_P L xs) 239 0 (fl_args (am_mxl (pw_P L xs) 239) [at_this]) [] m Q := by
    intro Q k
    have loop : ∀ (d n : Nat), n + d = 1418 → fl_Tq (pw_P L xs) 239 2 [some (.inr (.inr (.inl (76, 277)))), some (.inl (Int32.ofNat n))] [] (bl_cp 283 0 280 2 n m) Q := by
      intro d
      induction d with
      | zero =>
        intro n hn
        have hn : n = 1418 := by omega
        subst hn
        refine fl_Tq.stp rfl rfl (fl_bo rfl) rfl ?_
        refine fl_Tq.stp rfl rfl (fl_bo rfl) rfl ?_
        refine fl_Tq.jt rfl (fl_bo rfl) (by decide +kernel) rfl ?_
        exact fl_Tq.ret rfl rfl rfl k
      | succ d ih =>
        intro n hn
        have en := at_ofN (k := n) (by omega)
        refine fl_Tq.stp rfl rfl (fl_bo rfl) rfl ?_
        refine fl_Tq.stp rfl rfl (fl_bo rfl) rfl ?_
        refine fl_Tq.jf rfl (fl_bo rfl) ?_ rfl ?_
        · rw [at_c2, en]
          exact decide_eq_false (by show ¬ (0 ≤ (n : Int) - (1418 : Int)); omega)
        refine fl_Tq.stp rfl rfl (fl_bo rfl) rfl ?_
        refine fl_Tq.stp rfl rfl (fl_bo rfl) rfl ?_
        refine fl_Tq.stp rfl rfl (fl_bo rfl) rfl ?_
        refine fl_Tq.stp rfl rfl (fl_bo rfl) rfl ?_
        refine fl_Tq.stp rfl rfl (fl_bo rfl) rfl ?_
        refine fl_Tq.stp rfl rfl (fl_bo rfl) rfl ?_
        refine fl_Tq.stp rfl rfl (fl_bo rfl) rfl ?_
        refine fl_Tq.stp rfl rfl (fl_bo rfl) rfl ?_
        refine fl_Tq.ld (p := 283) (τ := 82) (n := 1418) (z := (0, 0, 0)) (k := n) rfl (fl_bo rfl) rfl en (by omega) ?_
        refine fl_Tq.sv (p := 280) (τ := 79) (n := 29780) (z := (0, 0, 0)) (k := n + 2) rfl (fl_bo rfl) rfl (at_2n (by omega)) (by omega) ?_
        have e2 := bl_cp_s (src := 283) (s0 := 0) (dst := 280) (d0 := 2) (n := n) (m := m) (fun h => absurd h (by decide))
        rw [Nat.zero_add, Nat.add_comm 2 n] at e2
        rw [e2]
        refine fl_Tq.stp rfl rfl (fl_bo rfl) rfl ?_
        refine fl_Tq.stp rfl rfl (fl_bo rfl) rfl ?_
        have := ih (n + 1) (by omega)
        rw [← at_inc (by omega)] at this
        exact this
    refine fl_Tq.stp rfl rfl (fl_bo rfl) rfl ?_
    refine fl_Tq.stp rfl rfl (fl_bo rfl) rfl ?_
    have := loop 1418 0 (by omega)
    rw [bl_cp_0] at this
    exact this
  refine hR _ ?_
  refine k (bl_cp 283 0 280 2 1418 m).1 (fun p hp => funext (fun j => bl_cp_out (fun h => absurd h hp))) (fun j hj => bl_cp_out (fun _ => by omega)) (fun j hj => ?_)
  rw [bl_cp_in (by omega) (by omega), show 2 + j - 2 + 0 = j by omega]
end T2PB

end

/-! 94.50.g22.lean.txt -/
section
theorem hi_A {L : Nat} {xs : Nat → Int32} {f : t2_F} {l : t2_L} {Q : Option fl_V → fl_M → Prop}   (k : fl_Tq (pw_P L xs) 22 15 [some (.inr (.inr (.inl (73, 273)))), some (.inr (.inr (.inl (73, 271)))), some (.inl (0 : Int32))] [] (fl_row f 273 (upd (upd (f 273) 1 (0 : Int32)) 2 (f 271 2)), l) Q) : fl_Tq (pw_P L xs) 22 0 [some (.inr (.inr (.inl (73, 273)))), some (.inr (.inr (.inl (73, 271)))), none] [] (f, l) Q := by
  refine fl_Tq.stp (pc' := 1) (lv' := [some (.inr (.inr (.inl (73, 273)))), some (.inr (.inr (.inl (73, 271)))), none]) (st' := [.inr (.inr (.inl (73, 273)))]) (m' := (f, l)) rfl rfl (fl_bo rfl) rfl ?_
  refine fl_Tq.cI (c := (0 : Int32)) rfl (by decide +kernel) (fl_bo rfl) ?_
  refine fl_Tq.pfV (k := 1) (m' := (fl_row f 273 (upd (f 273) 1 (0 : Int32)), l)) rfl (fl_bo rfl) rfl (t2_upn rfl) ?_
  refine fl_Tq.stp (pc' := 6) (lv' := [some (.inr (.inr (.inl (73, 273)))), some (.inr (.inr (.inl (73, 271)))), none]) (st' := [.inr (.inr (.inl (73, 273)))]) (m' := (fl_row f 273 (upd (f 273) 1 (0 : Int32)), l)) rfl rfl (fl_bo rfl) rfl ?_
  refine fl_Tq.stp (pc' := 7) (lv' := [some (.inr (.inr (.inl (73, 273)))), some (.inr (.inr (.inl (73, 271)))), none]) (st' := [.inr (.inr (.inl (73, 271))), .inr (.inr (.inl (73, 273)))]) (m' := (fl_row f 273 (upd (f 273) 1 (0 : Int32)), l)) rfl rfl (fl_bo rfl) rfl ?_
  refine fl_Tq.gfV (k := 2) (v := f 271 2) rfl (fl_bo rfl) rfl (by simp only [fl_row_ne (by decide : 271 ≠ 273)]) ?_
  refine fl_Tq.pfV (k := 2) (m' := (fl_row f 273 (upd (upd (f 273) 1 (0 : Int32)) 2 (f 271 2)), l)) rfl (fl_bo rfl) rfl (t2_upr) ?_
  refine fl_Tq.cI (c := (0 : Int32)) rfl (by decide +kernel) (fl_bo rfl) ?_
  refine fl_Tq.stp (pc' := 15) (lv' := [some (.inr (.inr (.inl (73, 273)))), some (.inr (.inr (.inl (73, 271)))), some (.inl (0 : Int32))]) (st' := []) (m' := (fl_row f 273 (upd (upd (f 273) 1 (0 : Int32)) 2 (f 271 2)), l)) rfl rfl (fl_bo rfl) rfl ?_
  exact k
theorem hi_B1 {L : Nat} {xs : Nat → Int32} {f : t2_F} {l : t2_L} {Q : Option fl_V → fl_M → Prop} {j : Nat} (hk : (Int32.ofNat j).toInt < (f 273 2).toInt) (k : fl_Tq (pw_P L xs) 22 25 [some (.inr (.inr (.inl (73, 273)))), some (.inr (.inr (.inl (73, 271)))), some (.inl (Int32.ofNat j))] [.inl (Int32.ofNat j), .inr (.inr (.inl (73, 273)))] (f, l) Q) : fl_Tq (pw_P L xs) 22 15 [some (.inr (.inr (.inl (73, 273)))), some (.inr (.inr (.inl (73, 271)))), some (.inl (Int32.ofNat j))] [] (f, l) Q := by
  refine fl_Tq.stp (pc' := 16) (lv' := [some (.inr (.inr (.inl (73, 273)))), some (.inr (.inr (.inl (73, 271)))), some (.inl (Int32.ofNat j))]) (st' := [.inl (Int32.ofNat j)]) (m' := (f, l)) rfl rfl (fl_bo rfl) rfl ?_
  refine fl_Tq.stp (pc' := 17) (lv' := [some (.inr (.inr (.inl (73, 273)))), some (.inr (.inr (.inl (73, 271)))), some (.inl (Int32.ofNat j))]) (st' := [.inr (.inr (.inl (73, 273))), .inl (Int32.ofNat j)]) (m' := (f, l)) rfl rfl (fl_bo rfl) rfl ?_
  refine fl_Tq.gfV (k := 2) (v := f 273 2) rfl (fl_bo rfl) rfl rfl ?_
  refine fl_Tq.jf rfl (fl_bo rfl) (c2_ge_f hk) rfl ?_
  refine fl_Tq.stp (pc' := 24) (lv' := [some (.inr (.inr (.inl (73, 273)))), some (.inr (.inr (.inl (73, 271)))), some (.inl (Int32.ofNat j))]) (st' := [.inr (.inr (.inl (73, 273)))]) (m' := (f, l)) rfl rfl (fl_bo rfl) rfl ?_
  refine fl_Tq.stp (pc' := 25) (lv' := [some (.inr (.inr (.inl (73, 273)))), some (.inr (.inr (.inl (73, 271)))), some (.inl (Int32.ofNat j))]) (st' := [.inl (Int32.ofNat j), .inr (.inr (.inl (73, 273)))]) (m' := (f, l)) rfl rfl (fl_bo rfl) rfl ?_
  exact k
theorem hi_B2 {L : Nat} {xs : Nat → Int32} {f : t2_F} {l : t2_L} {Q : Option fl_V → fl_M → Prop} {j d : Nat} (hd : fk_K d = 25 ∧ d < fl_N l.2) (k : fl_Tq (pw_P L xs) 22 34 [some (.inr (.inr (.inl (73, 273)))), some (.inr (.inr (.inl (73, 271)))), some (.inl (Int32.ofNat j))] [.inl (((f 271 1) + (Int32.ofNat j)) - ((f 271 1) + (Int32.ofNat j)) / (20 : Int32) * (20 : Int32)), .inr (.inr (.inl (73, 271))), .inr (.inr (.inl (25, d)))] (f, l) Q) : fl_Tq (pw_P L xs) 22 28 [some (.inr (.inr (.inl (73, 273)))), some (.inr (.inr (.inl (73, 271)))), some (.inl (Int32.ofNat j))] [.inr (.inr (.inl (25, d)))] (f, l) Q := by
  refine fl_Tq.stp (pc' := 29) (lv' := [some (.inr (.inr (.inl (73, 273)))), some (.inr (.inr (.inl (73, 271)))), some (.inl (Int32.ofNat j))]) (st' := [.inr (.inr (.inl (73, 271))), .inr (.inr (.inl (25, d)))]) (m' := (f, l)) rfl rfl (fl_oks_ok ⟨hd, True.intro⟩) rfl ?_
  refine fl_Tq.stp (pc' := 30) (lv' := [some (.inr (.inr (.inl (73, 273)))), some (.inr (.inr (.inl (73, 271)))), some (.inl (Int32.ofNat j))]) (st' := [.inr (.inr (.inl (73, 271))), .inr (.inr (.inl (73, 271))), .inr (.inr (.inl (25, d)))]) (m' := (f, l)) rfl rfl (fl_oks_ok ⟨fl_okp (by decide +kernel) (by decide), hd, True.intro⟩) rfl ?_
  refine fl_Tq.stp (pc' := 31) (lv' := [some (.inr (.inr (.inl (73, 273)))), some (.inr (.inr (.inl (73, 271)))), some (.inl (Int32.ofNat j))]) (st' := [.inl (Int32.ofNat j), .inr (.inr (.inl (73, 271))), .inr (.inr (.inl (73, 271))), .inr (.inr (.inl (25, d)))]) (m' := (f, l)) rfl rfl (fl_oks_ok ⟨fl_okp (by decide +kernel) (by decide), fl_okp (by decide +kernel) (by decide), hd, True.intro⟩) rfl ?_
  refine fl_Tq.cal rfl rfl (fl_oks_ok ⟨True.intro, fl_okp (by decide +kernel) (by decide), fl_okp (by decide +kernel) (by decide), hd, True.intro⟩) rfl ?_
  refine fl_Tq.stp (pc' := 1) (lv' := [some (.inr (.inr (.inl (73, 271)))), some (.inl (Int32.ofNat j))]) (st' := [.inr (.inr (.inl (73, 271)))]) (m' := (f, l)) rfl rfl (fl_bo rfl) rfl ?_
  refine fl_Tq.gfV (k := 1) (v := f 271 1) rfl (fl_bo rfl) rfl rfl ?_
  refine fl_Tq.stp (pc' := 5) (lv' := [some (.inr (.inr (.inl (73, 271)))), some (.inl (Int32.ofNat j))]) (st' := [.inl (Int32.ofNat j), .inl (f 271 1)]) (m' := (f, l)) rfl rfl (fl_bo rfl) rfl ?_
  refine fl_Tq.stp (pc' := 6) (lv' := [some (.inr (.inr (.inl (73, 271)))), some (.inl (Int32.ofNat j))]) (st' := [.inl ((f 271 1) + (Int32.ofNat j))]) (m' := (f, l)) rfl rfl (fl_bo rfl) rfl ?_
  refine fl_Tq.cB (c := (20 : Int32)) rfl (by decide +kernel) (fl_bo rfl) ?_
  refine fl_Tq.rm rfl (fl_bo rfl) (by decide +kernel) ?_
  refine fl_Tq.ret rfl rfl rfl ?_
  show fl_Tq _ 22 34 [some (.inr (.inr (.inl (73, 273)))), some (.inr (.inr (.inl (73, 271)))), some (.inl (Int32.ofNat j))] [.inl (((f 271 1) + (Int32.ofNat j)) - ((f 271 1) + (Int32.ofNat j)) / (20 : Int32) * (20 : Int32)), .inr (.inr (.inl (73, 271))), .inr (.inr (.inl (25, d)))] (f, l) _
  exact k
theorem hi_B3 {L : Nat} {xs : Nat → Int32} {f : t2_F} {l : t2_L} {Q : Option fl_V → fl_M → Prop} {j d e : Nat} (hd : fk_K d = 25 ∧ d < fl_N l.2) (he : fk_K e = 25 ∧ e < fl_N l.2) (A : t2_blk l.2 d 24) (B : t2_blk l.2 e 24) (hpq : d + 90 ≤ e ∨ e + 90 ≤ d) (hn : 0 ≤ (f e 5).toInt ∧ (f e 5).toInt ≤ 16) (hz : ∀ j : Nat, (j : Int) < (f e 5).toInt → f (e + 17 + 4 * j) 10 = 0 ∨ f (e + 17 + 4 * j) 10 = 1) (hw : f (e + 9) 6 = 0 ∨ f (e + 9) 6 = 1) (k : fl_Tq (pw_P L xs) 22 15 [some (.inr (.inr (.inl (73, 273)))), some (.inr (.inr (.inl (73, 271)))), some (.inl ((Int32.ofNat j) + (1 : Int32)))] [] (bs_m f d e, l) Q) : fl_Tq (pw_P L xs) 22 37 [some (.inr (.inr (.inl (73, 273)))), some (.inr (.inr (.inl (73, 271)))), some (.inl (Int32.ofNat j))] [.inr (.inr (.inl (25, e))), .inr (.inr (.inl (25, d)))] (f, l) Q := by
  refine fl_Tq.cal rfl rfl (fl_oks_ok ⟨he, hd, True.intro⟩) rfl ?_
  refine bs_24_24_q A B hpq hn hz hw ?_
  show fl_Tq _ 22 40 [some (.inr (.inr (.inl (73, 273)))), some (.inr (.inr (.inl (73, 271)))), some (.inl (Int32.ofNat j))] [] (bs_m f d e, l) _
  refine fl_Tq.stp (pc' := 43) (lv' := [some (.inr (.inr (.inl (73, 273)))), some (.inr (.inr (.inl (73, 271)))), some (.inl ((Int32.ofNat j) + (1 : Int32)))]) (st' := []) (m' := (bs_m f d e, l)) rfl rfl (fl_bo rfl) rfl ?_
  refine fl_Tq.stp (pc' := 15) (lv' := [some (.inr (.inr (.inl (73, 273)))), some (.inr (.inr (.inl (73, 271)))), some (.inl ((Int32.ofNat j) + (1 : Int32)))]) (st' := []) (m' := (bs_m f d e, l)) rfl rfl (fl_bo rfl) rfl ?_
  exact k
theorem hi_C {L : Nat} {xs : Nat → Int32} {f : t2_F} {l : t2_L} {Q : Option fl_V → fl_M → Prop} {j : Nat} (hk : ¬ ((Int32.ofNat j).toInt < (f 273 2).toInt)) (k : Q none (f, l)) : fl_Tq (pw_P L xs) 22 15 [some (.inr (.inr (.inl (73, 273)))), some (.inr (.inr (.inl (73, 271)))), some (.inl (Int32.ofNat j))] [] (f, l) Q := by
  refine fl_Tq.stp (pc' := 16) (lv' := [some (.inr (.inr (.inl (73, 273)))), some (.inr (.inr (.inl (73, 271)))), some (.inl (Int32.ofNat j))]) (st' := [.inl (Int32.ofNat j)]) (m' := (f, l)) rfl rfl (fl_bo rfl) rfl ?_
  refine fl_Tq.stp (pc' := 17) (lv' := [some (.inr (.inr (.inl (73, 273)))), some (.inr (.inr (.inl (73, 271)))), some (.inl (Int32.ofNat j))]) (st' := [.inr (.inr (.inl (73, 273))), .inl (Int32.ofNat j)]) (m' := (f, l)) rfl rfl (fl_bo rfl) rfl ?_
  refine fl_Tq.gfV (k := 2) (v := f 273 2) rfl (fl_bo rfl) rfl rfl ?_
  refine fl_Tq.jt rfl (fl_bo rfl) (c2_ge_t hk) rfl ?_
  exact fl_Tq.ret rfl rfl rfl k
theorem hb_A {L : Nat} {xs : Nat → Int32} {f : t2_F} {l : t2_L} {Q : Option fl_V → fl_M → Prop}   (k : fl_Tq (pw_P L xs) 22 15 [some (.inr (.inr (.inl (73, 271)))), some (.inr (.inr (.inl (73, 273)))), some (.inl (0 : Int32))] [] (fl_row f 271 (upd (upd (f 271) 1 (0 : Int32)) 2 (f 273 2)), l) Q) : fl_Tq (pw_P L xs) 22 0 [some (.inr (.inr (.inl (73, 271)))), some (.inr (.inr (.inl (73, 273)))), none] [] (f, l) Q := by
  refine fl_Tq.stp (pc' := 1) (lv' := [some (.inr (.inr (.inl (73, 271)))), some (.inr (.inr (.inl (73, 273)))), none]) (st' := [.inr (.inr (.inl (73, 271)))]) (m' := (f, l)) rfl rfl (fl_bo rfl) rfl ?_
  refine fl_Tq.cI (c := (0 : Int32)) rfl (by decide +kernel) (fl_bo rfl) ?_
  refine fl_Tq.pfV (k := 1) (m' := (fl_row f 271 (upd (f 271) 1 (0 : Int32)), l)) rfl (fl_bo rfl) rfl (t2_upn rfl) ?_
  refine fl_Tq.stp (pc' := 6) (lv' := [some (.inr (.inr (.inl (73, 271)))), some (.inr (.inr (.inl (73, 273)))), none]) (st' := [.inr (.inr (.inl (73, 271)))]) (m' := (fl_row f 271 (upd (f 271) 1 (0 : Int32)), l)) rfl rfl (fl_bo rfl) rfl ?_
  refine fl_Tq.stp (pc' := 7) (lv' := [some (.inr (.inr (.inl (73, 271)))), some (.inr (.inr (.inl (73, 273)))), none]) (st' := [.inr (.inr (.inl (73, 273))), .inr (.inr (.inl (73, 271)))]) (m' := (fl_row f 271 (upd (f 271) 1 (0 : Int32)), l)) rfl rfl (fl_bo rfl) rfl ?_
  refine fl_Tq.gfV (k := 2) (v := f 273 2) rfl (fl_bo rfl) rfl (by simp only [fl_row_ne (by decide : 273 ≠ 271)]) ?_
  refine fl_Tq.pfV (k := 2) (m' := (fl_row f 271 (upd (upd (f 271) 1 (0 : Int32)) 2 (f 273 2)), l)) rfl (fl_bo rfl) rfl (t2_upr) ?_
  refine fl_Tq.cI (c := (0 : Int32)) rfl (by decide +kernel) (fl_bo rfl) ?_
  refine fl_Tq.stp (pc' := 15) (lv' := [some (.inr (.inr (.inl (73, 271)))), some (.inr (.inr (.inl (73, 273)))), some (.inl (0 : Int32))]) (st' := []) (m' := (fl_row f 271 (upd (upd (f 271) 1 (0 : Int32)) 2 (f 273 2)), l)) rfl rfl (fl_bo rfl) rfl ?_
  exact k
theorem hb_B1 {L : Nat} {xs : Nat → Int32} {f : t2_F} {l : t2_L} {Q : Option fl_V → fl_M → Prop} {j : Nat} (hk : (Int32.ofNat j).toInt < (f 271 2).toInt) (k : fl_Tq (pw_P L xs) 22 25 [some (.inr (.inr (.inl (73, 271)))), some (.inr (.inr (.inl (73, 273)))), some (.inl (Int32.ofNat j))] [.inl (Int32.ofNat j), .inr (.inr (.inl (73, 271)))] (f, l) Q) : fl_Tq (pw_P L xs) 22 15 [some (.inr (.inr (.inl (73, 271)))), some (.inr (.inr (.inl (73, 273)))), some (.inl (Int32.ofNat j))] [] (f, l) Q := by
  refine fl_Tq.stp (pc' := 16) (lv' := [some (.inr (.inr (.inl (73, 271)))), some (.inr (.inr (.inl (73, 273)))), some (.inl (Int32.ofNat j))]) (st' := [.inl (Int32.ofNat j)]) (m' := (f, l)) rfl rfl (fl_bo rfl) rfl ?_
  refine fl_Tq.stp (pc' := 17) (lv' := [some (.inr (.inr (.inl (73, 271)))), some (.inr (.inr (.inl (73, 273)))), some (.inl (Int32.ofNat j))]) (st' := [.inr (.inr (.inl (73, 271))), .inl (Int32.ofNat j)]) (m' := (f, l)) rfl rfl (fl_bo rfl) rfl ?_
  refine fl_Tq.gfV (k := 2) (v := f 271 2) rfl (fl_bo rfl) rfl rfl ?_
  refine fl_Tq.jf rfl (fl_bo rfl) (c2_ge_f hk) rfl ?_
  refine fl_Tq.stp (pc' := 24) (lv' := [some (.inr (.inr (.inl (73, 271)))), some (.inr (.inr (.inl (73, 273)))), some (.inl (Int32.ofNat j))]) (st' := [.inr (.inr (.inl (73, 271)))]) (m' := (f, l)) rfl rfl (fl_bo rfl) rfl ?_
  refine fl_Tq.stp (pc' := 25) (lv' := [some (.inr (.inr (.inl (73, 271)))), some (.inr (.inr (.inl (73, 273)))), some (.inl (Int32.ofNat j))]) (st' := [.inl (Int32.ofNat j), .inr (.inr (.inl (73, 271)))]) (m' := (f, l)) rfl rfl (fl_bo rfl) rfl ?_
  exact k
theorem hb_B2 {L : Nat} {xs : Nat → Int32} {f : t2_F} {l : t2_L} {Q : Option fl_V → fl_M → Prop} {j d : Nat} (hd : fk_K d = 25 ∧ d < fl_N l.2) (k : fl_Tq (pw_P L xs) 22 34 [some (.inr (.inr (.inl (73, 271)))), some (.inr (.inr (.inl (73, 273)))), some (.inl (Int32.ofNat j))] [.inl (((f 273 1) + (Int32.ofNat j)) - ((f 273 1) + (Int32.ofNat j)) / (20 : Int32) * (20 : Int32)), .inr (.inr (.inl (73, 273))), .inr (.inr (.inl (25, d)))] (f, l) Q) : fl_Tq (pw_P L xs) 22 28 [some (.inr (.inr (.inl (73, 271)))), some (.inr (.inr (.inl (73, 273)))), some (.inl (Int32.ofNat j))] [.inr (.inr (.inl (25, d)))] (f, l) Q := by
  refine fl_Tq.stp (pc' := 29) (lv' := [some (.inr (.inr (.inl (73, 271)))), some (.inr (.inr (.inl (73, 273)))), some (.inl (Int32.ofNat j))]) (st' := [.inr (.inr (.inl (73, 273))), .inr (.inr (.inl (25, d)))]) (m' := (f, l)) rfl rfl (fl_oks_ok ⟨hd, True.intro⟩) rfl ?_
  refine fl_Tq.stp (pc' := 30) (lv' := [some (.inr (.inr (.inl (73, 271)))), some (.inr (.inr (.inl (73, 273)))), some (.inl (Int32.ofNat j))]) (st' := [.inr (.inr (.inl (73, 273))), .inr (.inr (.inl (73, 273))), .inr (.inr (.inl (25, d)))]) (m' := (f, l)) rfl rfl (fl_oks_ok ⟨fl_okp (by decide +kernel) (by decide), hd, True.intro⟩) rfl ?_
  refine fl_Tq.stp (pc' := 31) (lv' := [some (.inr (.inr (.inl (73, 271)))), some (.inr (.inr (.inl (73, 273)))), some (.inl (Int32.ofNat j))]) (st' := [.inl (Int32.ofNat j), .inr (.inr (.inl (73, 273))), .inr (.inr (.inl (73, 273))), .inr (.inr (.inl (25, d)))]) (m' := (f, l)) rfl rfl (fl_oks_ok ⟨fl_okp (by decide +kernel) (by decide), fl_okp (by decide +kernel) (by decide), hd, True.intro⟩) rfl ?_
  refine fl_Tq.cal rfl rfl (fl_oks_ok ⟨True.intro, fl_okp (by decide +kernel) (by decide), fl_okp (by decide +kernel) (by decide), hd, True.intro⟩) rfl ?_
  refine fl_Tq.stp (pc' := 1) (lv' := [some (.inr (.inr (.inl (73, 273)))), some (.inl (Int32.ofNat j))]) (st' := [.inr (.inr (.inl (73, 273)))]) (m' := (f, l)) rfl rfl (fl_bo rfl) rfl ?_
  refine fl_Tq.gfV (k := 1) (v := f 273 1) rfl (fl_bo rfl) rfl rfl ?_
  refine fl_Tq.stp (pc' := 5) (lv' := [some (.inr (.inr (.inl (73, 273)))), some (.inl (Int32.ofNat j))]) (st' := [.inl (Int32.ofNat j), .inl (f 273 1)]) (m' := (f, l)) rfl rfl (fl_bo rfl) rfl ?_
  refine fl_Tq.stp (pc' := 6) (lv' := [some (.inr (.inr (.inl (73, 273)))), some (.inl (Int32.ofNat j))]) (st' := [.inl ((f 273 1) + (Int32.ofNat j))]) (m' := (f, l)) rfl rfl (fl_bo rfl) rfl ?_
  refine fl_Tq.cB (c := (20 : Int32)) rfl (by decide +kernel) (fl_bo rfl) ?_
  refine fl_Tq.rm rfl (fl_bo rfl) (by decide +kernel) ?_
  refine fl_Tq.ret rfl rfl rfl ?_
  show fl_Tq _ 22 34 [some (.inr (.inr (.inl (73, 271)))), some (.inr (.inr (.inl (73, 273)))), some (.inl (Int32.ofNat j))] [.inl (((f 273 1) + (Int32.ofNat j)) - ((f 273 1) + (Int32.ofNat j)) / (20 : Int32) * (20 : Int32)), .inr (.inr (.inl (73, 273))), .inr (.inr (.inl (25, d)))] (f, l) _
  exact k
theorem hb_B3 {L : Nat} {xs : Nat → Int32} {f : t2_F} {l : t2_L} {Q : Option fl_V → fl_M → Prop} {j d e : Nat} (hd : fk_K d = 25 ∧ d < fl_N l.2) (he : fk_K e = 25 ∧ e < fl_N l.2) (A : t2_blk l.2 d 24) (B : t2_blk l.2 e 24) (hpq : d + 90 ≤ e ∨ e + 90 ≤ d) (hn : 0 ≤ (f e 5).toInt ∧ (f e 5).toInt ≤ 16) (hz : ∀ j : Nat, (j : Int) < (f e 5).toInt → f (e + 17 + 4 * j) 10 = 0 ∨ f (e + 17 + 4 * j) 10 = 1) (hw : f (e + 9) 6 = 0 ∨ f (e + 9) 6 = 1) (k : fl_Tq (pw_P L xs) 22 15 [some (.inr (.inr (.inl (73, 271)))), some (.inr (.inr (.inl (73, 273)))), some (.inl ((Int32.ofNat j) + (1 : Int32)))] [] (bs_m f d e, l) Q) : fl_Tq (pw_P L xs) 22 37 [some (.inr (.inr (.inl (73, 271)))), some (.inr (.inr (.inl (73, 273)))), some (.inl (Int32.ofNat j))] [.inr (.inr (.inl (25, e))), .inr (.inr (.inl (25, d)))] (f, l) Q := by
  refine fl_Tq.cal rfl rfl (fl_oks_ok ⟨he, hd, True.intro⟩) rfl ?_
  refine bs_24_24_q A B hpq hn hz hw ?_
  show fl_Tq _ 22 40 [some (.inr (.inr (.inl (73, 271)))), some (.inr (.inr (.inl (73, 273)))), some (.inl (Int32.ofNat j))] [] (bs_m f d e, l) _
  refine fl_Tq.stp (pc' := 43) (lv' := [some (.inr (.inr (.inl (73, 271)))), some (.inr (.inr (.inl (73, 273)))), some (.inl ((Int32.ofNat j) + (1 : Int32)))]) (st' := []) (m' := (bs_m f d e, l)) rfl rfl (fl_bo rfl) rfl ?_
  refine fl_Tq.stp (pc' := 15) (lv' := [some (.inr (.inr (.inl (73, 271)))), some (.inr (.inr (.inl (73, 273)))), some (.inl ((Int32.ofNat j) + (1 : Int32)))]) (st' := []) (m' := (bs_m f d e, l)) rfl rfl (fl_bo rfl) rfl ?_
  exact k
theorem hb_C {L : Nat} {xs : Nat → Int32} {f : t2_F} {l : t2_L} {Q : Option fl_V → fl_M → Prop} {j : Nat} (hk : ¬ ((Int32.ofNat j).toInt < (f 271 2).toInt)) (k : Q none (f, l)) : fl_Tq (pw_P L xs) 22 15 [some (.inr (.inr (.inl (73, 271)))), some (.inr (.inr (.inl (73, 273)))), some (.inl (Int32.ofNat j))] [] (f, l) Q := by
  refine fl_Tq.stp (pc' := 16) (lv' := [some (.inr (.inr (.inl (73, 271)))), some (.inr (.inr (.inl (73, 273)))), some (.inl (Int32.ofNat j))]) (st' := [.inl (Int32.ofNat j)]) (m' := (f, l)) rfl rfl (fl_bo rfl) rfl ?_
  refine fl_Tq.stp (pc' := 17) (lv' := [some (.inr (.inr (.inl (73, 271)))), some (.inr (.inr (.inl (73, 273)))), some (.inl (Int32.ofNat j))]) (st' := [.inr (.inr (.inl (73, 271))), .inl (Int32.ofNat j)]) (m' := (f, l)) rfl rfl (fl_bo rfl) rfl ?_
  refine fl_Tq.gfV (k := 2) (v := f 271 2) rfl (fl_bo rfl) rfl rfl ?_
  refine fl_Tq.jt rfl (fl_bo rfl) (c2_ge_t hk) rfl ?_
  exact fl_Tq.ret rfl rfl rfl k

end

/-! 94.51.mut.lean.txt -/
section
/-! ===== block 0: the mutators' words, one at a time ===== -/
section C0MUT
variable {fc fr : t2_F} {v : Int32} {k : Nat}
/-- STATE -/
theorem c0_I.state (h : c0_I fc fr) : c0_I (fl_row fc 1 (upd (fc 1) 7 v)) (fl_row fr 280 (upd (fr 280) 3 v)) := by
  obtain ⟨⟨⟨g5, g6, g7, g8⟩, ⟨g9, g10, g11, g12⟩, g13, g14, g15, g16⟩, rs, gx, cl, ok⟩ := h
  generalize hF : fl_row fc 1 (upd (fc 1) 7 v) = F
  generalize hG : fl_row fr 280 (upd (fr 280) 3 v) = G
  have P : ∀ p : Nat, p ≠ 1 → F p = fc p := fun p hp => by rw [← hF, fl_row_ne hp]
  have Q : ∀ j : Nat, j ≠ 7 → F 1 j = fc 1 j := fun j hj => by rw [← hF, fl_row_self, upd_ne hj]
  have W : ∀ w : Nat, w ≠ 3 → G 280 w = fr 280 w := fun w hw => by rw [← hG, fl_row_self, upd_ne hw]
  refine ⟨⟨⟨?_, ?_, ?_, ?_⟩, ⟨?_, ?_, ?_, ?_⟩, ?_, ?_, ?_, ?_⟩, rs.congr (P _ (by decide)) (fun k hk => W _ (by omega)), gx.congr ok.2.2.2.2.2.1.1.2 (fun p hp => P p (by omega)) (fun w hw => W w (by omega)), fun C hC => ?_, ?_⟩
  · rw [Q 5 (by decide), W 2 (by decide), g5]
  · rw [Q 6 (by decide), W 7 (by decide), g6]
  · rw [← hF, ← hG, fl_row_self, upd_self, fl_row_self, upd_self]
  · rw [Q 8 (by decide), W 4 (by decide), g8]
  · rw [Q 9 (by decide), W 5 (by decide), g9]
  · rw [Q 10 (by decide), W 14 (by decide), g10]
  · rw [Q 11 (by decide), W 8 (by decide), g11]
  · rw [Q 12 (by decide), W 9 (by decide), g12]
  · rw [Q 13 (by decide), W 10 (by decide), g13]
  · rw [Q 14 (by decide), W 11 (by decide), g14]
  · rw [Q 15 (by decide), W 12 (by decide), g15]
  · rw [Q 16 (by decide), W 13 (by decide), g16]
  · rw [W 2 (by decide)] at hC
    exact ⟨(cl C hC).1.congr (P _ (by omega)) (fun k hk => W _ (by omega)), (cl C hC).2.congr (fun j _ _ => by rw [P _ (by omega)]) (fun p hp => P p (by omega)) (fun w hw => W _ (by omega))⟩
  · refine ok.upd (fun w hw => W w (by omega)) (fun k hk => by rw [W _ (by omega)]; exact ok.s hk) (by rw [W 5 (by decide)]; exact ok.2.1.1) (by rw [W 4 (by decide)]; exact ok.2.1.2.1) (by rw [W 7 (by decide)]; exact ok.2.1.2.2.2) (by rw [W 16 (by decide), W 20 (by decide), W 21 (by decide)]; exact ok.2.2.2.2.2.2.1) (fun C hC => ?_)
    exact (ok.2.2.2.2.2.2.2 C hC).congr (fun w hw => W _ (by omega)) (by rw [W 7 (by decide)]; exact Int.le_refl _)
/-- CURRENT, by open -/
theorem c0_I.current (h : c0_I fc fr) (hv : -99999 ≤ v.toInt ∧ v.toInt ≤ 99999) : c0_I (fl_row fc 1 (upd (fc 1) 9 v)) (fl_row fr 280 (upd (fr 280) 5 v)) := by
  obtain ⟨⟨⟨g5, g6, g7, g8⟩, ⟨g9, g10, g11, g12⟩, g13, g14, g15, g16⟩, rs, gx, cl, ok⟩ := h
  generalize hF : fl_row fc 1 (upd (fc 1) 9 v) = F
  generalize hG : fl_row fr 280 (upd (fr 280) 5 v) = G
  have P : ∀ p : Nat, p ≠ 1 → F p = fc p := fun p hp => by rw [← hF, fl_row_ne hp]
  have Q : ∀ j : Nat, j ≠ 9 → F 1 j = fc 1 j := fun j hj => by rw [← hF, fl_row_self, upd_ne hj]
  have W : ∀ w : Nat, w ≠ 5 → G 280 w = fr 280 w := fun w hw => by rw [← hG, fl_row_self, upd_ne hw]
  refine ⟨⟨⟨?_, ?_, ?_, ?_⟩, ⟨?_, ?_, ?_, ?_⟩, ?_, ?_, ?_, ?_⟩, rs.congr (P _ (by decide)) (fun k hk => W _ (by omega)), gx.congr ok.2.2.2.2.2.1.1.2 (fun p hp => P p (by omega)) (fun w hw => W w (by omega)), fun C hC => ?_, ?_⟩
  · rw [Q 5 (by decide), W 2 (by decide), g5]
  · rw [Q 6 (by decide), W 7 (by decide), g6]
  · rw [Q 7 (by decide), W 3 (by decide), g7]
  · rw [Q 8 (by decide), W 4 (by decide), g8]
  · rw [← hF, ← hG, fl_row_self, upd_self, fl_row_self, upd_self]
  · rw [Q 10 (by decide), W 14 (by decide), g10]
  · rw [Q 11 (by decide), W 8 (by decide), g11]
  · rw [Q 12 (by decide), W 9 (by decide), g12]
  · rw [Q 13 (by decide), W 10 (by decide), g13]
  · rw [Q 14 (by decide), W 11 (by decide), g14]
  · rw [Q 15 (by decide), W 12 (by decide), g15]
  · rw [Q 16 (by decide), W 13 (by decide), g16]
  · rw [W 2 (by decide)] at hC
    exact ⟨(cl C hC).1.congr (P _ (by omega)) (fun k hk => W _ (by omega)), (cl C hC).2.congr (fun j _ _ => by rw [P _ (by omega)]) (fun p hp => P p (by omega)) (fun w hw => W _ (by omega))⟩
  · refine ok.upd (fun w hw => W w (by omega)) (fun k hk => by rw [W _ (by omega)]; exact ok.s hk) (by rw [← hG, fl_row_self, upd_self]; exact hv) (by rw [W 4 (by decide)]; exact ok.2.1.2.1) (by rw [W 7 (by decide)]; exact ok.2.1.2.2.2) (by rw [W 16 (by decide), W 20 (by decide), W 21 (by decide)]; exact ok.2.2.2.2.2.2.1) (fun C hC => ?_)
    exact (ok.2.2.2.2.2.2.2 C hC).congr (fun w hw => W _ (by omega)) (by rw [W 7 (by decide)]; exact Int.le_refl _)
/-- what is told, the watch, the marks: all else stays -/
theorem c0_I.gx {F G : t2_F} (h : c0_I fc fr) (P : ∀ p : Nat, (p = 1 ∨ p = 4 ∨ (18 ≤ p ∧ p < 82)) → F p = fc p) (W : ∀ w : Nat, ((2 ≤ w ∧ w ≤ 5) ∨ (7 ≤ w ∧ w ≤ 14) ∨ (34 ≤ w ∧ w < 64) ∨ 444 ≤ w) → G 280 w = fr 280 w) (gx' : c0_GX F G) (ok' : t2_OK (G 280)) : c0_I F G := by
  have cn := h.cnt
  obtain ⟨⟨⟨g5, g6, g7, g8⟩, ⟨g9, g10, g11, g12⟩, g13, g14, g15, g16⟩, rs, gx, cl, ok⟩ := h
  have P1 : F 1 = fc 1 := P _ (Or.inl rfl)
  refine ⟨⟨⟨?_, ?_, ?_, ?_⟩, ⟨?_, ?_, ?_, ?_⟩, ?_, ?_, ?_, ?_⟩, rs.congr (P _ (Or.inr (Or.inl rfl))) (fun k hk => W _ (by omega)), gx', fun C hC => ?_, ok'⟩
  · rw [P1, W 2 (by decide), g5]
  · rw [P1, W 7 (by decide), g6]
  · rw [P1, W 3 (by decide), g7]
  · rw [P1, W 4 (by decide), g8]
  · rw [P1, W 5 (by decide), g9]
  · rw [P1, W 14 (by decide), g10]
  · rw [P1, W 8 (by decide), g11]
  · rw [P1, W 9 (by decide), g12]
  · rw [P1, W 10 (by decide), g13]
  · rw [P1, W 11 (by decide), g14]
  · rw [P1, W 12 (by decide), g15]
  · rw [P1, W 13 (by decide), g16]
  · rw [W 2 (by decide)] at hC
    exact ⟨(cl C hC).1.congr (P _ (by omega)) (fun k hk => W _ (by omega)), (cl C hC).2.congr (fun j _ _ => by rw [P _ (by omega)]) (fun p hp => P p (by omega)) (fun w hw => W _ (by omega))⟩
/-- PRICE -/
theorem c0_I.price (h : c0_I fc fr) (hk : k < 24) : c0_I (fl_row fc 6 (upd (fc 6) k v)) (fl_row fr 280 (upd (fr 280) (315 + k) v)) := by
  have hh := h
  obtain ⟨-, -, ⟨⟨rk, rz, rr, pr, pc, pw⟩, gw, tr, gm⟩, cl, ok⟩ := h
  have P : ∀ p : Nat, p ≠ 6 → (fl_row fc 6 (upd (fc 6) k v)) p = fc p := fun p hp => fl_row_ne hp
  have W : ∀ w : Nat, w ≠ 315 + k → (fl_row fr 280 (upd (fr 280) (315 + k) v)) 280 w = fr 280 w := fun w hw => by rw [fl_row_self, upd_ne hw]
  refine hh.gx (fun p hp => P p (by omega)) (fun w hw => W w (by omega)) ⟨⟨rk.congr (P _ (by decide)) (fun k hk => W _ (by omega)), rz.congr (P _ (by decide)) (P _ (by decide)) (W _ (by omega)) (fun k hk => W _ (by omega)), ?_, fun j hj => ?_, ?_, fun j hj => ?_⟩, gw.congr (P _ (by decide)) (P _ (by decide)) (P _ (by decide)) (P _ (by decide)) (P _ (by decide)) (fun w hw => W w (by omega)), tr.congr (P _ (by decide)) (P _ (by decide)) (fun w hw => W w (by omega)), gm.congr (fun p hp => P p (by omega)) (fun w hw => W w (by omega))⟩ ?_
  · obtain ⟨a, b, d⟩ := rr
    unfold c0_Rr
    rw [P _ (by decide), P _ (by decide), W 18 (by omega)]
    exact ⟨a, b, fun j hj => by rw [W _ (by omega)]; exact d j hj⟩
  · by_cases e : j = k
    · subst e
      rw [fl_row_self, upd_self, fl_row_self, upd_self]
    · rw [fl_row_self, upd_ne e, W _ (by omega)]
      exact pr j hj
  · rw [P _ (by decide), W 19 (by omega)]
    exact pc
  · have n19 := ok.2.2.2.2.2.1.1
    rw [W 19 (by omega)] at hj
    rw [P _ (by decide), W _ (by omega)]
    exact pw j hj
  · refine ok.upd (fun w hw => W w (by omega)) (fun k hk => by rw [W _ (by omega)]; exact ok.s hk) (by rw [W 5 (by omega)]; exact ok.2.1.1) (by rw [W 4 (by omega)]; exact ok.2.1.2.1) (by rw [W 7 (by omega)]; exact ok.2.1.2.2.2) (by rw [W 16 (by omega), W 20 (by omega), W 21 (by omega)]; exact ok.2.2.2.2.2.2.1) (fun C hC => ?_)
    exact (ok.2.2.2.2.2.2.2 C hC).congr (fun w hw => W _ (by omega)) (by rw [W 7 (by omega)]; exact Int.le_refl _)
/-- FAULTS, by reset -/
theorem c0_I.latched (h : c0_I fc fr) : c0_I (fl_row fc 10 (upd (fc 10) 3 v)) (fl_row fr 280 (upd (fr 280) 6 v)) := by
  have hh := h
  obtain ⟨-, -, ⟨gt, ⟨⟨w3, w4, w5, w6⟩, wh, wc, bk⟩, tr, gm⟩, cl, ok⟩ := h
  have P : ∀ p : Nat, p ≠ 10 → (fl_row fc 10 (upd (fc 10) 3 v)) p = fc p := fun p hp => fl_row_ne hp
  have W : ∀ w : Nat, w ≠ 6 → (fl_row fr 280 (upd (fr 280) 6 v)) 280 w = fr 280 w := fun w hw => by rw [fl_row_self, upd_ne hw]
  refine hh.gx (fun p hp => P p (by omega)) (fun w hw => W w (by omega)) ⟨gt.congr ok.2.2.2.2.2.1.1.2 (P _ (by decide)) (P _ (by decide)) (P _ (by decide)) (P _ (by decide)) (P _ (by decide)) (P _ (by decide)) (fun w hw => W w (by omega)), ⟨⟨?_, ?_, ?_, ?_⟩, fun j hj => by rw [P _ (by decide), W _ (by omega)]; exact wh j hj, fun j hj => by rw [P _ (by decide), W _ (by omega)]; exact wc j hj, bk.congr (P _ (by decide)) (P _ (by decide)) (fun w hw => W w (by omega))⟩, tr.congr (P _ (by decide)) (P _ (by decide)) (fun w hw => W w (by omega)), gm.congr (fun p hp => P p (by omega)) (fun w hw => W w (by omega))⟩ ?_
  · rw [fl_row_self, upd_self, fl_row_self, upd_self]
  · rw [fl_row_self, upd_ne (by decide), W 22 (by decide)]
    exact w4
  · rw [fl_row_self, upd_ne (by decide), W 15 (by decide)]
    exact w5
  · rw [fl_row_self, upd_ne (by decide), W 16 (by decide)]
    exact w6
  · refine ok.upd (fun w hw => W w (by omega)) (fun k hk => by rw [W _ (by omega)]; exact ok.s hk) (by rw [W 5 (by omega)]; exact ok.2.1.1) (by rw [W 4 (by omega)]; exact ok.2.1.2.1) (by rw [W 7 (by omega)]; exact ok.2.1.2.2.2) (by rw [W 16 (by omega), W 20 (by omega), W 21 (by omega)]; exact ok.2.2.2.2.2.2.1) (fun C hC => ?_)
    exact (ok.2.2.2.2.2.2.2 C hC).congr (fun w hw => W _ (by omega)) (by rw [W 7 (by omega)]; exact Int.le_refl _)
/-- silence, by hear -/
theorem c0_I.silence (h : c0_I fc fr) : c0_I (fl_row fc 10 (upd (fc 10) 4 v)) (fl_row fr 280 (upd (fr 280) 22 v)) := by
  have hh := h
  obtain ⟨-, -, ⟨gt, ⟨⟨w3, w4, w5, w6⟩, wh, wc, bk⟩, tr, gm⟩, cl, ok⟩ := h
  have P : ∀ p : Nat, p ≠ 10 → (fl_row fc 10 (upd (fc 10) 4 v)) p = fc p := fun p hp => fl_row_ne hp
  have W : ∀ w : Nat, w ≠ 22 → (fl_row fr 280 (upd (fr 280) 22 v)) 280 w = fr 280 w := fun w hw => by rw [fl_row_self, upd_ne hw]
  refine hh.gx (fun p hp => P p (by omega)) (fun w hw => W w (by omega)) ⟨gt.congr ok.2.2.2.2.2.1.1.2 (P _ (by decide)) (P _ (by decide)) (P _ (by decide)) (P _ (by decide)) (P _ (by decide)) (P _ (by decide)) (fun w hw => W w (by omega)), ⟨⟨?_, ?_, ?_, ?_⟩, fun j hj => by rw [P _ (by decide), W _ (by omega)]; exact wh j hj, fun j hj => by rw [P _ (by decide), W _ (by omega)]; exact wc j hj, bk.congr (P _ (by decide)) (P _ (by decide)) (fun w hw => W w (by omega))⟩, tr.congr (P _ (by decide)) (P _ (by decide)) (fun w hw => W w (by omega)), gm.congr (fun p hp => P p (by omega)) (fun w hw => W w (by omega))⟩ ?_
  · rw [fl_row_self, upd_ne (by decide), W 6 (by decide)]
    exact w3
  · rw [fl_row_self, upd_self, fl_row_self, upd_self]
  · rw [fl_row_self, upd_ne (by decide), W 15 (by decide)]
    exact w5
  · rw [fl_row_self, upd_ne (by decide), W 16 (by decide)]
    exact w6
  · refine ok.upd (fun w hw => W w (by omega)) (fun k hk => by rw [W _ (by omega)]; exact ok.s hk) (by rw [W 5 (by omega)]; exact ok.2.1.1) (by rw [W 4 (by omega)]; exact ok.2.1.2.1) (by rw [W 7 (by omega)]; exact ok.2.1.2.2.2) (by rw [W 16 (by omega), W 20 (by omega), W 21 (by omega)]; exact ok.2.2.2.2.2.2.1) (fun C hC => ?_)
    exact (ok.2.2.2.2.2.2.2 C hC).congr (fun w hw => W _ (by omega)) (by rw [W 7 (by omega)]; exact Int.le_refl _)
end C0MUT

end

/-! 94.52.ext.lean.txt -/
section
/-! ===== THE RELATION of the whole: blocks, histories, the image ===== -/
section T2W
variable {fc fr fc' fr' : t2_F} {d d' b b' h h' q : Nat} {R R' : Nat → Int32}
theorem c0_I.ext (h : c0_I fc fr) (P : ∀ p : Nat, 1 ≤ p → p < 91 → fc' p = fc p) (W : ∀ w : Nat, 2 ≤ w → w < 1420 → fr' 280 w = fr 280 w) : c0_I fc' fr' := by
  obtain ⟨⟨⟨g5, g6, g7, g8⟩, ⟨g9, g10, g11, g12⟩, g13, g14, g15, g16⟩, rs, ⟨gt, gw, tr, gm⟩, cl, ok⟩ := h
  have P1 : fc' 1 = fc 1 := P 1 (by decide) (by decide)
  have n16 := ok.2.1.2.2.1
  refine ⟨⟨⟨?_, ?_, ?_, ?_⟩, ⟨?_, ?_, ?_, ?_⟩, ?_, ?_, ?_, ?_⟩, rs.congr (P _ (by decide) (by decide)) (fun k hk => W _ (by omega) (by omega)), ⟨gt.congr ok.2.2.2.2.2.1.1.2 (P _ (by decide) (by decide)) (P _ (by decide) (by decide)) (P _ (by decide) (by decide)) (P _ (by decide) (by decide)) (P _ (by decide) (by decide)) (P _ (by decide) (by decide)) (fun w hw => W w (by omega) (by omega)), gw.congr (P _ (by decide) (by decide)) (P _ (by decide) (by decide)) (P _ (by decide) (by decide)) (P _ (by decide) (by decide)) (P _ (by decide) (by decide)) (fun w hw => W w (by omega) (by omega)), tr.congr (P _ (by decide) (by decide)) (P _ (by decide) (by decide)) (fun w hw => W w (by omega) (by omega)), gm.congr (fun p hp => P p (by omega) (by omega)) (fun w hw => W w (by omega) (by omega))⟩, fun C hC => ?_, ?_⟩
  · rw [P1, W 2 (by decide) (by decide), g5]
  · rw [P1, W 7 (by decide) (by decide), g6]
  · rw [P1, W 3 (by decide) (by decide), g7]
  · rw [P1, W 4 (by decide) (by decide), g8]
  · rw [P1, W 5 (by decide) (by decide), g9]
  · rw [P1, W 14 (by decide) (by decide), g10]
  · rw [P1, W 8 (by decide) (by decide), g11]
  · rw [P1, W 9 (by decide) (by decide), g12]
  · rw [P1, W 10 (by decide) (by decide), g13]
  · rw [P1, W 11 (by decide) (by decide), g14]
  · rw [P1, W 12 (by decide) (by decide), g15]
  · rw [P1, W 13 (by decide) (by decide), g16]
  · rw [W 2 (by decide) (by decide)] at hC
    exact ⟨(cl C hC).1.congr (P _ (by omega) (by omega)) (fun k hk => W _ (by omega) (by omega)), (cl C hC).2.congr (fun j _ _ => by rw [P _ (by omega) (by omega)]) (fun p hp => P p (by omega) (by omega)) (fun w hw => W _ (by omega) (by omega))⟩
  · refine ok.upd (fun w hw => W w (by omega) (by omega)) (fun k hk => by rw [W _ (by omega) (by omega)]; exact ok.s hk) (by rw [W 5 (by decide) (by decide)]; exact ok.2.1.1) (by rw [W 4 (by decide) (by decide)]; exact ok.2.1.2.1) (by rw [W 7 (by decide) (by decide)]; exact ok.2.1.2.2.2) (by rw [W 16 (by decide) (by decide), W 20 (by decide) (by decide), W 21 (by decide) (by decide)]; exact ok.2.2.2.2.2.2.1) (fun C hC => ?_)
    exact (ok.2.2.2.2.2.2.2 C hC).congr (fun w hw => W _ (by omega) (by omega)) (by rw [W 7 (by decide) (by decide)]; exact Int.le_refl _)
/-- the block at d, as if it were now's; a row from word b on, as if it were the reference's -/
def t2_at (f : t2_F) (d : Nat) : t2_F := fun r => f (d + r - 1)
def t2_wd (R : Nat → Int32) (b : Nat) : t2_F := fun _ w => R (b + w)
/-- a state of the class, in the block d, is the one of the words from b on -/
def t2_B (fc : t2_F) (d : Nat) (R : Nat → Int32) (b : Nat) : Prop := c0_I (t2_at fc d) (t2_wd R b)
theorem t2_B.ext (H : t2_B fc d R b) (e : ∀ o : Nat, o < 90 → fc' (d + o) = fc (d + o)) (e2 : ∀ w : Nat, 2 ≤ w → w < 1420 → R' (b' + w) = R (b + w)) : t2_B fc' d R' b' :=
  c0_I.ext H (fun p h1 h2 => by
    show fc' (d + p - 1) = fc (d + p - 1)
    rw [show d + p - 1 = d + (p - 1) by omega]
    exact e _ (by omega)) (fun w h1 h2 => e2 w h1 h2)
theorem t2_B.of_now (H : c0_I fc fr) : t2_B fc 1 (fr 280) 0 :=
  c0_I.ext H (fun p h1 h2 => by
    show fc (1 + p - 1) = fc p
    rw [show 1 + p - 1 = p by omega]) (fun w h1 h2 => by
    show fr 280 (0 + w) = fr 280 w
    rw [Nat.zero_add])
theorem t2_B.now (H : t2_B fc 1 (fr 280) 0) : c0_I fc fr :=
  c0_I.ext H (fun p h1 h2 => by
    show fc p = fc (1 + p - 1)
    rw [show 1 + p - 1 = p by omega]) (fun w h1 h2 => by
    show fr 280 w = fr 280 (0 + w)
    rw [Nat.zero_add])
theorem t2_B.n (H : t2_B fc d R b) : fc d 5 = R (b + 2) := H.1.1.1
theorem t2_B.src (H : t2_B fc d R b) (hd : 1 ≤ d) : (0 ≤ (fc d 5).toInt ∧ (fc d 5).toInt ≤ 16) ∧ (∀ j : Nat, (j : Int) < (fc d 5).toInt → fc (d + 17 + 4 * j) 10 = 0 ∨ fc (d + 17 + 4 * j) 10 = 1) ∧ (fc (d + 9) 6 = 0 ∨ fc (d + 9) 6 = 1) := by
  have n := H.n
  have hc : 0 ≤ (fc d 5).toInt ∧ (fc d 5).toInt ≤ 16 := c0_I.hc H
  refine ⟨hc, fun j hj => ?_, ?_⟩
  · have c := H.2.2.2.1 j (by rw [n] at hj; exact hj)
    have o := H.2.2.2.2.2.2.2.2.2.2.2 j (by rw [n] at hj; exact hj)
    have e : fc (d + 17 + 4 * j) 10 = R (b + (444 + 61 * j + 15)) := by
      have := c.2.2.1.1
      rw [show d + 17 + 4 * j = d + (18 + 4 * j) - 1 by omega]
      exact this
    have z : R (b + (444 + 61 * j + 15)) = 0 ∨ R (b + (444 + 61 * j + 15)) = 1 := o.2.2.2.2.2.1
    rw [e]
    exact z
  · have w := H.2.2.1.2.1.1.2.2.2
    have w1 : (fc (d + 9) 6).toInt = min (R (b + 16)).toInt 1 := w.1
    have w2 : 0 ≤ (R (b + 16)).toInt := w.2.1
    have c0 : (0 : Int32).toInt = 0 := rfl
    have c1 : (1 : Int32).toInt = 1 := by decide +kernel
    by_cases e : (R (b + 16)).toInt = 0
    · exact Or.inl (Int32.toInt.inj (by omega))
    · exact Or.inr (Int32.toInt.inj (by omega))
/-- the same words: the same state -/
theorem t2_B.same (H : t2_B fc d R b) (hd : 1 ≤ d) (e : t2_same (fun o => fc' (d' + o)) (fun o => fc (d + o)) (fc d 5).toInt.toNat) (h12 : fc' (d' + 12) 0 = (24 : Int32)) (h15 : fc' (d' + 15) 0 = (32 : Int32)) : t2_B fc' d' R b := by
  have n := H.n
  refine c0_I.same H ?_ h12 h15
  have e1 : (fun o => t2_at fc' d' (1 + o)) = (fun o => fc' (d' + o)) := by
    funext o
    show fc' (d' + (1 + o) - 1) = _
    rw [show d' + (1 + o) - 1 = d' + o by omega]
  have e2 : (fun o => t2_at fc d (1 + o)) = (fun o => fc (d + o)) := by
    funext o
    show fc (d + (1 + o) - 1) = _
    rw [show d + (1 + o) - 1 = d + o by omega]
  rw [e1, e2]
  show t2_same _ _ (R (b + 2)).toInt.toNat
  rw [← n]
  exact e
/-- a history of the class, and one of the words -/
def t2_H (fc : t2_F) (h q : Nat) (R : Nat → Int32) : Prop :=
  fc q 2 = R 0 ∧ (0 ≤ (fc q 1).toInt ∧ (fc q 1).toInt ≤ 19) ∧ (0 ≤ (R 0).toInt ∧ (R 0).toInt ≤ 20) ∧ (0 ≤ (R 1).toInt ∧ (R 1).toInt ≤ 19) ∧
  ∀ i : Nat, (i : Int) < (R 0).toInt → ∃ j : Nat, j < h ∧ (fc (q + 1) (((fc q 1).toInt.toNat + i) % 20)).toInt = 285 + 90 * (j : Int) ∧ t2_B fc (285 + 90 * j) R (1418 + 1418 * (((R 1).toInt.toNat + i) % 20))
theorem t2_H.ext (H : t2_H fc h q R) (e1 : fc' q = fc q) (e2 : ∀ i : Nat, i < 20 → fc' (q + 1) i = fc (q + 1) i) (e3 : ∀ i j : Nat, i < 20 → j < h → (fc (q + 1) i).toInt = 285 + 90 * (j : Int) → ∀ o : Nat, o < 90 → fc' (285 + 90 * j + o) = fc (285 + 90 * j + o)) (r0 : R' 0 = R 0) (r1 : R' 1 = R 1) (r2 : ∀ w : Nat, 1420 ≤ w → w < 29780 → R' w = R w) (hh : h ≤ h') : t2_H fc' h' q R' := by
  obtain ⟨a, b, c, d, e⟩ := H
  rw [← e1] at a b
  rw [← r0] at a c
  rw [← r1] at d
  refine ⟨a, b, c, d, fun i hi => ?_⟩
  obtain ⟨j, j1, j2, j3⟩ := e i (by rw [← r0]; exact hi)
  refine ⟨j, by omega, by rw [e1, e2 _ (Nat.mod_lt _ (by decide))]; exact j2, ?_⟩
  rw [r1]
  refine t2_B.ext j3 (e3 _ j (Nat.mod_lt _ (by decide)) j1 j2) (fun w h1 h2 => r2 _ (by omega) ?_)
  have := Nat.mod_lt ((R 1).toInt.toNat + i) (show 0 < 20 by decide)
  omega
/-- no state is in two places -/
def t2_D (fc : t2_F) : Prop := ∀ q q' i i' : Nat, (q = 272 ∨ q = 274) → (q' = 272 ∨ q' = 274) → i < 20 → i' < 20 → fc q i ≠ 0 → fc q i = fc q' i' → q = q' ∧ i = i'
theorem t2_D.ext (H : t2_D fc) (e : ∀ q i : Nat, (q = 272 ∨ q = 274) → i < 20 → fc' q i = fc q i) : t2_D fc' := fun q q' i i' hq hq' hi hi' => by
  rw [e q i hq hi, e q' i' hq' hi']
  exact H q q' i i' hq hq' hi hi'
/-- a state that is made now is another one than all others -/
theorem t2_D.new (H : t2_D fc) {h i0 : Nat} {x : Int32} {l1 : Nat → Nat → Int64} (hX : at_XI (fc, l1, h)) (hx : x.toInt = 285 + 90 * (h : Int)) (q0 : Nat) (e : ∀ q i : Nat, (q = 272 ∨ q = 274) → i < 20 → fc' q i = if q = q0 ∧ i = i0 then x else fc q i) : t2_D fc' := fun q q' i i' hq hq' hi hi' => by
  have old : ∀ q i : Nat, (q = 272 ∨ q = 274) → i < 20 → fc q i ≠ x := fun q i hq hi hc => by
    rcases hX.1 q hq i hi with h0 | ⟨j, hj, h1⟩
    · have h0 : fc q i = 0 := h0
      rw [hc] at h0
      rw [h0] at hx
      have : (0 : Int32).toInt = 0 := rfl
      omega
    · have h1 : (fc q i).toInt = 285 + 90 * (j : Int) := h1
      have hj : j < h := hj
      rw [hc] at h1
      omega
  rw [e q i hq hi, e q' i' hq' hi']
  intro h1 h2
  by_cases c : q = q0 ∧ i = i0
  · by_cases c' : q' = q0 ∧ i' = i0
    · exact ⟨c.1.trans c'.1.symm, c.2.trans c'.2.symm⟩
    · rw [if_pos c, if_neg c'] at h2
      exact absurd h2.symm (old q' i' hq' hi')
  · rw [if_neg c] at h1 h2
    by_cases c' : q' = q0 ∧ i' = i0
    · rw [if_pos c'] at h2
      exact absurd h2 (old q i hq hi)
    · rw [if_neg c'] at h2
      exact H q q' i i' hq hq' hi hi' h1 h2
/-- THE RELATION of the whole -/
def t2_W (fc fr : t2_F) (h : Nat) : Prop := c0_I fc fr ∧ (t2_H fc h 271 (fr 280) ∧ t2_B fc 91 (fr 281) 0 ∧ t2_H fc h 273 (fr 281)) ∧ t2_D fc ∧ fr 277 7 = 0
theorem t2_W.ext (H : t2_W fc fr h) (P : ∀ p : Nat, (1 ≤ p ∧ p < 181) ∨ (271 ≤ p ∧ p < 275) ∨ (285 ≤ p ∧ p < fl_N h) → fc' p = fc p) (e0 : ∀ w : Nat, w < 29780 → fr' 280 w = fr 280 w) (e1 : ∀ w : Nat, w < 29780 → fr' 281 w = fr 281 w) (e7 : fr' 277 7 = fr 277 7) : t2_W fc' fr' h := by
  obtain ⟨a, ⟨b, c, d⟩, e, g⟩ := H
  refine ⟨a.ext (fun p h1 h2 => P p (by omega)) (fun w h1 h2 => e0 w (by omega)), ⟨b.ext (P _ (by omega)) (fun i _ => by rw [P 272 (by omega)]) (fun i j _ hj _ o ho => P _ (by unfold fl_N; omega)) (e0 0 (by decide)) (e0 1 (by decide)) (fun w _ hw => e0 w hw) (Nat.le_refl _), t2_B.ext c (fun o ho => P _ (by omega)) (fun w h1 h2 => e1 _ (by omega)), d.ext (P _ (by omega)) (fun i _ => by rw [P 274 (by omega)]) (fun i j _ hj _ o ho => P _ (by unfold fl_N; omega)) (e1 0 (by decide)) (e1 1 (by decide)) (fun w _ hw => e1 w hw) (Nat.le_refl _)⟩, e.ext (fun q i hq _ => by rw [P q (by omega)]), by rw [e7]; exact g⟩
/-- now alone is another one -/
theorem t2_W.upd (H : t2_W fc fr h) (I' : c0_I fc' fr') (P : ∀ p : Nat, (91 ≤ p ∧ p < 181) ∨ (271 ≤ p ∧ p < 275) ∨ (285 ≤ p ∧ p < fl_N h) → fc' p = fc p) (e0 : ∀ w : Nat, w < 29780 → (w < 2 ∨ 1420 ≤ w) → fr' 280 w = fr 280 w) (e1 : ∀ w : Nat, w < 29780 → fr' 281 w = fr 281 w) (e7 : fr' 277 7 = fr 277 7) : t2_W fc' fr' h := by
  obtain ⟨a, ⟨b, c, d⟩, e, g⟩ := H
  refine ⟨I', ⟨b.ext (P _ (by omega)) (fun i _ => by rw [P 272 (by omega)]) (fun i j _ hj _ o ho => P _ (by unfold fl_N; omega)) (e0 0 (by decide) (by decide)) (e0 1 (by decide) (by decide)) (fun w h1 hw => e0 w hw (Or.inr h1)) (Nat.le_refl _), t2_B.ext c (fun o ho => P _ (by omega)) (fun w h1 h2 => e1 _ (by omega)), d.ext (P _ (by omega)) (fun i _ => by rw [P 274 (by omega)]) (fun i j _ hj _ o ho => P _ (by unfold fl_N; omega)) (e1 0 (by decide)) (e1 1 (by decide)) (fun w _ hw => e1 w hw) (Nat.le_refl _)⟩, e.ext (fun q i hq _ => by rw [P q (by omega)]), by rw [e7]; exact g⟩
end T2W

end

/-! 94.53.wkeep.lean.txt -/
section
/-! ===== the whole relation over a keep and an undo ===== -/
section T2WK
variable {fc fr gc gr : t2_F} {l l' : t2_L}
/-- what the class's keep leaves -/
def t2_CK (f g : t2_F) (l l' : t2_L) : Prop := ∃ i d : Nat, (i : Int) = ((f 271 1).toInt + (f 271 2).toInt) % 20 ∧ t2_kept f g l l' 271 i d ∧ (g 271 2).toInt = min ((f 271 2).toInt + 1) 20 ∧ (g 271 1).toInt = (if (f 271 2).toInt = 20 then ((f 271 1).toInt + 1) % 20 else (f 271 1).toInt) ∧ (∀ r : Nat, r ≠ 271 → r ≠ 272 → (r < d ∨ d + 90 ≤ r) → g r = f r) ∧ t2_same (fun o => g (d + o)) (fun o => f (1 + o)) (f 1 5).toInt.toNat ∧ g (d + 12) 0 = f (d + 12) 0 ∧ g (d + 15) 0 = f (d + 15) 0
/-- what the reference's keep leaves -/
def t2_RK (f g : t2_F) : Prop := ∃ s : Nat, s < 20 ∧ (s : Int) = ((f 280 1).toInt + (f 280 0).toInt) % 20 ∧ (∀ p : Nat, p ≠ 280 → g p = f p) ∧ (∀ j : Nat, 2 ≤ j → (j < 1420 + 1418 * s ∨ 1420 + 1418 * s + 1418 ≤ j) → g 280 j = f 280 j) ∧ (∀ j : Nat, j < 1418 → g 280 (1420 + 1418 * s + j) = f 280 (2 + j)) ∧ (g 280 0).toInt = min ((f 280 0).toInt + 1) 20 ∧ (g 280 1).toInt = (if (f 280 0).toInt = 20 then ((f 280 1).toInt + 1) % 20 else (f 280 1).toInt)
/-- the rows of lines know how many they are at most -/
def t2_M (fc : t2_F) (h : Nat) : Prop := ∀ j : Nat, j ≤ h → fc (285 + 90 * j + 12) 0 = (24 : Int32) ∧ fc (285 + 90 * j + 15) 0 = (32 : Int32)
theorem t2_CK.now (C : t2_CK fc gc l l') {p : Nat} (h1 : p ≠ 271) (h2 : p ≠ 272) (h3 : p < 285) : gc p = fc p := by
  obtain ⟨i0, d0, -, ⟨-, hl2, -⟩, -, -, cfr, -⟩ := C
  refine cfr p h1 h2 (Or.inl ?_)
  rcases hl2 with ⟨-, -, j, -, e⟩ | ⟨-, -, e, -⟩ <;> omega
theorem t2_W.keep (hX : at_XI (fc, l)) (hM : t2_M fc l.2) (H : t2_W fc fr l.2) (C : t2_CK fc gc l l') (K : t2_RK fr gr) : t2_W gc gr l'.2 := by
  have cnow := fun (p : Nat) (h1 : p ≠ 271) (h2 : p ≠ 272) (h3 : p < 285) => C.now h1 h2 h3
  obtain ⟨a, ⟨⟨b1, b2, b3, b4, b5⟩, c, d⟩, e, g7⟩ := H
  obtain ⟨i0, d0, hi0, ⟨hl1, hl2, hg1, hg2⟩, c2, c1, cfr, csm, c12, c15⟩ := C
  obtain ⟨s, hs, hs2, k1, k2, k3, k4, k5⟩ := K
  have c0 : (0 : Int32).toInt = 0 := rfl
  have i20 : i0 < 20 := by omega
  have hg1 : (gc 272 i0).toInt = d0 := hg1
  have hg2 : ∀ k : Nat, k ≠ i0 → gc 272 k = fc 272 k := hg2
  obtain ⟨j0, hj0, hd0⟩ : ∃ j0 : Nat, j0 ≤ l.2 ∧ d0 = 285 + 90 * j0 := by
    rcases hl2 with ⟨-, -, j, hj, e⟩ | ⟨-, -, e, -⟩
    · exact ⟨j, by omega, e⟩
    · exact ⟨l.2, Nat.le_refl _, e⟩
  have hj0' : j0 < l'.2 := by
    rcases hl2 with ⟨h1, -, j, hj, e⟩ | ⟨h1, -, e, -⟩ <;> omega
  have hll : l.2 ≤ l'.2 := by omega
  have gI : c0_I gc gr := a.ext (fun p h1 h2 => cnow p (by omega) (by omega) (by omega)) (fun w h1 h2 => k2 w h1 (Or.inl (by omega)))
  -- the block of another entry isn't the one that was written
  have oth : ∀ q i j : Nat, (q = 272 ∨ q = 274) → i < 20 → ¬ (q = 272 ∧ i = i0) → j < l.2 → (fc q i).toInt = 285 + 90 * (j : Int) → ∀ o : Nat, o < 90 → gc (285 + 90 * j + o) = fc (285 + 90 * j + o) := by
    intro q i j hq hi hne hj hv o ho
    have hjj : j ≠ j0 := by
      intro hc
      rcases hl2 with ⟨-, h1, -⟩ | ⟨-, -, h1, -⟩
      · have h1 : (fc 272 i0).toInt = d0 := h1
        exact hne (e q 272 i i0 hq (Or.inl rfl) hi i20 (fun h0 => by rw [h0] at hv; omega) (Int32.toInt.inj (by omega)))
      · omega
    exact cfr _ (by omega) (by omega) (by omega)
  have h281 : gr 281 = fr 281 := k1 281 (by decide)
  -- one step more, the eldest gone if there were 20
  obtain ⟨t, t0, t1, t2, t3, t4⟩ : ∃ t : Nat, (t = 0 ∧ (fr 280 0).toInt < 20 ∨ t = 1 ∧ (fr 280 0).toInt = 20) ∧ (gc 271 1).toInt = ((fc 271 1).toInt + t) % 20 ∧ (gr 280 1).toInt = ((fr 280 1).toInt + t) % 20 ∧ (gr 280 0).toInt = (fr 280 0).toInt + 1 - t ∧ (gc 271 2).toInt = (fr 280 0).toInt + 1 - t := by
    rw [b1] at c1 c2
    by_cases h20 : (fr 280 0).toInt = 20
    · rw [if_pos h20] at c1 k5
      exact ⟨1, by omega, by omega, by omega, by omega, by omega⟩
    · rw [if_neg h20] at c1 k5
      exact ⟨0, by omega, by omega, by omega, by omega, by omega⟩
  rw [b1] at hi0
  refine ⟨gI, ⟨⟨Int32.toInt.inj (by omega), by omega, by omega, by omega, fun i hi => ?_⟩, t2_B.ext c (fun o ho => cnow _ (by omega) (by omega) (by omega)) (fun w h1 h2 => by rw [h281]), d.ext (cnow _ (by decide) (by decide) (by decide)) (fun i _ => by rw [cnow 274 (by decide) (by decide) (by decide)]) (fun i j hi hj hv => oth 274 i j (Or.inr rfl) hi (by omega) hj hv) (by rw [h281]) (by rw [h281]) (fun w _ _ => by rw [h281]) hll⟩, ?_, by rw [k1 277 (by decide)]; exact g7⟩
  · have p1 : ((gc 271 1).toInt.toNat + i) % 20 = ((fc 271 1).toInt.toNat + (i + t)) % 20 := by omega
    have p2 : ((gr 280 1).toInt.toNat + i) % 20 = ((fr 280 1).toInt.toNat + (i + t)) % 20 := by omega
    rw [p1, p2]
    show ∃ j : Nat, j < l'.2 ∧ (gc 272 (((fc 271 1).toInt.toNat + (i + t)) % 20)).toInt = 285 + 90 * (j : Int) ∧ t2_B gc (285 + 90 * j) (gr 280) (1418 + 1418 * (((fr 280 1).toInt.toNat + (i + t)) % 20))
    by_cases hlast : ((i + t : Nat) : Int) = (fr 280 0).toInt
    · have q1 : ((fc 271 1).toInt.toNat + (i + t)) % 20 = i0 := by omega
      have q2 : ((fr 280 1).toInt.toNat + (i + t)) % 20 = s := by omega
      rw [q1, q2]
      refine ⟨j0, hj0', by rw [hg1, hd0]; omega, ?_⟩
      have m := hM j0 hj0
      rw [← hd0] at m ⊢
      have B1 := (t2_B.of_now a).same (fc' := gc) (d' := d0) (by decide) csm (by rw [c12]; exact m.1) (by rw [c15]; exact m.2)
      refine t2_B.ext B1 (fun o ho => rfl) (fun w h1 h2 => ?_)
      have := k3 (w - 2) (by omega)
      rw [show 1420 + 1418 * s + (w - 2) = 1418 + 1418 * s + w by omega, show 2 + (w - 2) = 0 + w by omega] at this
      exact this
    · have hlt : ((i + t : Nat) : Int) < (fr 280 0).toInt := by omega
      obtain ⟨j, j1, j2, j3⟩ := b5 (i + t) hlt
      have j2 : (fc 272 (((fc 271 1).toInt.toNat + (i + t)) % 20)).toInt = 285 + 90 * (j : Int) := j2
      have n1 : ((fc 271 1).toInt.toNat + (i + t)) % 20 ≠ i0 := by omega
      have n2 : ((fr 280 1).toInt.toNat + (i + t)) % 20 ≠ s := by omega
      have n3 := Nat.mod_lt ((fr 280 1).toInt.toNat + (i + t)) (show 0 < 20 by decide)
      refine ⟨j, by omega, by rw [hg2 _ n1]; exact j2, ?_⟩
      refine t2_B.ext j3 (oth 272 _ j (Or.inl rfl) (Nat.mod_lt _ (by decide)) (fun h => n1 h.2) j1 j2) (fun w h1 h2 => k2 _ (by omega) ?_)
      generalize ((fr 280 1).toInt.toNat + (i + t)) % 20 = z at *
      omega
  · rcases hl2 with ⟨-, h1, -⟩ | ⟨-, h1, h2, -⟩
    · have h1 : (fc 272 i0).toInt = d0 := h1
      refine e.ext (fun q i hq hi => ?_)
      rcases hq with rfl | rfl
      · by_cases hi2 : i = i0
        · subst hi2
          exact Int32.toInt.inj (by omega)
        · exact hg2 i hi2
      · rw [cnow 274 (by decide) (by decide) (by decide)]
    · obtain ⟨la, lh⟩ := l
      refine e.new (h := lh) (i0 := i0) (x := gc 272 i0) hX (by rw [hg1]; dsimp only at h2; omega) 272 (fun q i hq hi => ?_)
      rcases hq with rfl | rfl
      · by_cases hi2 : i = i0
        · subst hi2
          rw [if_pos ⟨rfl, rfl⟩]
        · rw [if_neg (fun h => hi2 h.2)]
          exact hg2 i hi2
      · rw [if_neg (fun h => by omega), cnow 274 (by decide) (by decide) (by decide)]
/-- undo -/
theorem t2_W.undo (H : t2_W fc fr l.2) {j s : Nat} (hs2 : (s : Int) = ((fr 280 1).toInt + ((fr 280 0).toInt - 1)) % 20) (hpos : 1 ≤ (fr 280 0).toInt)
    (hB : t2_B fc (285 + 90 * j) (fr 280) (1418 + 1418 * s))
    (c2 : (gc 271 2).toInt = (fc 271 2).toInt - 1) (c1 : gc 271 1 = fc 271 1) (cfr : ∀ r : Nat, r ≠ 271 → 91 ≤ r → gc r = fc r) (csm : t2_same (fun o => gc (1 + o)) (fun o => fc (285 + 90 * j + o)) (fc (285 + 90 * j) 5).toInt.toNat) (c13 : gc 13 0 = fc 13 0) (c16 : gc 16 0 = fc 16 0)
    (k1 : ∀ p : Nat, p ≠ 280 → gr p = fr p) (k2 : ∀ j : Nat, (j = 1 ∨ 1420 ≤ j) → gr 280 j = fr 280 j) (k3 : ∀ j : Nat, j < 1418 → gr 280 (2 + j) = fr 280 (1420 + 1418 * s + j)) (k4 : (gr 280 0).toInt = (fr 280 0).toInt - 1) : t2_W gc gr l.2 := by
  obtain ⟨a, ⟨⟨b1, b2, b3, b4, b5⟩, c, d⟩, e, g7⟩ := H
  have h281 : gr 281 = fr 281 := k1 281 (by decide)
  have gI : c0_I gc gr := by
    have B1 := hB.same (fc' := gc) (d' := 1) (by omega) csm (by rw [show 1 + 12 = 13 by rfl, c13]; exact a.2.2.1.2.1.2.2.2.1) (by rw [show 1 + 15 = 16 by rfl, c16]; exact a.2.2.1.2.2.1.1)
    refine t2_B.now (t2_B.ext B1 (fun o ho => rfl) (fun w h1 h2 => ?_))
    have := k3 (w - 2) (by omega)
    rw [show 1420 + 1418 * s + (w - 2) = 1418 + 1418 * s + w by omega, show 2 + (w - 2) = 0 + w by omega] at this
    exact this
  have r1 : gr 280 1 = fr 280 1 := k2 1 (Or.inl rfl)
  refine ⟨gI, ⟨⟨Int32.toInt.inj (by rw [b1] at c2; omega), by rw [c1]; exact b2, by omega, by rw [r1]; exact b4, fun i hi => ?_⟩, t2_B.ext c (fun o ho => cfr _ (by omega) (by omega)) (fun w h1 h2 => by rw [h281]), d.ext (cfr _ (by decide) (by decide)) (fun i _ => by rw [cfr 274 (by decide) (by decide)]) (fun i j hi hj hv o ho => cfr _ (by omega) (by omega)) (by rw [h281]) (by rw [h281]) (fun w _ _ => by rw [h281]) (Nat.le_refl _)⟩, e.ext (fun q i hq _ => by rw [cfr q (by omega) (by omega)]), by rw [k1 277 (by decide)]; exact g7⟩
  obtain ⟨jj, j1, j2, j3⟩ := b5 i (by omega)
  refine ⟨jj, j1, ?_, ?_⟩
  · rw [c1, show 271 + 1 = 272 by rfl, cfr 272 (by decide) (by decide)]
    exact j2
  · rw [r1]
    exact t2_B.ext j3 (fun o ho => cfr _ (by omega) (by omega)) (fun w h1 h2 => k2 _ (by omega))
end T2WK

end

/-! 94.54.g23.lean.txt -/
section
/-! ===== History.become, run: 273 from 271 ===== -/
section T2HBEhi
variable {L : Nat} {xs : Nat → Int32} {f : t2_F} {l : t2_L} {Q : Option fl_V → fl_M → Prop} {R : Nat → Int32}
/-- behind j rounds -/
def hi_P (f : t2_F) (l : t2_L) (R : Nat → Int32) (j : Nat) (g : t2_F) (l' : t2_L) : Prop :=
  (l'.1 = l.1 ∧ l.2 ≤ l'.2) ∧ at_XI (g, l') ∧ t2_M g l'.2 ∧ t2_D g ∧ (g 273 1 = 0 ∧ g 273 2 = f 271 2) ∧ (∀ r : Nat, r < 285 → r ≠ 273 → r ≠ 274 → g r = f r) ∧
  (∀ i jj : Nat, i < 20 → jj < l.2 → (f 272 i).toInt = 285 + 90 * (jj : Int) → ∀ o : Nat, o < 90 → g (285 + 90 * jj + o) = f (285 + 90 * jj + o)) ∧
  ∀ i : Nat, i < j → ∃ d : Nat, d < l'.2 ∧ (g 274 i).toInt = 285 + 90 * (d : Int) ∧ t2_B g (285 + 90 * d) R (1418 + 1418 * (((R 1).toInt.toNat + i) % 20))
theorem hi_q (hX : at_XI (f, l)) (hM : t2_M f l.2) (hD : t2_D f) (H : t2_H f l.2 271 R)
    (k : ∀ (g : t2_F) (l' : t2_L), l'.1 = l.1 → l.2 ≤ l'.2 → at_XI (g, l') → t2_H g l'.2 273 R → t2_D g → (∀ r : Nat, r < 285 → r ≠ 273 → r ≠ 274 → g r = f r) → (∀ i jj : Nat, i < 20 → jj < l.2 → (f 272 i).toInt = 285 + 90 * (jj : Int) → ∀ o : Nat, o < 90 → g (285 + 90 * jj + o) = f (285 + 90 * jj + o)) → Q none (g, l')) :
    fl_Tq (pw_P L xs) 22 0 (fl_args (am_mxl (pw_P L xs) 22) [.inr (.inr (.inl (73, 273))), .inr (.inr (.inl (73, 271)))]) [] (f, l) Q := by
  obtain ⟨b1, b2, b3, b4, b5⟩ := H
  have c0 : (0 : Int32).toInt = 0 := rfl
  show fl_Tq (pw_P L xs) 22 0 [some (.inr (.inr (.inl (73, 273)))), some (.inr (.inr (.inl (73, 271)))), none] [] (f, l) Q
  refine hi_A ?_
  have loop : ∀ (g : t2_F) (l' : t2_L), hi_P f l R 0 g l' → fl_Tq (pw_P L xs) 22 15 [some (.inr (.inr (.inl (73, 273)))), some (.inr (.inr (.inl (73, 271)))), some (.inl (Int32.ofNat 0))] [] (g, l') Q := by
    refine t2_for (n := (R 0).toInt.toNat) (S := fun j => ∀ (g : t2_F) (l' : t2_L), hi_P f l R j g l' → fl_Tq (pw_P L xs) 22 15 [some (.inr (.inr (.inl (73, 273)))), some (.inr (.inr (.inl (73, 271)))), some (.inl (Int32.ofNat j))] [] (g, l') Q) (fun j hj hS g l' hP => ?_) (fun g l' hP => ?_)
    · obtain ⟨⟨p1, p2⟩, pX, pM, pD, ⟨pt1, pt2⟩, pf, pO, pE⟩ := hP
      have ej : (Int32.ofNat j).toInt = j := at_ofN (by omega)
      refine hi_B1 (by rw [pt2, b1, ej]; omega) ?_
      refine fl_Tq.cal rfl rfl (fl_bo rfl) rfl ?_
      -- with the dest's block
      have mid : ∀ (G : t2_F) (l2 : t2_L) (dn : Nat), dn < l2.2 → at_XI (G, l2) → t2_M G l2.2 → t2_D G → l2.1 = l.1 → l.2 ≤ l2.2 → l'.2 ≤ l2.2 → (G 274 j).toInt = 285 + 90 * (dn : Int) → (∀ r : Nat, r ≠ 274 → G r = g r) → (∀ k : Nat, k ≠ j → G 274 k = g 274 k) → fl_Tq (pw_P L xs) 22 28 [some (.inr (.inr (.inl (73, 273)))), some (.inr (.inr (.inl (73, 271)))), some (.inl (Int32.ofNat j))] [.inr (.inr (.inl (25, 285 + 90 * dn)))] (G, l2) Q := by
        intro G l2 dn hdn GX GM GD e1 e2 e2' hG1 hG2 hG3
        have A : t2_blk l2.2 (285 + 90 * dn) 24 := t2_blk_made hdn
        have hd : fk_K (285 + 90 * dn) = 25 ∧ 285 + 90 * dn < fl_N l2.2 := ⟨(A.place 0 25 (by decide) (by decide +kernel)).1, (A.place 0 25 (by decide) (by decide +kernel)).2⟩
        refine hi_B2 hd ?_
        refine fl_Tq.cal rfl rfl (fl_oks_ok ⟨True.intro, fl_okp (by decide +kernel) (by decide), hd, True.intro⟩) rfl ?_
        have eO : G 271 = f 271 := by rw [hG2 _ (by decide), pf _ (by decide) (by decide) (by decide)]
        have e272 : G 272 = f 272 := by rw [hG2 _ (by decide), pf _ (by decide) (by decide) (by decide)]
        have md := t2_mod20 (a := G 271 1) (b := Int32.ofNat j) (by rw [eO]; omega) (by omega)
        rw [eO, ej] at md
        obtain ⟨je, je1, je2, je3⟩ := b5 j (by omega)
        have je2 : (f 272 (((f 271 1).toInt.toNat + j) % 20)).toInt = 285 + 90 * (je : Int) := je2
        have hm20 := Nat.mod_lt ((f 271 1).toInt.toNat + j) (show 0 < 20 by decide)
        refine t2_stateX_q (p := 271) (i := ((f 271 1).toInt.toNat + j) % 20) GX (by decide +kernel) (by rw [eO, md]; omega) hm20 (fun jj hjj hx => ?_) (fun x h0 => ?_)
        · have hx : (G 272 (((f 271 1).toInt.toNat + j) % 20)).toInt = 285 + 90 * (jj : Int) := hx
          have hjj : jj < l2.2 := hjj
          rw [e272, je2] at hx
          have : jj = je := by omega
          subst this
          have ne : dn ≠ jj := fun h => by
            subst h
            have := GD 274 272 j (((f 271 1).toInt.toNat + j) % 20) (by decide) (by decide) (by omega) hm20 (fun h => by rw [h] at hG1; omega) (Int32.toInt.inj (by rw [hG1, e272, je2]))
            exact absurd this.1 (by decide)
          have B : t2_blk l2.2 (285 + 90 * jj) 24 := t2_blk_made hjj
          have he : fk_K (285 + 90 * jj) = 25 ∧ 285 + 90 * jj < fl_N l2.2 := ⟨(B.place 0 25 (by decide) (by decide +kernel)).1, (B.place 0 25 (by decide) (by decide +kernel)).2⟩
          have blk : ∀ o : Nat, o < 90 → G (285 + 90 * jj + o) = f (285 + 90 * jj + o) := fun o ho => by rw [hG2 _ (by omega)]; exact pO _ jj hm20 je1 je2 o ho
          have BG : t2_B G (285 + 90 * jj) R (1418 + 1418 * (((R 1).toInt.toNat + j) % 20)) := t2_B.ext je3 blk (fun w _ _ => rfl)
          obtain ⟨s1, s2, s3⟩ := BG.src (by omega)
          have hpq : 285 + 90 * dn + 90 ≤ 285 + 90 * jj ∨ 285 + 90 * jj + 90 ≤ 285 + 90 * dn := by omega
          refine hi_B3 hd he A B hpq s1 s2 s3 ?_
          rw [t2_k1]
          have S := bs_same (f := G) hpq s1
          have fr : ∀ r : Nat, (r < 285 + 90 * dn ∨ 285 + 90 * dn + 90 ≤ r) → bs_m G (285 + 90 * dn) (285 + 90 * jj) r = G r := fun r hr => bs_fr s1 hr
          have hN : 285 + 90 * dn + 90 ≤ fl_N l2.2 := by unfold fl_N; omega
          refine hS _ _ ⟨⟨e1, e2⟩, at_XI.keep GX rfl (fun p w hp => by
            show bs_m G (285 + 90 * dn) (285 + 90 * jj) p w = G p w
            rw [fr p (by
              rcases hp with h | h | h | h | h | h | h | h
              · omega
              · omega
              · dsimp only at h; omega
              · omega
              · omega
              · omega
              · omega
              · omega)]), fun n hn => ?_, GD.ext (fun q i hq hi => by rw [fr q (by omega)]), ⟨by rw [fr 273 (by omega), hG2 273 (by decide)]; exact pt1, by rw [fr 273 (by omega), hG2 273 (by decide)]; exact pt2⟩, fun r hr h1 h2 => by rw [fr r (by omega), hG2 r h2]; exact pf r hr h1 h2, fun i n hi hn hv o ho => ?_, fun i hi => ?_⟩
          · by_cases e : n = dn
            · subst e
              rw [S.2.1, S.2.2]
              exact GM n hn
            · rw [fr _ (by omega), fr _ (by omega)]
              exact GM n hn
          · have nn : n ≠ dn := fun h => by
              subst h
              have := GD 274 272 j i (by decide) (by decide) (by omega) hi (fun h => by rw [h] at hG1; omega) (Int32.toInt.inj (by rw [hG1, e272, hv]))
              exact absurd this.1 (by decide)
            rw [fr _ (by omega), hG2 _ (by omega)]
            exact pO i n hi hn hv o ho
          · by_cases e : i = j
            · subst e
              refine ⟨dn, hdn, by rw [fr 274 (by omega)]; exact hG1, ?_⟩
              exact BG.same (by omega) S.1 (by rw [S.2.1]; exact (GM dn (by omega)).1) (by rw [S.2.2]; exact (GM dn (by omega)).2)
            · obtain ⟨d, d1, d2, d3⟩ := pE i (by omega)
              have nd : d ≠ dn := fun h => by
                subst h
                have := GD 274 274 i j (by decide) (by decide) (by omega) (by omega) (fun h => by rw [hG3 i e] at h; rw [h] at d2; omega) (Int32.toInt.inj (by rw [hG3 i e, d2, hG1]))
                exact absurd this.2 e
              refine ⟨d, by omega, by rw [fr 274 (by omega), hG3 i e]; exact d2, ?_⟩
              exact t2_B.ext d3 (fun o ho => by rw [fr _ (by omega), hG2 _ (by omega)]) (fun w _ _ => rfl)
        · have h0 : G 272 (((f 271 1).toInt.toNat + j) % 20) = 0 := h0
          rw [e272] at h0
          rw [h0] at je2
          omega
      refine t2_stateX_q (p := 273) (i := j) pX (by decide +kernel) ej (by omega) (fun dn hdn hx => ?_) (fun x h0 hx hX2 h40 => ?_)
      · exact mid g l' dn hdn pX pM pD p1 p2 (Nat.le_refl _) hx (fun r _ => rfl) (fun k _ => rfl)
      · have hx : x.toInt = 285 + 90 * (l'.2 : Int) := hx
        have gr : ∀ r : Nat, r ≠ 274 → fl_up g 274 j x r = g r := fun r hr => by
          funext w
          exact bl_un (fun h => absurd h hr)
        refine mid (fl_up g 274 j x) (l'.1, l'.2 + 1) l'.2 (Nat.lt_succ_self _) hX2 (fun n hn => ?_) (pD.new (h := l'.2) (l1 := l'.1) (x := x) (i0 := j) pX hx 274 (fun q i hq hi => ?_)) p1 (by show l.2 ≤ l'.2 + 1; omega) (by show l'.2 ≤ l'.2 + 1; omega) (by rw [bl_ue]; exact hx) gr (fun k hk => bl_un (fun _ => hk))
        · have hn : n ≤ l'.2 + 1 := hn
          by_cases e : n ≤ l'.2
          · rw [gr _ (by omega), gr _ (by omega)]
            exact pM n e
          · have u := hX2.2.2.1
            have u1 := u (285 + 90 * n + 12) (by show fl_N (l'.2 + 1) ≤ _; unfold fl_N; omega) 0
            have u2 := u (285 + 90 * n + 15) (by show fl_N (l'.2 + 1) ≤ _; unfold fl_N; omega) 0
            rw [show (285 + 90 * n + 12 - 285) % 90 = 12 by omega] at u1
            rw [show (285 + 90 * n + 15 - 285) % 90 = 15 by omega] at u2
            exact ⟨u1.trans (by decide +kernel), u2.trans (by decide +kernel)⟩
        · by_cases e : q = 274 ∧ i = j
          · rw [if_pos e, e.1, e.2, bl_ue]
          · rw [if_neg e]
            exact bl_un (fun h h2 => e ⟨h, h2⟩)
    · obtain ⟨⟨p1, p2⟩, pX, pM, pD, ⟨pt1, pt2⟩, pf, pO, pE⟩ := hP
      have ej : (Int32.ofNat (R 0).toInt.toNat).toInt = (R 0).toInt.toNat := at_ofN (by omega)
      refine hi_C (by rw [pt2, b1, ej]; omega) ?_
      refine k g l' p1 p2 pX ⟨by rw [pt2]; exact b1, by rw [pt1]; omega, b3, b4, fun i hi => ?_⟩ pD pf pO
      obtain ⟨d, d1, d2, d3⟩ := pE i (by omega)
      refine ⟨d, d1, ?_, d3⟩
      rw [pt1, show ((0 : Int32).toInt.toNat + i) % 20 = i by rw [c0]; show (0 + i) % 20 = i; omega]
      exact d2
  refine loop _ _ ⟨⟨rfl, Nat.le_refl _⟩, at_XI.keep hX rfl (fun p w hp => ?_), fun n hn => ?_, hD.ext (fun q i hq _ => by rw [fl_row_ne (by omega)]), ⟨?_, ?_⟩, fun r _ h1 _ => fl_row_ne h1, fun i n _ _ _ o _ => fl_row_ne (by omega), fun i hi => absurd hi (Nat.not_lt_zero _)⟩
  · show fl_row f 273 _ p w = f p w
    rw [fl_row_ne (by
      rcases hp with h | h | h | h | h | h | h | h
      · omega
      · omega
      · unfold fl_N at h; omega
      · omega
      · omega
      · omega
      · omega
      · omega)]
  · rw [fl_row_ne (by omega), fl_row_ne (by omega)]
    exact hM n hn
  · rw [fl_row_self, upd_ne (by decide), upd_self]
  · rw [fl_row_self, upd_self]
end T2HBEhi
/-! ===== History.become, run: 271 from 273 ===== -/
section T2HBEhb
variable {L : Nat} {xs : Nat → Int32} {f : t2_F} {l : t2_L} {Q : Option fl_V → fl_M → Prop} {R : Nat → Int32}
/-- behind j rounds -/
def hb_P (f : t2_F) (l : t2_L) (R : Nat → Int32) (j : Nat) (g : t2_F) (l' : t2_L) : Prop :=
  (l'.1 = l.1 ∧ l.2 ≤ l'.2) ∧ at_XI (g, l') ∧ t2_M g l'.2 ∧ t2_D g ∧ (g 271 1 = 0 ∧ g 271 2 = f 273 2) ∧ (∀ r : Nat, r < 285 → r ≠ 271 → r ≠ 272 → g r = f r) ∧
  (∀ i jj : Nat, i < 20 → jj < l.2 → (f 274 i).toInt = 285 + 90 * (jj : Int) → ∀ o : Nat, o < 90 → g (285 + 90 * jj + o) = f (285 + 90 * jj + o)) ∧
  ∀ i : Nat, i < j → ∃ d : Nat, d < l'.2 ∧ (g 272 i).toInt = 285 + 90 * (d : Int) ∧ t2_B g (285 + 90 * d) R (1418 + 1418 * (((R 1).toInt.toNat + i) % 20))
theorem hb_q (hX : at_XI (f, l)) (hM : t2_M f l.2) (hD : t2_D f) (H : t2_H f l.2 273 R)
    (k : ∀ (g : t2_F) (l' : t2_L), l'.1 = l.1 → l.2 ≤ l'.2 → at_XI (g, l') → t2_H g l'.2 271 R → t2_D g → (∀ r : Nat, r < 285 → r ≠ 271 → r ≠ 272 → g r = f r) → (∀ i jj : Nat, i < 20 → jj < l.2 → (f 274 i).toInt = 285 + 90 * (jj : Int) → ∀ o : Nat, o < 90 → g (285 + 90 * jj + o) = f (285 + 90 * jj + o)) → Q none (g, l')) :
    fl_Tq (pw_P L xs) 22 0 (fl_args (am_mxl (pw_P L xs) 22) [.inr (.inr (.inl (73, 271))), .inr (.inr (.inl (73, 273)))]) [] (f, l) Q := by
  obtain ⟨b1, b2, b3, b4, b5⟩ := H
  have c0 : (0 : Int32).toInt = 0 := rfl
  show fl_Tq (pw_P L xs) 22 0 [some (.inr (.inr (.inl (73, 271)))), some (.inr (.inr (.inl (73, 273)))), none] [] (f, l) Q
  refine hb_A ?_
  have loop : ∀ (g : t2_F) (l' : t2_L), hb_P f l R 0 g l' → fl_Tq (pw_P L xs) 22 15 [some (.inr (.inr (.inl (73, 271)))), some (.inr (.inr (.inl (73, 273)))), some (.inl (Int32.ofNat 0))] [] (g, l') Q := by
    refine t2_for (n := (R 0).toInt.toNat) (S := fun j => ∀ (g : t2_F) (l' : t2_L), hb_P f l R j g l' → fl_Tq (pw_P L xs) 22 15 [some (.inr (.inr (.inl (73, 271)))), some (.inr (.inr (.inl (73, 273)))), some (.inl (Int32.ofNat j))] [] (g, l') Q) (fun j hj hS g l' hP => ?_) (fun g l' hP => ?_)
    · obtain ⟨⟨p1, p2⟩, pX, pM, pD, ⟨pt1, pt2⟩, pf, pO, pE⟩ := hP
      have ej : (Int32.ofNat j).toInt = j := at_ofN (by omega)
      refine hb_B1 (by rw [pt2, b1, ej]; omega) ?_
      refine fl_Tq.cal rfl rfl (fl_bo rfl) rfl ?_
      -- with the dest's block
      have mid : ∀ (G : t2_F) (l2 : t2_L) (dn : Nat), dn < l2.2 → at_XI (G, l2) → t2_M G l2.2 → t2_D G → l2.1 = l.1 → l.2 ≤ l2.2 → l'.2 ≤ l2.2 → (G 272 j).toInt = 285 + 90 * (dn : Int) → (∀ r : Nat, r ≠ 272 → G r = g r) → (∀ k : Nat, k ≠ j → G 272 k = g 272 k) → fl_Tq (pw_P L xs) 22 28 [some (.inr (.inr (.inl (73, 271)))), some (.inr (.inr (.inl (73, 273)))), some (.inl (Int32.ofNat j))] [.inr (.inr (.inl (25, 285 + 90 * dn)))] (G, l2) Q := by
        intro G l2 dn hdn GX GM GD e1 e2 e2' hG1 hG2 hG3
        have A : t2_blk l2.2 (285 + 90 * dn) 24 := t2_blk_made hdn
        have hd : fk_K (285 + 90 * dn) = 25 ∧ 285 + 90 * dn < fl_N l2.2 := ⟨(A.place 0 25 (by decide) (by decide +kernel)).1, (A.place 0 25 (by decide) (by decide +kernel)).2⟩
        refine hb_B2 hd ?_
        refine fl_Tq.cal rfl rfl (fl_oks_ok ⟨True.intro, fl_okp (by decide +kernel) (by decide), hd, True.intro⟩) rfl ?_
        have eO : G 273 = f 273 := by rw [hG2 _ (by decide), pf _ (by decide) (by decide) (by decide)]
        have e274 : G 274 = f 274 := by rw [hG2 _ (by decide), pf _ (by decide) (by decide) (by decide)]
        have md := t2_mod20 (a := G 273 1) (b := Int32.ofNat j) (by rw [eO]; omega) (by omega)
        rw [eO, ej] at md
        obtain ⟨je, je1, je2, je3⟩ := b5 j (by omega)
        have je2 : (f 274 (((f 273 1).toInt.toNat + j) % 20)).toInt = 285 + 90 * (je : Int) := je2
        have hm20 := Nat.mod_lt ((f 273 1).toInt.toNat + j) (show 0 < 20 by decide)
        refine t2_stateX_q (p := 273) (i := ((f 273 1).toInt.toNat + j) % 20) GX (by decide +kernel) (by rw [eO, md]; omega) hm20 (fun jj hjj hx => ?_) (fun x h0 => ?_)
        · have hx : (G 274 (((f 273 1).toInt.toNat + j) % 20)).toInt = 285 + 90 * (jj : Int) := hx
          have hjj : jj < l2.2 := hjj
          rw [e274, je2] at hx
          have : jj = je := by omega
          subst this
          have ne : dn ≠ jj := fun h => by
            subst h
            have := GD 272 274 j (((f 273 1).toInt.toNat + j) % 20) (by decide) (by decide) (by omega) hm20 (fun h => by rw [h] at hG1; omega) (Int32.toInt.inj (by rw [hG1, e274, je2]))
            exact absurd this.1 (by decide)
          have B : t2_blk l2.2 (285 + 90 * jj) 24 := t2_blk_made hjj
          have he : fk_K (285 + 90 * jj) = 25 ∧ 285 + 90 * jj < fl_N l2.2 := ⟨(B.place 0 25 (by decide) (by decide +kernel)).1, (B.place 0 25 (by decide) (by decide +kernel)).2⟩
          have blk : ∀ o : Nat, o < 90 → G (285 + 90 * jj + o) = f (285 + 90 * jj + o) := fun o ho => by rw [hG2 _ (by omega)]; exact pO _ jj hm20 je1 je2 o ho
          have BG : t2_B G (285 + 90 * jj) R (1418 + 1418 * (((R 1).toInt.toNat + j) % 20)) := t2_B.ext je3 blk (fun w _ _ => rfl)
          obtain ⟨s1, s2, s3⟩ := BG.src (by omega)
          have hpq : 285 + 90 * dn + 90 ≤ 285 + 90 * jj ∨ 285 + 90 * jj + 90 ≤ 285 + 90 * dn := by omega
          refine hb_B3 hd he A B hpq s1 s2 s3 ?_
          rw [t2_k1]
          have S := bs_same (f := G) hpq s1
          have fr : ∀ r : Nat, (r < 285 + 90 * dn ∨ 285 + 90 * dn + 90 ≤ r) → bs_m G (285 + 90 * dn) (285 + 90 * jj) r = G r := fun r hr => bs_fr s1 hr
          have hN : 285 + 90 * dn + 90 ≤ fl_N l2.2 := by unfold fl_N; omega
          refine hS _ _ ⟨⟨e1, e2⟩, at_XI.keep GX rfl (fun p w hp => by
            show bs_m G (285 + 90 * dn) (285 + 90 * jj) p w = G p w
            rw [fr p (by
              rcases hp with h | h | h | h | h | h | h | h
              · omega
              · omega
              · dsimp only at h; omega
              · omega
              · omega
              · omega
              · omega
              · omega)]), fun n hn => ?_, GD.ext (fun q i hq hi => by rw [fr q (by omega)]), ⟨by rw [fr 271 (by omega), hG2 271 (by decide)]; exact pt1, by rw [fr 271 (by omega), hG2 271 (by decide)]; exact pt2⟩, fun r hr h1 h2 => by rw [fr r (by omega), hG2 r h2]; exact pf r hr h1 h2, fun i n hi hn hv o ho => ?_, fun i hi => ?_⟩
          · by_cases e : n = dn
            · subst e
              rw [S.2.1, S.2.2]
              exact GM n hn
            · rw [fr _ (by omega), fr _ (by omega)]
              exact GM n hn
          · have nn : n ≠ dn := fun h => by
              subst h
              have := GD 272 274 j i (by decide) (by decide) (by omega) hi (fun h => by rw [h] at hG1; omega) (Int32.toInt.inj (by rw [hG1, e274, hv]))
              exact absurd this.1 (by decide)
            rw [fr _ (by omega), hG2 _ (by omega)]
            exact pO i n hi hn hv o ho
          · by_cases e : i = j
            · subst e
              refine ⟨dn, hdn, by rw [fr 272 (by omega)]; exact hG1, ?_⟩
              exact BG.same (by omega) S.1 (by rw [S.2.1]; exact (GM dn (by omega)).1) (by rw [S.2.2]; exact (GM dn (by omega)).2)
            · obtain ⟨d, d1, d2, d3⟩ := pE i (by omega)
              have nd : d ≠ dn := fun h => by
                subst h
                have := GD 272 272 i j (by decide) (by decide) (by omega) (by omega) (fun h => by rw [hG3 i e] at h; rw [h] at d2; omega) (Int32.toInt.inj (by rw [hG3 i e, d2, hG1]))
                exact absurd this.2 e
              refine ⟨d, by omega, by rw [fr 272 (by omega), hG3 i e]; exact d2, ?_⟩
              exact t2_B.ext d3 (fun o ho => by rw [fr _ (by omega), hG2 _ (by omega)]) (fun w _ _ => rfl)
        · have h0 : G 274 (((f 273 1).toInt.toNat + j) % 20) = 0 := h0
          rw [e274] at h0
          rw [h0] at je2
          omega
      refine t2_stateX_q (p := 271) (i := j) pX (by decide +kernel) ej (by omega) (fun dn hdn hx => ?_) (fun x h0 hx hX2 h40 => ?_)
      · exact mid g l' dn hdn pX pM pD p1 p2 (Nat.le_refl _) hx (fun r _ => rfl) (fun k _ => rfl)
      · have hx : x.toInt = 285 + 90 * (l'.2 : Int) := hx
        have gr : ∀ r : Nat, r ≠ 272 → fl_up g 272 j x r = g r := fun r hr => by
          funext w
          exact bl_un (fun h => absurd h hr)
        refine mid (fl_up g 272 j x) (l'.1, l'.2 + 1) l'.2 (Nat.lt_succ_self _) hX2 (fun n hn => ?_) (pD.new (h := l'.2) (l1 := l'.1) (x := x) (i0 := j) pX hx 272 (fun q i hq hi => ?_)) p1 (by show l.2 ≤ l'.2 + 1; omega) (by show l'.2 ≤ l'.2 + 1; omega) (by rw [bl_ue]; exact hx) gr (fun k hk => bl_un (fun _ => hk))
        · have hn : n ≤ l'.2 + 1 := hn
          by_cases e : n ≤ l'.2
          · rw [gr _ (by omega), gr _ (by omega)]
            exact pM n e
          · have u := hX2.2.2.1
            have u1 := u (285 + 90 * n + 12) (by show fl_N (l'.2 + 1) ≤ _; unfold fl_N; omega) 0
            have u2 := u (285 + 90 * n + 15) (by show fl_N (l'.2 + 1) ≤ _; unfold fl_N; omega) 0
            rw [show (285 + 90 * n + 12 - 285) % 90 = 12 by omega] at u1
            rw [show (285 + 90 * n + 15 - 285) % 90 = 15 by omega] at u2
            exact ⟨u1.trans (by decide +kernel), u2.trans (by decide +kernel)⟩
        · by_cases e : q = 272 ∧ i = j
          · rw [if_pos e, e.1, e.2, bl_ue]
          · rw [if_neg e]
            exact bl_un (fun h h2 => e ⟨h, h2⟩)
    · obtain ⟨⟨p1, p2⟩, pX, pM, pD, ⟨pt1, pt2⟩, pf, pO, pE⟩ := hP
      have ej : (Int32.ofNat (R 0).toInt.toNat).toInt = (R 0).toInt.toNat := at_ofN (by omega)
      refine hb_C (by rw [pt2, b1, ej]; omega) ?_
      refine k g l' p1 p2 pX ⟨by rw [pt2]; exact b1, by rw [pt1]; omega, b3, b4, fun i hi => ?_⟩ pD pf pO
      obtain ⟨d, d1, d2, d3⟩ := pE i (by omega)
      refine ⟨d, d1, ?_, d3⟩
      rw [pt1, show ((0 : Int32).toInt.toNat + i) % 20 = i by rw [c0]; show (0 + i) % 20 = i; omega]
      exact d2
  refine loop _ _ ⟨⟨rfl, Nat.le_refl _⟩, at_XI.keep hX rfl (fun p w hp => ?_), fun n hn => ?_, hD.ext (fun q i hq _ => by rw [fl_row_ne (by omega)]), ⟨?_, ?_⟩, fun r _ h1 _ => fl_row_ne h1, fun i n _ _ _ o _ => fl_row_ne (by omega), fun i hi => absurd hi (Nat.not_lt_zero _)⟩
  · show fl_row f 271 _ p w = f p w
    rw [fl_row_ne (by
      rcases hp with h | h | h | h | h | h | h | h
      · omega
      · omega
      · unfold fl_N at h; omega
      · omega
      · omega
      · omega
      · omega
      · omega)]
  · rw [fl_row_ne (by omega), fl_row_ne (by omega)]
    exact hM n hn
  · rw [fl_row_self, upd_ne (by decide), upd_self]
  · rw [fl_row_self, upd_self]
end T2HBEhb

end

/-! 94.55.sb.lean.txt -/
section
/-! ===== set answers alike: what is bounded how (case 3) ===== -/
def at_lo3 (n : Nat) : Int := ((at_i0 278).getD (3 * n) 0).toInt
def at_hi3 (n : Nat) : Int := ((at_i0 278).getD (3 * n + 1) 0).toInt
theorem at_tab3 : ∀ n : Fin 30, (pw_tbl 2 n.val).toInt = at_lo3 n.val ∧ (pw_tbl 3 n.val).toInt = at_hi3 n.val ∧ -99999 ≤ at_lo3 n.val ∧ at_hi3 n.val ≤ 99999 := by decide +kernel
def at_sb (w v : Int32) : Prop := 0 ≤ w.toInt ∧ w.toInt ≤ 29 ∧ at_lo3 w.toInt.toNat ≤ v.toInt ∧ v.toInt ≤ at_hi3 w.toInt.toNat
theorem at_rg34 : (List.range 30).all (fun n => (at_rg at_TA).all (fun r => !at_memb (34 + (n : Int)) r || decide (r = (0, 34, 0, 1, 30, -99999, 99999)))) = true := by decide +kernel
section ATSE
variable {L : Nat} {xs : Nat → Int32} {m : fl_M} {Q : Option fl_V → fl_M → Prop}
theorem at_within {v l t : Int32} (k : ∀ b : Int32, (b = 1 ∧ l.toInt ≤ v.toInt ∧ v.toInt ≤ t.toInt) ∨ (b = 0 ∧ ¬ (l.toInt ≤ v.toInt ∧ v.toInt ≤ t.toInt)) → Q (some (.inl b)) m) : fl_Tq (pw_P L xs) 173 0 (fl_args (am_mxl (pw_P L xs) 173) [.inl v, .inl l, .inl t]) [] m Q := by
  refine fl_Tq.stp rfl rfl (fl_bo rfl) rfl ?_
  refine fl_Tq.stp rfl rfl (fl_bo rfl) rfl ?_
  by_cases h1 : v.toInt < l.toInt
  · refine fl_Tq.jt rfl (fl_bo rfl) (by rw [at_c2]; exact decide_eq_true (by omega)) rfl ?_
    refine fl_Tq.stp rfl rfl (fl_bo rfl) rfl ?_
    exact fl_Tq.ret rfl rfl rfl (k _ (Or.inr ⟨rfl, by omega⟩))
  refine fl_Tq.jf rfl (fl_bo rfl) (by rw [at_c2]; exact decide_eq_false (by omega)) rfl ?_
  refine fl_Tq.stp rfl rfl (fl_bo rfl) rfl ?_
  refine fl_Tq.stp rfl rfl (fl_bo rfl) rfl ?_
  by_cases h2 : t.toInt < v.toInt
  · refine fl_Tq.jt rfl (fl_bo rfl) (by rw [at_c2]; exact decide_eq_true (by omega)) rfl ?_
    refine fl_Tq.stp rfl rfl (fl_bo rfl) rfl ?_
    exact fl_Tq.ret rfl rfl rfl (k _ (Or.inr ⟨rfl, by omega⟩))
  refine fl_Tq.jf rfl (fl_bo rfl) (by rw [at_c2]; exact decide_eq_false (by omega)) rfl ?_
  refine fl_Tq.stp rfl rfl (fl_bo rfl) rfl ?_
  refine fl_Tq.stp rfl rfl (fl_bo rfl) rfl ?_
  exact fl_Tq.ret rfl rfl rfl (k _ (Or.inl ⟨rfl, by omega, by omega⟩))
theorem at_x174 {w v : Int32} (k : ∀ b : Int32, (b = 1 ∧ at_sb w v) ∨ (b = 0 ∧ ¬ at_sb w v) → Q (some (.inl b)) m) : fl_Tq (pw_P L xs) 174 0 (fl_args (am_mxl (pw_P L xs) 174) [.inl w, .inl v]) [] m Q := by
  have e29 : (Int8.ofInt 29).toInt32.toInt = 29 := by decide +kernel
  have e0 : (Int32.ofInt 0).toInt = 0 := rfl
  refine fl_Tq.stp rfl rfl (fl_bo rfl) rfl ?_
  refine fl_Tq.stp rfl rfl (fl_bo rfl) rfl ?_
  refine fl_Tq.stp rfl rfl (fl_bo rfl) rfl ?_
  refine fl_Tq.cal rfl rfl (fl_bo rfl) rfl ?_
  refine at_within (fun b hb => ?_)
  rw [e29, e0] at hb
  rcases hb with ⟨rfl, w1, w2⟩ | ⟨rfl, hw⟩
  case inr =>
    refine fl_Tq.zt rfl (fl_bo rfl) (by rw [at_c1]; rfl) rfl ?_
    refine fl_Tq.stp rfl rfl (fl_bo rfl) rfl ?_
    exact fl_Tq.ret rfl rfl rfl (k _ (Or.inr ⟨rfl, fun h => hw ⟨h.1, h.2.1⟩⟩))
  refine fl_Tq.zf rfl (fl_bo rfl) (by rw [at_c1]; rfl) rfl ?_
  obtain ⟨n, hn⟩ : ∃ n : Nat, w.toInt = n := ⟨w.toInt.toNat, by omega⟩
  obtain ⟨t1, t2, -, -⟩ := at_tab3 ⟨n, by omega⟩
  dsimp only at t1 t2
  refine fl_Tq.stp rfl rfl (fl_bo rfl) rfl ?_
  refine fl_Tq.stp rfl rfl (fl_bo rfl) rfl ?_
  refine fl_Tq.stp rfl rfl (fl_bo rfl) rfl ?_
  refine fl_Tq.tld (n := 30) (f := pw_tbl 2) (k := n) rfl (fl_bo rfl) rfl hn (by omega) ?_
  refine fl_Tq.stp rfl rfl (fl_bo rfl) rfl ?_
  refine fl_Tq.stp rfl rfl (fl_bo rfl) rfl ?_
  refine fl_Tq.tld (n := 30) (f := pw_tbl 3) (k := n) rfl (fl_bo rfl) rfl hn (by omega) ?_
  refine fl_Tq.cal rfl rfl (fl_bo rfl) rfl ?_
  refine at_within (fun b hb => ?_)
  rw [t1, t2] at hb
  have hn2 : w.toInt.toNat = n := by omega
  rcases hb with ⟨rfl, v1, v2⟩ | ⟨rfl, hv⟩
  · refine fl_Tq.zf rfl (fl_bo rfl) (by rw [at_c1]; rfl) rfl ?_
    refine fl_Tq.stp rfl rfl (fl_bo rfl) rfl ?_
    refine fl_Tq.stp rfl rfl (fl_bo rfl) rfl ?_
    exact fl_Tq.ret rfl rfl rfl (k _ (Or.inl ⟨rfl, w1, w2, by rw [hn2]; exact v1, by rw [hn2]; exact v2⟩))
  · refine fl_Tq.zt rfl (fl_bo rfl) (by rw [at_c1]; rfl) rfl ?_
    refine fl_Tq.stp rfl rfl (fl_bo rfl) rfl ?_
    exact fl_Tq.ret rfl rfl rfl (k _ (Or.inr ⟨rfl, fun h => hv (by have h3 := h.2.2; rw [hn2] at h3; exact h3)⟩))
theorem at_m246 {w v : Int32} (hb1 : ∀ j, m.1 278 j = (at_i0 278).getD j 0) (k : ∀ b : Int32, (b = 1 ∧ at_sb w v) ∨ (b = 0 ∧ ¬ at_sb w v) → Q (some (.inl b)) m) : fl_Tq (pw_P L xs) 246 0 (fl_args (am_mxl (pw_P L xs) 246) [at_this, .inl w, .inl v]) [] m Q := by
  have e29 : (Int8.ofInt 29).toInt32.toInt = 29 := by decide +kernel
  have e0 : (Int32.ofInt 0).toInt = 0 := rfl
  have e3 : (Int32.ofInt 3).toInt = 3 := rfl
  have e1 : (Int32.ofInt 1).toInt = 1 := rfl
  refine fl_Tq.stp rfl rfl (fl_bo rfl) rfl ?_
  refine fl_Tq.stp rfl rfl (fl_bo rfl) rfl ?_
  refine fl_Tq.stp rfl rfl (fl_bo rfl) rfl ?_
  refine fl_Tq.cal rfl rfl (fl_bo rfl) rfl ?_
  refine at_isin (fun b hb => ?_)
  rw [e29, e0] at hb
  rcases hb with ⟨rfl, w1, w2⟩ | ⟨rfl, hw⟩
  case inr =>
    refine fl_Tq.zt rfl (fl_bo rfl) (by rw [at_c1]; rfl) rfl ?_
    refine fl_Tq.stp rfl rfl (fl_bo rfl) rfl ?_
    exact fl_Tq.ret rfl rfl rfl (k _ (Or.inr ⟨rfl, fun h => hw ⟨h.1, h.2.1⟩⟩))
  refine fl_Tq.zf rfl (fl_bo rfl) (by rw [at_c1]; rfl) rfl ?_
  obtain ⟨n, hn⟩ : ∃ n : Nat, w.toInt = n := ⟨w.toInt.toNat, by omega⟩
  have h3 : (Int32.ofInt 3 * w).toInt = ((3 * n : Nat) : Int) := by rw [at_mul32] <;> rw [e3, hn] <;> omega
  have h4 : (Int32.ofInt 3 * w + Int32.ofInt 1).toInt = ((3 * n + 1 : Nat) : Int) := by rw [at_add32] <;> rw [h3, e1] <;> omega
  refine fl_Tq.stp rfl rfl (fl_bo rfl) rfl ?_
  refine fl_Tq.stp rfl rfl (fl_bo rfl) rfl ?_
  refine fl_Tq.stp rfl rfl (fl_bo rfl) rfl ?_
  refine fl_Tq.stp rfl rfl (fl_bo rfl) rfl ?_
  refine fl_Tq.stp rfl rfl (fl_bo rfl) rfl ?_
  refine fl_Tq.stp rfl rfl (fl_bo rfl) rfl ?_
  refine fl_Tq.ld (p := 278) (τ := 77) (n := 90) (z := (0, 0, 0)) (k := 3 * n) rfl (fl_bo rfl) rfl h3 (by omega) ?_
  refine fl_Tq.stp rfl rfl (fl_bo rfl) rfl ?_
  refine fl_Tq.stp rfl rfl (fl_bo rfl) rfl ?_
  refine fl_Tq.stp rfl rfl (fl_bo rfl) rfl ?_
  refine fl_Tq.stp rfl rfl (fl_bo rfl) rfl ?_
  refine fl_Tq.stp rfl rfl (fl_bo rfl) rfl ?_
  refine fl_Tq.stp rfl rfl (fl_bo rfl) rfl ?_
  refine fl_Tq.stp rfl rfl (fl_bo rfl) rfl ?_
  refine fl_Tq.ld (p := 278) (τ := 77) (n := 90) (z := (0, 0, 0)) (k := 3 * n + 1) rfl (fl_bo rfl) rfl h4 (by omega) ?_
  rw [hb1, hb1]
  refine fl_Tq.cal rfl rfl (fl_bo rfl) rfl ?_
  refine at_isin (fun b hb => ?_)
  have hn2 : w.toInt.toNat = n := by omega
  rcases hb with ⟨rfl, v1, v2⟩ | ⟨rfl, hv⟩
  · refine fl_Tq.zf rfl (fl_bo rfl) (by rw [at_c1]; rfl) rfl ?_
    refine fl_Tq.stp rfl rfl (fl_bo rfl) rfl ?_
    refine fl_Tq.stp rfl rfl (fl_bo rfl) rfl ?_
    exact fl_Tq.ret rfl rfl rfl (k _ (Or.inl ⟨rfl, w1, w2, by rw [hn2]; exact v1, by rw [hn2]; exact v2⟩))
  · refine fl_Tq.zt rfl (fl_bo rfl) (by rw [at_c1]; rfl) rfl ?_
    refine fl_Tq.stp rfl rfl (fl_bo rfl) rfl ?_
    exact fl_Tq.ret rfl rfl rfl (k _ (Or.inr ⟨rfl, fun h => hv (by have h3 := h.2.2; rw [hn2] at h3; exact h3)⟩))
end ATSE
theorem t2_bnd : ∀ n : Fin 30, at_lo3 n.val = t2_lo n.val ∧ at_hi3 n.val = t2_hi n.val := by decide +kernel
theorem t2_sbk {w v : Int32} (h : at_sb w v) : w.toInt = (w.toInt.toNat : Nat) ∧ w.toInt.toNat < 30 ∧ t2_lo w.toInt.toNat ≤ v.toInt ∧ v.toInt ≤ t2_hi w.toInt.toNat := by
  obtain ⟨h1, h2, h3, h4⟩ := h
  have hn : w.toInt.toNat < 30 := by omega
  have b := t2_bnd ⟨w.toInt.toNat, hn⟩
  dsimp only at b
  rw [b.1] at h3
  rw [b.2] at h4
  exact ⟨by omega, hn, h3, h4⟩

end

/-! 94.56.lem.lean.txt -/
section
/-! ===== places of marks ===== -/
theorem t2_km0 {h A : Nat} (hA : A < 3) : fl_ok h (.inr (.inr (.inl (22, 82 + 3 * A)))) := by
  rcases (by omega : A = 0 ∨ A = 1 ∨ A = 2) with rfl | rfl | rfl <;> exact ⟨by decide +kernel, by show _ < fl_N h; unfold fl_N; omega⟩
theorem t2_km1 {h A : Nat} (hA : A < 3) : fl_ok h (.inr (.inr (.inl (23, 83 + 3 * A)))) := by
  rcases (by omega : A = 0 ∨ A = 1 ∨ A = 2) with rfl | rfl | rfl <;> exact ⟨by decide +kernel, by show _ < fl_N h; unfold fl_N; omega⟩
theorem t2_km2 {h A : Nat} (hA : A < 3) : fl_ok h (.inr (.inr (.inl (24, 84 + 3 * A)))) := by
  rcases (by omega : A = 0 ∨ A = 1 ∨ A = 2) with rfl | rfl | rfl <;> exact ⟨by decide +kernel, by show _ < fl_N h; unfold fl_N; omega⟩
theorem t2_mi {a : Int32} {A : Nat} (hA : a.toInt = (A : Int)) (hA1 : A < 3) : ((339 : Int32) + ((35 : Int32) * a)).toInt = ((339 + 35 * A : Nat) : Int) := by
  have c1 : (339 : Int32).toInt = 339 := by decide +kernel
  have c2 : (35 : Int32).toInt = 35 := by decide +kernel
  have e : ((35 : Int32) * a).toInt = 35 * (A : Int) := by rw [at_mul32 (by rw [c2, hA]; omega) (by rw [c2, hA]; omega), c2, hA]
  rw [at_add32 (by omega) (by omega), e, c1]
  omega
theorem fl_rr {f : t2_F} {p : Nat} {a b : Nat → Int32} : fl_row (fl_row f p a) p b = fl_row f p b := by
  funext q w
  unfold fl_row
  split <;> rfl

end

/-! 94.57.z.lean.txt -/
section
/-! ===== the whole relation between the law's calls; a call of the class, then the reference's ===== -/
section T2Z
variable {L : Nat} {xs : Nat → Int32} {m m1 : fl_M} {Q : Option fl_V → fl_M → Prop} {f g : t2_F} {l l' : t2_L}
def t2_Z (m : fl_M) : Prop := at_Good at_XI m ∧ t2_W m.1 m.1 m.2.2
/-- states that aren't made yet are as a constructor leaves them -/
def t2_U (m : fl_M) : Prop := ∀ p, fl_N m.2.2 ≤ p → ∀ i, m.1 p i = at_W0 ((p - 285) % 90) i
theorem t2_Z.U (Z : t2_Z m) : t2_U m := Z.1.2.2.2.2.1
theorem t2_Good.k1 (hg : at_Good at_XI m) {p τ j : Nat} {v : Int32} (hp : p < fl_N m.2.2) (hk : fk_K p = τ) (hr : ((0, (j : Int), 0, 1, 1, v.toInt, v.toInt) : at_R) ∈ at_rg τ) : m.1 p j = v := by
  have h := hg.1 p hp (0, (j : Int), 0, 1, 1, v.toInt, v.toInt) (by rw [hk]; exact hr) j ⟨0, 0, by decide, by dsimp only; decide, by decide, by dsimp only; decide, by dsimp only; omega⟩
  exact Int32.toInt.inj (by dsimp only at h; omega)
theorem t2_Good.M (hg : at_Good at_XI m) : t2_M m.1 m.2.2 := fun j hj => by
  by_cases e : j < m.2.2
  · have A : t2_blk m.2.2 (285 + 90 * j) 24 := t2_blk_made e
    have a := A.place 12 37 (by decide) (by decide +kernel)
    have b := A.place 15 40 (by decide) (by decide +kernel)
    exact ⟨t2_Good.k1 hg (j := 0) a.2 a.1 (by decide +kernel), t2_Good.k1 hg (j := 0) b.2 b.1 (by decide +kernel)⟩
  · have u := hg.2.2.2.2.1
    have u1 := u (285 + 90 * j + 12) (by unfold fl_N; omega) 0
    have u2 := u (285 + 90 * j + 15) (by unfold fl_N; omega) 0
    rw [show (285 + 90 * j + 12 - 285) % 90 = 12 by omega] at u1
    rw [show (285 + 90 * j + 15 - 285) % 90 = 15 by omega] at u2
    exact ⟨u1.trans (by decide +kernel), u2.trans (by decide +kernel)⟩
theorem t2_Good.RS (hg : at_Good at_XI m) : t2_RS m.1 := fun j => hg.2.2.2.2.2.2.2.2.2 279 j (Or.inr rfl)
theorem t2_Good.J (hg : at_Good at_XI m) : c0_J m.1 := by
  refine ⟨fun i hi k hk => ?_, fun k hk => ?_⟩
  · have a := (t2_kK hi).2.2.1
    have h := hg.1 (20 + 4 * i) (by unfold fl_N; omega) (0, 0, 0, 1, 32, 0, 9999000) (by rw [a]; decide +kernel) k ⟨0, k, by decide, by dsimp only; decide, by omega, by dsimp only; omega, by dsimp only; omega⟩
    exact h
  · have h := hg.1 9 (by unfold fl_N; omega) (0, 3, 5, 8, 1, 0, 29) (by decide +kernel) (k * 5 + 3) ⟨k, 0, by omega, by dsimp only; omega, by decide, by dsimp only; decide, by dsimp only; omega⟩
    exact h
theorem t2_Z.K (Z : t2_Z m) : c0_K m.1 m.1 := ⟨Z.2.1, t2_Good.J Z.1, t2_Good.RS Z.1, Z.2.2.2.2⟩
theorem t2_Z.U' (hX : at_XI m) : t2_U m := hX.2.2.1
/-- the class's keep of now, run -/
theorem t2_ckeep (Z : t2_Z (f, l)) (k : ∀ (g : t2_F) (l' : t2_L), t2_CK f g l l' → Q none (g, l')) : fl_Tq (pw_P L xs) 20 0 (fl_args (am_mxl (pw_P L xs) 20) [.inr (.inr (.inl (73, 271))), .inr (.inr (.inl (1, 1)))]) [] (f, l) Q := by
  obtain ⟨hg, I, ⟨⟨b1, b2, b3, -⟩, -⟩, -⟩ := Z
  have b1 : f 271 2 = f 280 0 := b1
  have b2 : 0 ≤ (f 271 1).toInt ∧ (f 271 1).toInt ≤ 19 := b2
  have b3 : 0 ≤ (f 280 0).toInt ∧ (f 280 0).toInt ≤ 20 := b3
  obtain ⟨s1, s2, s3⟩ := (t2_B.of_now I).src (by decide)
  exact hk_q hg.2.2 b2 (by rw [b1]; exact b3) s1 s2 s3 (fun g l' i d a b c d' e f' g' h' => k g l' ⟨i, d, a, b, c, d', e, f', g', h'⟩)
/-- the reference's -/
theorem t2_rkeep (w0 : 0 ≤ (f 280 0).toInt ∧ (f 280 0).toInt ≤ 20) (w1 : 0 ≤ (f 280 1).toInt ∧ (f 280 1).toInt ≤ 19) (k : ∀ g : t2_F, (∀ p : Nat, p ≠ 280 → g p = f p) → t2_RK f g → Q none (g, l)) : fl_Tq (pw_P L xs) 241 0 (fl_args (am_mxl (pw_P L xs) 241) [.inr (.inr (.inl (76, 277)))]) [] (f, l) Q :=
  r_keep_q (m := (f, l)) w0 w1 (fun g s h1 h2 h3 h4 h5 h6 h7 => k g h3 ⟨s, h1, h2, h3, h4, h5, h6, h7⟩)
theorem t2_RK.of {f' : t2_F} (K : t2_RK f g) (e : f' 280 = f 280) : t2_RK f' (fun p => if p = 280 then g 280 else f' p) := by
  obtain ⟨s, h1, h2, h3, h4, h5, h6, h7⟩ := K
  refine ⟨s, h1, by rw [e]; exact h2, fun p hp => if_neg hp, fun j hj hj2 => ?_, fun j hj => ?_, ?_, ?_⟩
  · dsimp only
    rw [if_pos rfl, e]
    exact h4 j hj hj2
  · dsimp only
    rw [if_pos rfl, e]
    exact h5 j hj
  · dsimp only
    rw [if_pos rfl, e]
    exact h6
  · dsimp only
    rw [if_pos rfl, e]
    exact h7
theorem t2_CK.U (U : t2_U (f, l)) (C : t2_CK f g l l') : t2_U (g, l') := by
  obtain ⟨i0, d0, -, ⟨-, hl2, -⟩, -, -, cfr, -⟩ := C
  intro p hp i
  have hp : fl_N l'.2 ≤ p := hp
  have hd : d0 + 90 ≤ fl_N l'.2 ∧ fl_N l.2 ≤ fl_N l'.2 := by
    unfold fl_N
    rcases hl2 with ⟨h1, -, j, hj, e⟩ | ⟨h1, -, e, -⟩ <;> omega
  have h285 : 285 ≤ fl_N l'.2 := by unfold fl_N; omega
  show g p i = _
  rw [cfr p (by omega) (by omega) (by omega)]
  exact U p (by show fl_N l.2 ≤ p; omega) i
/-- the whole relation behind both keeps: the class's memory g, the reference's words those of G -/
theorem t2_Z.keep {F G : t2_F} (Z : t2_Z (f, l)) (C : t2_CK f g l l') (eF : F 280 = f 280) (K : t2_RK F G) : t2_W g (fun p => if p = 280 then G 280 else f p) l'.2 :=
  t2_W.keep Z.1.2.2 (t2_Good.M Z.1) Z.2 C (K.of eF.symm)
theorem t2_Z.I0 {F G : t2_F} (Z : t2_Z (f, l)) (C : t2_CK f g l l') (eF : F 280 = f 280) (K : t2_RK F G) : c0_I g G :=
  (Z.keep C eF K).1.ext (fun p _ _ => rfl) (fun w _ _ => by show G 280 w = (if 280 = 280 then G 280 else f 280) w; rw [if_pos rfl])
theorem t2_CK.F280 {F : t2_F} (C : t2_CK f g l l') (hF : ∀ p : Nat, 91 ≤ p → F p = g p) : F 280 = f 280 := (hF 280 (by decide)).trans (C.now (by decide) (by decide) (by decide))
/-- the end of a call that changed now's state, on both sides -/
theorem t2_Z.fin {F G H : t2_F} (Z : t2_Z (f, l)) (C : t2_CK f g l l') (hF : ∀ p : Nat, 91 ≤ p → F p = g p) (K : t2_RK F G) (hG : ∀ p : Nat, p ≠ 280 → G p = F p) (hH : ∀ p : Nat, p < 277 ∨ p = 281 ∨ 285 ≤ p → H p = G p) (h7 : H 277 7 = G 277 7) (hH2 : ∀ w : Nat, (w < 2 ∨ 1420 ≤ w) → H 280 w = G 280 w) (J : c0_I F H) : t2_W H H l'.2 ∧ t2_U (H, l') := by
  have W1 := Z.keep C (C.F280 hF) K
  refine ⟨W1.upd (J.ext (fun p h1 h2 => by rw [hH p (by omega), hG p (by omega)]) (fun w _ _ => rfl)) (fun p hp => by rw [hH p (by omega), hG p (by omega), hF p (by omega)]) (fun w _ hw => by show H 280 w = (if 280 = 280 then G 280 else f 280) w; rw [if_pos rfl]; exact hH2 w hw) (fun w _ => by show H 281 w = (if 281 = 280 then G 280 else f 281) w; rw [if_neg (by decide), hH 281 (by omega), hG 281 (by decide), hF 281 (by decide), C.now (by decide) (by decide) (by decide)]) (by show H 277 7 = (if 277 = 280 then G 280 else f 277) 7; rw [if_neg (by decide), h7, hG 277 (by decide), hF 277 (by decide), C.now (by decide) (by decide) (by decide)]), fun p hp i => ?_⟩
  have hp : fl_N l'.2 ≤ p := hp
  have h285 : 285 ≤ fl_N l'.2 := by unfold fl_N; omega
  show H p i = _
  rw [hH p (by omega), hG p (by omega), hF p (by omega)]
  exact (C.U Z.U) p hp i
abbrev t2_Mid (L : Nat) (xs : Nat → Int32) (mr : Nat) (ar : List fl_V) (v : Option fl_V) (m1 : fl_M) : Prop := t2_U m1 ∧ (∃ y, v = some (.inl y)) ∧ fl_Tq (pw_P L xs) mr 0 (fl_args (am_mxl (pw_P L xs) mr) ar) [] m1 (fun v2 m2 => v2 = v ∧ t2_W m2.1 m2.1 m2.2.2 ∧ t2_U m2)
abbrev t2_End (L : Nat) (xs : Nat → Int32) (mr : Nat) (ar : List fl_V) (v : Option fl_V) (m1 : fl_M) : Prop := (∃ y, v = some (.inl y)) ∧ fl_Tq (pw_P L xs) mr 0 (fl_args (am_mxl (pw_P L xs) mr) ar) [] m1 (fun v2 m2 => v2 = v ∧ t2_Z m2)
theorem t2_step {c1 c2 : at_C} {ac ar : List fl_V} {mc mr : Nat} (hv1 : at_Valid at_XI (pw_P L xs) c1) (hv2 : at_Valid at_XI (pw_P L xs) c2) (e1 : c1.1 = mc) (e2 : c2.1 = mr) (Z : t2_Z m) (k1 : at_agk m.2.2 c1.2.1 ac) (l1 : c1.2.2.1 = []) (k2 : ∀ h, at_agk h c2.2.1 ar) (l2 : c2.2.2.1 = []) (F : fl_Tq (pw_P L xs) mc 0 (fl_args (am_mxl (pw_P L xs) mc) ac) [] m (t2_Mid L xs mr ar)) : fl_Tq (pw_P L xs) mc 0 (fl_args (am_mxl (pw_P L xs) mc) ac) [] m (t2_End L xs mr ar) := by
  subst e1 e2
  refine fl_Tq.mono (t2_join F (hv1 m ac Z.1 k1 (fun q hq => by rw [l1] at hq; cases hq))) ?_
  rintro v m1 ⟨⟨u, y, G⟩, v2, m2, e1, e2, g2, -, -⟩
  have g1 := t2_Good e2 g2 u
  refine ⟨y, fl_Tq.mono (t2_join G (hv2 m1 ar g1 (k2 _) (fun q hq => by rw [l2] at hq; cases hq))) ?_⟩
  rintro v3 m3 ⟨⟨e3, w3, u3⟩, v4, m4, e4, e5, g4, -, -⟩
  exact ⟨e3, t2_Good e5 g4 u3, w3⟩
/-- nothing of the relation is written -/
def t2_quiet (ws : List at_W) : Bool := ws.all (fun w => (Nat.ble 49 w.1 && Nat.ble w.1 72) || (Nat.beq w.1 75 || (Nat.beq w.1 81 || (Nat.beq w.1 82 || Nat.beq w.1 83))))
def t2_qk (k : Nat) : Bool := (Nat.ble 49 k && Nat.ble k 72) || (Nat.beq k 75 || (Nat.beq k 81 || (Nat.beq k 82 || Nat.beq k 83)))
theorem t2_qk0 : (List.range 285).all (fun p => decide ((181 ≤ p ∧ p ≤ 270) ∨ p = 275 ∨ p = 276 ∨ p = 282 ∨ p = 283 ∨ p = 284) || !t2_qk (fk_K p)) = true := by decide +kernel
theorem t2_qk1 : (List.range 90).all (fun o => !t2_qk (fk_K1.getD o 0)) = true := by decide +kernel
theorem t2_qkp {p : Nat} (hp : (p < 181) ∨ (271 ≤ p ∧ p < 275) ∨ p = 277 ∨ p = 278 ∨ p = 279 ∨ p = 280 ∨ p = 281 ∨ 285 ≤ p) : t2_qk (fk_K p) = false := by
  by_cases e : p < 285
  · have h := List.all_eq_true.mp t2_qk0 p (List.mem_range.mpr e)
    cases hq : t2_qk (fk_K p) with
    | false => rfl
    | true =>
      rw [hq] at h
      have h2 := of_decide_eq_true (show decide ((181 ≤ p ∧ p ≤ 270) ∨ p = 275 ∨ p = 276 ∨ p = 282 ∨ p = 283 ∨ p = 284) = true by simpa using h)
      omega
  · obtain ⟨d, r, hr, rfl⟩ : ∃ d r, r < 90 ∧ p = 285 + 90 * d + r := ⟨(p - 285) / 90, (p - 285) % 90, Nat.mod_lt _ (by decide), by omega⟩
    rw [fk_K_hi hr]
    have h := List.all_eq_true.mp t2_qk1 r (List.mem_range.mpr hr)
    simpa using h
theorem t2_quiet_eq {ws : List at_W} (h : at_MD m m1 ws) (hq : t2_quiet ws = true) {p : Nat} (hp : (p < 181) ∨ (271 ≤ p ∧ p < 275) ∨ p = 277 ∨ p = 278 ∨ p = 279 ∨ p = 280 ∨ p = 281 ∨ 285 ≤ p) : m1.1 p = m.1 p := by
  funext j
  apply Classical.byContradiction
  intro hne
  obtain ⟨w, hw, e, -⟩ := h.2 p j hne
  have hb := List.all_eq_true.mp hq w hw
  have hf := t2_qkp hp
  rw [← e] at hf
  unfold t2_qk at hf
  rw [show ((Nat.ble 49 w.1 && Nat.ble w.1 72) || (Nat.beq w.1 75 || (Nat.beq w.1 81 || (Nat.beq w.1 82 || Nat.beq w.1 83)))) = true from hb] at hf
  cases hf
theorem at_XI.cnt_eq (hX : at_XI m) (hX1 : at_XI m1) (e : ∀ q, q = 272 ∨ q = 274 → m1.1 q = m.1 q) : m1.2.2 = m.2.2 := by
  have a := hX.2.1
  have b := hX1.2.1
  have c : ∀ q, q = 272 ∨ q = 274 → at_cnt m1 q = at_cnt m q := fun q hq => t2_cnt (fun i _ => by rw [e q hq])
  rw [c 272 (Or.inl rfl), c 274 (Or.inr rfl)] at b
  omega
theorem t2_Z.quiet {ws : List at_W} (Z : t2_Z m) (hg : at_Good at_XI m1) (h : at_MD m m1 ws) (hq : t2_quiet ws = true) : t2_Z m1 := by
  have E := fun (p : Nat) hp => t2_quiet_eq (p := p) h hq hp
  have hh := at_XI.cnt_eq Z.1.2.2 hg.2.2 (fun q hq => E q (by omega))
  refine ⟨hg, ?_⟩
  rw [hh]
  exact Z.2.ext (fun p hp => E p (by omega)) (fun w _ => by rw [E 280 (by decide)]) (fun w _ => by rw [E 281 (by decide)]) (by rw [E 277 (by decide)])
end T2Z

end
