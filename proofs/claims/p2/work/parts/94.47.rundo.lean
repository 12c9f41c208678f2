/-! ===== the reference's undo, as a function ===== -/
section T2RU
variable {L : Nat} {xs : Nat → Int32} {m : fl_M} {Q : Option fl_V → fl_M → Prop}
theorem r_undo_q (w0 : 0 ≤ (m.1 280 0).toInt ∧ (m.1 280 0).toInt ≤ 20) (w1 : 0 ≤ (m.1 280 1).toInt ∧ (m.1 280 1).toInt ≤ 19)
    (kn : (m.1 280 0).toInt = 0 → Q (some (.inl (Int32.ofInt (-1)))) m)
    (k : ∀ (g : t2_F) (s : Nat), ¬ (m.1 280 0).toInt = 0 → s < 20 → (s : Int) = ((m.1 280 1).toInt + ((m.1 280 0).toInt - 1)) % 20 → (∀ p : Nat, p ≠ 280 → g p = m.1 p) → (∀ j : Nat, (j = 1 ∨ 1420 ≤ j) → g 280 j = m.1 280 j) → (∀ j : Nat, j < 1418 → g 280 (2 + j) = m.1 280 (1420 + 1418 * s + j)) → (g 280 0).toInt = (m.1 280 0).toInt - 1 → Q (some (.inl (g 280 0))) (g, m.2)) :
    fl_Tq (pw_P L xs) 242 0 (fl_args (am_mxl (pw_P L xs) 242) [.inr (.inr (.inl (76, 277)))]) [] m Q := by
  refine fl_Tq.stp rfl rfl (fl_bo rfl) rfl ?_
  refine fl_Tq.stp rfl rfl (fl_bo rfl) rfl ?_
  refine fl_Tq.stp rfl rfl (fl_bo rfl) rfl ?_
  refine fl_Tq.ld (p := 280) (τ := 79) (n := 29780) (z := (0, 0, 0)) (k := 0) rfl (fl_bo rfl) rfl rfl (by decide) ?_
  by_cases h0 : (m.1 280 0).toInt = 0
  · refine fl_Tq.zf rfl (fl_bo rfl) ?_ rfl ?_
    · rw [at_c1, h0]; rfl
    refine fl_Tq.stp rfl rfl (fl_bo rfl) rfl ?_
    exact fl_Tq.ret rfl rfl rfl (kn h0)
  · refine fl_Tq.zt rfl (fl_bo rfl) ?_ rfl ?_
    · rw [at_c1]; show (!decide ((m.1 280 0).toInt = 0)) = true; rw [decide_eq_false h0]; rfl
    refine fl_Tq.stp rfl rfl (fl_bo rfl) rfl ?_
    refine fl_Tq.stp rfl rfl (fl_bo rfl) rfl ?_
    refine fl_Tq.stp rfl rfl (fl_bo rfl) rfl ?_
    refine fl_Tq.stp rfl rfl (fl_bo rfl) rfl ?_
    refine fl_Tq.ld (p := 280) (τ := 79) (n := 29780) (z := (0, 0, 0)) (k := 0) rfl (fl_bo rfl) rfl rfl (by decide) ?_
    refine fl_Tq.stp rfl rfl (fl_bo rfl) rfl ?_
    refine fl_Tq.stp rfl rfl (fl_bo rfl) rfl ?_
    refine fl_Tq.sv (p := 280) (τ := 79) (n := 29780) (z := (0, 0, 0)) (k := 0) rfl (fl_bo rfl) rfl rfl (by decide) ?_
    dsimp only
    have e1 : (Int32.ofInt 1).toInt = 1 := rfl
    have hv0 := at_sub32 (x := m.1 280 0) (y := Int32.ofInt 1) (by omega) (by omega)
    generalize m.1 280 0 - Int32.ofInt 1 = v0 at hv0
    refine fl_Tq.stp rfl rfl (fl_bo rfl) rfl ?_
    refine fl_Tq.stp rfl rfl (fl_bo rfl) rfl ?_
    refine fl_Tq.stp rfl rfl (fl_bo rfl) rfl ?_
    refine fl_Tq.ld (p := 280) (τ := 79) (n := 29780) (z := (0, 0, 0)) (k := 1) rfl (fl_bo rfl) rfl rfl (by decide) ?_
    refine fl_Tq.stp rfl rfl (fl_bo rfl) rfl ?_
    refine fl_Tq.stp rfl rfl (fl_bo rfl) rfl ?_
    refine fl_Tq.stp rfl rfl (fl_bo rfl) rfl ?_
    refine fl_Tq.ld (p := 280) (τ := 79) (n := 29780) (z := (0, 0, 0)) (k := 0) rfl (fl_bo rfl) rfl rfl (by decide) ?_
    have q1 : fl_up m.1 280 0 v0 280 1 = m.1 280 1 := bl_un (fun _ => by decide)
    have q0 : fl_up m.1 280 0 v0 280 0 = v0 := bl_ue
    refine fl_Tq.cal rfl rfl (fl_bo rfl) rfl ?_
    refine at_st240 (x := fl_up m.1 280 0 v0 280 1) (y := fl_up m.1 280 0 v0 280 0) (by rw [q1]; omega) (by rw [q0]; omega) (fun v hv => ?_)
    rw [q1, q0] at hv
    obtain ⟨s, hs, hsn⟩ : ∃ s : Nat, s < 20 ∧ v.toInt = ((1420 + 1418 * s : Nat) : Int) := ⟨(((m.1 280 1).toInt + v0.toInt) % 20).toNat, by omega, by omega⟩
    refine fl_Tq.stp rfl rfl (fl_bo rfl) rfl ?_
    refine fl_Tq.stp rfl rfl (fl_bo rfl) rfl ?_
    refine fl_Tq.stp rfl rfl (fl_bo rfl) rfl ?_
    have hR : ∀ Q : Option fl_V → fl_M → Prop, (∀ m2, m2 = bl_cp 280 (1420 + 1418 * s) 280 2 1418 (fl_up m.1 280 0 v0, m.2) → Q (some (.inl (m2.1 280 0))) m2) → fl_Tq (pw_P L xs) 242 39 [some (.inr (.inr (.inl (76, 277)))), some (.inl v), some (.inl (Int32.ofNat 0))] [] (fl_up m.1 280 0 v0, m.2) Q := by
      intro Q k
      have loop : ∀ (d n : Nat), n + d = 1418 → fl_Tq (pw_P L xs) 242 39 [some (.inr (.inr (.inl (76, 277)))), some (.inl v), some (.inl (Int32.ofNat n))] [] (bl_cp 280 (1420 + 1418 * s) 280 2 n (fl_up m.1 280 0 v0, m.2)) Q := by
        intro d
        induction d with
        | zero =>
          intro n hn
          have hn : n = 1418 := by omega
          subst hn
          refine fl_Tq.stp rfl rfl (fl_bo rfl) rfl ?_
          refine fl_Tq.stp rfl rfl (fl_bo rfl) rfl ?_
          refine fl_Tq.jt rfl (fl_bo rfl) (by decide +kernel) rfl ?_
          refine fl_Tq.stp rfl rfl (fl_bo rfl) rfl ?_
          refine fl_Tq.stp rfl rfl (fl_bo rfl) rfl ?_
          refine fl_Tq.stp rfl rfl (fl_bo rfl) rfl ?_
          refine fl_Tq.ld (p := 280) (τ := 79) (n := 29780) (z := (0, 0, 0)) (k := 0) rfl (fl_bo rfl) rfl rfl (by decide) ?_
          exact fl_Tq.ret rfl rfl rfl (k _ rfl)
        | succ d ih =>
          intro n hn
          have en := at_ofN (k := n) (by omega)
          refine fl_Tq.stp rfl rfl (fl_bo rfl) rfl ?_
          refine fl_Tq.stp rfl rfl (fl_bo rfl) rfl ?_
          refine fl_Tq.jf rfl (fl_bo rfl) ?_ rfl ?_
          · rw [at_c2, en]
            exact decide_eq_false (by show ¬ (0 ≤ (n : Int) - (1418 : Int)); omega)
          have h2 : (Int32.ofInt 2 + Int32.ofNat n).toInt = ((2 + n : Nat) : Int) := by rw [at_2n (by omega), Nat.add_comm]
          have h3 : (v + Int32.ofNat n).toInt = ((1420 + 1418 * s + n : Nat) : Int) := by
            rw [at_add32] <;> omega
          refine fl_Tq.stp rfl rfl (fl_bo rfl) rfl ?_
          refine fl_Tq.stp rfl rfl (fl_bo rfl) rfl ?_
          refine fl_Tq.stp rfl rfl (fl_bo rfl) rfl ?_
          refine fl_Tq.stp rfl rfl (fl_bo rfl) rfl ?_
          refine fl_Tq.stp rfl rfl (fl_bo rfl) rfl ?_
          refine fl_Tq.stp rfl rfl (fl_bo rfl) rfl ?_
          refine fl_Tq.stp rfl rfl (fl_bo rfl) rfl ?_
          refine fl_Tq.stp rfl rfl (fl_bo rfl) rfl ?_
          refine fl_Tq.stp rfl rfl (fl_bo rfl) rfl ?_
          refine fl_Tq.stp rfl rfl (fl_bo rfl) rfl ?_
          refine fl_Tq.ld (p := 280) (τ := 79) (n := 29780) (z := (0, 0, 0)) (k := 1420 + 1418 * s + n) rfl (fl_bo rfl) rfl h3 (by omega) ?_
          refine fl_Tq.sv (p := 280) (τ := 79) (n := 29780) (z := (0, 0, 0)) (k := 2 + n) rfl (fl_bo rfl) rfl h2 (by omega) ?_
          rw [bl_cp_s (src := 280) (s0 := 1420 + 1418 * s) (dst := 280) (d0 := 2) (n := n) (fun _ => Or.inr (by omega))]
          refine fl_Tq.stp rfl rfl (fl_bo rfl) rfl ?_
          refine fl_Tq.stp rfl rfl (fl_bo rfl) rfl ?_
          have := ih (n + 1) (by omega)
          rw [← at_inc (by omega)] at this
          exact this
      have := loop 1418 0 (by omega)
      rw [bl_cp_0] at this
      exact this
    refine hR _ (fun m2 em2 => ?_)
    have ne : ∀ p j : Nat, (p = 280 → j = 1 ∨ 1420 ≤ j) → m2.1 p j = m.1 p j := fun p j e => by
      rw [em2, bl_cp_out (fun h => by have := e h; omega)]
      exact bl_un (fun h => by have := e h; omega)
    have e0 : m2.1 280 0 = v0 := by
      rw [em2, bl_cp_out (fun _ => Or.inl (by decide))]
      show fl_up m.1 280 0 v0 280 0 = v0
      exact bl_ue
    have eh : m2.2 = m.2 := by rw [em2]; rfl
    rw [show m2 = (m2.1, m.2) by rw [← eh]]
    refine k m2.1 s h0 hs ?_ (fun p hp => funext (fun j => ne p j (fun h => absurd h hp))) (fun j hj => ne 280 j (fun _ => hj)) (fun j hj => ?_) (by rw [e0, hv0, e1])
    · omega
    · rw [em2, bl_cp_in (by omega) (by omega), show 2 + j - 2 + (1420 + 1418 * s) = 1420 + 1418 * s + j by omega]
      show fl_up m.1 280 0 v0 280 _ = _
      rw [bl_un (fun _ => by omega)]
end T2RU
