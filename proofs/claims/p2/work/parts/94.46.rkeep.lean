/-! ===== the reference's keep, as a function ===== -/
section T2RK
variable {L : Nat} {xs : Nat → Int32} {m : fl_M} {Q : Option fl_V → fl_M → Prop}
theorem r_keep_q (w0 : 0 ≤ (m.1 280 0).toInt ∧ (m.1 280 0).toInt ≤ 20) (w1 : 0 ≤ (m.1 280 1).toInt ∧ (m.1 280 1).toInt ≤ 19)
    (k : ∀ (g : t2_F) (s : Nat), s < 20 → (s : Int) = ((m.1 280 1).toInt + (m.1 280 0).toInt) % 20 → (∀ p : Nat, p ≠ 280 → g p = m.1 p) → (∀ j : Nat, 2 ≤ j → (j < 1420 + 1418 * s ∨ 1420 + 1418 * s + 1418 ≤ j) → g 280 j = m.1 280 j) → (∀ j : Nat, j < 1418 → g 280 (1420 + 1418 * s + j) = m.1 280 (2 + j)) → (g 280 0).toInt = min ((m.1 280 0).toInt + 1) 20 → (g 280 1).toInt = (if (m.1 280 0).toInt = 20 then ((m.1 280 1).toInt + 1) % 20 else (m.1 280 1).toInt) → Q none (g, m.2)) :
    fl_Tq (pw_P L xs) 241 0 (fl_args (am_mxl (pw_P L xs) 241) [.inr (.inr (.inl (76, 277)))]) [] m Q := by
  have e1 : (Int32.ofInt 1).toInt = 1 := rfl
  -- from place 38 on
  have tail : ∀ m1 : fl_M, m1.2 = m.2 → (∀ p j : Nat, (p = 280 → 2 ≤ j) → m1.1 p j = m.1 p j) → (0 ≤ (m1.1 280 0).toInt ∧ (m1.1 280 0).toInt ≤ 19) → (0 ≤ (m1.1 280 1).toInt ∧ (m1.1 280 1).toInt ≤ 19) →
      ((m1.1 280 1).toInt + (m1.1 280 0).toInt) % 20 = ((m.1 280 1).toInt + (m.1 280 0).toInt) % 20 → (m1.1 280 0).toInt + 1 = min ((m.1 280 0).toInt + 1) 20 → (m1.1 280 1).toInt = (if (m.1 280 0).toInt = 20 then ((m.1 280 1).toInt + 1) % 20 else (m.1 280 1).toInt) → fl_Tq (pw_P L xs) 241 38 (fl_args (am_mxl (pw_P L xs) 241) [at_this]) [] m1 Q := by
    intro m1 eh1 ne1 x0 x1 y0 y1 y2
    refine fl_Tq.stp rfl rfl (fl_bo rfl) rfl ?_
    refine fl_Tq.stp rfl rfl (fl_bo rfl) rfl ?_
    refine fl_Tq.stp rfl rfl (fl_bo rfl) rfl ?_
    refine fl_Tq.ld (p := 280) (τ := 79) (n := 29780) (z := (0, 0, 0)) (k := 1) rfl (fl_bo rfl) rfl rfl (by decide) ?_
    refine fl_Tq.stp rfl rfl (fl_bo rfl) rfl ?_
    refine fl_Tq.stp rfl rfl (fl_bo rfl) rfl ?_
    refine fl_Tq.stp rfl rfl (fl_bo rfl) rfl ?_
    refine fl_Tq.ld (p := 280) (τ := 79) (n := 29780) (z := (0, 0, 0)) (k := 0) rfl (fl_bo rfl) rfl rfl (by decide) ?_
    refine fl_Tq.cal rfl rfl (fl_bo rfl) rfl ?_
    refine at_st240 (x := m1.1 280 1) (y := m1.1 280 0) (by omega) (by omega) (fun v hv => ?_)
    obtain ⟨s, hs, hsn⟩ : ∃ s : Nat, s < 20 ∧ v.toInt = ((1420 + 1418 * s : Nat) : Int) := ⟨(((m1.1 280 1).toInt + (m1.1 280 0).toInt) % 20).toNat, by omega, by omega⟩
    have hss : (s : Int) = ((m.1 280 1).toInt + (m.1 280 0).toInt) % 20 := by omega
    refine fl_Tq.stp rfl rfl (fl_bo rfl) rfl ?_
    refine fl_Tq.stp rfl rfl (fl_bo rfl) rfl ?_
    refine fl_Tq.stp rfl rfl (fl_bo rfl) rfl ?_
    have hR : ∀ Q : Option fl_V → fl_M → Prop, (∀ m2, m2 = bl_cp 280 2 280 (1420 + 1418 * s) 1418 m1 → Q none (fl_up m2.1 280 0 (m2.1 280 0 + Int32.ofInt 1), m2.2)) → fl_Tq (pw_P L xs) 241 56 [some (.inr (.inr (.inl (76, 277)))), some (.inl v), some (.inl (Int32.ofNat 0))] [] m1 Q := by
      intro Q k
      have loop : ∀ (d n : Nat), n + d = 1418 → fl_Tq (pw_P L xs) 241 56 [some (.inr (.inr (.inl (76, 277)))), some (.inl v), some (.inl (Int32.ofNat n))] [] (bl_cp 280 2 280 (1420 + 1418 * s) n m1) Q := by
        intro d
        induction d with
        | zero =>
          intro n hn
          have hn : n = 1418 := by omega
          subst hn
          refine fl_Tq.stp rfl rfl (fl_bo rfl) rfl ?_
          refine fl_Tq.stp rfl rfl (fl_bo rfl) rfl ?_
          refine fl_Tq.jt rfl (fl_bo rfl) (by decide +kernel) rfl ?_
          refine fl_Tq.stp rfl rfl (fl_bo rfl) rfl ?_
          refine fl_Tq.stp rfl rfl (fl_bo rfl) rfl ?_
          refine fl_Tq.stp rfl rfl (fl_bo rfl) rfl ?_
          refine fl_Tq.stp rfl rfl (fl_bo rfl) rfl ?_
          refine fl_Tq.ld (p := 280) (τ := 79) (n := 29780) (z := (0, 0, 0)) (k := 0) rfl (fl_bo rfl) rfl rfl (by decide) ?_
          refine fl_Tq.stp rfl rfl (fl_bo rfl) rfl ?_
          refine fl_Tq.stp rfl rfl (fl_bo rfl) rfl ?_
          refine fl_Tq.sv (p := 280) (τ := 79) (n := 29780) (z := (0, 0, 0)) (k := 0) rfl (fl_bo rfl) rfl rfl (by decide) ?_
          exact fl_Tq.ret rfl rfl rfl (k _ rfl)
        | succ d ih =>
          intro n hn
          have en := at_ofN (k := n) (by omega)
          refine fl_Tq.stp rfl rfl (fl_bo rfl) rfl ?_
          refine fl_Tq.stp rfl rfl (fl_bo rfl) rfl ?_
          refine fl_Tq.jf rfl (fl_bo rfl) ?_ rfl ?_
          · rw [at_c2, en]
            exact decide_eq_false (by show ¬ (0 ≤ (n : Int) - (1418 : Int)); omega)
          have h2 : (Int32.ofInt 2 + Int32.ofNat n).toInt = ((2 + n : Nat) : Int) := by rw [at_2n (by omega), Nat.add_comm]
          have h3 : (v + Int32.ofNat n).toInt = ((1420 + 1418 * s + n : Nat) : Int) := by
            rw [at_add32] <;> omega
          refine fl_Tq.stp rfl rfl (fl_bo rfl) rfl ?_
          refine fl_Tq.stp rfl rfl (fl_bo rfl) rfl ?_
          refine fl_Tq.stp rfl rfl (fl_bo rfl) rfl ?_
          refine fl_Tq.stp rfl rfl (fl_bo rfl) rfl ?_
          refine fl_Tq.stp rfl rfl (fl_bo rfl) rfl ?_
          refine fl_Tq.stp rfl rfl (fl_bo rfl) rfl ?_
          refine fl_Tq.stp rfl rfl (fl_bo rfl) rfl ?_
          refine fl_Tq.stp rfl rfl (fl_bo rfl) rfl ?_
          refine fl_Tq.stp rfl rfl (fl_bo rfl) rfl ?_
          refine fl_Tq.stp rfl rfl (fl_bo rfl) rfl ?_
          refine fl_Tq.ld (p := 280) (τ := 79) (n := 29780) (z := (0, 0, 0)) (k := 2 + n) rfl (fl_bo rfl) rfl h2 (by omega) ?_
          refine fl_Tq.sv (p := 280) (τ := 79) (n := 29780) (z := (0, 0, 0)) (k := 1420 + 1418 * s + n) rfl (fl_bo rfl) rfl h3 (by omega) ?_
          rw [bl_cp_s (src := 280) (s0 := 2) (dst := 280) (d0 := 1420 + 1418 * s) (n := n) (fun _ => Or.inl (by omega))]
          refine fl_Tq.stp rfl rfl (fl_bo rfl) rfl ?_
          refine fl_Tq.stp rfl rfl (fl_bo rfl) rfl ?_
          have := ih (n + 1) (by omega)
          rw [← at_inc (by omega)] at this
          exact this
      have := loop 1418 0 (by omega)
      rw [bl_cp_0] at this
      exact this
    refine hR _ (fun m2 em2 => ?_)
    have f0 : m2.1 280 0 = m1.1 280 0 := by rw [em2]; exact bl_cp_out (fun _ => Or.inl (by omega))
    have f1 : m2.1 280 1 = m1.1 280 1 := by rw [em2]; exact bl_cp_out (fun _ => Or.inl (by omega))
    have eh : m2.2 = m.2 := by rw [em2]; exact eh1
    have hv := at_add32 (x := m2.1 280 0) (y := Int32.ofInt 1) (by rw [f0]; omega) (by rw [f0]; omega)
    generalize m2.1 280 0 + Int32.ofInt 1 = v1 at hv
    have ne2 : ∀ p j : Nat, (p = 280 → 2 ≤ j ∧ (j < 1420 + 1418 * s ∨ 1420 + 1418 * s + 1418 ≤ j)) → fl_up m2.1 280 0 v1 p j = m.1 p j := fun p j e => by
      rw [bl_un (fun h => by have := e h; omega), em2, bl_cp_out (fun h => by have := e h; omega)]
      exact ne1 p j (fun h => (e h).1)
    have f1' : fl_up m2.1 280 0 v1 280 1 = m1.1 280 1 := by rw [bl_un (fun _ => by decide), f1]
    rw [eh]
    refine k _ s hs hss (fun p hp => funext (fun j => ne2 p j (fun h => absurd h hp))) (fun j h1 h2 => ne2 280 j (fun _ => ⟨h1, h2⟩)) (fun j hj => ?_) ?_ ?_
    · rw [bl_un (fun _ => by omega), em2, bl_cp_in (by omega) (by omega), ne1 280 _ (fun _ => by omega), show 1420 + 1418 * s + j - (1420 + 1418 * s) + 2 = 2 + j by omega]
    · rw [bl_ue, hv, f0]
      exact y1
    · rw [f1']
      exact y2
  refine fl_Tq.stp rfl rfl (fl_bo rfl) rfl ?_
  refine fl_Tq.stp rfl rfl (fl_bo rfl) rfl ?_
  refine fl_Tq.stp rfl rfl (fl_bo rfl) rfl ?_
  refine fl_Tq.ld (p := 280) (τ := 79) (n := 29780) (z := (0, 0, 0)) (k := 0) rfl (fl_bo rfl) rfl rfl (by decide) ?_
  refine fl_Tq.stp rfl rfl (fl_bo rfl) rfl ?_
  have e20 : (Int8.ofInt 20).toInt32.toInt = 20 := by decide +kernel
  by_cases h0 : (m.1 280 0).toInt = 20
  · refine fl_Tq.jf rfl (fl_bo rfl) ?_ rfl ?_
    · rw [at_c2, h0, e20]; rfl
    refine fl_Tq.stp rfl rfl (fl_bo rfl) rfl ?_
    refine fl_Tq.stp rfl rfl (fl_bo rfl) rfl ?_
    refine fl_Tq.stp rfl rfl (fl_bo rfl) rfl ?_
    refine fl_Tq.stp rfl rfl (fl_bo rfl) rfl ?_
    refine fl_Tq.stp rfl rfl (fl_bo rfl) rfl ?_
    refine fl_Tq.stp rfl rfl (fl_bo rfl) rfl ?_
    refine fl_Tq.ld (p := 280) (τ := 79) (n := 29780) (z := (0, 0, 0)) (k := 1) rfl (fl_bo rfl) rfl rfl (by decide) ?_
    refine fl_Tq.stp rfl rfl (fl_bo rfl) rfl ?_
    refine fl_Tq.stp rfl rfl (fl_bo rfl) rfl ?_
    refine fl_Tq.stp rfl rfl (fl_bo rfl) rfl ?_
    refine fl_Tq.rm rfl (fl_bo rfl) (by decide +kernel) ?_
    refine fl_Tq.sv (p := 280) (τ := 79) (n := 29780) (z := (0, 0, 0)) (k := 1) rfl (fl_bo rfl) rfl rfl (by decide) ?_
    dsimp only
    have hs := at_add32 (x := m.1 280 1) (y := Int32.ofInt 1) (by omega) (by omega)
    generalize m.1 280 1 + Int32.ofInt 1 = u1 at hs
    have hr := at_rem20 (s := u1) e20 (by omega)
    generalize u1 - u1 / (Int8.ofInt 20).toInt32 * (Int8.ofInt 20).toInt32 = u2 at hr
    refine fl_Tq.stp rfl rfl (fl_bo rfl) rfl ?_
    refine fl_Tq.stp rfl rfl (fl_bo rfl) rfl ?_
    refine fl_Tq.stp rfl rfl (fl_bo rfl) rfl ?_
    refine fl_Tq.stp rfl rfl (fl_bo rfl) rfl ?_
    refine fl_Tq.ld (p := 280) (τ := 79) (n := 29780) (z := (0, 0, 0)) (k := 0) rfl (fl_bo rfl) rfl rfl (by decide) ?_
    refine fl_Tq.stp rfl rfl (fl_bo rfl) rfl ?_
    refine fl_Tq.stp rfl rfl (fl_bo rfl) rfl ?_
    refine fl_Tq.sv (p := 280) (τ := 79) (n := 29780) (z := (0, 0, 0)) (k := 0) rfl (fl_bo rfl) rfl rfl (by decide) ?_
    have q0 : fl_up m.1 280 1 u2 280 0 = m.1 280 0 := bl_un (fun _ => by decide)
    refine tail _ rfl (fun p j e => ?_) ?_ ?_ ?_ ?_ ?_
    · show fl_up (fl_up m.1 280 1 u2) 280 0 _ p j = _
      rw [bl_un (fun h => by have := e h; omega), bl_un (fun h => by have := e h; omega)]
    · show 0 ≤ (fl_up (fl_up m.1 280 1 u2) 280 0 (fl_up m.1 280 1 u2 280 0 - Int32.ofInt 1) 280 0).toInt ∧ (fl_up (fl_up m.1 280 1 u2) 280 0 (fl_up m.1 280 1 u2 280 0 - Int32.ofInt 1) 280 0).toInt ≤ 19
      rw [bl_ue, q0, at_sub32 (by omega) (by omega)]
      omega
    · show 0 ≤ (fl_up (fl_up m.1 280 1 u2) 280 0 (fl_up m.1 280 1 u2 280 0 - Int32.ofInt 1) 280 1).toInt ∧ (fl_up (fl_up m.1 280 1 u2) 280 0 (fl_up m.1 280 1 u2 280 0 - Int32.ofInt 1) 280 1).toInt ≤ 19
      rw [bl_un (fun _ => by decide), bl_ue]
      omega
    · show ((fl_up (fl_up m.1 280 1 u2) 280 0 (fl_up m.1 280 1 u2 280 0 - Int32.ofInt 1) 280 1).toInt + (fl_up (fl_up m.1 280 1 u2) 280 0 (fl_up m.1 280 1 u2 280 0 - Int32.ofInt 1) 280 0).toInt) % 20 = _
      rw [bl_ue, q0, at_sub32 (by omega) (by omega), bl_un (fun _ => by decide), bl_ue]
      omega
    · show (fl_up (fl_up m.1 280 1 u2) 280 0 (fl_up m.1 280 1 u2 280 0 - Int32.ofInt 1) 280 0).toInt + 1 = _
      rw [bl_ue, q0, at_sub32 (by omega) (by omega)]
      omega
    · show (fl_up (fl_up m.1 280 1 u2) 280 0 (fl_up m.1 280 1 u2 280 0 - Int32.ofInt 1) 280 1).toInt = _
      rw [bl_un (fun _ => by decide), bl_ue, if_pos h0]
      omega
  · refine fl_Tq.jt rfl (fl_bo rfl) ?_ rfl ?_
    · rw [at_c2, e20]; show (!decide ((m.1 280 0).toInt - 20 = 0)) = true; rw [decide_eq_false (by omega)]; rfl
    exact tail m rfl (fun p j _ => rfl) (by omega) w1 rfl (by omega) (by rw [if_neg h0])
end T2RK
