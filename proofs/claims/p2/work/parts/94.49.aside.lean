/-! ===== putAside, bringBack, as functions ===== -/
section T2PB
variable {L : Nat} {xs : Nat → Int32} {m : fl_M} {Q : Option fl_V → fl_M → Prop}
theorem r_putAside_q (k : ∀ g : t2_F, (∀ p : Nat, p ≠ 283 → g p = m.1 p) → (∀ j : Nat, j < 1418 → g 283 j = m.1 280 (2 + j)) → Q none (g, m.2)) : fl_Tq (pw_P L xs) 238 0 (fl_args (am_mxl (pw_P L xs) 238) [.inr (.inr (.inl (76, 277)))]) [] m Q := by
  have k82 : fk_K 283 = 82 := by decide +kernel
  have hR : ∀ Q : Option fl_V → fl_M → Prop, Q none (bl_cp 280 2 283 0 1418 m) → fl_Tq (pw_P L xs) 238 0 (fl_args (am_mxl (pw_P L xs) 238) [at_this]) [] m Q := by
    intro Q k
    have loop : ∀ (d n : Nat), n + d = 1418 → fl_Tq (pw_P L xs) 238 2 [some (.inr (.inr (.inl (76, 277)))), some (.inl (Int32.ofNat n))] [] (bl_cp 280 2 283 0 n m) Q := by
      intro d
      induction d with
      | zero =>
        intro n hn
        have hn : n = 1418 := by omega
        subst hn
        refine fl_Tq.stp rfl rfl (fl_bo rfl) rfl ?_
        refine fl_Tq.stp rfl rfl (fl_bo rfl) rfl ?_
        refine fl_Tq.jt rfl (fl_bo rfl) (by decide +kernel) rfl ?_
        exact fl_Tq.ret rfl rfl rfl k
      | succ d ih =>
        intro n hn
        have en := at_ofN (k := n) (by omega)
        refine fl_Tq.stp rfl rfl (fl_bo rfl) rfl ?_
        refine fl_Tq.stp rfl rfl (fl_bo rfl) rfl ?_
        refine fl_Tq.jf rfl (fl_bo rfl) ?_ rfl ?_
        · rw [at_c2, en]
          exact decide_eq_false (by show ¬ (0 ≤ (n : Int) - (1418 : Int)); omega)
        refine fl_Tq.stp rfl rfl (fl_bo rfl) rfl ?_
        refine fl_Tq.stp rfl rfl (fl_bo rfl) rfl ?_
        refine fl_Tq.stp rfl rfl (fl_bo rfl) rfl ?_
        refine fl_Tq.stp rfl rfl (fl_bo rfl) rfl ?_
        refine fl_Tq.stp rfl rfl (fl_bo rfl) rfl ?_
        refine fl_Tq.stp rfl rfl (fl_bo rfl) rfl ?_
        refine fl_Tq.stp rfl rfl (fl_bo rfl) rfl ?_
        refine fl_Tq.stp rfl rfl (fl_bo rfl) rfl ?_
        refine fl_Tq.ld (p := 280) (τ := 79) (n := 29780) (z := (0, 0, 0)) (k := n + 2) rfl (fl_bo rfl) rfl (at_2n (by omega)) (by omega) ?_
        refine fl_Tq.sv (p := 283) (τ := 82) (n := 1418) (z := (0, 0, 0)) (k := n) rfl (fl_bo rfl) rfl en (by omega) ?_
        have e2 := bl_cp_s (src := 280) (s0 := 2) (dst := 283) (d0 := 0) (n := n) (m := m) (fun h => absurd h (by decide))
        rw [Nat.zero_add, Nat.add_comm 2 n] at e2
        rw [e2]
        refine fl_Tq.stp rfl rfl (fl_bo rfl) rfl ?_
        refine fl_Tq.stp rfl rfl (fl_bo rfl) rfl ?_
        have := ih (n + 1) (by omega)
        rw [← at_inc (by omega)] at this
        exact this
    refine fl_Tq.stp rfl rfl (fl_bo rfl) rfl ?_
    refine fl_Tq.stp rfl rfl (fl_bo rfl) rfl ?_
    have := loop 1418 0 (by omega)
    rw [bl_cp_0] at this
    exact this
  refine hR _ ?_
  refine k (bl_cp 280 2 283 0 1418 m).1 (fun p hp => funext (fun j => bl_cp_out (fun h => absurd h hp))) (fun j hj => ?_)
  rw [bl_cp_in (by omega) (by omega), show j - 0 + 2 = 2 + j by omega]
theorem r_bringBack_q (k : ∀ g : t2_F, (∀ p : Nat, p ≠ 280 → g p = m.1 p) → (∀ j : Nat, (j < 2 ∨ 1420 ≤ j) → g 280 j = m.1 280 j) → (∀ j : Nat, j < 1418 → g 280 (2 + j) = m.1 283 j) → Q none (g, m.2)) : fl_Tq (pw_P L xs) 239 0 (fl_args (am_mxl (pw_P L xs) 239) [.inr (.inr (.inl (76, 277)))]) [] m Q := by
  have k82 : fk_K 283 = 82 := by decide +kernel
  have hR : ∀ Q : Option fl_V → fl_M → Prop, Q none (bl_cp 283 0 280 2 1418 m) → fl_Tq (pw_P L xs) 239 0 (fl_args (am_mxl (pw_P L xs) 239) [at_this]) [] m Q := by
    intro Q k
    have loop : ∀ (d n : Nat), n + d = 1418 → fl_Tq (pw_P L xs) 239 2 [some (.inr (.inr (.inl (76, 277)))), some (.inl (Int32.ofNat n))] [] (bl_cp 283 0 280 2 n m) Q := by
      intro d
      induction d with
      | zero =>
        intro n hn
        have hn : n = 1418 := by omega
        subst hn
        refine fl_Tq.stp rfl rfl (fl_bo rfl) rfl ?_
        refine fl_Tq.stp rfl rfl (fl_bo rfl) rfl ?_
        refine fl_Tq.jt rfl (fl_bo rfl) (by decide +kernel) rfl ?_
        exact fl_Tq.ret rfl rfl rfl k
      | succ d ih =>
        intro n hn
        have en := at_ofN (k := n) (by omega)
        refine fl_Tq.stp rfl rfl (fl_bo rfl) rfl ?_
        refine fl_Tq.stp rfl rfl (fl_bo rfl) rfl ?_
        refine fl_Tq.jf rfl (fl_bo rfl) ?_ rfl ?_
        · rw [at_c2, en]
          exact decide_eq_false (by show ¬ (0 ≤ (n : Int) - (1418 : Int)); omega)
        refine fl_Tq.stp rfl rfl (fl_bo rfl) rfl ?_
        refine fl_Tq.stp rfl rfl (fl_bo rfl) rfl ?_
        refine fl_Tq.stp rfl rfl (fl_bo rfl) rfl ?_
        refine fl_Tq.stp rfl rfl (fl_bo rfl) rfl ?_
        refine fl_Tq.stp rfl rfl (fl_bo rfl) rfl ?_
        refine fl_Tq.stp rfl rfl (fl_bo rfl) rfl ?_
        refine fl_Tq.stp rfl rfl (fl_bo rfl) rfl ?_
        refine fl_Tq.stp rfl rfl (fl_bo rfl) rfl ?_
        refine fl_Tq.ld (p := 283) (τ := 82) (n := 1418) (z := (0, 0, 0)) (k := n) rfl (fl_bo rfl) rfl en (by omega) ?_
        refine fl_Tq.sv (p := 280) (τ := 79) (n := 29780) (z := (0, 0, 0)) (k := n + 2) rfl (fl_bo rfl) rfl (at_2n (by omega)) (by omega) ?_
        have e2 := bl_cp_s (src := 283) (s0 := 0) (dst := 280) (d0 := 2) (n := n) (m := m) (fun h => absurd h (by decide))
        rw [Nat.zero_add, Nat.add_comm 2 n] at e2
        rw [e2]
        refine fl_Tq.stp rfl rfl (fl_bo rfl) rfl ?_
        refine fl_Tq.stp rfl rfl (fl_bo rfl) rfl ?_
        have := ih (n + 1) (by omega)
        rw [← at_inc (by omega)] at this
        exact this
    refine fl_Tq.stp rfl rfl (fl_bo rfl) rfl ?_
    refine fl_Tq.stp rfl rfl (fl_bo rfl) rfl ?_
    have := loop 1418 0 (by omega)
    rw [bl_cp_0] at this
    exact this
  refine hR _ ?_
  refine k (bl_cp 283 0 280 2 1418 m).1 (fun p hp => funext (fun j => bl_cp_out (fun h => absurd h hp))) (fun j hj => bl_cp_out (fun _ => by omega)) (fun j hj => ?_)
  rw [bl_cp_in (by omega) (by omega), show 2 + j - 2 + 0 = j by omega]
end T2PB
