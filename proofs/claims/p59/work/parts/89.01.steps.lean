/-! ===== keep, undo ===== -/
theorem bl_un {f : Nat → Nat → Int32} {p k q j : Nat} {x : Int32} (h : q = p → j ≠ k) : fl_up f p k x q j = f q j := by
  unfold fl_up
  rw [if_neg (fun e => h e.1 e.2)]
theorem bl_ue {f : Nat → Nat → Int32} {p k : Nat} {x : Int32} : fl_up f p k x p k = x := by
  unfold fl_up
  rw [if_pos ⟨rfl, rfl⟩]
theorem at_rem20 {s t : Int32} (ht : t.toInt = 20) (hs : 0 ≤ s.toInt) : (s - s / t * t).toInt = s.toInt % 20 := by
  have hb := at_i32 s
  have eq : (s / t).toInt = s.toInt / 20 := by
    rw [Int32.toInt_div, ht, Int.tdiv_eq_ediv_of_nonneg hs]
    exact Int.bmod_eq_of_le (by omega) (by omega)
  have em : (s / t * t).toInt = s.toInt / 20 * 20 := by
    rw [at_mul32] <;> rw [eq, ht] <;> omega
  rw [at_sub32] <;> rw [em] <;> omega
section ATST
variable {L : Nat} {xs : Nat → Int32}
theorem at_v242 : at_Valid at_XI (pw_P L xs) (242, [.inl (76, some 277)], [], some (.inr (false, -1, 19)), false, [(79, false, 0, 0), (79, false, 2, 1419)]) := by
  intro m vs hg hk _
  obtain ⟨r, rfl, hk2⟩ := at_ag277 hk
  have hr0 := at_agnil (vs := r) hk2
  subst hr0
  have w0 : 0 ≤ (m.1 280 0).toInt ∧ (m.1 280 0).toInt ≤ 20 := hg.w0
  have w1 : 0 ≤ (m.1 280 1).toInt ∧ (m.1 280 1).toInt ≤ 19 := hg.w1
  refine fl_Tq.stp rfl rfl (fl_bo rfl) rfl ?_
  refine fl_Tq.stp rfl rfl (fl_bo rfl) rfl ?_
  refine fl_Tq.stp rfl rfl (fl_bo rfl) rfl ?_
  refine fl_Tq.ld (p := 280) (τ := 79) (n := 29780) (z := (0, 0, 0)) (k := 0) rfl (fl_bo rfl) rfl rfl (by decide) ?_
  by_cases h0 : (m.1 280 0).toInt = 0
  · refine fl_Tq.zf rfl (fl_bo rfl) ?_ rfl ?_
    · rw [at_c1, h0]; rfl
    refine fl_Tq.stp rfl rfl (fl_bo rfl) rfl ?_
    refine fl_Tq.ret rfl rfl rfl ⟨hg, ⟨Nat.le_refl _, fun p j hne => absurd rfl hne⟩, ⟨_, rfl, by decide +kernel, by decide +kernel, fun h => by cases h⟩⟩
  · refine fl_Tq.zt rfl (fl_bo rfl) ?_ rfl ?_
    · rw [at_c1]; show (!decide ((m.1 280 0).toInt = 0)) = true; rw [decide_eq_false h0]; rfl
    refine fl_Tq.stp rfl rfl (fl_bo rfl) rfl ?_
    refine fl_Tq.stp rfl rfl (fl_bo rfl) rfl ?_
    refine fl_Tq.stp rfl rfl (fl_bo rfl) rfl ?_
    refine fl_Tq.stp rfl rfl (fl_bo rfl) rfl ?_
    refine fl_Tq.ld (p := 280) (τ := 79) (n := 29780) (z := (0, 0, 0)) (k := 0) rfl (fl_bo rfl) rfl rfl (by decide) ?_
    refine fl_Tq.stp rfl rfl (fl_bo rfl) rfl ?_
    refine fl_Tq.stp rfl rfl (fl_bo rfl) rfl ?_
    refine fl_Tq.sv (p := 280) (τ := 79) (n := 29780) (z := (0, 0, 0)) (k := 0) rfl (fl_bo rfl) rfl rfl (by decide) ?_
    dsimp only
    have e1 : (Int32.ofInt 1).toInt = 1 := rfl
    have hv0 := at_sub32 (x := m.1 280 0) (y := Int32.ofInt 1) (by omega) (by omega)
    generalize m.1 280 0 - Int32.ofInt 1 = v0 at hv0
    refine fl_Tq.stp rfl rfl (fl_bo rfl) rfl ?_
    refine fl_Tq.stp rfl rfl (fl_bo rfl) rfl ?_
    refine fl_Tq.stp rfl rfl (fl_bo rfl) rfl ?_
    refine fl_Tq.ld (p := 280) (τ := 79) (n := 29780) (z := (0, 0, 0)) (k := 1) rfl (fl_bo rfl) rfl rfl (by decide) ?_
    refine fl_Tq.stp rfl rfl (fl_bo rfl) rfl ?_
    refine fl_Tq.stp rfl rfl (fl_bo rfl) rfl ?_
    refine fl_Tq.stp rfl rfl (fl_bo rfl) rfl ?_
    refine fl_Tq.ld (p := 280) (τ := 79) (n := 29780) (z := (0, 0, 0)) (k := 0) rfl (fl_bo rfl) rfl rfl (by decide) ?_
    have q1 : fl_up m.1 280 0 v0 280 1 = m.1 280 1 := bl_un (fun _ => by decide)
    have q0 : fl_up m.1 280 0 v0 280 0 = v0 := bl_ue
    refine fl_Tq.cal rfl rfl (fl_bo rfl) rfl ?_
    refine at_st240 (x := fl_up m.1 280 0 v0 280 1) (y := fl_up m.1 280 0 v0 280 0) (by rw [q1]; omega) (by rw [q0]; omega) (fun v hv => ?_)
    rw [q1, q0] at hv
    obtain ⟨s, hs, hsn⟩ : ∃ s : Nat, s < 20 ∧ v.toInt = ((1420 + 1418 * s : Nat) : Int) := ⟨(((m.1 280 1).toInt + v0.toInt) % 20).toNat, by omega, by omega⟩
    refine fl_Tq.stp rfl rfl (fl_bo rfl) rfl ?_
    refine fl_Tq.stp rfl rfl (fl_bo rfl) rfl ?_
    refine fl_Tq.stp rfl rfl (fl_bo rfl) rfl ?_
    have hR : ∀ Q : Option fl_V → fl_M → Prop, (∀ m2, m2 = bl_cp 280 (1420 + 1418 * s) 280 2 1418 (fl_up m.1 280 0 v0, m.2) → Q (some (.inl (m2.1 280 0))) m2) → fl_Tq (pw_P L xs) 242 39 [some (.inr (.inr (.inl (76, 277)))), some (.inl v), some (.inl (Int32.ofNat 0))] [] (fl_up m.1 280 0 v0, m.2) Q := by
      intro Q k
      have loop : ∀ (d n : Nat), n + d = 1418 → fl_Tq (pw_P L xs) 242 39 [some (.inr (.inr (.inl (76, 277)))), some (.inl v), some (.inl (Int32.ofNat n))] [] (bl_cp 280 (1420 + 1418 * s) 280 2 n (fl_up m.1 280 0 v0, m.2)) Q := by
        intro d
        induction d with
        | zero =>
          intro n hn
          have hn : n = 1418 := by omega
          subst hn
          refine fl_Tq.stp rfl rfl (fl_bo rfl) rfl ?_
          refine fl_Tq.stp rfl rfl (fl_bo rfl) rfl ?_
          refine fl_Tq.jt rfl (fl_bo rfl) (by decide +kernel) rfl ?_
          refine fl_Tq.stp rfl rfl (fl_bo rfl) rfl ?_
          refine fl_Tq.stp rfl rfl (fl_bo rfl) rfl ?_
          refine fl_Tq.stp rfl rfl (fl_bo rfl) rfl ?_
          refine fl_Tq.ld (p := 280) (τ := 79) (n := 29780) (z := (0, 0, 0)) (k := 0) rfl (fl_bo rfl) rfl rfl (by decide) ?_
          exact fl_Tq.ret rfl rfl rfl (k _ rfl)
        | succ d ih =>
          intro n hn
          have en := at_ofN (k := n) (by omega)
          refine fl_Tq.stp rfl rfl (fl_bo rfl) rfl ?_
          refine fl_Tq.stp rfl rfl (fl_bo rfl) rfl ?_
          refine fl_Tq.jf rfl (fl_bo rfl) ?_ rfl ?_
          · rw [at_c2, en]
            exact decide_eq_false (by show ¬ (0 ≤ (n : Int) - (1418 : Int)); omega)
          have h2 : (Int32.ofInt 2 + Int32.ofNat n).toInt = ((2 + n : Nat) : Int) := by rw [at_2n (by omega), Nat.add_comm]
          have h3 : (v + Int32.ofNat n).toInt = ((1420 + 1418 * s + n : Nat) : Int) := by
            rw [at_add32] <;> omega
          refine fl_Tq.stp rfl rfl (fl_bo rfl) rfl ?_
          refine fl_Tq.stp rfl rfl (fl_bo rfl) rfl ?_
          refine fl_Tq.stp rfl rfl (fl_bo rfl) rfl ?_
          refine fl_Tq.stp rfl rfl (fl_bo rfl) rfl ?_
          refine fl_Tq.stp rfl rfl (fl_bo rfl) rfl ?_
          refine fl_Tq.stp rfl rfl (fl_bo rfl) rfl ?_
          refine fl_Tq.stp rfl rfl (fl_bo rfl) rfl ?_
          refine fl_Tq.stp rfl rfl (fl_bo rfl) rfl ?_
          refine fl_Tq.stp rfl rfl (fl_bo rfl) rfl ?_
          refine fl_Tq.stp rfl rfl (fl_bo rfl) rfl ?_
          refine fl_Tq.ld (p := 280) (τ := 79) (n := 29780) (z := (0, 0, 0)) (k := 1420 + 1418 * s + n) rfl (fl_bo rfl) rfl h3 (by omega) ?_
          refine fl_Tq.sv (p := 280) (τ := 79) (n := 29780) (z := (0, 0, 0)) (k := 2 + n) rfl (fl_bo rfl) rfl h2 (by omega) ?_
          rw [bl_cp_s (src := 280) (s0 := 1420 + 1418 * s) (dst := 280) (d0 := 2) (n := n) (fun _ => Or.inr (by omega))]
          refine fl_Tq.stp rfl rfl (fl_bo rfl) rfl ?_
          refine fl_Tq.stp rfl rfl (fl_bo rfl) rfl ?_
          have := ih (n + 1) (by omega)
          rw [← at_inc (by omega)] at this
          exact this
      have := loop 1418 0 (by omega)
      rw [bl_cp_0] at this
      exact this
    refine hR _ (fun m2 em2 => ?_)
    have ne : ∀ p j : Nat, (p = 280 → j = 1 ∨ 1420 ≤ j) → m2.1 p j = m.1 p j := fun p j e => by
      rw [em2, bl_cp_out (fun h => by have := e h; omega)]
      exact bl_un (fun h => by have := e h; omega)
    have e0 : m2.1 280 0 = v0 := by
      rw [em2, bl_cp_out (fun _ => Or.inl (by decide))]
      show fl_up m.1 280 0 v0 280 0 = v0
      exact bl_ue
    have eh : m2.2 = m.2 := by rw [em2]; rfl
    have hX : at_XI m2 := by
      refine hg.2.2.mk280 (by rw [eh]) (fun p j e => ne p j (fun h => absurd h e)) (fun s hs => (hg.2.2.2.2.2.2.1 s hs).congr (fun j _ _ => ?_))
      try dsimp only
      rw [ne 280 _ (fun _ => Or.inr (by omega))]
    refine ⟨hg.mk (by rw [eh]) hX (fun p j hp _ hne => absurd (ne p j (fun h => absurd h hp)) hne) (by unfold at_w; rw [e0]; omega) (by unfold at_w; rw [ne 280 1 (by omega)]; exact w1) ((hg.2.2.2.2.2.2.1 s hs).congr (fun j h1 h2 => ?_)), ⟨by rw [eh]; exact Nat.le_refl _, fun p j hne => ?_⟩, ⟨_, rfl, by rw [e0]; omega, by rw [e0]; omega, fun h => by cases h⟩⟩
    · show (m2.1 280 j).toInt = _
      rw [em2, bl_cp_in h1 (by omega)]
      have : j - 2 + (1420 + 1418 * s) = 1420 + 1418 * s + (j - 2) := by omega
      rw [this]
      show (fl_up m.1 280 0 v0 280 _).toInt = _
      rw [bl_un (fun _ => by omega)]
    · by_cases e : p = 280
      · subst e
        by_cases hj : j = 0
        · subst hj
          refine ⟨(79, false, 0, 0), by simp, fk_K_280.symm, ?_⟩
          rw [if_neg (by decide)]
          exact ⟨Int.le_refl _, Int.le_refl _⟩
        · refine ⟨(79, false, 2, 1419), by simp, fk_K_280.symm, ?_⟩
          rw [if_neg (by decide)]
          by_cases hj2 : 2 ≤ j ∧ j < 1420
          · show (2 : Int) ≤ j ∧ (j : Int) ≤ 1419
            omega
          · exact absurd (ne 280 j (fun _ => by omega)) hne
      · exact absurd (ne p j (fun h => absurd h e)) hne
theorem at_v241 : at_Valid at_XI (pw_P L xs) (241, [.inl (76, some 277)], [], none, false, [(79, false, 0, 1), (79, false, 1420, 29779)]) := by
  intro m vs hg hk _
  obtain ⟨r, rfl, hk2⟩ := at_ag277 hk
  have hr0 := at_agnil (vs := r) hk2
  subst hr0
  have w0 : 0 ≤ (m.1 280 0).toInt ∧ (m.1 280 0).toInt ≤ 20 := hg.w0
  have w1 : 0 ≤ (m.1 280 1).toInt ∧ (m.1 280 1).toInt ≤ 19 := hg.w1
  have e1 : (Int32.ofInt 1).toInt = 1 := rfl
  -- from place 38 on
  have tail : ∀ m1 : fl_M, m1.2 = m.2 → (∀ p j : Nat, (p = 280 → 2 ≤ j) → m1.1 p j = m.1 p j) → (0 ≤ (m1.1 280 0).toInt ∧ (m1.1 280 0).toInt ≤ 19) → (0 ≤ (m1.1 280 1).toInt ∧ (m1.1 280 1).toInt ≤ 19) →
      fl_Tq (pw_P L xs) 241 38 (fl_args (am_mxl (pw_P L xs) 241) [at_this]) [] m1 (fun v m' => at_Good at_XI m' ∧ at_MD m m' [(79, false, 0, 1), (79, false, 1420, 29779)] ∧ at_rtc none false m' v) := by
    intro m1 eh1 ne1 x0 x1
    refine fl_Tq.stp rfl rfl (fl_bo rfl) rfl ?_
    refine fl_Tq.stp rfl rfl (fl_bo rfl) rfl ?_
    refine fl_Tq.stp rfl rfl (fl_bo rfl) rfl ?_
    refine fl_Tq.ld (p := 280) (τ := 79) (n := 29780) (z := (0, 0, 0)) (k := 1) rfl (fl_bo rfl) rfl rfl (by decide) ?_
    refine fl_Tq.stp rfl rfl (fl_bo rfl) rfl ?_
    refine fl_Tq.stp rfl rfl (fl_bo rfl) rfl ?_
    refine fl_Tq.stp rfl rfl (fl_bo rfl) rfl ?_
    refine fl_Tq.ld (p := 280) (τ := 79) (n := 29780) (z := (0, 0, 0)) (k := 0) rfl (fl_bo rfl) rfl rfl (by decide) ?_
    refine fl_Tq.cal rfl rfl (fl_bo rfl) rfl ?_
    refine at_st240 (x := m1.1 280 1) (y := m1.1 280 0) (by omega) (by omega) (fun v hv => ?_)
    obtain ⟨s, hs, hsn⟩ : ∃ s : Nat, s < 20 ∧ v.toInt = ((1420 + 1418 * s : Nat) : Int) := ⟨(((m1.1 280 1).toInt + (m1.1 280 0).toInt) % 20).toNat, by omega, by omega⟩
    refine fl_Tq.stp rfl rfl (fl_bo rfl) rfl ?_
    refine fl_Tq.stp rfl rfl (fl_bo rfl) rfl ?_
    refine fl_Tq.stp rfl rfl (fl_bo rfl) rfl ?_
    have hR : ∀ Q : Option fl_V → fl_M → Prop, (∀ m2, m2 = bl_cp 280 2 280 (1420 + 1418 * s) 1418 m1 → Q none (fl_up m2.1 280 0 (m2.1 280 0 + Int32.ofInt 1), m2.2)) → fl_Tq (pw_P L xs) 241 56 [some (.inr (.inr (.inl (76, 277)))), some (.inl v), some (.inl (Int32.ofNat 0))] [] m1 Q := by
      intro Q k
      have loop : ∀ (d n : Nat), n + d = 1418 → fl_Tq (pw_P L xs) 241 56 [some (.inr (.inr (.inl (76, 277)))), some (.inl v), some (.inl (Int32.ofNat n))] [] (bl_cp 280 2 280 (1420 + 1418 * s) n m1) Q := by
        intro d
        induction d with
        | zero =>
          intro n hn
          have hn : n = 1418 := by omega
          subst hn
          refine fl_Tq.stp rfl rfl (fl_bo rfl) rfl ?_
          refine fl_Tq.stp rfl rfl (fl_bo rfl) rfl ?_
          refine fl_Tq.jt rfl (fl_bo rfl) (by decide +kernel) rfl ?_
          refine fl_Tq.stp rfl rfl (fl_bo rfl) rfl ?_
          refine fl_Tq.stp rfl rfl (fl_bo rfl) rfl ?_
          refine fl_Tq.stp rfl rfl (fl_bo rfl) rfl ?_
          refine fl_Tq.stp rfl rfl (fl_bo rfl) rfl ?_
          refine fl_Tq.ld (p := 280) (τ := 79) (n := 29780) (z := (0, 0, 0)) (k := 0) rfl (fl_bo rfl) rfl rfl (by decide) ?_
          refine fl_Tq.stp rfl rfl (fl_bo rfl) rfl ?_
          refine fl_Tq.stp rfl rfl (fl_bo rfl) rfl ?_
          refine fl_Tq.sv (p := 280) (τ := 79) (n := 29780) (z := (0, 0, 0)) (k := 0) rfl (fl_bo rfl) rfl rfl (by decide) ?_
          exact fl_Tq.ret rfl rfl rfl (k _ rfl)
        | succ d ih =>
          intro n hn
          have en := at_ofN (k := n) (by omega)
          refine fl_Tq.stp rfl rfl (fl_bo rfl) rfl ?_
          refine fl_Tq.stp rfl rfl (fl_bo rfl) rfl ?_
          refine fl_Tq.jf rfl (fl_bo rfl) ?_ rfl ?_
          · rw [at_c2, en]
            exact decide_eq_false (by show ¬ (0 ≤ (n : Int) - (1418 : Int)); omega)
          have h2 : (Int32.ofInt 2 + Int32.ofNat n).toInt = ((2 + n : Nat) : Int) := by rw [at_2n (by omega), Nat.add_comm]
          have h3 : (v + Int32.ofNat n).toInt = ((1420 + 1418 * s + n : Nat) : Int) := by
            rw [at_add32] <;> omega
          refine fl_Tq.stp rfl rfl (fl_bo rfl) rfl ?_
          refine fl_Tq.stp rfl rfl (fl_bo rfl) rfl ?_
          refine fl_Tq.stp rfl rfl (fl_bo rfl) rfl ?_
          refine fl_Tq.stp rfl rfl (fl_bo rfl) rfl ?_
          refine fl_Tq.stp rfl rfl (fl_bo rfl) rfl ?_
          refine fl_Tq.stp rfl rfl (fl_bo rfl) rfl ?_
          refine fl_Tq.stp rfl rfl (fl_bo rfl) rfl ?_
          refine fl_Tq.stp rfl rfl (fl_bo rfl) rfl ?_
          refine fl_Tq.stp rfl rfl (fl_bo rfl) rfl ?_
          refine fl_Tq.stp rfl rfl (fl_bo rfl) rfl ?_
          refine fl_Tq.ld (p := 280) (τ := 79) (n := 29780) (z := (0, 0, 0)) (k := 2 + n) rfl (fl_bo rfl) rfl h2 (by omega) ?_
          refine fl_Tq.sv (p := 280) (τ := 79) (n := 29780) (z := (0, 0, 0)) (k := 1420 + 1418 * s + n) rfl (fl_bo rfl) rfl h3 (by omega) ?_
          rw [bl_cp_s (src := 280) (s0 := 2) (dst := 280) (d0 := 1420 + 1418 * s) (n := n) (fun _ => Or.inl (by omega))]
          refine fl_Tq.stp rfl rfl (fl_bo rfl) rfl ?_
          refine fl_Tq.stp rfl rfl (fl_bo rfl) rfl ?_
          have := ih (n + 1) (by omega)
          rw [← at_inc (by omega)] at this
          exact this
      have := loop 1418 0 (by omega)
      rw [bl_cp_0] at this
      exact this
    refine hR _ (fun m2 em2 => ?_)
    have f0 : m2.1 280 0 = m1.1 280 0 := by rw [em2]; exact bl_cp_out (fun _ => Or.inl (by omega))
    have f1 : m2.1 280 1 = m1.1 280 1 := by rw [em2]; exact bl_cp_out (fun _ => Or.inl (by omega))
    have eh : m2.2 = m.2 := by rw [em2]; exact eh1
    have hv := at_add32 (x := m2.1 280 0) (y := Int32.ofInt 1) (by rw [f0]; omega) (by rw [f0]; omega)
    generalize m2.1 280 0 + Int32.ofInt 1 = v1 at hv
    have ne2 : ∀ p j : Nat, (p = 280 → 2 ≤ j ∧ (j < 1420 + 1418 * s ∨ 1420 + 1418 * s + 1418 ≤ j)) → fl_up m2.1 280 0 v1 p j = m.1 p j := fun p j e => by
      rw [bl_un (fun h => by have := e h; omega), em2, bl_cp_out (fun h => by have := e h; omega)]
      exact ne1 p j (fun h => (e h).1)
    have hA : at_AK (fun j => (fl_up m2.1 280 0 v1 280 (1420 + 1418 * s + (j - 2))).toInt) := by
      refine hg.AK.congr (fun j h1 h2 => ?_)
      try dsimp only
      rw [bl_un (fun _ => by omega), em2, bl_cp_in (by omega) (by omega), ne1 280 _ (fun _ => by omega)]
      have : 1420 + 1418 * s + (j - 2) - (1420 + 1418 * s) + 2 = j := by omega
      rw [this]
      rfl
    have hX : at_XI (fl_up m2.1 280 0 v1, m2.2) := by
      refine hg.2.2.mk280 (by show m2.2.2 = _; rw [eh]) (fun p j e => ne2 p j (fun h => absurd h e)) (fun s' hs' => ?_)
      by_cases es : s' = s
      · subst es
        exact hA
      · refine (hg.2.2.2.2.2.2.1 s' hs').congr (fun j h1 h2 => ?_)
        try dsimp only
        rw [ne2 280 _ (fun _ => by omega)]
    refine ⟨hg.mk (by show m2.2.2 = _; rw [eh]) hX (fun p j hp _ hne => absurd (ne2 p j (fun h => absurd h hp)) hne) ?_ ?_ (hg.AK.congr (fun j h1 h2 => ?_)), ⟨by show m.2.2 ≤ m2.2.2; rw [eh]; exact Nat.le_refl _, fun p j hne => ?_⟩, rfl⟩
    · show 0 ≤ (fl_up m2.1 280 0 v1 280 0).toInt ∧ (fl_up m2.1 280 0 v1 280 0).toInt ≤ 20
      rw [bl_ue, hv, f0]; omega
    · show 0 ≤ (fl_up m2.1 280 0 v1 280 1).toInt ∧ (fl_up m2.1 280 0 v1 280 1).toInt ≤ 19
      rw [bl_un (fun _ => by omega), f1]; omega
    · show (fl_up m2.1 280 0 v1 280 j).toInt = _
      rw [ne2 280 j (fun _ => by omega)]
      rfl
    · by_cases e : p = 280
      · subst e
        by_cases hj : j < 2
        · refine ⟨(79, false, 0, 1), by simp, fk_K_280.symm, ?_⟩
          rw [if_neg (by decide)]
          show (0 : Int) ≤ j ∧ (j : Int) ≤ 1
          omega
        · refine ⟨(79, false, 1420, 29779), by simp, fk_K_280.symm, ?_⟩
          rw [if_neg (by decide)]
          by_cases hj2 : 1420 ≤ j ∧ j < 29780
          · show (1420 : Int) ≤ j ∧ (j : Int) ≤ 29779
            omega
          · exact absurd (ne2 280 j (fun _ => by omega)) hne
      · exact absurd (ne2 p j (fun h => absurd h e)) hne
  refine fl_Tq.stp rfl rfl (fl_bo rfl) rfl ?_
  refine fl_Tq.stp rfl rfl (fl_bo rfl) rfl ?_
  refine fl_Tq.stp rfl rfl (fl_bo rfl) rfl ?_
  refine fl_Tq.ld (p := 280) (τ := 79) (n := 29780) (z := (0, 0, 0)) (k := 0) rfl (fl_bo rfl) rfl rfl (by decide) ?_
  refine fl_Tq.stp rfl rfl (fl_bo rfl) rfl ?_
  have e20 : (Int8.ofInt 20).toInt32.toInt = 20 := by decide +kernel
  by_cases h0 : (m.1 280 0).toInt = 20
  · refine fl_Tq.jf rfl (fl_bo rfl) ?_ rfl ?_
    · rw [at_c2, h0, e20]; rfl
    refine fl_Tq.stp rfl rfl (fl_bo rfl) rfl ?_
    refine fl_Tq.stp rfl rfl (fl_bo rfl) rfl ?_
    refine fl_Tq.stp rfl rfl (fl_bo rfl) rfl ?_
    refine fl_Tq.stp rfl rfl (fl_bo rfl) rfl ?_
    refine fl_Tq.stp rfl rfl (fl_bo rfl) rfl ?_
    refine fl_Tq.stp rfl rfl (fl_bo rfl) rfl ?_
    refine fl_Tq.ld (p := 280) (τ := 79) (n := 29780) (z := (0, 0, 0)) (k := 1) rfl (fl_bo rfl) rfl rfl (by decide) ?_
    refine fl_Tq.stp rfl rfl (fl_bo rfl) rfl ?_
    refine fl_Tq.stp rfl rfl (fl_bo rfl) rfl ?_
    refine fl_Tq.stp rfl rfl (fl_bo rfl) rfl ?_
    refine fl_Tq.rm rfl (fl_bo rfl) (by decide +kernel) ?_
    refine fl_Tq.sv (p := 280) (τ := 79) (n := 29780) (z := (0, 0, 0)) (k := 1) rfl (fl_bo rfl) rfl rfl (by decide) ?_
    dsimp only
    have hs := at_add32 (x := m.1 280 1) (y := Int32.ofInt 1) (by omega) (by omega)
    generalize m.1 280 1 + Int32.ofInt 1 = u1 at hs
    have hr := at_rem20 (s := u1) e20 (by omega)
    generalize u1 - u1 / (Int8.ofInt 20).toInt32 * (Int8.ofInt 20).toInt32 = u2 at hr
    refine fl_Tq.stp rfl rfl (fl_bo rfl) rfl ?_
    refine fl_Tq.stp rfl rfl (fl_bo rfl) rfl ?_
    refine fl_Tq.stp rfl rfl (fl_bo rfl) rfl ?_
    refine fl_Tq.stp rfl rfl (fl_bo rfl) rfl ?_
    refine fl_Tq.ld (p := 280) (τ := 79) (n := 29780) (z := (0, 0, 0)) (k := 0) rfl (fl_bo rfl) rfl rfl (by decide) ?_
    refine fl_Tq.stp rfl rfl (fl_bo rfl) rfl ?_
    refine fl_Tq.stp rfl rfl (fl_bo rfl) rfl ?_
    refine fl_Tq.sv (p := 280) (τ := 79) (n := 29780) (z := (0, 0, 0)) (k := 0) rfl (fl_bo rfl) rfl rfl (by decide) ?_
    have q0 : fl_up m.1 280 1 u2 280 0 = m.1 280 0 := bl_un (fun _ => by decide)
    refine tail _ rfl (fun p j e => ?_) ?_ ?_
    · show fl_up (fl_up m.1 280 1 u2) 280 0 _ p j = _
      rw [bl_un (fun h => by have := e h; omega), bl_un (fun h => by have := e h; omega)]
    · show 0 ≤ (fl_up (fl_up m.1 280 1 u2) 280 0 (fl_up m.1 280 1 u2 280 0 - Int32.ofInt 1) 280 0).toInt ∧ (fl_up (fl_up m.1 280 1 u2) 280 0 (fl_up m.1 280 1 u2 280 0 - Int32.ofInt 1) 280 0).toInt ≤ 19
      rw [bl_ue, q0, at_sub32 (by omega) (by omega)]
      omega
    · show 0 ≤ (fl_up (fl_up m.1 280 1 u2) 280 0 (fl_up m.1 280 1 u2 280 0 - Int32.ofInt 1) 280 1).toInt ∧ (fl_up (fl_up m.1 280 1 u2) 280 0 (fl_up m.1 280 1 u2 280 0 - Int32.ofInt 1) 280 1).toInt ≤ 19
      rw [bl_un (fun _ => by decide), bl_ue]
      omega
  · refine fl_Tq.jt rfl (fl_bo rfl) ?_ rfl ?_
    · rw [at_c2, e20]; show (!decide ((m.1 280 0).toInt - 20 = 0)) = true; rw [decide_eq_false (by omega)]; rfl
    exact tail m rfl (fun p j _ => rfl) (by omega) w1
end ATST
