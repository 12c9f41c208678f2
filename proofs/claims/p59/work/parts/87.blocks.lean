/-! ===== putAside, bringBack, image, back: by hand ===== -/
def at_this : fl_V := .inr (.inr (.inl (76, 277)))
theorem at_ag277 {h : Nat} {ks : List at_K} {vs : List fl_V} (hk : at_agk h (.inl (76, some 277) :: ks) vs) : ∃ r, vs = at_this :: r ∧ at_agk h ks r := by
  cases vs with
  | nil => cases hk
  | cons v r =>
    obtain ⟨⟨p, rfl, e1, e2, e3⟩, hr⟩ := hk
    have := e3 277 rfl
    subst this
    exact ⟨r, rfl, hr⟩
theorem at_agnil {h : Nat} {vs : List fl_V} (hk : at_agk h [] vs) : vs = [] := by
  cases vs with
  | nil => rfl
  | cons v r => cases hk
theorem at_inc {n : Nat} (h : n < 2147483647) : Int32.ofNat n + Int32.ofInt 1 = Int32.ofNat (n + 1) := by
  have en := at_ofN (k := n) (by omega)
  have e1 : (Int32.ofInt 1).toInt = 1 := rfl
  refine Int32.toInt.inj ?_
  rw [at_add32 (by omega) (by omega), en, e1, at_ofN (by omega)]
  rfl
theorem at_2n {n : Nat} (h : n < 2147483645) : (Int32.ofInt 2 + Int32.ofNat n).toInt = ((n + 2 : Nat) : Int) := by
  have en := at_ofN (k := n) (by omega)
  have e1 : (Int32.ofInt 2).toInt = 2 := rfl
  rw [at_add32 (by omega) (by omega), en, e1]
  omega
theorem at_XI.mk280 {m m' : fl_M} (h : at_XI m) (hh : m'.2.2 = m.2.2) (hk : ∀ p j : Nat, p ≠ 280 → m'.1 p j = m.1 p j) (hs : ∀ s : Nat, s < 20 → at_AK (fun j => (m'.1 280 (1420 + 1418 * s + (j - 2))).toInt)) : at_XI m' := by
  let m2 : fl_M := ((fun p j => if p = 280 then m.1 p j else m'.1 p j), m'.2)
  have h2 : at_XI m2 := h.keep hh (fun p j hp => by
    show (if p = 280 then m.1 p j else m'.1 p j) = m.1 p j
    by_cases e : p = 280
    · rw [if_pos e]
    · rw [if_neg e]; exact hk p j e)
  obtain ⟨a1, a2, a3, a4, a5, ⟨a6, a7, a8⟩, a9, a10⟩ := h2
  have ne : ∀ p j : Nat, p ≠ 280 → m2.1 p j = m'.1 p j := fun p j e => by
    show (if p = 280 then m.1 p j else m'.1 p j) = m'.1 p j
    rw [if_neg e]
  refine ⟨fun q hq i hi => ?_, ?_, fun p hp i => ?_, ?_, hs, ⟨?_, ?_, ?_⟩, fun s hs' => ?_, fun p j hp => ?_⟩
  · have := a1 q hq i hi
    rw [ne q i (by omega)] at this
    exact this
  · unfold at_cnt at_nzr at a2 ⊢
    simp only [fun i => ne 272 i (by omega), fun i => ne 274 i (by omega)] at a2
    exact a2
  · have e : p ≠ 280 := by unfold fl_N at hp; omega
    rw [← ne p i e]
    exact a3 p hp i
  · exact a4.congr (fun j _ _ => by (try dsimp only); rw [ne 283 _ (by omega)])
  · exact a6.congr (fun j _ _ => by (try dsimp only); rw [ne 281 _ (by omega)])
  · rw [← ne 281 0 (by omega)]; exact a7
  · rw [← ne 281 1 (by omega)]; exact a8
  · exact (a9 s hs').congr (fun j _ _ => by (try dsimp only); rw [ne 281 _ (by omega)])
  · rw [← ne p j (by omega)]
    exact a10 p j hp
theorem bl_cp_in {src s0 dst d0 n : Nat} {m : fl_M} {j : Nat} (h1 : d0 ≤ j) (h2 : j < d0 + n) : (bl_cp src s0 dst d0 n m).1 dst j = m.1 src (j - d0 + s0) := by
  show (if dst = dst ∧ d0 ≤ j ∧ j < d0 + n then _ else _) = _
  rw [if_pos ⟨rfl, h1, h2⟩]
theorem bl_cp_out {src s0 dst d0 n : Nat} {m : fl_M} {p j : Nat} (h : p = dst → j < d0 ∨ d0 + n ≤ j) : (bl_cp src s0 dst d0 n m).1 p j = m.1 p j := by
  show (if p = dst ∧ d0 ≤ j ∧ j < d0 + n then _ else _) = _
  rw [if_neg]
  rintro ⟨h1, h2, h3⟩
  have := h h1
  omega
section ATBL
variable {L : Nat} {xs : Nat → Int32}
theorem at_v238 : at_Valid at_XI (pw_P L xs) (238, [.inl (76, some 277)], [], none, false, [(82, false, 0, 1417)]) := by
  intro m vs hg hk _
  obtain ⟨r, rfl, hk2⟩ := at_ag277 hk
  have hr0 := at_agnil (vs := r) hk2
  subst hr0
  have k82 : fk_K 283 = 82 := by decide +kernel
  have hR : ∀ Q : Option fl_V → fl_M → Prop, Q none (bl_cp 280 2 283 0 1418 m) → fl_Tq (pw_P L xs) 238 0 (fl_args (am_mxl (pw_P L xs) 238) [at_this]) [] m Q := by
    intro Q k
    have loop : ∀ (d n : Nat), n + d = 1418 → fl_Tq (pw_P L xs) 238 2 [some (.inr (.inr (.inl (76, 277)))), some (.inl (Int32.ofNat n))] [] (bl_cp 280 2 283 0 n m) Q := by
      intro d
      induction d with
      | zero =>
        intro n hn
        have hn : n = 1418 := by omega
        subst hn
        refine fl_Tq.stp rfl rfl (fl_bo rfl) rfl ?_
        refine fl_Tq.stp rfl rfl (fl_bo rfl) rfl ?_
        refine fl_Tq.jt rfl (fl_bo rfl) (by decide +kernel) rfl ?_
        exact fl_Tq.ret rfl rfl rfl k
      | succ d ih =>
        intro n hn
        have en := at_ofN (k := n) (by omega)
        refine fl_Tq.stp rfl rfl (fl_bo rfl) rfl ?_
        refine fl_Tq.stp rfl rfl (fl_bo rfl) rfl ?_
        refine fl_Tq.jf rfl (fl_bo rfl) ?_ rfl ?_
        · rw [at_c2, en]
          exact decide_eq_false (by show ¬ (0 ≤ (n : Int) - (1418 : Int)); omega)
        refine fl_Tq.stp rfl rfl (fl_bo rfl) rfl ?_
        refine fl_Tq.stp rfl rfl (fl_bo rfl) rfl ?_
        refine fl_Tq.stp rfl rfl (fl_bo rfl) rfl ?_
        refine fl_Tq.stp rfl rfl (fl_bo rfl) rfl ?_
        refine fl_Tq.stp rfl rfl (fl_bo rfl) rfl ?_
        refine fl_Tq.stp rfl rfl (fl_bo rfl) rfl ?_
        refine fl_Tq.stp rfl rfl (fl_bo rfl) rfl ?_
        refine fl_Tq.stp rfl rfl (fl_bo rfl) rfl ?_
        refine fl_Tq.ld (p := 280) (τ := 79) (n := 29780) (z := (0, 0, 0)) (k := n + 2) rfl (fl_bo rfl) rfl (at_2n (by omega)) (by omega) ?_
        refine fl_Tq.sv (p := 283) (τ := 82) (n := 1418) (z := (0, 0, 0)) (k := n) rfl (fl_bo rfl) rfl en (by omega) ?_
        have e2 := bl_cp_s (src := 280) (s0 := 2) (dst := 283) (d0 := 0) (n := n) (m := m) (fun h => absurd h (by decide))
        rw [Nat.zero_add, Nat.add_comm 2 n] at e2
        rw [e2]
        refine fl_Tq.stp rfl rfl (fl_bo rfl) rfl ?_
        refine fl_Tq.stp rfl rfl (fl_bo rfl) rfl ?_
        have := ih (n + 1) (by omega)
        rw [← at_inc (by omega)] at this
        exact this
    refine fl_Tq.stp rfl rfl (fl_bo rfl) rfl ?_
    refine fl_Tq.stp rfl rfl (fl_bo rfl) rfl ?_
    have := loop 1418 0 (by omega)
    rw [bl_cp_0] at this
    exact this
  refine hR _ ?_
  have hX : at_XI (bl_cp 280 2 283 0 1418 m) := by
    obtain ⟨a1, a2, a3, a4, a5, ⟨a6, a7, a8⟩, a9, a10⟩ := hg.2.2
    have ne : ∀ p j : Nat, p ≠ 283 → (bl_cp 280 2 283 0 1418 m).1 p j = m.1 p j := fun p j e => bl_cp_out (fun h => absurd h e)
    refine ⟨fun q hq i hi => ?_, ?_, fun p hp i => ?_, ?_, fun s hs => ?_, ⟨?_, ?_, ?_⟩, fun s hs => ?_, fun p j hp => ?_⟩
    · rw [ne q i (by omega)]
      exact a1 q hq i hi
    · unfold at_cnt at_nzr at a2 ⊢
      simp only [fun i => ne 272 i (by omega), fun i => ne 274 i (by omega)]
      exact a2
    · have hp : fl_N m.2.2 ≤ p := hp
      rw [ne p i (by unfold fl_N at hp; omega)]
      exact a3 p hp i
    · refine hg.AK.congr (fun j h1 h2 => ?_)
      try dsimp only
      rw [bl_cp_in (by omega) (by omega)]
      have : j - 2 - 0 + 2 = j := by omega
      rw [this]
      rfl
    · exact (a5 s hs).congr (fun j _ _ => by (try dsimp only); rw [ne 280 _ (by omega)])
    · exact a6.congr (fun j _ _ => by (try dsimp only); rw [ne 281 _ (by omega)])
    · rw [ne 281 0 (by omega)]; exact a7
    · rw [ne 281 1 (by omega)]; exact a8
    · exact (a9 s hs).congr (fun j _ _ => by (try dsimp only); rw [ne 281 _ (by omega)])
    · rw [ne p j (by omega)]
      exact a10 p j hp
  have ew : ∀ j, at_w (bl_cp 280 2 283 0 1418 m) j = at_w m j := fun j => by
    show ((bl_cp 280 2 283 0 1418 m).1 280 j).toInt = _
    rw [bl_cp_out (fun h => absurd h (by decide))]
    rfl
  refine ⟨hg.mk rfl hX (fun p j hp _ hne => ?_) (by rw [ew]; exact hg.w0) (by rw [ew]; exact hg.w1) (hg.AK.congr (fun j _ _ => ew j)), ⟨Nat.le_refl _, fun p j hne => ⟨_, List.mem_singleton.mpr rfl, ?_⟩⟩, rfl⟩
  · by_cases e : p = 283
    · subst e
      rw [k82]
      decide +kernel
    · exact absurd (bl_cp_out (fun h => absurd h e)) hne
  · by_cases e : p = 283
    · subst e
      refine ⟨k82.symm, ?_⟩
      rw [if_neg (by decide)]
      by_cases hj : j < 0 + 1418
      · show (0 : Int) ≤ j ∧ (j : Int) ≤ 1417
        omega
      · exact absurd (bl_cp_out (fun _ => Or.inr (by omega))) hne
    · exact absurd (bl_cp_out (fun h => absurd h e)) hne
theorem at_v239 : at_Valid at_XI (pw_P L xs) (239, [.inl (76, some 277)], [], none, false, [(79, false, 2, 1419)]) := by
  intro m vs hg hk _
  obtain ⟨r, rfl, hk2⟩ := at_ag277 hk
  have hr0 := at_agnil (vs := r) hk2
  subst hr0
  have hR : ∀ Q : Option fl_V → fl_M → Prop, Q none (bl_cp 283 0 280 2 1418 m) → fl_Tq (pw_P L xs) 239 0 (fl_args (am_mxl (pw_P L xs) 239) [at_this]) [] m Q := by
    intro Q k
    have loop : ∀ (d n : Nat), n + d = 1418 → fl_Tq (pw_P L xs) 239 2 [some (.inr (.inr (.inl (76, 277)))), some (.inl (Int32.ofNat n))] [] (bl_cp 283 0 280 2 n m) Q := by
      intro d
      induction d with
      | zero =>
        intro n hn
        have hn : n = 1418 := by omega
        subst hn
        refine fl_Tq.stp rfl rfl (fl_bo rfl) rfl ?_
        refine fl_Tq.stp rfl rfl (fl_bo rfl) rfl ?_
        refine fl_Tq.jt rfl (fl_bo rfl) (by decide +kernel) rfl ?_
        exact fl_Tq.ret rfl rfl rfl k
      | succ d ih =>
        intro n hn
        have en := at_ofN (k := n) (by omega)
        refine fl_Tq.stp rfl rfl (fl_bo rfl) rfl ?_
        refine fl_Tq.stp rfl rfl (fl_bo rfl) rfl ?_
        refine fl_Tq.jf rfl (fl_bo rfl) ?_ rfl ?_
        · rw [at_c2, en]
          exact decide_eq_false (by show ¬ (0 ≤ (n : Int) - (1418 : Int)); omega)
        refine fl_Tq.stp rfl rfl (fl_bo rfl) rfl ?_
        refine fl_Tq.stp rfl rfl (fl_bo rfl) rfl ?_
        refine fl_Tq.stp rfl rfl (fl_bo rfl) rfl ?_
        refine fl_Tq.stp rfl rfl (fl_bo rfl) rfl ?_
        refine fl_Tq.stp rfl rfl (fl_bo rfl) rfl ?_
        refine fl_Tq.stp rfl rfl (fl_bo rfl) rfl ?_
        refine fl_Tq.stp rfl rfl (fl_bo rfl) rfl ?_
        refine fl_Tq.stp rfl rfl (fl_bo rfl) rfl ?_
        refine fl_Tq.ld (p := 283) (τ := 82) (n := 1418) (z := (0, 0, 0)) (k := n) rfl (fl_bo rfl) rfl en (by omega) ?_
        refine fl_Tq.sv (p := 280) (τ := 79) (n := 29780) (z := (0, 0, 0)) (k := n + 2) rfl (fl_bo rfl) rfl (at_2n (by omega)) (by omega) ?_
        have e2 := bl_cp_s (src := 283) (s0 := 0) (dst := 280) (d0 := 2) (n := n) (m := m) (fun h => absurd h (by decide))
        rw [Nat.zero_add, Nat.add_comm 2 n] at e2
        rw [e2]
        refine fl_Tq.stp rfl rfl (fl_bo rfl) rfl ?_
        refine fl_Tq.stp rfl rfl (fl_bo rfl) rfl ?_
        have := ih (n + 1) (by omega)
        rw [← at_inc (by omega)] at this
        exact this
    refine fl_Tq.stp rfl rfl (fl_bo rfl) rfl ?_
    refine fl_Tq.stp rfl rfl (fl_bo rfl) rfl ?_
    have := loop 1418 0 (by omega)
    rw [bl_cp_0] at this
    exact this
  refine hR _ ?_
  have ne : ∀ p j : Nat, (p = 280 → j < 2 ∨ 1420 ≤ j) → (bl_cp 283 0 280 2 1418 m).1 p j = m.1 p j := fun p j e => bl_cp_out (fun h => by have := e h; omega)
  have hX : at_XI (bl_cp 283 0 280 2 1418 m) := by
    refine hg.2.2.mk280 rfl (fun p j e => ne p j (fun h => absurd h e)) (fun s hs => (hg.2.2.2.2.2.2.1 s hs).congr (fun j _ _ => ?_))
    try dsimp only
    rw [ne 280 _ (fun _ => Or.inr (by omega))]
  have ew : ∀ j, j < 2 → at_w (bl_cp 283 0 280 2 1418 m) j = at_w m j := fun j hj => by
    show ((bl_cp 283 0 280 2 1418 m).1 280 j).toInt = _
    rw [ne 280 j (fun _ => Or.inl hj)]
    rfl
  refine ⟨hg.mk rfl hX (fun p j hp _ hne => absurd (ne p j (fun h => absurd h hp)) hne) (by rw [ew 0 (by decide)]; exact hg.w0) (by rw [ew 1 (by decide)]; exact hg.w1) (hg.2.2.2.2.2.1.congr (fun j h1 h2 => ?_)), ⟨Nat.le_refl _, fun p j hne => ⟨_, List.mem_singleton.mpr rfl, ?_⟩⟩, rfl⟩
  · show ((bl_cp 283 0 280 2 1418 m).1 280 j).toInt = _
    rw [bl_cp_in h1 (by omega)]
    have : j - 2 + 0 = j - 2 := by omega
    rw [this]
  · by_cases e : p = 280
    · subst e
      refine ⟨fk_K_280.symm, ?_⟩
      rw [if_neg (by decide)]
      by_cases hj : 2 ≤ j ∧ j < 1420
      · show (2 : Int) ≤ j ∧ (j : Int) ≤ 1419
        omega
      · exact absurd (ne 280 j (fun _ => by omega)) hne
    · exact absurd (ne p j (fun h => absurd h e)) hne
end ATBL
