/-! ===== the reference's foretelling: power, yields, bestBand, eta, bestMode ===== -/
section T2MQ9
variable {L : Nat} {xs : Nat → Int32} {m0 m m1 : fl_M} {f g F G : t2_F} {l l' : t2_L} {Q : Option fl_V → fl_M → Prop} {a b c : Int32}
/-- a row of a model that isn't read -/
theorem t2_Iv.plain {m0 : fl_M} {v : Int32} (h : t2_Iv m0 (f, l)) (hv : v = 0 ∨ v = 1) : t2_Iv m0 (fl_row f 277 (upd (f 277) 7 v), l) := h.of (at_Good.plain h.1 hv) (by show fl_row f 277 (upd (f 277) 7 v) 283 = f 283; exact fl_row_ne (by decide))
theorem t2_Iv.setw {m0 : fl_M} {v : Int32} {k : Nat} (h : t2_Iv m0 (f, l)) (hk : k < 30) (hv : -99999 ≤ v.toInt ∧ v.toInt ≤ 99999) : t2_Iv m0 (fl_row f 280 (upd (f 280) (34 + k) v), l) := h.of (at_Good.setw h.1 hk hv) (by show fl_row f 280 (upd (f 280) (34 + k) v) 283 = f 283; exact fl_row_ne (by decide))
/-- all of the relation's words are there again, and isPlain isn't so -/
def t2_RP (m0 : fl_M) (v : Option fl_V) (m : fl_M) : Prop := t2_Rst m0 v m ∧ m.1 277 7 = 0
/-- goesBy -/
theorem t2_z315 (hall : ∀ c ∈ at_CM ++ at_CA, at_Valid at_XI (pw_P L xs) c) (hg : at_Good at_XI (f, l)) (ha : -99999 ≤ a.toInt ∧ a.toInt ≤ 99999) (k : ∀ (y : Int32) (m1 : fl_M), at_Good at_XI m1 → (∀ w : Nat, 2 ≤ w → w < 1420 → m1.1 280 w = f 280 w) → m1.1 277 7 = 0 → Q (some (.inl y)) m1) : fl_Tq (pw_P L xs) 315 0 (fl_args (am_mxl (pw_P L xs) 315) [at_this, .inl a, .inl b]) [] (f, l) Q := by
  have ib := at_i32 b
  show fl_Tq (pw_P L xs) 315 0 [some (.inr (.inr (.inl (76, 277)))), some (.inl a), some (.inl b), none, none] [] (f, l) _
  have fin : ∀ (c e : Int32) (f1 : t2_F) (l1 : t2_L), (c = 0 ∨ c = 1) → t2_Iv (f, l) (f1, l1) → fl_Tq (pw_P L xs) 315 67 [some (.inr (.inr (.inl (76, 277)))), some (.inl a), some (.inl b), some (.inl c), some (.inl e)] [.inr (.inr (.inl (76, 277)))] (fl_row f1 277 (upd (f1 277) 7 (0 : Int32)), l1) Q := by
    intro c e f1 l1 hc i1
    refine fl_Tq.cal rfl rfl (fl_bo rfl) rfl ?_
    refine (i1.plain (Or.inl rfl)).back (fun m4 g4 p4 w4 => ?_)
    refine fl_Tq.stp rfl rfl (fl_bo rfl) rfl ?_
    refine fl_Tq.ret rfl rfl (if_pos hc) (k c m4 g4 w4 ?_)
    rw [p4 277 (by decide)]
    show fl_row f1 277 (upd (f1 277) 7 (0 : Int32)) 277 7 = 0
    rw [fl_row_self, upd_self]
  have loop : ∀ (d j : Nat) (c : Int32) (m1 : fl_M), j + d = b.toInt.toNat → (c = 0 ∨ c = 1) → t2_Iv (f, l) m1 → fl_Tq (pw_P L xs) 315 22 [some (.inr (.inr (.inl (76, 277)))), some (.inl a), some (.inl b), some (.inl c), some (.inl (Int32.ofNat j))] [] m1 Q := by
    intro d
    induction d with
    | zero =>
      intro j c m1 hj hc i1
      have ej : (Int32.ofNat j).toInt = j := at_ofN (by omega)
      obtain ⟨f1, l1⟩ := m1
      exact z315_C (fun h _ => absurd h (by rw [ej]; omega)) (fun h _ => absurd h (by rw [ej]; omega)) (fun _ => fin c _ f1 l1 hc i1)
    | succ d ih =>
      intro j c m1 hj hc i1
      obtain ⟨f1, l1⟩ := m1
      refine z315_C (fun _ _ => fin c _ f1 l1 hc i1) (fun _ _ => ?_) (fun _ => fin c _ f1 l1 hc i1)
      refine fl_Tq.cal rfl rfl (fl_bo rfl) rfl ?_
      refine i1.call (hall _ t2_c237_in) ⟨at_k277 _, True.intro⟩ rfl rfl rfl (fun z m2 i2 => ?_)
      obtain ⟨f2, l2⟩ := m2
      refine z315_D ?_
      rw [t2_k1]
      refine ih (j + 1) _ _ (by omega) ?_ i2
      unfold z315_D_j36_0
      split
      · split
        · exact Or.inr rfl
        · exact Or.inl rfl
      · exact Or.inl rfl
  refine z315_A ?_
  refine fl_Tq.cal rfl rfl (fl_bo rfl) rfl ?_
  refine t2_Iv.put hg (fun m1 i1 _ => ?_)
  obtain ⟨f1, l1⟩ := m1
  refine z315_B ?_
  have i2 := (i1.plain (v := (1 : Int32)) (Or.inr rfl)).setw (k := 20) (v := a) (by decide) ha
  rw [fl_row_ne (by decide)] at i2
  exact loop _ 0 _ _ (Nat.zero_add _) (Or.inr rfl) i2
/-- power -/
theorem t2_z316 (hall : ∀ c ∈ at_CM ++ at_CA, at_Valid at_XI (pw_P L xs) c) (hg : at_Good at_XI (f, l)) (h7 : f 277 7 = 0) : fl_Tq (pw_P L xs) 316 0 (fl_args (am_mxl (pw_P L xs) 316) [at_this, .inl a, .inl b]) [] (f, l) (t2_RP (f, l)) := by
  have c100 : (100 : Int32).toInt = 100 := by decide +kernel
  have cm : (-100 : Int32).toInt = -100 := by decide +kernel
  show fl_Tq (pw_P L xs) 316 0 [some (.inr (.inr (.inl (76, 277)))), some (.inl a), some (.inl b), none] [] (f, l) _
  have loop : ∀ (d : Nat) (c : Int32) (m1 : fl_M), c.toInt ≤ 100 * (d : Int) → c.toInt ≤ 99999 → at_Good at_XI m1 → (∀ w : Nat, 2 ≤ w → w < 1420 → m1.1 280 w = f 280 w) → m1.1 277 7 = 0 → fl_Tq (pw_P L xs) 316 43 [some (.inr (.inr (.inl (76, 277)))), some (.inl a), some (.inl b), some (.inl c)] [] m1 (t2_RP (f, l)) := by
    intro d
    induction d with
    | zero =>
      intro c m1 hc _ _ w1 p1
      obtain ⟨f1, l1⟩ := m1
      exact z316_C (fun h => absurd h (by omega)) (fun _ => ⟨⟨⟨_, rfl⟩, w1⟩, p1⟩)
    | succ d ih =>
      intro c m1 hc hc2 g1 w1 p1
      obtain ⟨f1, l1⟩ := m1
      refine z316_C (fun h => ?_) (fun _ => ⟨⟨⟨_, rfl⟩, w1⟩, p1⟩)
      refine fl_Tq.cal rfl rfl (fl_bo rfl) rfl ?_
      have hn : (-c).toInt = -c.toInt := by rw [Int32.toInt_neg]; exact Int.bmod_eq_of_le (by omega) (by omega)
      refine t2_z315 hall g1 (by split <;> omega) (fun y m2 g2 w2 p2 => ?_)
      obtain ⟨f2, l2⟩ := m2
      have w3 : ∀ w : Nat, 2 ≤ w → w < 1420 → f2 280 w = f 280 w := fun w h1 h2 => (w2 w h1 h2).trans (w1 w h1 h2)
      refine z316_D (fun _ => ?_) (fun _ => ⟨⟨⟨_, rfl⟩, w3⟩, p2⟩)
      have e : (c + (-100 : Int32)).toInt = c.toInt - 100 := by rw [at_add32 (by omega) (by omega), cm]; omega
      exact ih _ _ (by rw [e]; omega) (by rw [e]; omega) g2 w3 p2
  have yes : t2_RP (f, l) (some (.inl (-1 : Int32))) (f, l) := ⟨⟨⟨_, rfl⟩, fun w _ _ => rfl⟩, h7⟩
  refine z316_A (fun _ => yes) (fun _ => ?_)
  refine fl_Tq.cal rfl rfl (fl_bo rfl) rfl ?_
  refine r_canRun_q ?_
  refine z316_B (fun _ => yes) (fun _ _ => ?_) (fun _ _ => yes)
  have r38 : -99999 ≤ (f 280 38).toInt ∧ (f 280 38).toInt ≤ 99999 := hg.1 280 (by unfold fl_N; omega) (0, 34, 0, 1, 30, -99999, 99999) (by rw [fk_K_280]; decide +kernel) 38 ⟨0, 4, by decide, by dsimp only; decide, by decide, by dsimp only; decide, by dsimp only; decide⟩
  have q := t2_td (x := f 280 38) (y := (100 : Int32)) (by omega)
  rw [c100] at q
  have q2 : ((f 280 38) / (100 : Int32)).toInt ≤ 999 ∧ -999 ≤ ((f 280 38) / (100 : Int32)).toInt := by
    rw [q]
    split <;> omega
  have e : (((f 280 38) / (100 : Int32)) * (100 : Int32)).toInt ≤ 99900 := by rw [at_mul32 (by rw [c100]; omega) (by rw [c100]; omega), c100]; omega
  exact loop 999 _ _ (by omega) (by omega) hg (fun w _ _ => rfl) h7
/-- yields -/
theorem t2_z317 (hall : ∀ c ∈ at_CM ++ at_CA, at_Valid at_XI (pw_P L xs) c) (hg : at_Good at_XI (f, l)) (h7 : f 277 7 = 0) : fl_Tq (pw_P L xs) 317 0 (fl_args (am_mxl (pw_P L xs) 317) [at_this, .inl a]) [] (f, l) (t2_RP (f, l)) := by
  have c2 : (2000 : Int32).toInt = 2000 := by decide +kernel
  have c1 : (1 : Int32).toInt = 1 := by decide +kernel
  have c9 : (99999 : Int32).toInt = 99999 := by decide +kernel
  show fl_Tq (pw_P L xs) 317 0 [some (.inr (.inr (.inl (76, 277)))), some (.inl a), none, none, none] [] (f, l) _
  have fin : ∀ (j : Nat) (b c : Int32) (f1 : t2_F) (l1 : t2_L), t2_Iv (f, l) (f1, l1) → fl_Tq (pw_P L xs) 317 99 [some (.inr (.inr (.inl (76, 277)))), some (.inl a), some (.inl (Int32.ofNat j)), some (.inl b), some (.inl c)] [.inr (.inr (.inl (76, 277)))] (fl_row f1 277 (upd (f1 277) 7 (0 : Int32)), l1) (t2_RP (f, l)) := by
    intro j b c f1 l1 i1
    refine fl_Tq.cal rfl rfl (fl_bo rfl) rfl ?_
    refine (i1.plain (Or.inl rfl)).back (fun m4 g4 p4 w4 => ?_)
    obtain ⟨f4, l4⟩ := m4
    refine z317_E ⟨⟨⟨_, rfl⟩, w4⟩, ?_⟩
    show f4 277 7 = 0
    have p5 : f4 277 = fl_row f1 277 (upd (f1 277) 7 (0 : Int32)) 277 := p4 277 (by decide)
    rw [p5, fl_row_self, upd_self]
  have loop : ∀ (d j : Nat) (b c : Int32) (m1 : fl_M), j + d = 2000 → t2_Iv (f, l) m1 → fl_Tq (pw_P L xs) 317 37 [some (.inr (.inr (.inl (76, 277)))), some (.inl a), some (.inl (Int32.ofNat j)), some (.inl b), some (.inl c)] [] m1 (t2_RP (f, l)) := by
    intro d
    induction d with
    | zero =>
      intro j b c m1 hj i1
      have ej : (Int32.ofNat j).toInt = j := at_ofN (by omega)
      obtain ⟨f1, l1⟩ := m1
      exact z317_C (fun _ h _ => absurd h (by rw [ej, c2]; omega)) (fun _ _ _ => fin j b c _ _ i1) (fun _ _ => fin j b c _ _ i1) (fun _ => fin j b c _ _ i1)
    | succ d ih =>
      intro j b c m1 hj i1
      obtain ⟨f1, l1⟩ := m1
      refine z317_C (fun _ _ _ => ?_) (fun _ _ _ => fin j b c _ _ i1) (fun _ _ => fin j b c _ _ i1) (fun _ => fin j b c _ _ i1)
      refine fl_Tq.cal rfl rfl (fl_bo rfl) rfl ?_
      refine i1.call (hall _ t2_c237_in) ⟨at_k277 _, True.intro⟩ rfl rfl rfl (fun z m2 i2 => ?_)
      obtain ⟨f2, l2⟩ := m2
      refine z317_D ?_
      rw [t2_k1]
      exact ih (j + 1) _ _ _ (by omega) i2
  refine z317_A (fun _ => ⟨⟨⟨_, rfl⟩, fun w _ _ => rfl⟩, h7⟩) (fun h => ?_)
  rw [r_i0, c1, c9, Classical.not_not] at h
  refine fl_Tq.cal rfl rfl (fl_bo rfl) rfl ?_
  refine t2_Iv.put hg (fun m1 i1 _ => ?_)
  obtain ⟨f1, l1⟩ := m1
  refine z317_B ?_
  have hn : (-a).toInt = -a.toInt := by rw [Int32.toInt_neg]; exact Int.bmod_eq_of_le (by omega) (by omega)
  have i2 := (i1.plain (v := (1 : Int32)) (Or.inr rfl)).setw (k := 20) (v := -a) (by decide) (by omega)
  rw [fl_row_ne (by decide)] at i2
  exact loop 2000 0 _ _ _ rfl i2
/-- spreadBy -/
theorem t2_z318 {A : Nat} (hall : ∀ c ∈ at_CM ++ at_CA, at_Valid at_XI (pw_P L xs) c) (hg : at_Good at_XI (f, l)) (hA : a.toInt = (A : Int)) (hA1 : A < 30) (hb : -99999 ≤ b.toInt ∧ b.toInt ≤ 99999) (k : ∀ (y : Int32) (m1 : fl_M), at_Good at_XI m1 → (∀ w : Nat, 2 ≤ w → w < 1420 → m1.1 280 w = f 280 w) → Q (some (.inl y)) m1) : fl_Tq (pw_P L xs) 318 0 (fl_args (am_mxl (pw_P L xs) 318) [at_this, .inl a, .inl b, .inl c]) [] (f, l) Q := by
  show fl_Tq (pw_P L xs) 318 0 [some (.inr (.inr (.inl (76, 277)))), some (.inl a), some (.inl b), some (.inl c), none, none] [] (f, l) _
  refine z318_A ?_
  refine fl_Tq.cal rfl rfl (fl_bo rfl) rfl ?_
  refine t2_Iv.put hg (fun m1 i1 _ => ?_)
  obtain ⟨f1, l1⟩ := m1
  refine z318_B hA hA1 ?_
  have i2 := i1.setw (v := b) hA1 hb
  refine fl_Tq.cal rfl rfl (fl_bo rfl) rfl ?_
  refine i2.call (hall _ t2_c248_in) ⟨at_k277 _, lx_ki _, True.intro⟩ rfl rfl rfl (fun z m3 i3 => ?_)
  obtain ⟨f3, l3⟩ := m3
  refine z318_C ?_
  refine fl_Tq.cal rfl rfl (fl_bo rfl) rfl ?_
  refine i3.call (hall _ t2_c205_in) ⟨at_k277 _, True.intro⟩ rfl rfl rfl (fun y m4 i4 => ?_)
  obtain ⟨f4, l4⟩ := m4
  refine z318_D ?_
  refine fl_Tq.cal rfl rfl (fl_bo rfl) rfl ?_
  refine i4.back (fun m5 g5 _ w5 => ?_)
  obtain ⟨f5, l5⟩ := m5
  exact z318_E (k y _ g5 w5)
/-- bestBand -/
theorem t2_z319 (hall : ∀ c ∈ at_CM ++ at_CA, at_Valid at_XI (pw_P L xs) c) (hg : at_Good at_XI (f, l)) : fl_Tq (pw_P L xs) 319 0 (fl_args (am_mxl (pw_P L xs) 319) [at_this, .inl a, .inl b]) [] (f, l) (t2_Rst (f, l)) := by
  have cm : (-1 : Int32).toInt = -1 := by decide +kernel
  have c99 : (99 : Int32).toInt = 99 := by decide +kernel
  show fl_Tq (pw_P L xs) 319 0 [some (.inr (.inr (.inl (76, 277)))), some (.inl a), some (.inl b), none] [] (f, l) _
  have loop : ∀ (d : Nat) (c : Int32) (m1 : fl_M), c.toInt = (d : Int) - 1 → d ≤ 100 → at_Good at_XI m1 → (∀ w : Nat, 2 ≤ w → w < 1420 → m1.1 280 w = f 280 w) → fl_Tq (pw_P L xs) 319 35 [some (.inr (.inr (.inl (76, 277)))), some (.inl a), some (.inl b), some (.inl c)] [] m1 (t2_Rst (f, l)) := by
    intro d
    induction d with
    | zero =>
      intro c m1 hc _ g1 w1
      obtain ⟨f1, l1⟩ := m1
      exact z319_C (fun _ => ⟨⟨_, rfl⟩, w1⟩) (fun h => absurd (by omega) h)
    | succ d ih =>
      intro c m1 hc hd g1 w1
      obtain ⟨f1, l1⟩ := m1
      refine z319_C (fun _ => ⟨⟨_, rfl⟩, w1⟩) (fun h => ?_)
      refine fl_Tq.cal rfl rfl (fl_bo rfl) rfl ?_
      refine t2_z318 (A := 14) hall g1 (by decide +kernel) (by decide) (by omega) (fun y m2 g2 w2 => ?_)
      obtain ⟨f2, l2⟩ := m2
      have w3 : ∀ w : Nat, 2 ≤ w → w < 1420 → f2 280 w = f 280 w := fun w h1 h2 => (w2 w h1 h2).trans (w1 w h1 h2)
      refine z319_D (fun _ => ?_) (fun _ => ⟨⟨_, rfl⟩, w3⟩)
      exact ih _ _ (by rw [at_add32 (by omega) (by omega), cm]; omega) (by omega) g2 w3
  refine z319_A ?_
  refine fl_Tq.cal rfl rfl (fl_bo rfl) rfl ?_
  refine r_canRun_q ?_
  refine z319_B (fun _ => ⟨⟨_, rfl⟩, fun w _ _ => rfl⟩) (fun _ _ => ⟨⟨_, rfl⟩, fun w _ _ => rfl⟩) (fun _ _ _ => ⟨⟨_, rfl⟩, fun w _ _ => rfl⟩) (fun _ _ _ => ?_)
  exact loop 100 _ _ (by rw [c99]; rfl) (by decide) hg (fun w _ _ => rfl)
/-- eta -/
theorem t2_z321 (hall : ∀ c ∈ at_CM ++ at_CA, at_Valid at_XI (pw_P L xs) c) (hg : at_Good at_XI (f, l)) : fl_Tq (pw_P L xs) 321 0 (fl_args (am_mxl (pw_P L xs) 321) [at_this, .inl a]) [] (f, l) (t2_Rst (f, l)) := by
  have c2 : (2000 : Int32).toInt = 2000 := by decide +kernel
  show fl_Tq (pw_P L xs) 321 0 [some (.inr (.inr (.inl (76, 277)))), some (.inl a), none, none, none] [] (f, l) _
  have fin : ∀ (j : Nat) (b c : Int32) (m1 : fl_M), t2_Iv (f, l) m1 → fl_Tq (pw_P L xs) 321 72 [some (.inr (.inr (.inl (76, 277)))), some (.inl a), some (.inl (Int32.ofNat j)), some (.inl b), some (.inl c)] [.inr (.inr (.inl (76, 277)))] m1 (t2_Rst (f, l)) := by
    intro j b c m1 i1
    refine fl_Tq.cal rfl rfl (fl_bo rfl) rfl ?_
    refine i1.back (fun m4 _ _ w4 => ?_)
    obtain ⟨f4, l4⟩ := m4
    exact z321_F ⟨⟨_, rfl⟩, w4⟩
  have loop : ∀ (d j : Nat) (b c : Int32) (m1 : fl_M), j + d = 2000 → t2_Iv (f, l) m1 → fl_Tq (pw_P L xs) 321 26 [some (.inr (.inr (.inl (76, 277)))), some (.inl a), some (.inl (Int32.ofNat j)), some (.inl b), some (.inl c)] [] m1 (t2_Rst (f, l)) := by
    intro d
    induction d with
    | zero =>
      intro j b c m1 hj i1
      have ej : (Int32.ofNat j).toInt = j := at_ofN (by omega)
      obtain ⟨f1, l1⟩ := m1
      exact z321_D (fun _ h _ => absurd h (by rw [ej, c2]; omega)) (fun _ _ _ => fin j b c _ i1) (fun _ _ => fin j b c _ i1) (fun _ => fin j b c _ i1)
    | succ d ih =>
      intro j b c m1 hj i1
      obtain ⟨f1, l1⟩ := m1
      refine z321_D (fun _ _ _ => ?_) (fun _ _ _ => fin j b c _ i1) (fun _ _ => fin j b c _ i1) (fun _ => fin j b c _ i1)
      refine fl_Tq.cal rfl rfl (fl_bo rfl) rfl ?_
      refine i1.call (hall _ t2_c237_in) ⟨at_k277 _, True.intro⟩ rfl rfl rfl (fun z m2 i2 => ?_)
      obtain ⟨f2, l2⟩ := m2
      refine z321_E ?_
      refine fl_Tq.cal rfl rfl (fl_bo rfl) rfl ?_
      refine i2.call (hall _ t2_c320_in) ⟨at_k277 _, lx_ki _, True.intro⟩ rfl rfl rfl (fun y m3 i3 => ?_)
      obtain ⟨f3, l3⟩ := m3
      rw [t2_k1]
      refine z321_G ?_
      exact ih (j + 1) _ _ _ (by omega) i3
  refine z321_A (fun _ => ⟨⟨_, rfl⟩, fun w _ _ => rfl⟩) (fun _ => ?_)
  refine fl_Tq.cal rfl rfl (fl_bo rfl) rfl ?_
  refine t2_Iv.put hg (fun m1 i1 _ => ?_)
  obtain ⟨f1, l1⟩ := m1
  refine z321_B ?_
  refine fl_Tq.cal rfl rfl (fl_bo rfl) rfl ?_
  refine i1.call (hall _ t2_c320_in) ⟨at_k277 _, lx_ki _, True.intro⟩ rfl rfl rfl (fun y m3 i3 => ?_)
  obtain ⟨f3, l3⟩ := m3
  refine z321_C (j := 0) ?_
  exact loop 2000 0 _ _ _ rfl i3
/-- bestMode -/
theorem t2_z322 (hall : ∀ c ∈ at_CM ++ at_CA, at_Valid at_XI (pw_P L xs) c) (hg : at_Good at_XI (f, l)) : fl_Tq (pw_P L xs) 322 0 (fl_args (am_mxl (pw_P L xs) 322) [at_this, .inl a]) [] (f, l) (t2_Rst (f, l)) := by
  have c3 : (3 : Int32).toInt = 3 := by decide +kernel
  have c0 : (0 : Int32).toInt = 0 := rfl
  show fl_Tq (pw_P L xs) 322 0 [some (.inr (.inr (.inl (76, 277)))), some (.inl a), none, none, none, none] [] (f, l) _
  have loop : ∀ (d j : Nat) (b c : Int32) (e : Option fl_V) (m1 : fl_M), j + d = 3 → at_Good at_XI m1 → (∀ w : Nat, 2 ≤ w → w < 1420 → m1.1 280 w = f 280 w) → fl_Tq (pw_P L xs) 322 36 [some (.inr (.inr (.inl (76, 277)))), some (.inl a), some (.inl b), some (.inl c), some (.inl (Int32.ofNat j)), none] [] m1 (t2_Rst (f, l)) := by
    intro d
    induction d with
    | zero =>
      intro j b c e m1 hj g1 w1
      have ej : (Int32.ofNat j).toInt = j := at_ofN (by omega)
      obtain ⟨f1, l1⟩ := m1
      exact z322_D (fun h => absurd h (by rw [ej, c3]; omega)) (fun _ => ⟨⟨_, rfl⟩, w1⟩)
    | succ d ih =>
      intro j b c e m1 hj g1 w1
      have ej : (Int32.ofNat j).toInt = j := at_ofN (by omega)
      obtain ⟨f1, l1⟩ := m1
      refine z322_D (fun _ => ?_) (fun _ => ⟨⟨_, rfl⟩, w1⟩)
      refine fl_Tq.cal rfl rfl (fl_bo rfl) rfl ?_
      refine t2_z318 (A := 11) hall g1 (by decide +kernel) (by decide) (by omega) (fun y m2 g2 w2 => ?_)
      obtain ⟨f2, l2⟩ := m2
      have w3 : ∀ w : Nat, 2 ≤ w → w < 1420 → f2 280 w = f 280 w := fun w h1 h2 => (w2 w h1 h2).trans (w1 w h1 h2)
      refine z322_E ?_
      rw [t2_k1]
      exact fl_Tq.fg (ih (j + 1) _ _ none _ (by omega) g2 w3) ⟨rfl, rfl, rfl, rfl, rfl, True.intro⟩
  refine z322_A ?_
  refine fl_Tq.cal rfl rfl (fl_bo rfl) rfl ?_
  refine r_canRun_q ?_
  refine z322_B (fun _ => ⟨⟨_, rfl⟩, fun w _ _ => rfl⟩) (fun _ _ => ⟨⟨_, rfl⟩, fun w _ _ => rfl⟩) (fun _ _ => ?_)
  refine fl_Tq.cal rfl rfl (fl_bo rfl) rfl ?_
  refine t2_z318 (A := 11) hall hg (by decide +kernel) (by decide) (by omega) (fun y m2 g2 w2 => ?_)
  obtain ⟨f2, l2⟩ := m2
  refine z322_C ?_
  exact loop 2 1 _ _ none _ rfl g2 w2
/-- a call of the reference that leaves all as it was -/
def t2_loud (ws : List at_W) : Bool := ws.all (fun w => (Nat.beq w.1 76 || (Nat.beq w.1 81 || Nat.beq w.1 82)) || (Nat.beq w.1 79 && (bif w.2.1 then decide (0 ≤ w.2.2.1) && decide (w.2.2.2 ≤ 60) else decide (2 ≤ w.2.2.1) && decide (w.2.2.2 ≤ 1419))))
theorem t2_Z.loud {ws : List at_W} (Z : t2_Z m) (hg : at_Good at_XI m1) (h : at_MD m m1 ws) (hq : t2_loud ws = true) (hw : ∀ w : Nat, 2 ≤ w → w < 1420 → m1.1 280 w = m.1 280 w) (h7 : m1.1 277 7 = m.1 277 7) : t2_Z m1 := by
  have E : ∀ p : Nat, (p < 181) ∨ (271 ≤ p ∧ p < 275) ∨ p = 281 ∨ 285 ≤ p → m1.1 p = m.1 p := fun p hp => by
    funext j
    apply Classical.byContradiction
    intro hne
    obtain ⟨w, hw1, e, -⟩ := h.2 p j hne
    have hb := List.all_eq_true.mp hq w hw1
    have k0 : ∀ q : Nat, q < 285 → (fk_K q = 76 ∨ fk_K q = 79 ∨ fk_K q = 81 ∨ fk_K q = 82) → 276 < q ∧ q ≠ 281 := by
      intro q hq2 hk
      have H : (List.range 285).all (fun q => !(Nat.beq (fk_K q) 76 || Nat.beq (fk_K q) 79 || Nat.beq (fk_K q) 81 || Nat.beq (fk_K q) 82) || decide (276 < q ∧ q ≠ 281)) = true := by decide +kernel
      have H := List.all_eq_true.mp H q (List.mem_range.mpr hq2)
      rcases hk with h | h | h | h <;> (rw [h] at H; simpa using H)
    have hk : fk_K p = 76 ∨ fk_K p = 79 ∨ fk_K p = 81 ∨ fk_K p = 82 := by
      rw [← e]
      rw [Bool.or_eq_true, Bool.or_eq_true, Bool.or_eq_true, Bool.and_eq_true] at hb
      rcases hb with (h1 | h1 | h1) | ⟨h1, -⟩
      · exact Or.inl (Nat.eq_of_beq_eq_true h1)
      · exact Or.inr (Or.inr (Or.inl (Nat.eq_of_beq_eq_true h1)))
      · exact Or.inr (Or.inr (Or.inr (Nat.eq_of_beq_eq_true h1)))
      · exact Or.inr (Or.inl (Nat.eq_of_beq_eq_true h1))
    by_cases e5 : p < 285
    · have := k0 p e5 hk
      omega
    · obtain ⟨d, r, hr, rfl⟩ : ∃ d r, r < 90 ∧ p = 285 + 90 * d + r := ⟨(p - 285) / 90, (p - 285) % 90, Nat.mod_lt _ (by decide), by omega⟩
      rw [fk_K_hi hr] at hk
      have H : (List.range 90).all (fun r => decide (fk_K1.getD r 0 < 76)) = true := by decide +kernel
      have := of_decide_eq_true (List.all_eq_true.mp H r (List.mem_range.mpr hr))
      omega
  have W0 : ∀ w : Nat, w < 29780 → m1.1 280 w = m.1 280 w := fun w _ => by
    by_cases e : 2 ≤ w ∧ w < 1420
    · exact hw w e.1 e.2
    · apply Classical.byContradiction
      intro hne
      obtain ⟨x, hx, e1, hcv⟩ := h.2 280 w hne
      have hb := List.all_eq_true.mp hq x hx
      rw [e1, fk_K_280] at hb
      have hb : (bif x.2.1 then decide (0 ≤ x.2.2.1) && decide (x.2.2.2 ≤ 60) else decide (2 ≤ x.2.2.1) && decide (x.2.2.2 ≤ 1419)) = true := by simpa using hb
      cases hx2 : x.2.1 with
      | true =>
        rw [hx2] at hb hcv
        simp only [cond_true, Bool.and_eq_true, decide_eq_true_eq] at hb
        rw [if_pos rfl] at hcv
        obtain ⟨o, o1, o2, o3, o4⟩ := hcv
        omega
      | false =>
        rw [hx2] at hb hcv
        simp only [cond_false, Bool.and_eq_true, decide_eq_true_eq] at hb
        rw [if_neg Bool.false_ne_true] at hcv
        omega
  have hh := at_XI.cnt_eq Z.1.2.2 hg.2.2 (fun q hq => E q (by omega))
  refine ⟨hg, ?_⟩
  rw [hh]
  exact Z.2.ext (fun p hp => E p (by omega)) W0 (fun w _ => by rw [E 281 (by decide)]) h7
theorem t2_aside {c2 : at_C} {ar : List fl_V} {mr : Nat} {lo hi : Int} (hv : at_Valid at_XI (pw_P L xs) c2) (e : c2.1 = mr) (Z : t2_Z m) (k2 : at_agk m.2.2 c2.2.1 ar) (l2 : c2.2.2.1 = []) (hr : c2.2.2.2.1 = some (.inr (false, lo, hi))) (hq : t2_loud c2.2.2.2.2.2 = true) (F : fl_Tq (pw_P L xs) mr 0 (fl_args (am_mxl (pw_P L xs) mr) ar) [] m (t2_RP m)) (K : ∀ (x : Int32) (m1 : fl_M), t2_Z m1 → Q (some (.inl x)) m1) : fl_Tq (pw_P L xs) mr 0 (fl_args (am_mxl (pw_P L xs) mr) ar) [] m Q := by
  subst e
  refine fl_Tq.mono (t2_join (hv m ar Z.1 k2 (fun q hq => by rw [l2] at hq; cases hq)) F) ?_
  rintro v m1 ⟨⟨g1, md, hv1⟩, v2, m2, -, e2, ⟨-, w2⟩, p2⟩
  rw [hr] at hv1
  obtain ⟨x, rfl, -⟩ := hv1
  have e280 : m1.1 280 = m2.1 280 := t2_Hi e2 (n := 29780) (z := (0, 0, 0)) (by decide) (by decide +kernel)
  have e277 : m1.1 277 7 = m2.1 277 7 := t2_Hw e2 (by unfold fl_N; omega) (by decide +kernel)
  exact K x m1 (Z.loud g1 md hq (fun w h1 h2 => by rw [e280]; exact w2 w h1 h2) (by rw [e277, p2, Z.2.2.2.2]))
/-- where isPlain isn't written -/
theorem t2_asideR {c2 : at_C} {ar : List fl_V} {mr : Nat} {lo hi : Int} (hv : at_Valid at_XI (pw_P L xs) c2) (e : c2.1 = mr) (Z : t2_Z m) (k2 : at_agk m.2.2 c2.2.1 ar) (l2 : c2.2.2.1 = []) (hr : c2.2.2.2.1 = some (.inr (false, lo, hi))) (hq : t2_loud c2.2.2.2.2.2 = true) (hp : t2_nw c2.2.2.2.2.2 76 7 7 = true) (F : fl_Tq (pw_P L xs) mr 0 (fl_args (am_mxl (pw_P L xs) mr) ar) [] m (t2_Rst m)) (K : ∀ (x : Int32) (m1 : fl_M), t2_Z m1 → Q (some (.inl x)) m1) : fl_Tq (pw_P L xs) mr 0 (fl_args (am_mxl (pw_P L xs) mr) ar) [] m Q := by
  subst e
  refine fl_Tq.mono (t2_join (hv m ar Z.1 k2 (fun q hq => by rw [l2] at hq; cases hq)) F) ?_
  rintro v m1 ⟨⟨g1, md, hv1⟩, v2, m2, -, e2, -, w2⟩
  rw [hr] at hv1
  obtain ⟨x, rfl, -⟩ := hv1
  have e280 : m1.1 280 = m2.1 280 := t2_Hi e2 (n := 29780) (z := (0, 0, 0)) (by decide) (by decide +kernel)
  exact K x m1 (Z.loud g1 md hq (fun w h1 h2 => by rw [e280]; exact w2 w h1 h2) (t2_fr md 7 7 (by decide +kernel) hp (by decide) (by decide)))
end T2MQ9
