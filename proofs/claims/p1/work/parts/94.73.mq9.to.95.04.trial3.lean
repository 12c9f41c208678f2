/-! 94.73.mq9.lean.txt -/
section
/-! ===== the reference's foretelling: power, yields, bestBand, eta, bestMode ===== -/
section T2MQ9
variable {L : Nat} {xs : Nat → Int32} {m0 m m1 : fl_M} {f g F G : t2_F} {l l' : t2_L} {Q : Option fl_V → fl_M → Prop} {a b c : Int32}
/-- a row of a model that isn't read -/
theorem t2_Iv.plain {m0 : fl_M} {v : Int32} (h : t2_Iv m0 (f, l)) (hv : v = 0 ∨ v = 1) : t2_Iv m0 (fl_row f 277 (upd (f 277) 7 v), l) := h.of (at_Good.plain h.1 hv) (by show fl_row f 277 (upd (f 277) 7 v) 283 = f 283; exact fl_row_ne (by decide))
theorem t2_Iv.setw {m0 : fl_M} {v : Int32} {k : Nat} (h : t2_Iv m0 (f, l)) (hk : k < 30) (hv : -99999 ≤ v.toInt ∧ v.toInt ≤ 99999) : t2_Iv m0 (fl_row f 280 (upd (f 280) (34 + k) v), l) := h.of (at_Good.setw h.1 hk hv) (by show fl_row f 280 (upd (f 280) (34 + k) v) 283 = f 283; exact fl_row_ne (by decide))
/-- all of the relation's words are there again, and isPlain isn't so -/
def t2_RP (m0 : fl_M) (v : Option fl_V) (m : fl_M) : Prop := t2_Rst m0 v m ∧ m.1 277 7 = 0
/-- goesBy -/
theorem t2_z315 (hall : ∀ c ∈ at_CM ++ at_CA, at_Valid at_XI (pw_P L xs) c) (hg : at_Good at_XI (f, l)) (ha : -99999 ≤ a.toInt ∧ a.toInt ≤ 99999) (k : ∀ (y : Int32) (m1 : fl_M), at_Good at_XI m1 → (∀ w : Nat, 2 ≤ w → w < 1420 → m1.1 280 w = f 280 w) → m1.1 277 7 = 0 → Q (some (.inl y)) m1) : fl_Tq (pw_P L xs) 315 0 (fl_args (am_mxl (pw_P L xs) 315) [at_this, .inl a, .inl b]) [] (f, l) Q := by
  have ib := at_i32 b
  show fl_Tq (pw_P L xs) 315 0 [some (.inr (.inr (.inl (76, 277)))), some (.inl a), some (.inl b), none, none] [] (f, l) _
  have fin : ∀ (c e : Int32) (f1 : t2_F) (l1 : t2_L), (c = 0 ∨ c = 1) → t2_Iv (f, l) (f1, l1) → fl_Tq (pw_P L xs) 315 67 [some (.inr (.inr (.inl (76, 277)))), some (.inl a), some (.inl b), some (.inl c), some (.inl e)] [.inr (.inr (.inl (76, 277)))] (fl_row f1 277 (upd (f1 277) 7 (0 : Int32)), l1) Q := by
    intro c e f1 l1 hc i1
    refine fl_Tq.cal rfl rfl (fl_bo rfl) rfl ?_
    refine (i1.plain (Or.inl rfl)).back (fun m4 g4 p4 w4 => ?_)
    refine fl_Tq.stp rfl rfl (fl_bo rfl) rfl ?_
    refine fl_Tq.ret rfl rfl (if_pos hc) (k c m4 g4 w4 ?_)
    rw [p4 277 (by decide)]
    show fl_row f1 277 (upd (f1 277) 7 (0 : Int32)) 277 7 = 0
    rw [fl_row_self, upd_self]
  have loop : ∀ (d j : Nat) (c : Int32) (m1 : fl_M), j + d = b.toInt.toNat → (c = 0 ∨ c = 1) → t2_Iv (f, l) m1 → fl_Tq (pw_P L xs) 315 22 [some (.inr (.inr (.inl (76, 277)))), some (.inl a), some (.inl b), some (.inl c), some (.inl (Int32.ofNat j))] [] m1 Q := by
    intro d
    induction d with
    | zero =>
      intro j c m1 hj hc i1
      have ej : (Int32.ofNat j).toInt = j := at_ofN (by omega)
      obtain ⟨f1, l1⟩ := m1
      exact z315_C (fun h _ => absurd h (by rw [ej]; omega)) (fun h _ => absurd h (by rw [ej]; omega)) (fun _ => fin c _ f1 l1 hc i1)
    | succ d ih =>
      intro j c m1 hj hc i1
      obtain ⟨f1, l1⟩ := m1
      refine z315_C (fun _ _ => fin c _ f1 l1 hc i1) (fun _ _ => ?_) (fun _ => fin c _ f1 l1 hc i1)
      refine fl_Tq.cal rfl rfl (fl_bo rfl) rfl ?_
      refine i1.call (hall _ t2_c237_in) ⟨at_k277 _, True.intro⟩ rfl rfl rfl (fun z m2 i2 => ?_)
      obtain ⟨f2, l2⟩ := m2
      refine z315_D ?_
      rw [t2_k1]
      refine ih (j + 1) _ _ (by omega) ?_ i2
      unfold z315_D_j36_0
      split
      · split
        · exact Or.inr rfl
        · exact Or.inl rfl
      · exact Or.inl rfl
  refine z315_A ?_
  refine fl_Tq.cal rfl rfl (fl_bo rfl) rfl ?_
  refine t2_Iv.put hg (fun m1 i1 _ => ?_)
  obtain ⟨f1, l1⟩ := m1
  refine z315_B ?_
  have i2 := (i1.plain (v := (1 : Int32)) (Or.inr rfl)).setw (k := 20) (v := a) (by decide) ha
  rw [fl_row_ne (by decide)] at i2
  exact loop _ 0 _ _ (Nat.zero_add _) (Or.inr rfl) i2
/-- power -/
theorem t2_z316 (hall : ∀ c ∈ at_CM ++ at_CA, at_Valid at_XI (pw_P L xs) c) (hg : at_Good at_XI (f, l)) (h7 : f 277 7 = 0) : fl_Tq (pw_P L xs) 316 0 (fl_args (am_mxl (pw_P L xs) 316) [at_this, .inl a, .inl b]) [] (f, l) (t2_RP (f, l)) := by
  have c100 : (100 : Int32).toInt = 100 := by decide +kernel
  have cm : (-100 : Int32).toInt = -100 := by decide +kernel
  show fl_Tq (pw_P L xs) 316 0 [some (.inr (.inr (.inl (76, 277)))), some (.inl a), some (.inl b), none] [] (f, l) _
  have loop : ∀ (d : Nat) (c : Int32) (m1 : fl_M), c.toInt ≤ 100 * (d : Int) → c.toInt ≤ 99999 → at_Good at_XI m1 → (∀ w : Nat, 2 ≤ w → w < 1420 → m1.1 280 w = f 280 w) → m1.1 277 7 = 0 → fl_Tq (pw_P L xs) 316 43 [some (.inr (.inr (.inl (76, 277)))), some (.inl a), some (.inl b), some (.inl c)] [] m1 (t2_RP (f, l)) := by
    intro d
    induction d with
    | zero =>
      intro c m1 hc _ _ w1 p1
      obtain ⟨f1, l1⟩ := m1
      exact z316_C (fun h => absurd h (by omega)) (fun _ => ⟨⟨⟨_, rfl⟩, w1⟩, p1⟩)
    | succ d ih =>
      intro c m1 hc hc2 g1 w1 p1
      obtain ⟨f1, l1⟩ := m1
      refine z316_C (fun h => ?_) (fun _ => ⟨⟨⟨_, rfl⟩, w1⟩, p1⟩)
      refine fl_Tq.cal rfl rfl (fl_bo rfl) rfl ?_
      have hn : (-c).toInt = -c.toInt := by rw [Int32.toInt_neg]; exact Int.bmod_eq_of_le (by omega) (by omega)
      refine t2_z315 hall g1 (by split <;> omega) (fun y m2 g2 w2 p2 => ?_)
      obtain ⟨f2, l2⟩ := m2
      have w3 : ∀ w : Nat, 2 ≤ w → w < 1420 → f2 280 w = f 280 w := fun w h1 h2 => (w2 w h1 h2).trans (w1 w h1 h2)
      refine z316_D (fun _ => ?_) (fun _ => ⟨⟨⟨_, rfl⟩, w3⟩, p2⟩)
      have e : (c + (-100 : Int32)).toInt = c.toInt - 100 := by rw [at_add32 (by omega) (by omega), cm]; omega
      exact ih _ _ (by rw [e]; omega) (by rw [e]; omega) g2 w3 p2
  have yes : t2_RP (f, l) (some (.inl (-1 : Int32))) (f, l) := ⟨⟨⟨_, rfl⟩, fun w _ _ => rfl⟩, h7⟩
  refine z316_A (fun _ => yes) (fun _ => ?_)
  refine fl_Tq.cal rfl rfl (fl_bo rfl) rfl ?_
  refine r_canRun_q ?_
  refine z316_B (fun _ => yes) (fun _ _ => ?_) (fun _ _ => yes)
  have r38 : -99999 ≤ (f 280 38).toInt ∧ (f 280 38).toInt ≤ 99999 := hg.1 280 (by unfold fl_N; omega) (0, 34, 0, 1, 30, -99999, 99999) (by rw [fk_K_280]; decide +kernel) 38 ⟨0, 4, by decide, by dsimp only; decide, by decide, by dsimp only; decide, by dsimp only; decide⟩
  have q := t2_td (x := f 280 38) (y := (100 : Int32)) (by omega)
  rw [c100] at q
  have q2 : ((f 280 38) / (100 : Int32)).toInt ≤ 999 ∧ -999 ≤ ((f 280 38) / (100 : Int32)).toInt := by
    rw [q]
    split <;> omega
  have e : (((f 280 38) / (100 : Int32)) * (100 : Int32)).toInt ≤ 99900 := by rw [at_mul32 (by rw [c100]; omega) (by rw [c100]; omega), c100]; omega
  exact loop 999 _ _ (by omega) (by omega) hg (fun w _ _ => rfl) h7
/-- yields -/
theorem t2_z317 (hall : ∀ c ∈ at_CM ++ at_CA, at_Valid at_XI (pw_P L xs) c) (hg : at_Good at_XI (f, l)) (h7 : f 277 7 = 0) : fl_Tq (pw_P L xs) 317 0 (fl_args (am_mxl (pw_P L xs) 317) [at_this, .inl a]) [] (f, l) (t2_RP (f, l)) := by
  have c2 : (2000 : Int32).toInt = 2000 := by decide +kernel
  have c1 : (1 : Int32).toInt = 1 := by decide +kernel
  have c9 : (99999 : Int32).toInt = 99999 := by decide +kernel
  show fl_Tq (pw_P L xs) 317 0 [some (.inr (.inr (.inl (76, 277)))), some (.inl a), none, none, none] [] (f, l) _
  have fin : ∀ (j : Nat) (b c : Int32) (f1 : t2_F) (l1 : t2_L), t2_Iv (f, l) (f1, l1) → fl_Tq (pw_P L xs) 317 99 [some (.inr (.inr (.inl (76, 277)))), some (.inl a), some (.inl (Int32.ofNat j)), some (.inl b), some (.inl c)] [.inr (.inr (.inl (76, 277)))] (fl_row f1 277 (upd (f1 277) 7 (0 : Int32)), l1) (t2_RP (f, l)) := by
    intro j b c f1 l1 i1
    refine fl_Tq.cal rfl rfl (fl_bo rfl) rfl ?_
    refine (i1.plain (Or.inl rfl)).back (fun m4 g4 p4 w4 => ?_)
    obtain ⟨f4, l4⟩ := m4
    refine z317_E ⟨⟨⟨_, rfl⟩, w4⟩, ?_⟩
    show f4 277 7 = 0
    have p5 : f4 277 = fl_row f1 277 (upd (f1 277) 7 (0 : Int32)) 277 := p4 277 (by decide)
    rw [p5, fl_row_self, upd_self]
  have loop : ∀ (d j : Nat) (b c : Int32) (m1 : fl_M), j + d = 2000 → t2_Iv (f, l) m1 → fl_Tq (pw_P L xs) 317 37 [some (.inr (.inr (.inl (76, 277)))), some (.inl a), some (.inl (Int32.ofNat j)), some (.inl b), some (.inl c)] [] m1 (t2_RP (f, l)) := by
    intro d
    induction d with
    | zero =>
      intro j b c m1 hj i1
      have ej : (Int32.ofNat j).toInt = j := at_ofN (by omega)
      obtain ⟨f1, l1⟩ := m1
      exact z317_C (fun _ h _ => absurd h (by rw [ej, c2]; omega)) (fun _ _ _ => fin j b c _ _ i1) (fun _ _ => fin j b c _ _ i1) (fun _ => fin j b c _ _ i1)
    | succ d ih =>
      intro j b c m1 hj i1
      obtain ⟨f1, l1⟩ := m1
      refine z317_C (fun _ _ _ => ?_) (fun _ _ _ => fin j b c _ _ i1) (fun _ _ => fin j b c _ _ i1) (fun _ => fin j b c _ _ i1)
      refine fl_Tq.cal rfl rfl (fl_bo rfl) rfl ?_
      refine i1.call (hall _ t2_c237_in) ⟨at_k277 _, True.intro⟩ rfl rfl rfl (fun z m2 i2 => ?_)
      obtain ⟨f2, l2⟩ := m2
      refine z317_D ?_
      rw [t2_k1]
      exact ih (j + 1) _ _ _ (by omega) i2
  refine z317_A (fun _ => ⟨⟨⟨_, rfl⟩, fun w _ _ => rfl⟩, h7⟩) (fun h => ?_)
  rw [r_i0, c1, c9, Classical.not_not] at h
  refine fl_Tq.cal rfl rfl (fl_bo rfl) rfl ?_
  refine t2_Iv.put hg (fun m1 i1 _ => ?_)
  obtain ⟨f1, l1⟩ := m1
  refine z317_B ?_
  have hn : (-a).toInt = -a.toInt := by rw [Int32.toInt_neg]; exact Int.bmod_eq_of_le (by omega) (by omega)
  have i2 := (i1.plain (v := (1 : Int32)) (Or.inr rfl)).setw (k := 20) (v := -a) (by decide) (by omega)
  rw [fl_row_ne (by decide)] at i2
  exact loop 2000 0 _ _ _ rfl i2
/-- spreadBy -/
theorem t2_z318 {A : Nat} (hall : ∀ c ∈ at_CM ++ at_CA, at_Valid at_XI (pw_P L xs) c) (hg : at_Good at_XI (f, l)) (hA : a.toInt = (A : Int)) (hA1 : A < 30) (hb : -99999 ≤ b.toInt ∧ b.toInt ≤ 99999) (k : ∀ (y : Int32) (m1 : fl_M), at_Good at_XI m1 → (∀ w : Nat, 2 ≤ w → w < 1420 → m1.1 280 w = f 280 w) → Q (some (.inl y)) m1) : fl_Tq (pw_P L xs) 318 0 (fl_args (am_mxl (pw_P L xs) 318) [at_this, .inl a, .inl b, .inl c]) [] (f, l) Q := by
  show fl_Tq (pw_P L xs) 318 0 [some (.inr (.inr (.inl (76, 277)))), some (.inl a), some (.inl b), some (.inl c), none, none] [] (f, l) _
  refine z318_A ?_
  refine fl_Tq.cal rfl rfl (fl_bo rfl) rfl ?_
  refine t2_Iv.put hg (fun m1 i1 _ => ?_)
  obtain ⟨f1, l1⟩ := m1
  refine z318_B hA hA1 ?_
  have i2 := i1.setw (v := b) hA1 hb
  refine fl_Tq.cal rfl rfl (fl_bo rfl) rfl ?_
  refine i2.call (hall _ t2_c248_in) ⟨at_k277 _, lx_ki _, True.intro⟩ rfl rfl rfl (fun z m3 i3 => ?_)
  obtain ⟨f3, l3⟩ := m3
  refine z318_C ?_
  refine fl_Tq.cal rfl rfl (fl_bo rfl) rfl ?_
  refine i3.call (hall _ t2_c205_in) ⟨at_k277 _, True.intro⟩ rfl rfl rfl (fun y m4 i4 => ?_)
  obtain ⟨f4, l4⟩ := m4
  refine z318_D ?_
  refine fl_Tq.cal rfl rfl (fl_bo rfl) rfl ?_
  refine i4.back (fun m5 g5 _ w5 => ?_)
  obtain ⟨f5, l5⟩ := m5
  exact z318_E (k y _ g5 w5)
/-- bestBand -/
theorem t2_z319 (hall : ∀ c ∈ at_CM ++ at_CA, at_Valid at_XI (pw_P L xs) c) (hg : at_Good at_XI (f, l)) : fl_Tq (pw_P L xs) 319 0 (fl_args (am_mxl (pw_P L xs) 319) [at_this, .inl a, .inl b]) [] (f, l) (t2_Rst (f, l)) := by
  have cm : (-1 : Int32).toInt = -1 := by decide +kernel
  have c99 : (99 : Int32).toInt = 99 := by decide +kernel
  show fl_Tq (pw_P L xs) 319 0 [some (.inr (.inr (.inl (76, 277)))), some (.inl a), some (.inl b), none] [] (f, l) _
  have loop : ∀ (d : Nat) (c : Int32) (m1 : fl_M), c.toInt = (d : Int) - 1 → d ≤ 100 → at_Good at_XI m1 → (∀ w : Nat, 2 ≤ w → w < 1420 → m1.1 280 w = f 280 w) → fl_Tq (pw_P L xs) 319 35 [some (.inr (.inr (.inl (76, 277)))), some (.inl a), some (.inl b), some (.inl c)] [] m1 (t2_Rst (f, l)) := by
    intro d
    induction d with
    | zero =>
      intro c m1 hc _ g1 w1
      obtain ⟨f1, l1⟩ := m1
      exact z319_C (fun _ => ⟨⟨_, rfl⟩, w1⟩) (fun h => absurd (by omega) h)
    | succ d ih =>
      intro c m1 hc hd g1 w1
      obtain ⟨f1, l1⟩ := m1
      refine z319_C (fun _ => ⟨⟨_, rfl⟩, w1⟩) (fun h => ?_)
      refine fl_Tq.cal rfl rfl (fl_bo rfl) rfl ?_
      refine t2_z318 (A := 14) hall g1 (by decide +kernel) (by decide) (by omega) (fun y m2 g2 w2 => ?_)
      obtain ⟨f2, l2⟩ := m2
      have w3 : ∀ w : Nat, 2 ≤ w → w < 1420 → f2 280 w = f 280 w := fun w h1 h2 => (w2 w h1 h2).trans (w1 w h1 h2)
      refine z319_D (fun _ => ?_) (fun _ => ⟨⟨_, rfl⟩, w3⟩)
      exact ih _ _ (by rw [at_add32 (by omega) (by omega), cm]; omega) (by omega) g2 w3
  refine z319_A ?_
  refine fl_Tq.cal rfl rfl (fl_bo rfl) rfl ?_
  refine r_canRun_q ?_
  refine z319_B (fun _ => ⟨⟨_, rfl⟩, fun w _ _ => rfl⟩) (fun _ _ => ⟨⟨_, rfl⟩, fun w _ _ => rfl⟩) (fun _ _ _ => ⟨⟨_, rfl⟩, fun w _ _ => rfl⟩) (fun _ _ _ => ?_)
  exact loop 100 _ _ (by rw [c99]; rfl) (by decide) hg (fun w _ _ => rfl)
/-- eta -/
theorem t2_z321 (hall : ∀ c ∈ at_CM ++ at_CA, at_Valid at_XI (pw_P L xs) c) (hg : at_Good at_XI (f, l)) : fl_Tq (pw_P L xs) 321 0 (fl_args (am_mxl (pw_P L xs) 321) [at_this, .inl a]) [] (f, l) (t2_Rst (f, l)) := by
  have c2 : (2000 : Int32).toInt = 2000 := by decide +kernel
  show fl_Tq (pw_P L xs) 321 0 [some (.inr (.inr (.inl (76, 277)))), some (.inl a), none, none, none] [] (f, l) _
  have fin : ∀ (j : Nat) (b c : Int32) (m1 : fl_M), t2_Iv (f, l) m1 → fl_Tq (pw_P L xs) 321 72 [some (.inr (.inr (.inl (76, 277)))), some (.inl a), some (.inl (Int32.ofNat j)), some (.inl b), some (.inl c)] [.inr (.inr (.inl (76, 277)))] m1 (t2_Rst (f, l)) := by
    intro j b c m1 i1
    refine fl_Tq.cal rfl rfl (fl_bo rfl) rfl ?_
    refine i1.back (fun m4 _ _ w4 => ?_)
    obtain ⟨f4, l4⟩ := m4
    exact z321_F ⟨⟨_, rfl⟩, w4⟩
  have loop : ∀ (d j : Nat) (b c : Int32) (m1 : fl_M), j + d = 2000 → t2_Iv (f, l) m1 → fl_Tq (pw_P L xs) 321 26 [some (.inr (.inr (.inl (76, 277)))), some (.inl a), some (.inl (Int32.ofNat j)), some (.inl b), some (.inl c)] [] m1 (t2_Rst (f, l)) := by
    intro d
    induction d with
    | zero =>
      intro j b c m1 hj i1
      have ej : (Int32.ofNat j).toInt = j := at_ofN (by omega)
      obtain ⟨f1, l1⟩ := m1
      exact z321_D (fun _ h _ => absurd h (by rw [ej, c2]; omega)) (fun _ _ _ => fin j b c _ i1) (fun _ _ => fin j b c _ i1) (fun _ => fin j b c _ i1)
    | succ d ih =>
      intro j b c m1 hj i1
      obtain ⟨f1, l1⟩ := m1
      refine z321_D (fun _ _ _ => ?_) (fun _ _ _ => fin j b c _ i1) (fun _ _ => fin j b c _ i1) (fun _ => fin j b c _ i1)
      refine fl_Tq.cal rfl rfl (fl_bo rfl) rfl ?_
      refine i1.call (hall _ t2_c237_in) ⟨at_k277 _, True.intro⟩ rfl rfl rfl (fun z m2 i2 => ?_)
      obtain ⟨f2, l2⟩ := m2
      refine z321_E ?_
      refine fl_Tq.cal rfl rfl (fl_bo rfl) rfl ?_
      refine i2.call (hall _ t2_c320_in) ⟨at_k277 _, lx_ki _, True.intro⟩ rfl rfl rfl (fun y m3 i3 => ?_)
      obtain ⟨f3, l3⟩ := m3
      rw [t2_k1]
      refine z321_G ?_
      exact ih (j + 1) _ _ _ (by omega) i3
  refine z321_A (fun _ => ⟨⟨_, rfl⟩, fun w _ _ => rfl⟩) (fun _ => ?_)
  refine fl_Tq.cal rfl rfl (fl_bo rfl) rfl ?_
  refine t2_Iv.put hg (fun m1 i1 _ => ?_)
  obtain ⟨f1, l1⟩ := m1
  refine z321_B ?_
  refine fl_Tq.cal rfl rfl (fl_bo rfl) rfl ?_
  refine i1.call (hall _ t2_c320_in) ⟨at_k277 _, lx_ki _, True.intro⟩ rfl rfl rfl (fun y m3 i3 => ?_)
  obtain ⟨f3, l3⟩ := m3
  refine z321_C (j := 0) ?_
  exact loop 2000 0 _ _ _ rfl i3
/-- bestMode -/
theorem t2_z322 (hall : ∀ c ∈ at_CM ++ at_CA, at_Valid at_XI (pw_P L xs) c) (hg : at_Good at_XI (f, l)) : fl_Tq (pw_P L xs) 322 0 (fl_args (am_mxl (pw_P L xs) 322) [at_this, .inl a]) [] (f, l) (t2_Rst (f, l)) := by
  have c3 : (3 : Int32).toInt = 3 := by decide +kernel
  have c0 : (0 : Int32).toInt = 0 := rfl
  show fl_Tq (pw_P L xs) 322 0 [some (.inr (.inr (.inl (76, 277)))), some (.inl a), none, none, none, none] [] (f, l) _
  have loop : ∀ (d j : Nat) (b c : Int32) (e : Option fl_V) (m1 : fl_M), j + d = 3 → at_Good at_XI m1 → (∀ w : Nat, 2 ≤ w → w < 1420 → m1.1 280 w = f 280 w) → fl_Tq (pw_P L xs) 322 36 [some (.inr (.inr (.inl (76, 277)))), some (.inl a), some (.inl b), some (.inl c), some (.inl (Int32.ofNat j)), none] [] m1 (t2_Rst (f, l)) := by
    intro d
    induction d with
    | zero =>
      intro j b c e m1 hj g1 w1
      have ej : (Int32.ofNat j).toInt = j := at_ofN (by omega)
      obtain ⟨f1, l1⟩ := m1
      exact z322_D (fun h => absurd h (by rw [ej, c3]; omega)) (fun _ => ⟨⟨_, rfl⟩, w1⟩)
    | succ d ih =>
      intro j b c e m1 hj g1 w1
      have ej : (Int32.ofNat j).toInt = j := at_ofN (by omega)
      obtain ⟨f1, l1⟩ := m1
      refine z322_D (fun _ => ?_) (fun _ => ⟨⟨_, rfl⟩, w1⟩)
      refine fl_Tq.cal rfl rfl (fl_bo rfl) rfl ?_
      refine t2_z318 (A := 11) hall g1 (by decide +kernel) (by decide) (by omega) (fun y m2 g2 w2 => ?_)
      obtain ⟨f2, l2⟩ := m2
      have w3 : ∀ w : Nat, 2 ≤ w → w < 1420 → f2 280 w = f 280 w := fun w h1 h2 => (w2 w h1 h2).trans (w1 w h1 h2)
      refine z322_E ?_
      rw [t2_k1]
      exact fl_Tq.fg (ih (j + 1) _ _ none _ (by omega) g2 w3) ⟨rfl, rfl, rfl, rfl, rfl, True.intro⟩
  refine z322_A ?_
  refine fl_Tq.cal rfl rfl (fl_bo rfl) rfl ?_
  refine r_canRun_q ?_
  refine z322_B (fun _ => ⟨⟨_, rfl⟩, fun w _ _ => rfl⟩) (fun _ _ => ⟨⟨_, rfl⟩, fun w _ _ => rfl⟩) (fun _ _ => ?_)
  refine fl_Tq.cal rfl rfl (fl_bo rfl) rfl ?_
  refine t2_z318 (A := 11) hall hg (by decide +kernel) (by decide) (by omega) (fun y m2 g2 w2 => ?_)
  obtain ⟨f2, l2⟩ := m2
  refine z322_C ?_
  exact loop 2 1 _ _ none _ rfl g2 w2
/-- a call of the reference that leaves all as it was -/
def t2_loud (ws : List at_W) : Bool := ws.all (fun w => (Nat.beq w.1 76 || (Nat.beq w.1 81 || Nat.beq w.1 82)) || (Nat.beq w.1 79 && (bif w.2.1 then decide (0 ≤ w.2.2.1) && decide (w.2.2.2 ≤ 60) else decide (2 ≤ w.2.2.1) && decide (w.2.2.2 ≤ 1419))))
theorem t2_Z.loud {ws : List at_W} (Z : t2_Z m) (hg : at_Good at_XI m1) (h : at_MD m m1 ws) (hq : t2_loud ws = true) (hw : ∀ w : Nat, 2 ≤ w → w < 1420 → m1.1 280 w = m.1 280 w) (h7 : m1.1 277 7 = m.1 277 7) : t2_Z m1 := by
  have E : ∀ p : Nat, (p < 181) ∨ (271 ≤ p ∧ p < 275) ∨ p = 281 ∨ 285 ≤ p → m1.1 p = m.1 p := fun p hp => by
    funext j
    apply Classical.byContradiction
    intro hne
    obtain ⟨w, hw1, e, -⟩ := h.2 p j hne
    have hb := List.all_eq_true.mp hq w hw1
    have k0 : ∀ q : Nat, q < 285 → (fk_K q = 76 ∨ fk_K q = 79 ∨ fk_K q = 81 ∨ fk_K q = 82) → 276 < q ∧ q ≠ 281 := by
      intro q hq2 hk
      have H : (List.range 285).all (fun q => !(Nat.beq (fk_K q) 76 || Nat.beq (fk_K q) 79 || Nat.beq (fk_K q) 81 || Nat.beq (fk_K q) 82) || decide (276 < q ∧ q ≠ 281)) = true := by decide +kernel
      have H := List.all_eq_true.mp H q (List.mem_range.mpr hq2)
      rcases hk with h | h | h | h <;> (rw [h] at H; simpa using H)
    have hk : fk_K p = 76 ∨ fk_K p = 79 ∨ fk_K p = 81 ∨ fk_K p = 82 := by
      rw [← e]
      rw [Bool.or_eq_true, Bool.or_eq_true, Bool.or_eq_true, Bool.and_eq_true] at hb
      rcases hb with (h1 | h1 | h1) | ⟨h1, -⟩
      · exact Or.inl (Nat.eq_of_beq_eq_true h1)
      · exact Or.inr (Or.inr (Or.inl (Nat.eq_of_beq_eq_true h1)))
      · exact Or.inr (Or.inr (Or.inr (Nat.eq_of_beq_eq_true h1)))
      · exact Or.inr (Or.inl (Nat.eq_of_beq_eq_true h1))
    by_cases e5 : p < 285
    · have := k0 p e5 hk
      omega
    · obtain ⟨d, r, hr, rfl⟩ : ∃ d r, r < 90 ∧ p = 285 + 90 * d + r := ⟨(p - 285) / 90, (p - 285) % 90, Nat.mod_lt _ (by decide), by omega⟩
      rw [fk_K_hi hr] at hk
      have H : (List.range 90).all (fun r => decide (fk_K1.getD r 0 < 76)) = true := by decide +kernel
      have := of_decide_eq_true (List.all_eq_true.mp H r (List.mem_range.mpr hr))
      omega
  have W0 : ∀ w : Nat, w < 29780 → m1.1 280 w = m.1 280 w := fun w _ => by
    by_cases e : 2 ≤ w ∧ w < 1420
    · exact hw w e.1 e.2
    · apply Classical.byContradiction
      intro hne
      obtain ⟨x, hx, e1, hcv⟩ := h.2 280 w hne
      have hb := List.all_eq_true.mp hq x hx
      rw [e1, fk_K_280] at hb
      have hb : (bif x.2.1 then decide (0 ≤ x.2.2.1) && decide (x.2.2.2 ≤ 60) else decide (2 ≤ x.2.2.1) && decide (x.2.2.2 ≤ 1419)) = true := by simpa using hb
      cases hx2 : x.2.1 with
      | true =>
        rw [hx2] at hb hcv
        simp only [cond_true, Bool.and_eq_true, decide_eq_true_eq] at hb
        rw [if_pos rfl] at hcv
        obtain ⟨o, o1, o2, o3, o4⟩ := hcv
        omega
      | false =>
        rw [hx2] at hb hcv
        simp only [cond_false, Bool.and_eq_true, decide_eq_true_eq] at hb
        rw [if_neg Bool.false_ne_true] at hcv
        omega
  have hh := at_XI.cnt_eq Z.1.2.2 hg.2.2 (fun q hq => E q (by omega))
  refine ⟨hg, ?_⟩
  rw [hh]
  exact Z.2.ext (fun p hp => E p (by omega)) W0 (fun w _ => by rw [E 281 (by decide)]) h7
theorem t2_aside {c2 : at_C} {ar : List fl_V} {mr : Nat} {lo hi : Int} (hv : at_Valid at_XI (pw_P L xs) c2) (e : c2.1 = mr) (Z : t2_Z m) (k2 : at_agk m.2.2 c2.2.1 ar) (l2 : c2.2.2.1 = []) (hr : c2.2.2.2.1 = some (.inr (false, lo, hi))) (hq : t2_loud c2.2.2.2.2.2 = true) (F : fl_Tq (pw_P L xs) mr 0 (fl_args (am_mxl (pw_P L xs) mr) ar) [] m (t2_RP m)) (K : ∀ (x : Int32) (m1 : fl_M), t2_Z m1 → Q (some (.inl x)) m1) : fl_Tq (pw_P L xs) mr 0 (fl_args (am_mxl (pw_P L xs) mr) ar) [] m Q := by
  subst e
  refine fl_Tq.mono (t2_join (hv m ar Z.1 k2 (fun q hq => by rw [l2] at hq; cases hq)) F) ?_
  rintro v m1 ⟨⟨g1, md, hv1⟩, v2, m2, -, e2, ⟨-, w2⟩, p2⟩
  rw [hr] at hv1
  obtain ⟨x, rfl, -⟩ := hv1
  have e280 : m1.1 280 = m2.1 280 := t2_Hi e2 (n := 29780) (z := (0, 0, 0)) (by decide) (by decide +kernel)
  have e277 : m1.1 277 7 = m2.1 277 7 := t2_Hw e2 (by unfold fl_N; omega) (by decide +kernel)
  exact K x m1 (Z.loud g1 md hq (fun w h1 h2 => by rw [e280]; exact w2 w h1 h2) (by rw [e277, p2, Z.2.2.2.2]))
/-- where isPlain isn't written -/
theorem t2_asideR {c2 : at_C} {ar : List fl_V} {mr : Nat} {lo hi : Int} (hv : at_Valid at_XI (pw_P L xs) c2) (e : c2.1 = mr) (Z : t2_Z m) (k2 : at_agk m.2.2 c2.2.1 ar) (l2 : c2.2.2.1 = []) (hr : c2.2.2.2.1 = some (.inr (false, lo, hi))) (hq : t2_loud c2.2.2.2.2.2 = true) (hp : t2_nw c2.2.2.2.2.2 76 7 7 = true) (F : fl_Tq (pw_P L xs) mr 0 (fl_args (am_mxl (pw_P L xs) mr) ar) [] m (t2_Rst m)) (K : ∀ (x : Int32) (m1 : fl_M), t2_Z m1 → Q (some (.inl x)) m1) : fl_Tq (pw_P L xs) mr 0 (fl_args (am_mxl (pw_P L xs) mr) ar) [] m Q := by
  subst e
  refine fl_Tq.mono (t2_join (hv m ar Z.1 k2 (fun q hq => by rw [l2] at hq; cases hq)) F) ?_
  rintro v m1 ⟨⟨g1, md, hv1⟩, v2, m2, -, e2, -, w2⟩
  rw [hr] at hv1
  obtain ⟨x, rfl, -⟩ := hv1
  have e280 : m1.1 280 = m2.1 280 := t2_Hi e2 (n := 29780) (z := (0, 0, 0)) (by decide) (by decide +kernel)
  exact K x m1 (Z.loud g1 md hq (fun w h1 h2 => by rw [e280]; exact w2 w h1 h2) (t2_fr md 7 7 (by decide +kernel) hp (by decide) (by decide)))
end T2MQ9

end

/-! 95.00.lt.lean.txt -/
section
/-! ===== the law: calls with the whole relation ===== -/
section T2LT
variable {L : Nat} {xs : Nat → Int32} {m : fl_M} {f : t2_F} {l : t2_L} {Q : Option fl_V → fl_M → Prop}
theorem lx_callG {pc mj n : Nat} {ins : Instr} {lv : fl_L} {st as_ rest : List fl_V} {R : Option fl_V → fl_M → Prop} (hc : am_code (pw_P L xs) 0 pc = some ins) (hcl : am_cl (pw_P L xs) 0 ins = some (mj, n)) (hrc : fl_rc (pw_P L xs) ins mj n st = true) (hok : ∀ v ∈ st, fl_ok m.2.2 v) (hst : (st.take n).reverse = as_) (hd : st.drop n = rest) (T : fl_Tq (pw_P L xs) mj 0 (fl_args (am_mxl (pw_P L xs) mj) as_) [] m R) (k : ∀ (v : Option fl_V) (m' : fl_M), R v m' → fl_Tq (pw_P L xs) 0 (pc + 3) lv (v.toList ++ rest) m' Q) : fl_Tq (pw_P L xs) 0 pc lv st m Q := by
  refine fl_Tq.cal hc hcl hok hrc ?_
  rw [hst, hd]
  exact fl_Tq.mono T (fun v m' h => k v m' h)
/-- a call that writes nothing of the relation -/
def t2_ZI (v : Option fl_V) (m : fl_M) : Prop := (∃ y, v = some (.inl y)) ∧ t2_Z m
def t2_ZJ (v : Option fl_V) (m : fl_M) : Prop := (∃ y, v = some (.inr (.inl y))) ∧ t2_Z m
theorem t2_qcall {c : at_C} {as_ : List fl_V} {mj : Nat} {lo hi : Int} (hV : at_Valid at_XI (pw_P L xs) c) (e : c.1 = mj) (Z : t2_Z m) (hk : at_agk m.2.2 c.2.1 as_) (hl : c.2.2.1 = []) (hr : c.2.2.2.1 = some (.inr (false, lo, hi))) (hq : t2_quiet c.2.2.2.2.2 = true) : fl_Tq (pw_P L xs) mj 0 (fl_args (am_mxl (pw_P L xs) mj) as_) [] m t2_ZI := by
  subst e
  refine fl_Tq.mono (hV m as_ Z.1 hk (fun q hq => by rw [hl] at hq; cases hq)) (fun v m' ⟨hg', md, hv⟩ => ?_)
  rw [hr] at hv
  obtain ⟨x, rfl, -⟩ := hv
  exact ⟨⟨x, rfl⟩, Z.quiet hg' md hq⟩
theorem t2_qcallJ {c : at_C} {as_ : List fl_V} {mj : Nat} {lo hi : Int} (hV : at_Valid at_XI (pw_P L xs) c) (e : c.1 = mj) (Z : t2_Z m) (hk : at_agk m.2.2 c.2.1 as_) (hl : c.2.2.1 = []) (hr : c.2.2.2.1 = some (.inr (true, lo, hi))) (hq : t2_quiet c.2.2.2.2.2 = true) : fl_Tq (pw_P L xs) mj 0 (fl_args (am_mxl (pw_P L xs) mj) as_) [] m t2_ZJ := by
  subst e
  refine fl_Tq.mono (hV m as_ Z.1 hk (fun q hq => by rw [hl] at hq; cases hq)) (fun v m' ⟨hg', md, hv⟩ => ?_)
  rw [hr] at hv
  obtain ⟨x, rfl, -⟩ := hv
  exact ⟨⟨x, rfl⟩, Z.quiet hg' md hq⟩
theorem t2_acall {c : at_C} {as_ : List fl_V} {mj : Nat} {lo hi : Int} (hV : at_Valid at_XI (pw_P L xs) c) (e : c.1 = mj) (Z : t2_Z m) (hk : at_agk m.2.2 c.2.1 as_) (hl : c.2.2.1 = []) (hr : c.2.2.2.1 = some (.inr (false, lo, hi))) (hq : t2_loud c.2.2.2.2.2 = true) (F : fl_Tq (pw_P L xs) mj 0 (fl_args (am_mxl (pw_P L xs) mj) as_) [] m (t2_RP m)) : fl_Tq (pw_P L xs) mj 0 (fl_args (am_mxl (pw_P L xs) mj) as_) [] m t2_ZI :=
  t2_aside hV e Z hk hl hr hq F (fun x m1 h => ⟨⟨x, rfl⟩, h⟩)
theorem t2_acallR {c : at_C} {as_ : List fl_V} {mj : Nat} {lo hi : Int} (hV : at_Valid at_XI (pw_P L xs) c) (e : c.1 = mj) (Z : t2_Z m) (hk : at_agk m.2.2 c.2.1 as_) (hl : c.2.2.1 = []) (hr : c.2.2.2.1 = some (.inr (false, lo, hi))) (hq : t2_loud c.2.2.2.2.2 = true) (hp : t2_nw c.2.2.2.2.2 76 7 7 = true) (F : fl_Tq (pw_P L xs) mj 0 (fl_args (am_mxl (pw_P L xs) mj) as_) [] m (t2_Rst m)) : fl_Tq (pw_P L xs) mj 0 (fl_args (am_mxl (pw_P L xs) mj) as_) [] m t2_ZI :=
  t2_asideR hV e Z hk hl hr hq hp F (fun x m1 h => ⟨⟨x, rfl⟩, h⟩)
/-- two answers that are the same, of calls that change nothing -/
theorem t2_qq {mc mr : Nat} {ac ar : List fl_V} {y : Int32} (Z : t2_Z (f, l)) (F1 : ∀ Q : Option fl_V → fl_M → Prop, Q (some (.inl y)) (f, l) → fl_Tq (pw_P L xs) mc 0 (fl_args (am_mxl (pw_P L xs) mc) ac) [] (f, l) Q) (F2 : ∀ Q : Option fl_V → fl_M → Prop, Q (some (.inl y)) (f, l) → fl_Tq (pw_P L xs) mr 0 (fl_args (am_mxl (pw_P L xs) mr) ar) [] (f, l) Q) : fl_Tq (pw_P L xs) mc 0 (fl_args (am_mxl (pw_P L xs) mc) ac) [] (f, l) (t2_End L xs mr ar) :=
  F1 _ ⟨⟨y, rfl⟩, F2 _ ⟨rfl, Z⟩⟩
def t2_b01 (x : Int32) : Int32 := if x.toInt = 0 then (0 : Int32) else (1 : Int32)
theorem t2_b01_k (x : Int32) : ∃ y : Int32, (.inl (t2_b01 x) : fl_V) = .inl y ∧ 0 ≤ y.toInt ∧ y.toInt ≤ 1 := ⟨_, rfl, by unfold t2_b01; split <;> decide, by unfold t2_b01; split <;> decide⟩
theorem lx_boolV {pc : Nat} {lv : fl_L} {st : List fl_V} {x : Int32} (h1 : am_code (pw_P L xs) 0 pc = some (.ifCond .eq 7)) (h2 : am_code (pw_P L xs) 0 (pc + 3) = some (.iconst 1)) (h3 : am_code (pw_P L xs) 0 (pc + 4) = some (.goto 4)) (h4 : am_code (pw_P L xs) 0 (pc + 7) = some (.iconst 0)) (hok : ∀ v ∈ (.inl x :: st : List fl_V), fl_ok m.2.2 v) (ht : am_tg pc 7 = some (pc + 7)) (ht2 : am_tg (pc + 4) 4 = some (pc + 8)) (k : fl_Tq (pw_P L xs) 0 (pc + 8) lv (.inl (t2_b01 x) :: st) m Q) : fl_Tq (pw_P L xs) 0 pc lv (.inl x :: st) m Q := by
  have ok : ∀ v ∈ st, fl_ok m.2.2 v := fun v hv => hok v (List.mem_cons_of_mem _ hv)
  have ok1 : ∀ y : Int32, ∀ v ∈ (.inl y :: st : List fl_V), fl_ok m.2.2 v := fun y v hv => by
    rcases List.mem_cons.mp hv with rfl | hv
    · exact True.intro
    · exact ok v hv
  by_cases hx : x.toInt = 0
  · have hb : am_c1 .eq x = true := by rw [at_c1, hx]; rfl
    refine fl_Tq.zt h1 hok hb ht ?_
    refine fl_Tq.stp h4 rfl ok rfl ?_
    have e : t2_b01 x = Int32.ofInt 0 := by unfold t2_b01; rw [if_pos hx]; rfl
    rw [e] at k
    exact k
  · have hb : am_c1 .eq x = false := by rw [at_c1]; exact decide_eq_false hx
    refine fl_Tq.zf h1 hok hb ht ?_
    refine fl_Tq.stp h2 rfl ok rfl ?_
    have e : t2_b01 x = Int32.ofInt 1 := by unfold t2_b01; rw [if_neg hx]; rfl
    rw [e] at k
    refine fl_Tq.stp (pc' := pc + 8) (lv' := lv) (st' := .inl (Int32.ofInt 1) :: st) (m' := m) h3 rfl (ok1 _) ?_ k
    show fl_go (pc + 3 + 1) 4 lv _ m = _
    unfold fl_go
    rw [show pc + 3 + 1 = pc + 4 by omega, ht2]
end T2LT
/-! ===== the relation at the start ===== -/
section T2START
def t2_i0 : t2_F := fun p j => (at_i0 p).getD j 0
theorem t2_m0_w {p : Nat} (hp : p < 285) (h : p ≠ 281) : at_m0.1 p = t2_i0 p := by
  funext j
  show (bl_cp 280 0 281 0 29780 at_m1).1 p j = _
  rw [bl_cp_out (fun e => absurd e h)]
  show (if p < 285 then (at_i0 p).getD j 0 else at_W0 ((p - 285) % 90) j) = _
  rw [if_pos hp]
  rfl
theorem t2_m0_281 {j : Nat} (hj : j < 29780) : at_m0.1 281 j = t2_i0 280 j := by
  show (bl_cp 280 0 281 0 29780 at_m1).1 281 j = _
  rw [bl_cp_in (by omega) (by omega)]
  show (if 280 < 285 then (at_i0 280).getD (j - 0 + 0) 0 else at_W0 ((280 - 285) % 90) j) = _
  rw [if_pos (by decide)]
  rfl
theorem t2_i0_I : c0_I t2_i0 t2_i0 := by
  have z2 : (t2_i0 280 2).toInt = 0 := by decide +kernel
  have z18 : (t2_i0 280 18).toInt = 0 := by decide +kernel
  have z19 : (t2_i0 280 19).toInt = 0 := by decide +kernel
  have z20 : (t2_i0 280 20).toInt = 0 := by decide +kernel
  have z21 : (t2_i0 280 21).toInt = 0 := by decide +kernel
  refine ⟨⟨⟨by decide +kernel, by decide +kernel, by decide +kernel, by decide +kernel⟩, ⟨by decide +kernel, by decide +kernel, by decide +kernel, by decide +kernel⟩, by decide +kernel, by decide +kernel, by decide +kernel, by decide +kernel⟩, ?_, ⟨⟨?_, ⟨by decide +kernel, ?_, ?_⟩, ⟨by decide +kernel, by decide +kernel, fun j hj => by omega⟩, ?_, by decide +kernel, fun j hj => by omega⟩, ⟨⟨by decide +kernel, by decide +kernel, by decide +kernel, by decide +kernel⟩, ?_, ?_, ⟨by decide +kernel, by decide +kernel, by decide +kernel, by decide +kernel, fun i hi => by omega⟩⟩, ⟨by decide +kernel, by decide +kernel, by decide +kernel, by decide +kernel, fun i hi => by omega⟩, ?_⟩, fun C hC => by omega, ?_, ?_, ?_, ⟨by decide +kernel, ?_⟩, ⟨by decide +kernel, ?_, fun k hk => by omega⟩, ⟨by decide +kernel, fun k hk => by omega⟩, by decide +kernel, fun C hC => by omega⟩
  · show ∀ k : Nat, k < 30 → t2_i0 4 k = t2_i0 280 (34 + k)
    decide +kernel
  · show ∀ k : Nat, k < 3 → t2_i0 5 k = t2_i0 280 (64 + k)
    decide +kernel
  · show ∀ k : Nat, k < 12 → t2_i0 7 k = t2_i0 280 (67 + k)
    decide +kernel
  · show ∀ k : Nat, k < 6 → 0 ≤ (t2_i0 280 (67 + 2 * k + 1)).toInt
    decide +kernel
  · show ∀ k : Nat, k < 24 → t2_i0 6 k = t2_i0 280 (315 + k)
    decide +kernel
  · show ∀ j : Nat, j < 11 → t2_i0 11 j = t2_i0 280 (23 + j)
    decide +kernel
  · show ∀ j : Nat, j < 4 → t2_i0 12 j = t2_i0 280 (311 + j)
    decide +kernel
  · intro m hm
    have h : ∀ m : Nat, m < 3 → t2_i0 (82 + 3 * m) 2 = t2_i0 280 (339 + 35 * m + 2) ∧ (t2_i0 280 (339 + 35 * m + 2)).toInt = 0 := by decide +kernel
    obtain ⟨h1, h2⟩ := h m hm
    exact ⟨h1, by omega, fun q => by omega, fun c hc => by omega⟩
  · show ∀ k : Nat, k < 30 → t2_lo k ≤ (t2_i0 280 (34 + k)).toInt ∧ (t2_i0 280 (34 + k)).toInt ≤ t2_hi k
    decide +kernel
  · decide +kernel
  · have h : ∀ k : Nat, k < 3 → t2_i0 280 (64 + k) = 0 := by decide +kernel
    exact fun k hk => Or.inl (h k hk)
  · show ∀ k : Nat, k < 6 → 0 ≤ (t2_i0 280 (67 + 2 * k + 1)).toInt
    decide +kernel
  · show ∀ k : Nat, k < 8 → 0 ≤ (t2_i0 280 ((79 + (5 * k)) + 3)).toInt ∧ (t2_i0 280 ((79 + (5 * k)) + 3)).toInt ≤ 29
    decide +kernel
theorem t2_i0_blk : ∀ o : Nat, o < 90 → at_i0 (91 + o) = at_i0 (1 + o) := by decide +kernel
theorem t2_Z0 : t2_Z at_m0 := by
  have I : c0_I at_m0.1 at_m0.1 := t2_i0_I.ext (fun p _ h => t2_m0_w (by omega) (by omega)) (fun w _ _ => by rw [t2_m0_w (by decide) (by decide)])
  have c0 : (0 : Int32).toInt = 0 := rfl
  have w0 : at_m0.1 280 0 = 0 := by rw [t2_m0_w (by decide) (by decide)]; decide +kernel
  have w1 : at_m0.1 280 1 = 0 := by rw [t2_m0_w (by decide) (by decide)]; decide +kernel
  have v0 : at_m0.1 281 0 = 0 := by rw [t2_m0_281 (by decide)]; decide +kernel
  have v1 : at_m0.1 281 1 = 0 := by rw [t2_m0_281 (by decide)]; decide +kernel
  have h1 : at_m0.1 271 1 = 0 ∧ at_m0.1 271 2 = 0 ∧ at_m0.1 273 1 = 0 ∧ at_m0.1 273 2 = 0 := by
    rw [t2_m0_w (by decide) (by decide), t2_m0_w (by decide) (by decide)]
    decide +kernel
  have hz : ∀ q i : Nat, (q = 272 ∨ q = 274) → i < 20 → at_m0.1 q i = 0 := fun q i hq hi => by
    rw [t2_m0_w (by omega) (by omega)]
    rcases hq with rfl | rfl
    · exact (by decide +kernel : ∀ i : Nat, i < 20 → t2_i0 272 i = 0) i hi
    · exact (by decide +kernel : ∀ i : Nat, i < 20 → t2_i0 274 i = 0) i hi
  refine ⟨at_start, I, ⟨⟨by rw [h1.2.1, w0], by rw [h1.1, c0]; omega, by rw [w0, c0]; omega, by rw [w1, c0]; omega, fun i hi => by rw [w0, c0] at hi; omega⟩, ?_, ⟨by rw [h1.2.2.2, v0], by rw [h1.2.2.1, c0]; omega, by rw [v0, c0]; omega, by rw [v1, c0]; omega, fun i hi => by rw [v0, c0] at hi; omega⟩⟩, fun q q' i i' hq hq' hi hi' h2 _ => absurd (hz q i hq hi) h2, ?_⟩
  · refine c0_I.ext t2_i0_I (fun p h1 h2 => ?_) (fun w h1 h2 => ?_)
    · show at_m0.1 (91 + p - 1) = t2_i0 p
      rw [t2_m0_w (by omega) (by omega)]
      have := t2_i0_blk (p - 1) (by omega)
      rw [show 91 + (p - 1) = 91 + p - 1 by omega, show 1 + (p - 1) = p by omega] at this
      unfold t2_i0
      rw [this]
    · show at_m0.1 281 (0 + w) = t2_i0 280 w
      rw [Nat.zero_add]
      exact t2_m0_281 (by omega)
  · rw [t2_m0_w (by decide) (by decide)]
    decide +kernel
end T2START

end

/-! 95.01.qlem.lean.txt -/
section
/-! ===== what the answers' comparisons share ===== -/
theorem t2_mc {a b m : Int32} {A B M : Nat} (hm : m.toInt = (M : Int)) (hM : M ≤ 100) (hA : a.toInt = (A : Int)) (hB : b.toInt = (B : Int)) (hA1 : A ≤ 100) (hB1 : B ≤ 100) : ((a * m) + b).toInt = ((A * M + B : Nat) : Int) := by
  have h0 : A * M ≤ 100 * 100 := Nat.mul_le_mul hA1 hM
  exact t2_ia (t2_im hA hm (by omega)) hB (by omega)
theorem t2_mr {a b m k : Int32} {A B M K : Nat} (hm : m.toInt = (M : Int)) (hk : k.toInt = (K : Int)) (hM : M ≤ 100) (hK : K ≤ 30000) (hA : a.toInt = (A : Int)) (hB : b.toInt = (B : Int)) (hA1 : A ≤ 100) (hB1 : B ≤ 100) : ((k + (m * a)) + b).toInt = ((K + M * A + B : Nat) : Int) := by
  have h0 : M * A ≤ 100 * 100 := Nat.mul_le_mul hM hA1
  exact t2_ia (t2_ia hk (t2_im hm hA (by omega)) (by omega)) hB (by omega)
theorem t2_nat {a : Int32} (h : 0 ≤ a.toInt) : ∃ A : Nat, a.toInt = (A : Int) := ⟨a.toInt.toNat, by omega⟩
theorem t2_dec {x : Int32} (h : -1000 ≤ x.toInt) : (x - (1 : Int32)).toInt = x.toInt - 1 := by
  have c1 : (1 : Int32).toInt = 1 := by decide +kernel
  have := at_i32 x
  rw [at_sub32 (by omega) (by omega), c1]
section T2QLEM
variable {fc fr : t2_F} {x : Int32}
/-- what the two tell -/
theorem c0_I.tell (h : c0_I fc fr) : c0_tell_v fc x = r_is_v fr x := by
  obtain ⟨⟨⟨g5, g6, g7, g8⟩, ⟨g9, g10, g11, g12⟩, g13, g14, g15, g16⟩, rs, gx, cl, ok⟩ := h
  have n2 := ok.2.1.2.2.1
  have b5 := ok.2.1.1
  have hpk : c0_packAt_v fc (fc 1 9) = r_pack_v fr := by
    have e := c0_pack_eq (fc := fc) (fr := fr) (n := (fr 280 2).toInt.toNat) (fun C hC => ⟨(cl C (by omega)).1, t2_far_ok b5 (ok.2.2.2.2.2.2.2 C (by omega)).2.1⟩)
    unfold c0_packAt_v r_pack_v
    rw [g5, g9, e]
  have ha := c0_actual_eq g7 gx.1.1 ok.2.2.1
  unfold c0_tell_v r_is_v
  rw [g5, g7, g8, hpk, g9, gx.2.1.1.1, g6, g11, g12, g13, g14, g15, g16, ha, gx.1.2.2.2.2.1, gx.1.2.1.1]
end T2QLEM
section T2QLEM2
variable {fc fr : t2_F} {x : Int32}
theorem c0_I.least (h : c0_I fc fr) : c0_leastPart_v fc = r_leastPart_v fr := by
  obtain ⟨n1, n2, n3⟩ := h.cnt
  unfold c0_leastPart_v r_leastPart_v
  rw [show (fc 1 5).toInt.toNat = (fr 280 2).toInt.toNat by rw [h.1.1.1]]
  exact c0_least_eq (fun C hC => (h.cell hC).1.1)
theorem r_least_b (hk : ∀ C : Nat, (C : Int) < (fr 280 2).toInt → t2_ck fr C) : 0 ≤ (r_leastPart_v fr).toInt ∧ (r_leastPart_v fr).toInt ≤ 1000 := by
  have c1000 : (1000 : Int32).toInt = 1000 := by decide +kernel
  have a : ∀ k : Nat, k ≤ (fr 280 2).toInt.toNat → 0 ≤ (r_leastPart_a6 fr k).toInt ∧ (r_leastPart_a6 fr k).toInt ≤ 1000 := by
    intro k
    induction k with
    | zero =>
      intro _
      show 0 ≤ (1000 : Int32).toInt ∧ (1000 : Int32).toInt ≤ 1000
      omega
    | succ k ih =>
      intro hk2
      have i := ih (by omega)
      have p : 0 ≤ (r_partOf_v fr (Int32.ofNat k) k).toInt ∧ (r_partOf_v fr (Int32.ofNat k) k).toInt ≤ 1000 := t2_ckp (hk k (by omega))
      show 0 ≤ (r_lesser_v (r_leastPart_a6 fr k) (r_partOf_v fr (Int32.ofNat k) k)).toInt ∧ (r_lesser_v (r_leastPart_a6 fr k) (r_partOf_v fr (Int32.ofNat k) k)).toInt ≤ 1000
      unfold r_lesser_v
      split
      · exact i
      · exact p
  exact a _ (Nat.le_refl _)
end T2QLEM2
section T2Q64
variable {x y : Int64} {a b : Int32} {fc fr : t2_F} {C : Nat}
theorem t2_ad64 (h1 : -4611686018427387904 ≤ x.toInt ∧ x.toInt ≤ 4611686018427387904) (h2 : -4611686018427387904 ≤ y.toInt ∧ y.toInt < 4611686018427387904) : (x + y).toInt = x.toInt + y.toInt := by
  rw [Int64.toInt_add]
  exact Int.bmod_eq_of_le (by omega) (by omega)
theorem t2_sb64 (h1 : -4611686018427387904 ≤ x.toInt ∧ x.toInt ≤ 4611686018427387904) (h2 : -4611686018427387904 < y.toInt ∧ y.toInt < 4611686018427387904) : (x - y).toInt = x.toInt - y.toInt := by
  rw [Int64.toInt_sub]
  exact Int.bmod_eq_of_le (by omega) (by omega)
theorem t2_nz8 (h : x.toInt ≠ 0) : x ≠ 0 := fun e => h (by rw [e]; rfl)
/-- what both read of a cell -/
theorem c0_I.part (h : c0_I fc fr) (hC : C < (fr 280 2).toInt.toNat) (c : Int32) : fc (18 + 4 * C) 3 = r_partOf_v fr c C := (h.cell hC).1.1.2.1.1
theorem c0_I.chg (h : c0_I fc fr) (hC : C < (fr 280 2).toInt.toNat) : fc (18 + 4 * C) 2 = fr 280 (444 + 61 * C + 1) := (h.cell hC).1.1.1.2.2
theorem c0_I.capa (h : c0_I fc fr) (hC : C < (fr 280 2).toInt.toNat) : fc (18 + 4 * C) 0 = fr 280 (444 + 61 * C + 0) := (h.cell hC).1.1.1.1
theorem c0_I.rst (h : c0_I fc fr) (hC : C < (fr 280 2).toInt.toNat) (c : Int32) : fc (18 + 4 * C) 4 = t2_rb (r_partOf_v fr c C) := (h.cell hC).1.1.2.1.2
theorem c0_I.ck (h : c0_I fc fr) (hC : C < (fr 280 2).toInt.toNat) : t2_ck fr C := h.rhu.2 C (by omega)
theorem t2_36m {c : Int32} (h : t2_cap c) : ((3600 : Int32) * c).toInt = 3600 * c.toInt := by
  have c36 : (3600 : Int32).toInt = 3600 := by decide +kernel
  obtain ⟨h1, h2⟩ := h
  rw [at_mul32 (by rw [c36]; omega) (by rw [c36]; omega), c36]
/-- the charge of a part -/
theorem t2_cha {c : Int32} (hk : t2_ck fr C) (ha : 0 ≤ a.toInt ∧ a.toInt ≤ 1000) : r_chargeAt_v fr c C a = t2_chargeBy_v a (fr 280 (444 + 61 * C + 0)) := by
  unfold r_chargeAt_v
  exact (t2_chg ha hk.1).2.2.2
theorem t2_hour_b (h : ¬ (t2_within_v b (1 : Int32) (99999 : Int32)).toInt = 0) : 1 ≤ b.toInt ∧ b.toInt ≤ 99999 := by
  have c1 : (1 : Int32).toInt = 1 := by decide +kernel
  have c9 : (99999 : Int32).toInt = 99999 := by decide +kernel
  rw [t2_w0, c1, c9, Classical.not_not] at h
  exact h
theorem t2_hour_e (h : 1 ≤ b.toInt ∧ b.toInt ≤ 99999) : ((3600 : Int32) * b).toInt = 3600 * b.toInt ∧ b * (3600 : Int32) = (3600 : Int32) * b := by
  have c36 : (3600 : Int32).toInt = 3600 := by decide +kernel
  exact ⟨by rw [at_mul32 (by rw [c36]; omega) (by rw [c36]; omega), c36], Int32.mul_comm _ _⟩
theorem t2_hour_nz64 (h : ¬ (t2_within_v b (1 : Int32) (99999 : Int32)).toInt = 0) : (b * (3600 : Int32)).toInt64 ≠ 0 := by
  have e := t2_hour_e (t2_hour_b h)
  have := t2_hour_b h
  exact t2_nz64 (by rw [e.2, e.1]; omega)
theorem t2_hour_nz (h : ¬ (r_isIn_v b (1 : Int32) (99999 : Int32)).toInt = 0) : (3600 : Int32) * b ≠ 0 := fun e => by
  have e1 := t2_hour_e (t2_hour_b h)
  have := t2_hour_b h
  rw [e] at e1
  have z : (0 : Int32).toInt = 0 := rfl
  omega
/-- division upward, twice -/
theorem t2_updiv {x y : Int32} (hx : 0 ≤ x.toInt ∧ x.toInt ≤ 100000000) (hy : 1 ≤ y.toInt ∧ y.toInt ≤ 1000000000) : (((x.toInt64 + y.toInt64) - (1 : Int64)) / y.toInt64).toInt32 = x / y + (if 0 < (x - x / y * y).toInt then (1 : Int32) else (0 : Int32)) := by
  have l1 : (1 : Int64).toInt = 1 := by decide +kernel
  have c1 : (1 : Int32).toInt = 1 := by decide +kernel
  have c0 : (0 : Int32).toInt = 0 := rfl
  have a1 : (x.toInt64 + y.toInt64).toInt = x.toInt + y.toInt := by rw [t2_ad64 (by rw [t2_i64]; omega) (by rw [t2_i64]; omega), t2_i64, t2_i64]
  have a2 : ((x.toInt64 + y.toInt64) - (1 : Int64)).toInt = x.toInt + y.toInt - 1 := by rw [t2_sb64 (by omega) (by omega), a1, l1]
  have q0 : 0 ≤ (x.toInt + y.toInt - 1) / y.toInt := Int.ediv_nonneg (by omega) (by omega)
  have q1 : (x.toInt + y.toInt - 1) / y.toInt ≤ x.toInt + y.toInt - 1 := Int.ediv_le_self _ (by omega)
  have a3 : (((x.toInt64 + y.toInt64) - (1 : Int64)) / y.toInt64).toInt = (x.toInt + y.toInt - 1) / y.toInt := by
    rw [Int64.toInt_div, a2, t2_i64, Int.tdiv_eq_ediv_of_nonneg (by omega)]
    exact Int.bmod_eq_of_le (by omega) (by omega)
  have d : (x / y).toInt = x.toInt / y.toInt := at_div32 hx.1 (by omega)
  have p0 : 0 ≤ x.toInt / y.toInt := Int.ediv_nonneg (by omega) (by omega)
  have p1 : x.toInt / y.toInt ≤ x.toInt := Int.ediv_le_self _ hx.1
  have m0 : x.toInt / y.toInt * y.toInt ≤ x.toInt := Int.ediv_mul_le _ (by omega)
  have m1 : x.toInt < (x.toInt / y.toInt + 1) * y.toInt := Int.lt_ediv_add_one_mul_self _ (by omega)
  have m2 : 0 ≤ x.toInt / y.toInt * y.toInt := Int.mul_nonneg p0 (by omega)
  rw [Int.add_mul, Int.one_mul] at m1
  have e1 : (x / y * y).toInt = x.toInt / y.toInt * y.toInt := by rw [at_mul32 (by rw [d]; omega) (by rw [d]; omega), d]
  have e2 : (x - x / y * y).toInt = x.toInt - x.toInt / y.toInt * y.toInt := by rw [at_sub32 (by omega) (by omega), e1]
  refine Int32.toInt.inj ?_
  rw [Int64.toInt_toInt32, a3, Int.bmod_eq_of_le (by omega) (by omega)]
  generalize hq : x.toInt / y.toInt = q at *
  by_cases h : 0 < (x - x / y * y).toInt
  · rw [if_pos h, at_add32 (by omega) (by omega), d, c1]
    refine Int.le_antisymm ?_ ?_
    · refine Int.lt_add_one_iff.mp ((Int.ediv_lt_iff_lt_mul (by omega)).mpr ?_)
      rw [Int.add_mul, Int.add_mul, Int.one_mul]
      omega
    · refine (Int.le_ediv_iff_mul_le (by omega)).mpr ?_
      rw [Int.add_mul, Int.one_mul]
      omega
  · rw [if_neg h, at_add32 (by omega) (by omega), d, c0]
    refine Int.le_antisymm ?_ ?_
    · refine Int.lt_add_one_iff.mp ((Int.ediv_lt_iff_lt_mul (by omega)).mpr ?_)
      rw [Int.add_zero, Int.add_mul, Int.one_mul]
      omega
    · refine (Int.le_ediv_iff_mul_le (by omega)).mpr ?_
      rw [Int.add_zero]
      omega
end T2Q64
theorem t2_cmp0 {x : Int64} : 0 < (lg_cmp x (0 : Int64)).toInt ↔ 0 < x.toInt := by
  have z : (0 : Int64).toInt = 0 := rfl
  have c1 : (1 : Int32).toInt = 1 := by decide +kernel
  have cm : (-1 : Int32).toInt = -1 := by decide +kernel
  have c0 : (0 : Int32).toInt = 0 := rfl
  unfold lg_cmp
  by_cases h : x > 0
  · rw [if_pos h]
    have := Int64.lt_iff_toInt_lt.mp h
    omega
  · rw [if_neg h]
    have hn : ¬ 0 < x.toInt := fun hh => h (Int64.lt_iff_toInt_lt.mpr (by rw [z]; exact hh))
    split <;> omega
theorem t2_nzl {x : Int64} (h : 0 < (lg_cmp x (0 : Int64)).toInt) : x ≠ 0 := t2_nz8 (by have := t2_cmp0.mp h; omega)
theorem t2_flg {x n : Int32} (hc : 0 ≤ n.toInt ∧ n.toInt ≤ 16) : (t2_within_v x (0 : Int32) (n - (2 : Int32))).toInt = 0 ↔ ¬ (0 ≤ x.toInt ∧ x.toInt + 2 ≤ n.toInt) := by
  have c0 : (0 : Int32).toInt = 0 := rfl
  have c2 : (2 : Int32).toInt = 2 := by decide +kernel
  rw [t2_w0, c0, at_sub32 (by omega) (by omega), c2]
  omega
theorem t2_flw {x n : Int32} (hc : 0 ≤ n.toInt ∧ n.toInt ≤ 16) (h : ¬ ((t2_within_v x (0 : Int32) (n - (2 : Int32))).toInt = 0)) : 0 ≤ x.toInt ∧ x.toInt + 2 ≤ n.toInt ∧ x.toInt ≤ 14 := by
  rw [t2_flg hc, Classical.not_not] at h
  omega
theorem t2_fl1 {x n : Int32} {k : Nat} (h : 0 ≤ x.toInt ∧ x.toInt + 2 ≤ n.toInt ∧ x.toInt ≤ 14) (hk : k < x.toInt.toNat + 1) : ¬ (x.toInt < (Int32.ofNat k).toInt) := by
  rw [at_ofN (by omega)]
  omega
theorem t2_fl2 {x n : Int32} (h : 0 ≤ x.toInt ∧ x.toInt + 2 ≤ n.toInt ∧ x.toInt ≤ 14) : x.toInt < (Int32.ofNat (x.toInt.toNat + 1)).toInt := by
  rw [at_ofN (by omega)]
  omega

end

/-! 95.02.cross.lean.txt -/
section
/-! ===== trial as now is ===== -/
section C2CROSS
variable {F G fr : t2_F} {n : Nat}
theorem c2_Rc.of0 {C : Nat} (h : c0_Rc F fr C) (ep : ∀ j : Nat, j < 19 → G (198 + 4 * C) j = F (18 + 4 * C) j) : c2_Rc G fr C := by
  unfold c2_Rc
  rw [ep 0 (by decide), ep 1 (by decide), ep 2 (by decide), ep 3 (by decide), ep 4 (by decide), ep 5 (by decide), ep 6 (by decide), ep 7 (by decide), ep 8 (by decide), ep 9 (by decide), ep 18 (by decide)]
  exact h
theorem c2_I.of0 (h : c0_I F fr) (e : t2_same (fun o => G (181 + o)) (fun o => F (1 + o)) (fr 280 2).toInt.toNat) (h13 : G 193 0 = (24 : Int32)) (h16 : G 196 0 = (32 : Int32)) : c2_I G fr := by
  have cn := h.cnt
  obtain ⟨⟨⟨g5, g6, g7, g8⟩, ⟨g9, g10, g11, g12⟩, g13, g14, g15, g16⟩, rs, ⟨⟨rk, ⟨z1, z2, z3⟩, ⟨u1, u2, u3⟩, pr, pc, pw⟩, ⟨⟨w3, w4, w5, w6⟩, wh, wc, ⟨b1, b2, b3, b4, b5⟩⟩, ⟨t1, t2, t3, t4, t5⟩, gm⟩, cl, ok⟩ := h
  obtain ⟨e1, ⟨⟨e26, e27, e28⟩, e3, e4, e5, e6, e7, e8⟩, ⟨⟨e93, e94, e95, e96⟩, e10, e11, ⟨e122, e123⟩, e13⟩, ⟨⟨e152, e153⟩, e16⟩, ec, em⟩ := e
  have E1 : ∀ w : Nat, 5 ≤ w → w ≤ 16 → G 181 w = F 1 w := e1
  have E26 : G 183 6 = F 3 6 := e26
  have E27 : G 183 7 = F 3 7 := e27
  have E28 : G 183 8 = F 3 8 := e28
  have E3 : ∀ w : Nat, w < 30 → G 184 w = F 4 w := e3
  have E4 : ∀ w : Nat, w < 3 → G 185 w = F 5 w := e4
  have E5 : ∀ w : Nat, w < 24 → G 186 w = F 6 w := e5
  have E6 : ∀ w : Nat, w < 12 → G 187 w = F 7 w := e6
  have E7 : ∀ w : Nat, w < 48 → G 188 w = F 8 w := e7
  have E8 : ∀ w : Nat, w < 40 → G 189 w = F 9 w := e8
  have E93 : G 190 3 = F 10 3 := e93
  have E94 : G 190 4 = F 10 4 := e94
  have E95 : G 190 5 = F 10 5 := e95
  have E96 : G 190 6 = F 10 6 := e96
  have E10 : ∀ w : Nat, w < 11 → G 191 w = F 11 w := e10
  have E11 : ∀ w : Nat, w < 4 → G 192 w = F 12 w := e11
  have E122 : G 193 2 = F 13 2 := e122
  have E123 : G 193 3 = F 13 3 := e123
  have E13 : ∀ w : Nat, w < 72 → G 194 w = F 14 w := e13
  have E152 : G 196 2 = F 16 2 := e152
  have E153 : G 196 3 = F 16 3 := e153
  have E16 : ∀ w : Nat, w < 96 → G 197 w = F 17 w := e16
  have PL : ∀ m a i : Nat, a < m → i < m → t2_pl m a i < m := fun m a i h1 h2 => by
    unfold t2_pl
    split <;> omega
  have n19 := ok.2.2.2.2.2.1.1
  refine ⟨⟨⟨?_, ?_, ?_, ?_⟩, ⟨?_, ?_, ?_, ?_⟩, ?_, ?_, ?_, ?_⟩, fun k hk => by rw [E3 k hk]; exact rs k hk, ⟨⟨fun k hk => by rw [E4 k hk]; exact rk k hk, ⟨by rw [E26]; exact z1, fun k hk => by rw [E6 k hk]; exact z2 k hk, z3⟩, ⟨by rw [E28]; exact u1, u2, fun j hj => by rw [E8 j (by omega)]; exact u3 j hj⟩, fun k hk => by rw [E5 k hk]; exact pr k hk, by rw [E27]; exact pc, fun j hj => by rw [E7 j (by omega)]; exact pw j hj⟩, ⟨⟨by rw [E93]; exact w3, by rw [E94]; exact w4, by rw [E95]; exact w5, by rw [E96]; exact w6⟩, fun j hj => by rw [E10 j hj]; exact wh j hj, fun j hj => by rw [E11 j hj]; exact wc j hj, ⟨h13, by rw [E122]; exact b2, by rw [E123]; exact b3, b4, fun i hi => ?_⟩⟩, ⟨h16, by rw [E152]; exact t2, by rw [E153]; exact t3, t4, fun i hi => ?_⟩, fun m hm => ?_⟩, fun C hC => ?_, ok⟩
  · rw [E1 5 (by decide) (by decide), g5]
  · rw [E1 6 (by decide) (by decide), g6]
  · rw [E1 7 (by decide) (by decide), g7]
  · rw [E1 8 (by decide) (by decide), g8]
  · rw [E1 9 (by decide) (by decide), g9]
  · rw [E1 10 (by decide) (by decide), g10]
  · rw [E1 11 (by decide) (by decide), g11]
  · rw [E1 12 (by decide) (by decide), g12]
  · rw [E1 13 (by decide) (by decide), g13]
  · rw [E1 14 (by decide) (by decide), g14]
  · rw [E1 15 (by decide) (by decide), g15]
  · rw [E1 16 (by decide) (by decide), g16]
  · have p := PL 24 (F 13 2).toInt.toNat i (by omega) (by omega)
    rw [E122, E13 _ (by omega), E13 _ (by omega)]
    exact b5 i hi
  · have p := PL 32 (F 16 2).toInt.toNat i (by omega) (by omega)
    rw [E152, E16 _ (by omega), E16 _ (by omega)]
    exact t5 i hi
  · obtain ⟨m1, m2, m3, m4⟩ := gm m hm
    obtain ⟨⟨f2, f3⟩, f4, f5⟩ := em m hm
    have F2 : G (181 + (81 + 3 * m)) 2 = F (1 + (81 + 3 * m)) 2 := f2
    have F3 : G (181 + (81 + 3 * m)) 3 = F (1 + (81 + 3 * m)) 3 := f3
    have F4 : ∀ w : Nat, w < 16 → G (181 + (81 + 3 * m + 1)) w = F (1 + (81 + 3 * m + 1)) w := f4
    have F5 : ∀ w : Nat, w < 16 → G (181 + (81 + 3 * m + 2)) w = F (1 + (81 + 3 * m + 2)) w := f5
    rw [show 181 + (81 + 3 * m) = 262 + 3 * m by omega, show 1 + (81 + 3 * m) = 82 + 3 * m by omega] at F2 F3
    rw [show 181 + (81 + 3 * m + 1) = 263 + 3 * m by omega, show 1 + (81 + 3 * m + 1) = 83 + 3 * m by omega] at F4
    rw [show 181 + (81 + 3 * m + 2) = 264 + 3 * m by omega, show 1 + (81 + 3 * m + 2) = 84 + 3 * m by omega] at F5
    refine ⟨by rw [F2]; exact m1, m2, fun q => ⟨(m3 q).1, by rw [F3]; exact (m3 q).2⟩, fun c hc => ?_⟩
    rw [F4 c (by omega), F5 c (by omega)]
    exact m4 c hc
  · have hC' : C < (fr 280 2).toInt.toNat := by omega
    obtain ⟨ra, ⟨m1, m2, m3, m4⟩, ⟨d1, d2⟩, rh, ⟨i1, i2, i3, i4⟩⟩ := cl C hC
    obtain ⟨f1, f2, f3, f4⟩ := ec C hC'
    have F1 : ∀ w : Nat, w < 19 → G (181 + (17 + 4 * C)) w = F (1 + (17 + 4 * C)) w := f1
    have F2 : G (181 + (17 + 4 * C + 1)) 2 = F (1 + (17 + 4 * C + 1)) 2 := f2
    have F3 : ∀ w : Nat, w < 32 → G (181 + (17 + 4 * C + 2)) w = F (1 + (17 + 4 * C + 2)) w := f3
    have F4 : ∀ w : Nat, w < 11 → G (181 + (17 + 4 * C + 3)) w = F (1 + (17 + 4 * C + 3)) w := f4
    rw [show 181 + (17 + 4 * C) = 198 + 4 * C by omega, show 1 + (17 + 4 * C) = 18 + 4 * C by omega] at F1
    rw [show 181 + (17 + 4 * C + 1) = 199 + 4 * C by omega, show 1 + (17 + 4 * C + 1) = 19 + 4 * C by omega] at F2
    rw [show 181 + (17 + 4 * C + 2) = 200 + 4 * C by omega, show 1 + (17 + 4 * C + 2) = 20 + 4 * C by omega] at F3
    rw [show 181 + (17 + 4 * C + 3) = 201 + 4 * C by omega, show 1 + (17 + 4 * C + 3) = 21 + 4 * C by omega] at F4
    refine ⟨c2_Rc.of0 ra F1, ⟨?_, ?_, ?_, ?_⟩, ⟨?_, fun q => ?_⟩, ?_, ⟨?_, fun i hi => ?_, fun k hk => ?_, i4⟩⟩
    · rw [F1 14 (by decide), m1]
    · rw [F1 15 (by decide), m2]
    · rw [F1 16 (by decide), m3]
    · rw [F1 17 (by decide), m4]
    · rw [F1 10 (by decide), d1]
    · rw [F1 11 (by decide), d2 q]
    · unfold c2_Rh
      rw [F1 10 (by decide), F1 12 (by decide), F1 13 (by decide)]
      exact rh
    · rw [F2, i1]
    · have := i4.1
      rw [F3 i (by omega)]
      exact i2 i hi
    · rw [F4 k hk]
      exact i3 k hk
end C2CROSS

end

/-! 95.02.f0.lean.txt -/
section
/-! ===== 64: numbers of whole significands; products with powers of two, quotients, differences that are exact ===== -/
section FB64
variable {E F T c d j s : Nat} {e q : Int}
theorem fb_l264 {n m : Nat} (h1 : 2 ^ m ≤ n) (h2 : n < 2 ^ (m + 1)) : n.log2 = m := by
  have h0 : n ≠ 0 := by
    have := Nat.two_pow_pos m
    omega
  exact (Nat.log2_eq_iff h0).mpr ⟨h1, h2⟩
theorem fb_dec64 (h1 : 1 ≤ E) (h2 : E < 2048 - 1) (hT : T < 4503599627370496) : FP.Core.decode FP.Core.b64 (E * 4503599627370496 + T) = .fin false (4503599627370496 + T) (-1074 + ((E : Int) - 1)) := by
  unfold FP.Core.decode FP.Core.fieldE FP.Core.fieldT FP.Core.fieldS
  rw [fp_x64, fp_t64, fp_qn64]
  have a : (E * 4503599627370496 + T) / 4503599627370496 = E := by omega
  have b : (E * 4503599627370496 + T) % 4503599627370496 = T := by omega
  rw [a, b, Nat.mod_eq_of_lt (show E < 2048 by omega), Nat.div_eq_of_lt (show E < 2048 by omega), if_neg (by omega), if_neg (by omega)]
  rfl
theorem fb_d064 : FP.Core.decode FP.Core.b64 0 = .fin false 0 (-1074) := by decide +kernel
theorem fb_enc64 (h1 : 1 ≤ E) (hc : 4503599627370496 ≤ c) (hq : q = -1074 + ((E : Int) - 1)) : FP.Core.encode FP.Core.b64 (.fin false c q) = E * 4503599627370496 + (c - 4503599627370496) := by
  show (if c < FP.Core.b64.tails then FP.Core.assemble FP.Core.b64 false 0 c else FP.Core.assemble FP.Core.b64 false ((q - FP.Core.b64.qmin).toNat + 1) (c - FP.Core.b64.tails)) = _
  unfold FP.Core.assemble
  rw [fp_x64, fp_t64, fp_qn64, if_neg (by omega)]
  have a : (q - (-1074)).toNat + 1 = E := by omega
  rw [a]
  show (0 * 2048 + E) * 4503599627370496 + (c - 4503599627370496) = _
  rw [Nat.zero_mul, Nat.zero_add]
/-- what is settled -/
theorem fb_set64 (hc : c < 2 * 4503599627370496) (hq : q ≤ 971) : FP.Core.settle FP.Core.b64 false c q = .fin false c q := by
  unfold FP.Core.settle FP.Core.bound
  rw [fp_p64, fp_qx64, if_pos (by omega), if_pos hq]
theorem fb_near {a b : Nat} (hb : 0 < b) : FP.Core.nearest (a * b) b = a := by
  unfold FP.Core.nearest
  rw [Nat.mul_mod_left, if_pos (by omega), Nat.mul_div_cancel _ hb]
/-- a significand, moved up by j digits: exact -/
theorem fb_up64 (h1 : 4503599627370496 ≤ c) (h2 : c < 2 * 4503599627370496) (hq1 : -1074 ≤ e + j) (hq2 : e + j ≤ 971) : FP.Core.roundRatio FP.Core.b64 false (c * 2 ^ j) 1 e = .fin false c (e + j) := by
  have hj := Nat.two_pow_pos j
  have n0 : c * 2 ^ j ≠ 0 := Nat.mul_ne_zero (by omega) (by omega)
  have l1 : (c * 2 ^ j).log2 = 52 + j := by
    refine fb_l264 ?_ ?_
    · rw [Nat.pow_add]
      exact Nat.mul_le_mul_right _ (by omega)
    · rw [show 52 + j + 1 = (52 + 1) + j by omega, Nat.pow_add]
      exact Nat.mul_lt_mul_of_pos_right (by omega) hj
  have l2 : (1 : Nat).log2 = 0 := by decide +kernel
  have ld : FP.Core.leading (c * 2 ^ j) 1 = ((52 + j : Nat) : Int) := by
    unfold FP.Core.leading
    rw [l1, l2]
    dsimp only
    rw [if_pos]
    · omega
    · have a1 : (((52 + j : Nat) : Int) - ((0 : Nat) : Int)).toNat = 52 + j := by omega
      have a2 : (-(((52 + j : Nat) : Int) - ((0 : Nat) : Int))).toNat = 0 := by omega
      rw [a1, a2, Nat.one_mul, Nat.pow_zero, Nat.mul_one, Nat.pow_add]
      exact Nat.mul_le_mul_right _ (by omega)
  have qu : FP.Core.quantum FP.Core.b64 (c * 2 ^ j) 1 e = e + j := by
    unfold FP.Core.quantum
    rw [ld, fp_qn64, fp_pi64]
    omega
  unfold FP.Core.roundRatio
  rw [if_neg n0, qu]
  unfold FP.Core.roundAt FP.Core.unitsNum FP.Core.unitsDen
  have b1 : (e - (e + j)).toNat = 0 := by omega
  have b2 : (e + j - e).toNat = j := by omega
  rw [b1, b2, Nat.pow_zero, Nat.mul_one, Nat.one_mul, fb_near hj]
  exact fb_set64 h2 hq2
/-- a number of fewer digits, written with all: exact -/
theorem fb_fill64 {n : Nat} (h1 : 4503599627370496 ≤ n * 2 ^ s) (h2 : n * 2 ^ s < 2 * 4503599627370496) (hq1 : -1074 ≤ e - s) (hq2 : e - s ≤ 971) : FP.Core.roundRatio FP.Core.b64 false n 1 e = .fin false (n * 2 ^ s) (e - s) := by
  have hs := Nat.two_pow_pos s
  have n0 : n ≠ 0 := fun h => by rw [h, Nat.zero_mul] at h1; omega
  have s52 : s ≤ 52 := by
    apply Classical.byContradiction
    intro h
    have a : 2 ^ (52 + 1) ≤ 2 ^ s := Nat.pow_le_pow_right (by decide) (by omega)
    have b : 1 * 2 ^ s ≤ n * 2 ^ s := Nat.mul_le_mul_right _ (by omega)
    omega
  have e2 : 2 ^ (52 - s) * 2 ^ s = 4503599627370496 := by
    rw [← Nat.pow_add, show 52 - s + s = 52 by omega]
  have l1 : n.log2 = 52 - s := by
    refine fb_l264 ?_ ?_
    · exact Nat.le_of_mul_le_mul_right (by rw [e2]; exact h1) hs
    · refine Nat.lt_of_mul_lt_mul_right (a := 2 ^ s) ?_
      rw [Nat.pow_succ, Nat.mul_right_comm, e2]
      omega
  have l2 : (1 : Nat).log2 = 0 := by decide +kernel
  have ld : FP.Core.leading n 1 = ((52 - s : Nat) : Int) := by
    unfold FP.Core.leading
    rw [l1, l2]
    dsimp only
    rw [if_pos]
    · omega
    · have a1 : (((52 - s : Nat) : Int) - ((0 : Nat) : Int)).toNat = 52 - s := by omega
      have a2 : (-(((52 - s : Nat) : Int) - ((0 : Nat) : Int))).toNat = 0 := by omega
      rw [a1, a2, Nat.one_mul, Nat.pow_zero, Nat.mul_one]
      exact Nat.le_of_mul_le_mul_right (by rw [e2]; exact h1) hs
  have qu : FP.Core.quantum FP.Core.b64 n 1 e = e - s := by
    unfold FP.Core.quantum
    rw [ld, fp_qn64, fp_pi64]
    omega
  unfold FP.Core.roundRatio
  rw [if_neg n0, qu]
  unfold FP.Core.roundAt FP.Core.unitsNum FP.Core.unitsDen
  have b1 : (e - (e - s)).toNat = s := by omega
  have b2 : (e - s - e).toNat = 0 := by omega
  rw [b1, b2, Nat.pow_zero, Nat.mul_one]
  have nn : FP.Core.nearest (n * 2 ^ s) 1 = n * 2 ^ s := by
    have := fb_near (a := n * 2 ^ s) (b := 1) (by decide)
    rw [Nat.mul_one] at this
    exact this
  rw [nn]
  exact fb_set64 h2 hq2
/-- every number has such an s -/
theorem fb_ex64 {n : Nat} (h0 : n ≠ 0) (h : n < 2 * 4503599627370496) : ∃ s, s ≤ 52 ∧ 4503599627370496 ≤ n * 2 ^ s ∧ n * 2 ^ s < 2 * 4503599627370496 ∧ n.log2 + s = 52 := by
  have a := Nat.log2_self_le h0
  have b := @Nat.lt_log2_self n
  have l : n.log2 ≤ 52 := by
    apply Classical.byContradiction
    intro hl
    have : 2 ^ (52 + 1) ≤ 2 ^ n.log2 := Nat.pow_le_pow_right (by decide) (by omega)
    omega
  refine ⟨52 - n.log2, by omega, ?_, ?_, by omega⟩
  · have e : 2 ^ n.log2 * 2 ^ (52 - n.log2) = 4503599627370496 := by rw [← Nat.pow_add, show n.log2 + (52 - n.log2) = 52 by omega]
    have := Nat.mul_le_mul_right (2 ^ (52 - n.log2)) a
    omega
  · have e : 2 ^ (n.log2 + 1) * 2 ^ (52 - n.log2) = 2 * 4503599627370496 := by rw [← Nat.pow_add, show n.log2 + 1 + (52 - n.log2) = 52 + 1 by omega]
    have := Nat.mul_lt_mul_of_pos_right b (Nat.two_pow_pos (52 - n.log2))
    omega
/-- times a power of two -/
theorem fb_mul64 (h1 : 1 ≤ E) (h2 : E < 2048 - 1) (hT : T < 4503599627370496) (f1 : 1 ≤ F) (f2 : F < 2048 - 1) (g1 : 1023 + 1 ≤ E + F) (g2 : E + F < 1023 + 2048 - 1) : FP.Core.mul FP.Core.b64 (E * 4503599627370496 + T) (F * 4503599627370496) = (E + F - 1023) * 4503599627370496 + T := by
  unfold FP.Core.mul
  have d2 := fb_dec64 (T := 0) f1 f2 (by decide)
  rw [Nat.add_zero] at d2
  rw [fb_dec64 h1 h2 hT, d2]
  show FP.Core.encode _ (FP.Core.roundRatio FP.Core.b64 (false != false) ((4503599627370496 + T) * (4503599627370496 + 0)) 1 _) = _
  have := fb_up64 (c := 4503599627370496 + T) (j := 52) (e := (-1074 + ((E : Int) - 1)) + (-1074 + ((F : Int) - 1))) (by omega) (by omega) (by omega) (by omega)
  rw [show (4503599627370496 + 0) = 2 ^ 52 from by decide]
  show FP.Core.encode _ (FP.Core.roundRatio FP.Core.b64 false ((4503599627370496 + T) * 2 ^ 52) 1 ((-1074 + ((E : Int) - 1)) + (-1074 + ((F : Int) - 1)))) = _
  rw [this, fb_enc64 (E := E + F - 1023) (by omega) (by omega) (by omega)]
  omega
theorem fb_mul064 (f1 : 1 ≤ F) (f2 : F < 2048 - 1) : FP.Core.mul FP.Core.b64 0 (F * 4503599627370496) = 0 := by
  unfold FP.Core.mul
  have d2 := fb_dec64 (T := 0) f1 f2 (by decide)
  rw [Nat.add_zero] at d2
  rw [fb_d064, d2]
  show FP.Core.encode FP.Core.b64 (FP.Core.roundRatio FP.Core.b64 (false != false) (0 * (4503599627370496 + 0)) 1 _) = _
  rw [Nat.zero_mul]
  unfold FP.Core.roundRatio
  rw [if_pos rfl, fp_qn64]
  decide +kernel
/-- less one: what stands behind the point -/
theorem fb_sub164 (hT : T < 4503599627370496) : FP.Core.sub FP.Core.b64 (1023 * 4503599627370496 + T) (1023 * 4503599627370496) = FP.Core.encode FP.Core.b64 (FP.Core.roundRatio FP.Core.b64 false T 1 (-52)) := by
  unfold FP.Core.sub
  have d2 := fb_dec64 (E := 1023) (T := 0) (by decide) (by decide) (by decide)
  rw [Nat.add_zero] at d2
  rw [fb_dec64 (by decide) (by decide) hT, d2]
  have ee : (-1074 + (((1023 : Nat) : Int) - 1)) = (-52 : Int) := by decide
  rw [ee]
  have su : FP.Core.sumUnits false (4503599627370496 + T) (-52) (!false) (4503599627370496 + 0) (-52) (min (-52) (-52)) = (T : Int) := by
    unfold FP.Core.sumUnits FP.Core.inUnits FP.Core.signed
    have z : ((-52 : Int) - min (-52) (-52)).toNat = 0 := by decide
    rw [z, Nat.pow_zero, Nat.mul_one, Nat.mul_one]
    show ((4503599627370496 + T : Nat) : Int) + -((4503599627370496 + 0 : Nat) : Int) = T
    omega
  show FP.Core.encode _ (FP.Core.roundRatio FP.Core.b64 (FP.Core.sumSign false (!false) (FP.Core.sumUnits false (4503599627370496 + T) (-52) (!false) (4503599627370496 + 0) (-52) (min (-52) (-52)))) (FP.Core.sumUnits false (4503599627370496 + T) (-52) (!false) (4503599627370496 + 0) (-52) (min (-52) (-52))).natAbs 1 (min (-52) (-52))) = _
  rw [su]
  have sg : FP.Core.sumSign false (!false) (T : Int) = false := by
    unfold FP.Core.sumSign
    split
    · rfl
    · exact decide_eq_false (by omega)
  rw [sg]
  rfl
/-- that, as a whole number -/
theorem fb_frac64 (hT : T < 4503599627370496) : FP.Core.mul FP.Core.b64 (FP.Core.sub FP.Core.b64 (1023 * 4503599627370496 + T) (1023 * 4503599627370496)) (1075 * 4503599627370496) = FP.Core.fromInt FP.Core.b64 (T : Int) := by
  rw [fb_sub164 hT]
  unfold FP.Core.fromInt FP.Core.ofInt
  have si : decide ((T : Int) < 0) = false := decide_eq_false (by omega)
  rw [si]
  show _ = FP.Core.encode _ (FP.Core.roundRatio FP.Core.b64 false (T : Int).natAbs 1 0)
  rw [Int.natAbs_natCast]
  by_cases h0 : T = 0
  · subst h0
    have z : FP.Core.encode FP.Core.b64 (FP.Core.roundRatio FP.Core.b64 false 0 1 (-52)) = 0 := by decide +kernel
    rw [z, fb_mul064 (by decide) (by decide)]
    decide +kernel
  · obtain ⟨s, s1, s2, s3, -⟩ := fb_ex64 h0 (by omega)
    rw [fb_fill64 s2 s3 (by omega) (by omega), fb_fill64 s2 s3 (by omega) (by omega)]
    rw [fb_enc64 (E := 1023 - s) (by omega) s2 (by omega), fb_enc64 (E := 1075 - s) (by omega) s2 (by omega)]
    rw [fb_mul64 (by omega) (by omega) (by omega) (by decide) (by decide) (by omega) (by omega)]
    rw [show 1023 - s + 1075 - 1023 = 1075 - s by omega]
/-- whole numbers there and back -/
theorem fb_int64 (h0 : T ≠ 0) (hT : T < 2 * 4503599627370496) : ∃ s, s ≤ 52 ∧ 4503599627370496 ≤ T * 2 ^ s ∧ T * 2 ^ s < 2 * 4503599627370496 ∧ T.log2 + s = 52 ∧ FP.Core.fromInt FP.Core.b64 (T : Int) = (1075 - s) * 4503599627370496 + (T * 2 ^ s - 4503599627370496) := by
  obtain ⟨s, s1, s2, s3, s4⟩ := fb_ex64 h0 hT
  refine ⟨s, s1, s2, s3, s4, ?_⟩
  unfold FP.Core.fromInt FP.Core.ofInt
  have si : decide ((T : Int) < 0) = false := decide_eq_false (by omega)
  rw [si]
  show FP.Core.encode _ (FP.Core.roundRatio FP.Core.b64 false (T : Int).natAbs 1 0) = _
  rw [Int.natAbs_natCast, fb_fill64 s2 s3 (by omega) (by omega), fb_enc64 (E := 1075 - s) (by omega) s2 (by omega)]
theorem fb_toint64 {lo hi : Int} (hT : T < 2 * 4503599627370496) (hl : lo ≤ 0) (hh : (T : Int) ≤ hi) : FP.Core.toInt lo hi (FP.Core.decode FP.Core.b64 (FP.Core.fromInt FP.Core.b64 (T : Int))) = T := by
  by_cases h0 : T = 0
  · subst h0
    have z : FP.Core.fromInt FP.Core.b64 ((0 : Nat) : Int) = 0 := by decide +kernel
    rw [z, fb_d064]
    show max lo (min hi (FP.Core.truncate false 0 (-1074))) = _
    have : FP.Core.truncate false 0 (-1074) = 0 := by
      unfold FP.Core.truncate FP.Core.signed
      rw [Nat.zero_mul, Nat.zero_div]
      rfl
    rw [this]
    omega
  · obtain ⟨s, s1, s2, s3, -, e⟩ := fb_int64 h0 hT
    rw [e, fb_dec64 (by omega) (by omega) (by omega)]
    show max lo (min hi (FP.Core.truncate false (4503599627370496 + (T * 2 ^ s - 4503599627370496)) (-1074 + (((1075 - s : Nat) : Int) - 1)))) = _
    have tr : FP.Core.truncate false (4503599627370496 + (T * 2 ^ s - 4503599627370496)) (-1074 + (((1075 - s : Nat) : Int) - 1)) = T := by
      unfold FP.Core.truncate FP.Core.signed
      have a1 : (-1074 + (((1075 - s : Nat) : Int) - 1)).toNat = 0 := by omega
      have a2 : (-(-1074 + (((1075 - s : Nat) : Int) - 1))).toNat = s := by omega
      rw [a1, a2, Nat.pow_zero, Nat.mul_one, show 4503599627370496 + (T * 2 ^ s - 4503599627370496) = T * 2 ^ s by omega, Nat.mul_div_cancel _ (Nat.two_pow_pos s)]
      rfl
    rw [tr]
    omega
/-- the order of such numbers -/
theorem fb_cmp64 (h1 : 1 ≤ E) (h2 : E < 2048 - 1) (hT : T < 4503599627370496) (f1 : 1 ≤ F) (f2 : F < 2048 - 1) : (E < F → FP.Core.cmp FP.Core.b64 (E * 4503599627370496 + T) (F * 4503599627370496) = some .lt) ∧ (F ≤ E → FP.Core.cmp FP.Core.b64 (E * 4503599627370496 + T) (F * 4503599627370496) = some .eq ∨ FP.Core.cmp FP.Core.b64 (E * 4503599627370496 + T) (F * 4503599627370496) = some .gt) := by
  have d2 := fb_dec64 (T := 0) f1 f2 (by decide)
  rw [Nat.add_zero, Nat.add_zero] at d2
  unfold FP.Core.cmp
  rw [fb_dec64 h1 h2 hT, d2]
  show (E < F → some (compare (FP.Core.signed false (FP.Core.inUnits (4503599627370496 + T) (-1074 + ((E : Int) - 1)) (min (-1074 + ((E : Int) - 1)) (-1074 + ((F : Int) - 1))))) (FP.Core.signed false (FP.Core.inUnits 4503599627370496 (-1074 + ((F : Int) - 1)) (min (-1074 + ((E : Int) - 1)) (-1074 + ((F : Int) - 1)))))) = some .lt) ∧ (F ≤ E → some (compare (FP.Core.signed false (FP.Core.inUnits (4503599627370496 + T) (-1074 + ((E : Int) - 1)) (min (-1074 + ((E : Int) - 1)) (-1074 + ((F : Int) - 1))))) (FP.Core.signed false (FP.Core.inUnits 4503599627370496 (-1074 + ((F : Int) - 1)) (min (-1074 + ((E : Int) - 1)) (-1074 + ((F : Int) - 1)))))) = some .eq ∨ some (compare (FP.Core.signed false (FP.Core.inUnits (4503599627370496 + T) (-1074 + ((E : Int) - 1)) (min (-1074 + ((E : Int) - 1)) (-1074 + ((F : Int) - 1))))) (FP.Core.signed false (FP.Core.inUnits 4503599627370496 (-1074 + ((F : Int) - 1)) (min (-1074 + ((E : Int) - 1)) (-1074 + ((F : Int) - 1)))))) = some .gt)
  unfold FP.Core.inUnits FP.Core.signed
  refine ⟨fun h => ?_, fun h => ?_⟩
  · have a1 : (-1074 + ((E : Int) - 1) - min (-1074 + ((E : Int) - 1)) (-1074 + ((F : Int) - 1))).toNat = 0 := by omega
    have a2 : (-1074 + ((F : Int) - 1) - min (-1074 + ((E : Int) - 1)) (-1074 + ((F : Int) - 1))).toNat = (F - E - 1) + 1 := by omega
    have b := Nat.two_pow_pos (F - E - 1)
    have lt : (4503599627370496 + T) * 2 ^ 0 < 4503599627370496 * 2 ^ ((F - E - 1) + 1) := by
      rw [Nat.pow_zero, Nat.mul_one, Nat.pow_succ]
      have : 4503599627370496 * 1 ≤ 4503599627370496 * 2 ^ (F - E - 1) := Nat.mul_le_mul_left _ b
      omega
    rw [a1, a2]
    show some (compareOfLessAndEq _ _) = _
    unfold compareOfLessAndEq
    rw [if_pos (by simp only [Bool.false_eq_true, if_false]; omega)]
  · have a1 : (-1074 + ((E : Int) - 1) - min (-1074 + ((E : Int) - 1)) (-1074 + ((F : Int) - 1))).toNat = E - F := by omega
    have a2 : (-1074 + ((F : Int) - 1) - min (-1074 + ((E : Int) - 1)) (-1074 + ((F : Int) - 1))).toNat = 0 := by omega
    have b := Nat.two_pow_pos (E - F)
    have le : 4503599627370496 * 2 ^ 0 ≤ (4503599627370496 + T) * 2 ^ (E - F) := by
      rw [Nat.pow_zero, Nat.mul_one]
      have : (4503599627370496 + T) * 1 ≤ (4503599627370496 + T) * 2 ^ (E - F) := Nat.mul_le_mul_left _ b
      omega
    rw [a1, a2]
    simp only [Bool.false_eq_true, if_false]
    show some (compareOfLessAndEq _ _) = _ ∨ some (compareOfLessAndEq _ _) = _
    unfold compareOfLessAndEq
    rw [if_neg (by omega)]
    by_cases e : (((4503599627370496 + T) * 2 ^ (E - F) : Nat) : Int) = ((4503599627370496 * 2 ^ 0 : Nat) : Int)
    · rw [if_pos e]
      exact Or.inl rfl
    · rw [if_neg e]
      exact Or.inr rfl
/-- above nothing -/
theorem fb_pos64 (h1 : 1 ≤ E) (h2 : E < 2048 - 1) (hT : T < 4503599627370496) : FP.Core.cmp FP.Core.b64 (E * 4503599627370496 + T) 0 = some .gt := by
  unfold FP.Core.cmp
  rw [fb_dec64 h1 h2 hT, fb_d064]
  show some (compareOfLessAndEq (((4503599627370496 + T) * 2 ^ (-1074 + ((E : Int) - 1) - min (-1074 + ((E : Int) - 1)) (-1074)).toNat : Nat) : Int) ((0 * 2 ^ ((-1074 : Int) - min (-1074 + ((E : Int) - 1)) (-1074)).toNat : Nat) : Int)) = _
  have b := Nat.two_pow_pos (-1074 + ((E : Int) - 1) - min (-1074 + ((E : Int) - 1)) (-1074)).toNat
  have : (4503599627370496 + T) * 1 ≤ (4503599627370496 + T) * 2 ^ (-1074 + ((E : Int) - 1) - min (-1074 + ((E : Int) - 1)) (-1074)).toNat := Nat.mul_le_mul_left _ b
  rw [Nat.zero_mul]
  unfold compareOfLessAndEq
  rw [if_neg (by omega), if_neg (by omega)]
theorem fb_zero64 : FP.Core.cmp FP.Core.b64 0 0 = some .eq := by decide +kernel
/-- by a power of two -/
theorem fb_half64 (h1 : 1 ≤ E) (h2 : E < 2048 - 1) (hT : T < 4503599627370496) (f1 : 1 ≤ F) (f2 : F < 2048 - 1) (g1 : F < E + 1023) (g2 : E + 1023 < F + 2048 - 1) : FP.Core.div FP.Core.b64 (E * 4503599627370496 + T) (F * 4503599627370496) = (E + 1023 - F) * 4503599627370496 + T := by
  unfold FP.Core.div
  have d2 := fb_dec64 (T := 0) f1 f2 (by decide)
  rw [Nat.add_zero, Nat.add_zero] at d2
  rw [fb_dec64 h1 h2 hT, d2]
  show FP.Core.encode FP.Core.b64 (if 4503599627370496 = 0 then (if 4503599627370496 + T = 0 then .nan else .inf (false != false)) else FP.Core.roundRatio FP.Core.b64 (false != false) (4503599627370496 + T) 4503599627370496 ((-1074 + ((E : Int) - 1)) - (-1074 + ((F : Int) - 1)))) = _
  rw [if_neg (by decide)]
  have lt : (4503599627370496 + T).log2 = 52 := fb_l264 (by omega) (by omega)
  have l2 : (4503599627370496 : Nat).log2 = 52 := by decide +kernel
  have ld : FP.Core.leading (4503599627370496 + T) 4503599627370496 = 0 := by
    unfold FP.Core.leading
    rw [lt, l2]
    dsimp only
    rw [Int.sub_self, if_pos]
    show 4503599627370496 * 2 ^ 0 ≤ (4503599627370496 + T) * 2 ^ 0
    omega
  unfold FP.Core.roundRatio
  rw [if_neg (by omega)]
  have qu : FP.Core.quantum FP.Core.b64 (4503599627370496 + T) 4503599627370496 (-1074 + ((E : Int) - 1) - (-1074 + ((F : Int) - 1))) = (E : Int) - F - 52 := by
    unfold FP.Core.quantum
    rw [ld, fp_qn64, fp_pi64]
    omega
  rw [qu]
  unfold FP.Core.roundAt FP.Core.unitsNum FP.Core.unitsDen
  have b1 : (-1074 + ((E : Int) - 1) - (-1074 + ((F : Int) - 1)) - ((E : Int) - F - 52)).toNat = 52 := by omega
  have b2 : ((E : Int) - F - 52 - (-1074 + ((E : Int) - 1) - (-1074 + ((F : Int) - 1)))).toNat = 0 := by omega
  rw [b1, b2, Nat.pow_zero, Nat.mul_one, show (2 ^ 52 : Nat) = 4503599627370496 from by decide, fb_near (by decide)]
  show FP.Core.encode _ (FP.Core.settle FP.Core.b64 false (4503599627370496 + T) _) = _
  rw [fb_set64 (by omega) (by omega), fb_enc64 (E := E + 1023 - F) (by omega) (by omega) (by omega)]
  omega
/-- a quotient of such numbers that is at most one -/
theorem fb_quo64 (h1 : 1 ≤ E) (h2 : E < 2048 - 1) (hT : T < 4503599627370496) (f1 : 1 ≤ F) (f2 : F < 2048 - 1) (hd : d < 4503599627370496) (g1 : F + 1 < E + 1023) (g2 : E + 1023 + 1 < F + 2048 - 1) : ∃ G U, U < 4503599627370496 ∧ FP.Core.div FP.Core.b64 (E * 4503599627370496 + T) (F * 4503599627370496 + d) = G * 4503599627370496 + U ∧ E + 1023 - 1 ≤ G + F ∧ G + F ≤ E + 1023 + 1 ∧ (G + F = E + 1023 + 1 → U = 0) ∧ (T < d → G + F ≤ E + 1023 ∧ (G + F = E + 1023 → U = 0)) := by
  unfold FP.Core.div
  rw [fb_dec64 h1 h2 hT, fb_dec64 f1 f2 hd]
  show ∃ G U, U < 4503599627370496 ∧ FP.Core.encode FP.Core.b64 (if 4503599627370496 + d = 0 then (if 4503599627370496 + T = 0 then .nan else .inf (false != false)) else FP.Core.roundRatio FP.Core.b64 (false != false) (4503599627370496 + T) (4503599627370496 + d) ((-1074 + ((E : Int) - 1)) - (-1074 + ((F : Int) - 1)))) = G * 4503599627370496 + U ∧ _
  rw [if_neg (by omega)]
  have lt : (4503599627370496 + T).log2 = 52 := fb_l264 (by omega) (by omega)
  have l2 : (4503599627370496 + d).log2 = 52 := fb_l264 (by omega) (by omega)
  have ld : FP.Core.leading (4503599627370496 + T) (4503599627370496 + d) = if T < d then -1 else 0 := by
    unfold FP.Core.leading
    rw [lt, l2]
    dsimp only
    rw [Int.sub_self]
    show (if (4503599627370496 + d) * 2 ^ 0 ≤ (4503599627370496 + T) * 2 ^ 0 then (0 : Int) else 0 - 1) = _
    by_cases h : T < d
    · rw [if_pos h, if_neg (by omega)]
      rfl
    · rw [if_neg h, if_pos (by omega)]
  -- with the last digit at exponent q
  have key : ∀ (k : Nat) (num den : Nat), 0 < den → 4503599627370496 * den ≤ num → num < 2 * 4503599627370496 * den → 1 ≤ k → k < 2048 - 2 → ∃ G U, U < 4503599627370496 ∧ FP.Core.encode FP.Core.b64 (FP.Core.settle FP.Core.b64 false (FP.Core.nearest num den) (-1074 + ((k : Int) - 1))) = G * 4503599627370496 + U ∧ (G = k ∨ (G = k + 1 ∧ U = 0)) := by
    intro k num den hd0 n1 n2 k1 k2
    have c1 : 4503599627370496 ≤ num / den := (Nat.le_div_iff_mul_le hd0).mpr n1
    have c2 : num / den < 2 * 4503599627370496 := (Nat.div_lt_iff_lt_mul hd0).mpr n2
    have cn : 4503599627370496 ≤ FP.Core.nearest num den ∧ FP.Core.nearest num den ≤ 2 * 4503599627370496 := by
      unfold FP.Core.nearest
      repeat' split
      all_goals omega
    by_cases e : FP.Core.nearest num den < 2 * 4503599627370496
    · refine ⟨k, FP.Core.nearest num den - 4503599627370496, by omega, ?_, Or.inl rfl⟩
      rw [fb_set64 e (by omega), fb_enc64 (E := k) k1 cn.1 (by omega)]
    · refine ⟨k + 1, 0, by decide, ?_, Or.inr ⟨rfl, rfl⟩⟩
      have e2 : FP.Core.nearest num den = 2 * 4503599627370496 := by omega
      unfold FP.Core.settle FP.Core.bound
      rw [e2, fp_p64, fp_qx64, fp_t64, if_neg (by decide), if_pos (by omega), fb_enc64 (E := k + 1) (by omega) (by decide) (by omega)]
  unfold FP.Core.roundRatio
  rw [if_neg (by omega)]
  unfold FP.Core.roundAt FP.Core.quantum
  rw [ld, fp_qn64, fp_pi64]
  show ∃ G U, U < 4503599627370496 ∧ FP.Core.encode _ (FP.Core.settle FP.Core.b64 false _ _) = G * 4503599627370496 + U ∧ _
  unfold FP.Core.unitsNum FP.Core.unitsDen
  by_cases h : T < d
  · rw [if_pos h]
    have q : max (-1074) (-1 + (-1074 + ((E : Int) - 1) - (-1074 + ((F : Int) - 1))) - 52) = -1074 + (((E + 1023 - F - 1 : Nat) : Int) - 1) := by omega
    rw [q]
    have b1 : (-1074 + ((E : Int) - 1) - (-1074 + ((F : Int) - 1)) - (-1074 + (((E + 1023 - F - 1 : Nat) : Int) - 1))).toNat = 52 + 1 := by omega
    have b2 : (-1074 + (((E + 1023 - F - 1 : Nat) : Int) - 1) - (-1074 + ((E : Int) - 1) - (-1074 + ((F : Int) - 1)))).toNat = 0 := by omega
    rw [b1, b2, Nat.pow_zero, Nat.mul_one, show (2 ^ (52 + 1) : Nat) = 2 * 4503599627370496 from by decide]
    obtain ⟨G, U, u, e, r⟩ := key (E + 1023 - F - 1) ((4503599627370496 + T) * (2 * 4503599627370496)) (4503599627370496 + d) (by omega) (by
      rw [Nat.mul_comm (4503599627370496 + T), Nat.mul_comm 2, Nat.mul_assoc]
      exact Nat.mul_le_mul_left _ (by omega)) (by
      rw [Nat.mul_comm (4503599627370496 + T)]
      exact Nat.mul_lt_mul_of_pos_left (by omega) (by decide)) (by omega) (by omega)
    refine ⟨G, U, u, e, ?_⟩
    rcases r with rfl | ⟨rfl, rfl⟩ <;> refine ⟨by omega, by omega, fun _ => by omega, fun _ => ⟨by omega, fun _ => by omega⟩⟩
  · rw [if_neg h]
    have q : max (-1074) (0 + (-1074 + ((E : Int) - 1) - (-1074 + ((F : Int) - 1))) - 52) = -1074 + (((E + 1023 - F : Nat) : Int) - 1) := by omega
    rw [q]
    have b1 : (-1074 + ((E : Int) - 1) - (-1074 + ((F : Int) - 1)) - (-1074 + (((E + 1023 - F : Nat) : Int) - 1))).toNat = 52 := by omega
    have b2 : (-1074 + (((E + 1023 - F : Nat) : Int) - 1) - (-1074 + ((E : Int) - 1) - (-1074 + ((F : Int) - 1)))).toNat = 0 := by omega
    rw [b1, b2, Nat.pow_zero, Nat.mul_one, show (2 ^ 52 : Nat) = 4503599627370496 from by decide]
    obtain ⟨G, U, u, e, r⟩ := key (E + 1023 - F) ((4503599627370496 + T) * 4503599627370496) (4503599627370496 + d) (by omega) (by
      rw [Nat.mul_comm (4503599627370496 + T)]
      exact Nat.mul_le_mul_left _ (by omega)) (by
      rw [Nat.mul_comm (4503599627370496 + T), Nat.mul_comm 2, Nat.mul_assoc]
      exact Nat.mul_lt_mul_of_pos_left (by omega) (by decide)) (by omega) (by omega)
    refine ⟨G, U, u, e, ?_⟩
    rcases r with rfl | ⟨rfl, rfl⟩ <;> refine ⟨by omega, by omega, fun _ => by first | rfl | omega, fun hh => absurd hh h⟩
/-- a number by itself -/
theorem fb_one64 (h1 : 1 ≤ E) (h2 : E < 2048 - 1) (hT : T < 4503599627370496) : FP.Core.div FP.Core.b64 (E * 4503599627370496 + T) (E * 4503599627370496 + T) = 1023 * 4503599627370496 := by
  unfold FP.Core.div
  rw [fb_dec64 h1 h2 hT]
  show FP.Core.encode FP.Core.b64 (if 4503599627370496 + T = 0 then (if 4503599627370496 + T = 0 then .nan else .inf (false != false)) else FP.Core.roundRatio FP.Core.b64 (false != false) (4503599627370496 + T) (4503599627370496 + T) ((-1074 + ((E : Int) - 1)) - (-1074 + ((E : Int) - 1)))) = _
  rw [if_neg (by omega), Int.sub_self]
  have lt : (4503599627370496 + T).log2 = 52 := fb_l264 (by omega) (by omega)
  have ld : FP.Core.leading (4503599627370496 + T) (4503599627370496 + T) = 0 := by
    unfold FP.Core.leading
    dsimp only
    rw [Int.sub_self, if_pos]
    exact Nat.le_refl _
  unfold FP.Core.roundRatio
  rw [if_neg (by omega)]
  unfold FP.Core.roundAt FP.Core.quantum FP.Core.unitsNum FP.Core.unitsDen
  rw [ld, fp_qn64, fp_pi64]
  have q : max (-1074 : Int) (0 + 0 - 52) = -52 := by decide
  rw [q]
  have b1 : ((0 : Int) - -52).toNat = 52 := by decide
  have b2 : ((-52 : Int) - 0).toNat = 0 := by decide
  rw [b1, b2, Nat.pow_zero, Nat.mul_one, Nat.mul_comm, show (2 ^ 52 : Nat) = 4503599627370496 from by decide, fb_near (by omega)]
  decide +kernel
theorem fb_sublt64 (hT : T < 4503599627370496) : FP.Core.sub FP.Core.b64 (1023 * 4503599627370496 + T) (1023 * 4503599627370496) < 9223372036854775808 := by
  rw [fb_sub164 hT]
  by_cases h0 : T = 0
  · subst h0
    decide +kernel
  · obtain ⟨s, s1, s2, s3, -⟩ := fb_ex64 h0 (by omega)
    rw [fb_fill64 s2 s3 (by omega) (by omega), fb_enc64 (E := 1023 - s) (by omega) s2 (by omega)]
    omega
theorem fb_intlt64 (hT : T < 2 * 4503599627370496) : FP.Core.fromInt FP.Core.b64 (T : Int) < 9223372036854775808 := by
  by_cases h0 : T = 0
  · subst h0
    decide +kernel
  · obtain ⟨s, s1, s2, s3, -, e⟩ := fb_int64 h0 hT
    rw [e]
    omega
end FB64
/-! ===== 32: numbers of whole significands; products with powers of two, quotients, differences that are exact ===== -/
section FB32
variable {E F T c d j s : Nat} {e q : Int}
theorem fb_l232 {n m : Nat} (h1 : 2 ^ m ≤ n) (h2 : n < 2 ^ (m + 1)) : n.log2 = m := by
  have h0 : n ≠ 0 := by
    have := Nat.two_pow_pos m
    omega
  exact (Nat.log2_eq_iff h0).mpr ⟨h1, h2⟩
theorem fb_dec32 (h1 : 1 ≤ E) (h2 : E < 256 - 1) (hT : T < 8388608) : FP.Core.decode FP.Core.b32 (E * 8388608 + T) = .fin false (8388608 + T) (-149 + ((E : Int) - 1)) := by
  unfold FP.Core.decode FP.Core.fieldE FP.Core.fieldT FP.Core.fieldS
  rw [fp_x32, fp_t32, fp_qn32]
  have a : (E * 8388608 + T) / 8388608 = E := by omega
  have b : (E * 8388608 + T) % 8388608 = T := by omega
  rw [a, b, Nat.mod_eq_of_lt (show E < 256 by omega), Nat.div_eq_of_lt (show E < 256 by omega), if_neg (by omega), if_neg (by omega)]
  rfl
theorem fb_d032 : FP.Core.decode FP.Core.b32 0 = .fin false 0 (-149) := by decide +kernel
theorem fb_enc32 (h1 : 1 ≤ E) (hc : 8388608 ≤ c) (hq : q = -149 + ((E : Int) - 1)) : FP.Core.encode FP.Core.b32 (.fin false c q) = E * 8388608 + (c - 8388608) := by
  show (if c < FP.Core.b32.tails then FP.Core.assemble FP.Core.b32 false 0 c else FP.Core.assemble FP.Core.b32 false ((q - FP.Core.b32.qmin).toNat + 1) (c - FP.Core.b32.tails)) = _
  unfold FP.Core.assemble
  rw [fp_x32, fp_t32, fp_qn32, if_neg (by omega)]
  have a : (q - (-149)).toNat + 1 = E := by omega
  rw [a]
  show (0 * 256 + E) * 8388608 + (c - 8388608) = _
  rw [Nat.zero_mul, Nat.zero_add]
/-- what is settled -/
theorem fb_set32 (hc : c < 2 * 8388608) (hq : q ≤ 104) : FP.Core.settle FP.Core.b32 false c q = .fin false c q := by
  unfold FP.Core.settle FP.Core.bound
  rw [fp_p32, fp_qx32, if_pos (by omega), if_pos hq]
/-- a significand, moved up by j digits: exact -/
theorem fb_up32 (h1 : 8388608 ≤ c) (h2 : c < 2 * 8388608) (hq1 : -149 ≤ e + j) (hq2 : e + j ≤ 104) : FP.Core.roundRatio FP.Core.b32 false (c * 2 ^ j) 1 e = .fin false c (e + j) := by
  have hj := Nat.two_pow_pos j
  have n0 : c * 2 ^ j ≠ 0 := Nat.mul_ne_zero (by omega) (by omega)
  have l1 : (c * 2 ^ j).log2 = 23 + j := by
    refine fb_l232 ?_ ?_
    · rw [Nat.pow_add]
      exact Nat.mul_le_mul_right _ (by omega)
    · rw [show 23 + j + 1 = (23 + 1) + j by omega, Nat.pow_add]
      exact Nat.mul_lt_mul_of_pos_right (by omega) hj
  have l2 : (1 : Nat).log2 = 0 := by decide +kernel
  have ld : FP.Core.leading (c * 2 ^ j) 1 = ((23 + j : Nat) : Int) := by
    unfold FP.Core.leading
    rw [l1, l2]
    dsimp only
    rw [if_pos]
    · omega
    · have a1 : (((23 + j : Nat) : Int) - ((0 : Nat) : Int)).toNat = 23 + j := by omega
      have a2 : (-(((23 + j : Nat) : Int) - ((0 : Nat) : Int))).toNat = 0 := by omega
      rw [a1, a2, Nat.one_mul, Nat.pow_zero, Nat.mul_one, Nat.pow_add]
      exact Nat.mul_le_mul_right _ (by omega)
  have qu : FP.Core.quantum FP.Core.b32 (c * 2 ^ j) 1 e = e + j := by
    unfold FP.Core.quantum
    rw [ld, fp_qn32, fp_pi32]
    omega
  unfold FP.Core.roundRatio
  rw [if_neg n0, qu]
  unfold FP.Core.roundAt FP.Core.unitsNum FP.Core.unitsDen
  have b1 : (e - (e + j)).toNat = 0 := by omega
  have b2 : (e + j - e).toNat = j := by omega
  rw [b1, b2, Nat.pow_zero, Nat.mul_one, Nat.one_mul, fb_near hj]
  exact fb_set32 h2 hq2
/-- a number of fewer digits, written with all: exact -/
theorem fb_fill32 {n : Nat} (h1 : 8388608 ≤ n * 2 ^ s) (h2 : n * 2 ^ s < 2 * 8388608) (hq1 : -149 ≤ e - s) (hq2 : e - s ≤ 104) : FP.Core.roundRatio FP.Core.b32 false n 1 e = .fin false (n * 2 ^ s) (e - s) := by
  have hs := Nat.two_pow_pos s
  have n0 : n ≠ 0 := fun h => by rw [h, Nat.zero_mul] at h1; omega
  have s52 : s ≤ 23 := by
    apply Classical.byContradiction
    intro h
    have a : 2 ^ (23 + 1) ≤ 2 ^ s := Nat.pow_le_pow_right (by decide) (by omega)
    have b : 1 * 2 ^ s ≤ n * 2 ^ s := Nat.mul_le_mul_right _ (by omega)
    omega
  have e2 : 2 ^ (23 - s) * 2 ^ s = 8388608 := by
    rw [← Nat.pow_add, show 23 - s + s = 23 by omega]
  have l1 : n.log2 = 23 - s := by
    refine fb_l232 ?_ ?_
    · exact Nat.le_of_mul_le_mul_right (by rw [e2]; exact h1) hs
    · refine Nat.lt_of_mul_lt_mul_right (a := 2 ^ s) ?_
      rw [Nat.pow_succ, Nat.mul_right_comm, e2]
      omega
  have l2 : (1 : Nat).log2 = 0 := by decide +kernel
  have ld : FP.Core.leading n 1 = ((23 - s : Nat) : Int) := by
    unfold FP.Core.leading
    rw [l1, l2]
    dsimp only
    rw [if_pos]
    · omega
    · have a1 : (((23 - s : Nat) : Int) - ((0 : Nat) : Int)).toNat = 23 - s := by omega
      have a2 : (-(((23 - s : Nat) : Int) - ((0 : Nat) : Int))).toNat = 0 := by omega
      rw [a1, a2, Nat.one_mul, Nat.pow_zero, Nat.mul_one]
      exact Nat.le_of_mul_le_mul_right (by rw [e2]; exact h1) hs
  have qu : FP.Core.quantum FP.Core.b32 n 1 e = e - s := by
    unfold FP.Core.quantum
    rw [ld, fp_qn32, fp_pi32]
    omega
  unfold FP.Core.roundRatio
  rw [if_neg n0, qu]
  unfold FP.Core.roundAt FP.Core.unitsNum FP.Core.unitsDen
  have b1 : (e - (e - s)).toNat = s := by omega
  have b2 : (e - s - e).toNat = 0 := by omega
  rw [b1, b2, Nat.pow_zero, Nat.mul_one]
  have nn : FP.Core.nearest (n * 2 ^ s) 1 = n * 2 ^ s := by
    have := fb_near (a := n * 2 ^ s) (b := 1) (by decide)
    rw [Nat.mul_one] at this
    exact this
  rw [nn]
  exact fb_set32 h2 hq2
/-- every number has such an s -/
theorem fb_ex32 {n : Nat} (h0 : n ≠ 0) (h : n < 2 * 8388608) : ∃ s, s ≤ 23 ∧ 8388608 ≤ n * 2 ^ s ∧ n * 2 ^ s < 2 * 8388608 ∧ n.log2 + s = 23 := by
  have a := Nat.log2_self_le h0
  have b := @Nat.lt_log2_self n
  have l : n.log2 ≤ 23 := by
    apply Classical.byContradiction
    intro hl
    have : 2 ^ (23 + 1) ≤ 2 ^ n.log2 := Nat.pow_le_pow_right (by decide) (by omega)
    omega
  refine ⟨23 - n.log2, by omega, ?_, ?_, by omega⟩
  · have e : 2 ^ n.log2 * 2 ^ (23 - n.log2) = 8388608 := by rw [← Nat.pow_add, show n.log2 + (23 - n.log2) = 23 by omega]
    have := Nat.mul_le_mul_right (2 ^ (23 - n.log2)) a
    omega
  · have e : 2 ^ (n.log2 + 1) * 2 ^ (23 - n.log2) = 2 * 8388608 := by rw [← Nat.pow_add, show n.log2 + 1 + (23 - n.log2) = 23 + 1 by omega]
    have := Nat.mul_lt_mul_of_pos_right b (Nat.two_pow_pos (23 - n.log2))
    omega
/-- times a power of two -/
theorem fb_mul32 (h1 : 1 ≤ E) (h2 : E < 256 - 1) (hT : T < 8388608) (f1 : 1 ≤ F) (f2 : F < 256 - 1) (g1 : 127 + 1 ≤ E + F) (g2 : E + F < 127 + 256 - 1) : FP.Core.mul FP.Core.b32 (E * 8388608 + T) (F * 8388608) = (E + F - 127) * 8388608 + T := by
  unfold FP.Core.mul
  have d2 := fb_dec32 (T := 0) f1 f2 (by decide)
  rw [Nat.add_zero] at d2
  rw [fb_dec32 h1 h2 hT, d2]
  show FP.Core.encode _ (FP.Core.roundRatio FP.Core.b32 (false != false) ((8388608 + T) * (8388608 + 0)) 1 _) = _
  have := fb_up32 (c := 8388608 + T) (j := 23) (e := (-149 + ((E : Int) - 1)) + (-149 + ((F : Int) - 1))) (by omega) (by omega) (by omega) (by omega)
  rw [show (8388608 + 0) = 2 ^ 23 from by decide]
  show FP.Core.encode _ (FP.Core.roundRatio FP.Core.b32 false ((8388608 + T) * 2 ^ 23) 1 ((-149 + ((E : Int) - 1)) + (-149 + ((F : Int) - 1)))) = _
  rw [this, fb_enc32 (E := E + F - 127) (by omega) (by omega) (by omega)]
  omega
theorem fb_mul032 (f1 : 1 ≤ F) (f2 : F < 256 - 1) : FP.Core.mul FP.Core.b32 0 (F * 8388608) = 0 := by
  unfold FP.Core.mul
  have d2 := fb_dec32 (T := 0) f1 f2 (by decide)
  rw [Nat.add_zero] at d2
  rw [fb_d032, d2]
  show FP.Core.encode FP.Core.b32 (FP.Core.roundRatio FP.Core.b32 (false != false) (0 * (8388608 + 0)) 1 _) = _
  rw [Nat.zero_mul]
  unfold FP.Core.roundRatio
  rw [if_pos rfl, fp_qn32]
  decide +kernel
/-- less one: what stands behind the point -/
theorem fb_sub132 (hT : T < 8388608) : FP.Core.sub FP.Core.b32 (127 * 8388608 + T) (127 * 8388608) = FP.Core.encode FP.Core.b32 (FP.Core.roundRatio FP.Core.b32 false T 1 (-23)) := by
  unfold FP.Core.sub
  have d2 := fb_dec32 (E := 127) (T := 0) (by decide) (by decide) (by decide)
  rw [Nat.add_zero] at d2
  rw [fb_dec32 (by decide) (by decide) hT, d2]
  have ee : (-149 + (((127 : Nat) : Int) - 1)) = (-23 : Int) := by decide
  rw [ee]
  have su : FP.Core.sumUnits false (8388608 + T) (-23) (!false) (8388608 + 0) (-23) (min (-23) (-23)) = (T : Int) := by
    unfold FP.Core.sumUnits FP.Core.inUnits FP.Core.signed
    have z : ((-23 : Int) - min (-23) (-23)).toNat = 0 := by decide
    rw [z, Nat.pow_zero, Nat.mul_one, Nat.mul_one]
    show ((8388608 + T : Nat) : Int) + -((8388608 + 0 : Nat) : Int) = T
    omega
  show FP.Core.encode _ (FP.Core.roundRatio FP.Core.b32 (FP.Core.sumSign false (!false) (FP.Core.sumUnits false (8388608 + T) (-23) (!false) (8388608 + 0) (-23) (min (-23) (-23)))) (FP.Core.sumUnits false (8388608 + T) (-23) (!false) (8388608 + 0) (-23) (min (-23) (-23))).natAbs 1 (min (-23) (-23))) = _
  rw [su]
  have sg : FP.Core.sumSign false (!false) (T : Int) = false := by
    unfold FP.Core.sumSign
    split
    · rfl
    · exact decide_eq_false (by omega)
  rw [sg]
  rfl
/-- that, as a whole number -/
theorem fb_frac32 (hT : T < 8388608) : FP.Core.mul FP.Core.b32 (FP.Core.sub FP.Core.b32 (127 * 8388608 + T) (127 * 8388608)) (150 * 8388608) = FP.Core.fromInt FP.Core.b32 (T : Int) := by
  rw [fb_sub132 hT]
  unfold FP.Core.fromInt FP.Core.ofInt
  have si : decide ((T : Int) < 0) = false := decide_eq_false (by omega)
  rw [si]
  show _ = FP.Core.encode _ (FP.Core.roundRatio FP.Core.b32 false (T : Int).natAbs 1 0)
  rw [Int.natAbs_natCast]
  by_cases h0 : T = 0
  · subst h0
    have z : FP.Core.encode FP.Core.b32 (FP.Core.roundRatio FP.Core.b32 false 0 1 (-23)) = 0 := by decide +kernel
    rw [z, fb_mul032 (by decide) (by decide)]
    decide +kernel
  · obtain ⟨s, s1, s2, s3, -⟩ := fb_ex32 h0 (by omega)
    rw [fb_fill32 s2 s3 (by omega) (by omega), fb_fill32 s2 s3 (by omega) (by omega)]
    rw [fb_enc32 (E := 127 - s) (by omega) s2 (by omega), fb_enc32 (E := 150 - s) (by omega) s2 (by omega)]
    rw [fb_mul32 (by omega) (by omega) (by omega) (by decide) (by decide) (by omega) (by omega)]
    rw [show 127 - s + 150 - 127 = 150 - s by omega]
/-- whole numbers there and back -/
theorem fb_int32 (h0 : T ≠ 0) (hT : T < 2 * 8388608) : ∃ s, s ≤ 23 ∧ 8388608 ≤ T * 2 ^ s ∧ T * 2 ^ s < 2 * 8388608 ∧ T.log2 + s = 23 ∧ FP.Core.fromInt FP.Core.b32 (T : Int) = (150 - s) * 8388608 + (T * 2 ^ s - 8388608) := by
  obtain ⟨s, s1, s2, s3, s4⟩ := fb_ex32 h0 hT
  refine ⟨s, s1, s2, s3, s4, ?_⟩
  unfold FP.Core.fromInt FP.Core.ofInt
  have si : decide ((T : Int) < 0) = false := decide_eq_false (by omega)
  rw [si]
  show FP.Core.encode _ (FP.Core.roundRatio FP.Core.b32 false (T : Int).natAbs 1 0) = _
  rw [Int.natAbs_natCast, fb_fill32 s2 s3 (by omega) (by omega), fb_enc32 (E := 150 - s) (by omega) s2 (by omega)]
theorem fb_toint32 {lo hi : Int} (hT : T < 2 * 8388608) (hl : lo ≤ 0) (hh : (T : Int) ≤ hi) : FP.Core.toInt lo hi (FP.Core.decode FP.Core.b32 (FP.Core.fromInt FP.Core.b32 (T : Int))) = T := by
  by_cases h0 : T = 0
  · subst h0
    have z : FP.Core.fromInt FP.Core.b32 ((0 : Nat) : Int) = 0 := by decide +kernel
    rw [z, fb_d032]
    show max lo (min hi (FP.Core.truncate false 0 (-149))) = _
    have : FP.Core.truncate false 0 (-149) = 0 := by
      unfold FP.Core.truncate FP.Core.signed
      rw [Nat.zero_mul, Nat.zero_div]
      rfl
    rw [this]
    omega
  · obtain ⟨s, s1, s2, s3, -, e⟩ := fb_int32 h0 hT
    rw [e, fb_dec32 (by omega) (by omega) (by omega)]
    show max lo (min hi (FP.Core.truncate false (8388608 + (T * 2 ^ s - 8388608)) (-149 + (((150 - s : Nat) : Int) - 1)))) = _
    have tr : FP.Core.truncate false (8388608 + (T * 2 ^ s - 8388608)) (-149 + (((150 - s : Nat) : Int) - 1)) = T := by
      unfold FP.Core.truncate FP.Core.signed
      have a1 : (-149 + (((150 - s : Nat) : Int) - 1)).toNat = 0 := by omega
      have a2 : (-(-149 + (((150 - s : Nat) : Int) - 1))).toNat = s := by omega
      rw [a1, a2, Nat.pow_zero, Nat.mul_one, show 8388608 + (T * 2 ^ s - 8388608) = T * 2 ^ s by omega, Nat.mul_div_cancel _ (Nat.two_pow_pos s)]
      rfl
    rw [tr]
    omega
/-- the order of such numbers -/
theorem fb_cmp32 (h1 : 1 ≤ E) (h2 : E < 256 - 1) (hT : T < 8388608) (f1 : 1 ≤ F) (f2 : F < 256 - 1) : (E < F → FP.Core.cmp FP.Core.b32 (E * 8388608 + T) (F * 8388608) = some .lt) ∧ (F ≤ E → FP.Core.cmp FP.Core.b32 (E * 8388608 + T) (F * 8388608) = some .eq ∨ FP.Core.cmp FP.Core.b32 (E * 8388608 + T) (F * 8388608) = some .gt) := by
  have d2 := fb_dec32 (T := 0) f1 f2 (by decide)
  rw [Nat.add_zero, Nat.add_zero] at d2
  unfold FP.Core.cmp
  rw [fb_dec32 h1 h2 hT, d2]
  show (E < F → some (compare (FP.Core.signed false (FP.Core.inUnits (8388608 + T) (-149 + ((E : Int) - 1)) (min (-149 + ((E : Int) - 1)) (-149 + ((F : Int) - 1))))) (FP.Core.signed false (FP.Core.inUnits 8388608 (-149 + ((F : Int) - 1)) (min (-149 + ((E : Int) - 1)) (-149 + ((F : Int) - 1)))))) = some .lt) ∧ (F ≤ E → some (compare (FP.Core.signed false (FP.Core.inUnits (8388608 + T) (-149 + ((E : Int) - 1)) (min (-149 + ((E : Int) - 1)) (-149 + ((F : Int) - 1))))) (FP.Core.signed false (FP.Core.inUnits 8388608 (-149 + ((F : Int) - 1)) (min (-149 + ((E : Int) - 1)) (-149 + ((F : Int) - 1)))))) = some .eq ∨ some (compare (FP.Core.signed false (FP.Core.inUnits (8388608 + T) (-149 + ((E : Int) - 1)) (min (-149 + ((E : Int) - 1)) (-149 + ((F : Int) - 1))))) (FP.Core.signed false (FP.Core.inUnits 8388608 (-149 + ((F : Int) - 1)) (min (-149 + ((E : Int) - 1)) (-149 + ((F : Int) - 1)))))) = some .gt)
  unfold FP.Core.inUnits FP.Core.signed
  refine ⟨fun h => ?_, fun h => ?_⟩
  · have a1 : (-149 + ((E : Int) - 1) - min (-149 + ((E : Int) - 1)) (-149 + ((F : Int) - 1))).toNat = 0 := by omega
    have a2 : (-149 + ((F : Int) - 1) - min (-149 + ((E : Int) - 1)) (-149 + ((F : Int) - 1))).toNat = (F - E - 1) + 1 := by omega
    have b := Nat.two_pow_pos (F - E - 1)
    have lt : (8388608 + T) * 2 ^ 0 < 8388608 * 2 ^ ((F - E - 1) + 1) := by
      rw [Nat.pow_zero, Nat.mul_one, Nat.pow_succ]
      have : 8388608 * 1 ≤ 8388608 * 2 ^ (F - E - 1) := Nat.mul_le_mul_left _ b
      omega
    rw [a1, a2]
    show some (compareOfLessAndEq _ _) = _
    unfold compareOfLessAndEq
    rw [if_pos (by simp only [Bool.false_eq_true, if_false]; omega)]
  · have a1 : (-149 + ((E : Int) - 1) - min (-149 + ((E : Int) - 1)) (-149 + ((F : Int) - 1))).toNat = E - F := by omega
    have a2 : (-149 + ((F : Int) - 1) - min (-149 + ((E : Int) - 1)) (-149 + ((F : Int) - 1))).toNat = 0 := by omega
    have b := Nat.two_pow_pos (E - F)
    have le : 8388608 * 2 ^ 0 ≤ (8388608 + T) * 2 ^ (E - F) := by
      rw [Nat.pow_zero, Nat.mul_one]
      have : (8388608 + T) * 1 ≤ (8388608 + T) * 2 ^ (E - F) := Nat.mul_le_mul_left _ b
      omega
    rw [a1, a2]
    simp only [Bool.false_eq_true, if_false]
    show some (compareOfLessAndEq _ _) = _ ∨ some (compareOfLessAndEq _ _) = _
    unfold compareOfLessAndEq
    rw [if_neg (by omega)]
    by_cases e : (((8388608 + T) * 2 ^ (E - F) : Nat) : Int) = ((8388608 * 2 ^ 0 : Nat) : Int)
    · rw [if_pos e]
      exact Or.inl rfl
    · rw [if_neg e]
      exact Or.inr rfl
/-- above nothing -/
theorem fb_pos32 (h1 : 1 ≤ E) (h2 : E < 256 - 1) (hT : T < 8388608) : FP.Core.cmp FP.Core.b32 (E * 8388608 + T) 0 = some .gt := by
  unfold FP.Core.cmp
  rw [fb_dec32 h1 h2 hT, fb_d032]
  show some (compareOfLessAndEq (((8388608 + T) * 2 ^ (-149 + ((E : Int) - 1) - min (-149 + ((E : Int) - 1)) (-149)).toNat : Nat) : Int) ((0 * 2 ^ ((-149 : Int) - min (-149 + ((E : Int) - 1)) (-149)).toNat : Nat) : Int)) = _
  have b := Nat.two_pow_pos (-149 + ((E : Int) - 1) - min (-149 + ((E : Int) - 1)) (-149)).toNat
  have : (8388608 + T) * 1 ≤ (8388608 + T) * 2 ^ (-149 + ((E : Int) - 1) - min (-149 + ((E : Int) - 1)) (-149)).toNat := Nat.mul_le_mul_left _ b
  rw [Nat.zero_mul]
  unfold compareOfLessAndEq
  rw [if_neg (by omega), if_neg (by omega)]
theorem fb_zero32 : FP.Core.cmp FP.Core.b32 0 0 = some .eq := by decide +kernel
/-- by a power of two -/
theorem fb_half32 (h1 : 1 ≤ E) (h2 : E < 256 - 1) (hT : T < 8388608) (f1 : 1 ≤ F) (f2 : F < 256 - 1) (g1 : F < E + 127) (g2 : E + 127 < F + 256 - 1) : FP.Core.div FP.Core.b32 (E * 8388608 + T) (F * 8388608) = (E + 127 - F) * 8388608 + T := by
  unfold FP.Core.div
  have d2 := fb_dec32 (T := 0) f1 f2 (by decide)
  rw [Nat.add_zero, Nat.add_zero] at d2
  rw [fb_dec32 h1 h2 hT, d2]
  show FP.Core.encode FP.Core.b32 (if 8388608 = 0 then (if 8388608 + T = 0 then .nan else .inf (false != false)) else FP.Core.roundRatio FP.Core.b32 (false != false) (8388608 + T) 8388608 ((-149 + ((E : Int) - 1)) - (-149 + ((F : Int) - 1)))) = _
  rw [if_neg (by decide)]
  have lt : (8388608 + T).log2 = 23 := fb_l232 (by omega) (by omega)
  have l2 : (8388608 : Nat).log2 = 23 := by decide +kernel
  have ld : FP.Core.leading (8388608 + T) 8388608 = 0 := by
    unfold FP.Core.leading
    rw [lt, l2]
    dsimp only
    rw [Int.sub_self, if_pos]
    show 8388608 * 2 ^ 0 ≤ (8388608 + T) * 2 ^ 0
    omega
  unfold FP.Core.roundRatio
  rw [if_neg (by omega)]
  have qu : FP.Core.quantum FP.Core.b32 (8388608 + T) 8388608 (-149 + ((E : Int) - 1) - (-149 + ((F : Int) - 1))) = (E : Int) - F - 23 := by
    unfold FP.Core.quantum
    rw [ld, fp_qn32, fp_pi32]
    omega
  rw [qu]
  unfold FP.Core.roundAt FP.Core.unitsNum FP.Core.unitsDen
  have b1 : (-149 + ((E : Int) - 1) - (-149 + ((F : Int) - 1)) - ((E : Int) - F - 23)).toNat = 23 := by omega
  have b2 : ((E : Int) - F - 23 - (-149 + ((E : Int) - 1) - (-149 + ((F : Int) - 1)))).toNat = 0 := by omega
  rw [b1, b2, Nat.pow_zero, Nat.mul_one, show (2 ^ 23 : Nat) = 8388608 from by decide, fb_near (by decide)]
  show FP.Core.encode _ (FP.Core.settle FP.Core.b32 false (8388608 + T) _) = _
  rw [fb_set32 (by omega) (by omega), fb_enc32 (E := E + 127 - F) (by omega) (by omega) (by omega)]
  omega
/-- a quotient of such numbers that is at most one -/
theorem fb_quo32 (h1 : 1 ≤ E) (h2 : E < 256 - 1) (hT : T < 8388608) (f1 : 1 ≤ F) (f2 : F < 256 - 1) (hd : d < 8388608) (g1 : F + 1 < E + 127) (g2 : E + 127 + 1 < F + 256 - 1) : ∃ G U, U < 8388608 ∧ FP.Core.div FP.Core.b32 (E * 8388608 + T) (F * 8388608 + d) = G * 8388608 + U ∧ E + 127 - 1 ≤ G + F ∧ G + F ≤ E + 127 + 1 ∧ (G + F = E + 127 + 1 → U = 0) ∧ (T < d → G + F ≤ E + 127 ∧ (G + F = E + 127 → U = 0)) := by
  unfold FP.Core.div
  rw [fb_dec32 h1 h2 hT, fb_dec32 f1 f2 hd]
  show ∃ G U, U < 8388608 ∧ FP.Core.encode FP.Core.b32 (if 8388608 + d = 0 then (if 8388608 + T = 0 then .nan else .inf (false != false)) else FP.Core.roundRatio FP.Core.b32 (false != false) (8388608 + T) (8388608 + d) ((-149 + ((E : Int) - 1)) - (-149 + ((F : Int) - 1)))) = G * 8388608 + U ∧ _
  rw [if_neg (by omega)]
  have lt : (8388608 + T).log2 = 23 := fb_l232 (by omega) (by omega)
  have l2 : (8388608 + d).log2 = 23 := fb_l232 (by omega) (by omega)
  have ld : FP.Core.leading (8388608 + T) (8388608 + d) = if T < d then -1 else 0 := by
    unfold FP.Core.leading
    rw [lt, l2]
    dsimp only
    rw [Int.sub_self]
    show (if (8388608 + d) * 2 ^ 0 ≤ (8388608 + T) * 2 ^ 0 then (0 : Int) else 0 - 1) = _
    by_cases h : T < d
    · rw [if_pos h, if_neg (by omega)]
      rfl
    · rw [if_neg h, if_pos (by omega)]
  -- with the last digit at exponent q
  have key : ∀ (k : Nat) (num den : Nat), 0 < den → 8388608 * den ≤ num → num < 2 * 8388608 * den → 1 ≤ k → k < 256 - 2 → ∃ G U, U < 8388608 ∧ FP.Core.encode FP.Core.b32 (FP.Core.settle FP.Core.b32 false (FP.Core.nearest num den) (-149 + ((k : Int) - 1))) = G * 8388608 + U ∧ (G = k ∨ (G = k + 1 ∧ U = 0)) := by
    intro k num den hd0 n1 n2 k1 k2
    have c1 : 8388608 ≤ num / den := (Nat.le_div_iff_mul_le hd0).mpr n1
    have c2 : num / den < 2 * 8388608 := (Nat.div_lt_iff_lt_mul hd0).mpr n2
    have cn : 8388608 ≤ FP.Core.nearest num den ∧ FP.Core.nearest num den ≤ 2 * 8388608 := by
      unfold FP.Core.nearest
      repeat' split
      all_goals omega
    by_cases e : FP.Core.nearest num den < 2 * 8388608
    · refine ⟨k, FP.Core.nearest num den - 8388608, by omega, ?_, Or.inl rfl⟩
      rw [fb_set32 e (by omega), fb_enc32 (E := k) k1 cn.1 (by omega)]
    · refine ⟨k + 1, 0, by decide, ?_, Or.inr ⟨rfl, rfl⟩⟩
      have e2 : FP.Core.nearest num den = 2 * 8388608 := by omega
      unfold FP.Core.settle FP.Core.bound
      rw [e2, fp_p32, fp_qx32, fp_t32, if_neg (by decide), if_pos (by omega), fb_enc32 (E := k + 1) (by omega) (by decide) (by omega)]
  unfold FP.Core.roundRatio
  rw [if_neg (by omega)]
  unfold FP.Core.roundAt FP.Core.quantum
  rw [ld, fp_qn32, fp_pi32]
  show ∃ G U, U < 8388608 ∧ FP.Core.encode _ (FP.Core.settle FP.Core.b32 false _ _) = G * 8388608 + U ∧ _
  unfold FP.Core.unitsNum FP.Core.unitsDen
  by_cases h : T < d
  · rw [if_pos h]
    have q : max (-149) (-1 + (-149 + ((E : Int) - 1) - (-149 + ((F : Int) - 1))) - 23) = -149 + (((E + 127 - F - 1 : Nat) : Int) - 1) := by omega
    rw [q]
    have b1 : (-149 + ((E : Int) - 1) - (-149 + ((F : Int) - 1)) - (-149 + (((E + 127 - F - 1 : Nat) : Int) - 1))).toNat = 23 + 1 := by omega
    have b2 : (-149 + (((E + 127 - F - 1 : Nat) : Int) - 1) - (-149 + ((E : Int) - 1) - (-149 + ((F : Int) - 1)))).toNat = 0 := by omega
    rw [b1, b2, Nat.pow_zero, Nat.mul_one, show (2 ^ (23 + 1) : Nat) = 2 * 8388608 from by decide]
    obtain ⟨G, U, u, e, r⟩ := key (E + 127 - F - 1) ((8388608 + T) * (2 * 8388608)) (8388608 + d) (by omega) (by
      rw [Nat.mul_comm (8388608 + T), Nat.mul_comm 2, Nat.mul_assoc]
      exact Nat.mul_le_mul_left _ (by omega)) (by
      rw [Nat.mul_comm (8388608 + T)]
      exact Nat.mul_lt_mul_of_pos_left (by omega) (by decide)) (by omega) (by omega)
    refine ⟨G, U, u, e, ?_⟩
    rcases r with rfl | ⟨rfl, rfl⟩ <;> refine ⟨by omega, by omega, fun _ => by omega, fun _ => ⟨by omega, fun _ => by omega⟩⟩
  · rw [if_neg h]
    have q : max (-149) (0 + (-149 + ((E : Int) - 1) - (-149 + ((F : Int) - 1))) - 23) = -149 + (((E + 127 - F : Nat) : Int) - 1) := by omega
    rw [q]
    have b1 : (-149 + ((E : Int) - 1) - (-149 + ((F : Int) - 1)) - (-149 + (((E + 127 - F : Nat) : Int) - 1))).toNat = 23 := by omega
    have b2 : (-149 + (((E + 127 - F : Nat) : Int) - 1) - (-149 + ((E : Int) - 1) - (-149 + ((F : Int) - 1)))).toNat = 0 := by omega
    rw [b1, b2, Nat.pow_zero, Nat.mul_one, show (2 ^ 23 : Nat) = 8388608 from by decide]
    obtain ⟨G, U, u, e, r⟩ := key (E + 127 - F) ((8388608 + T) * 8388608) (8388608 + d) (by omega) (by
      rw [Nat.mul_comm (8388608 + T)]
      exact Nat.mul_le_mul_left _ (by omega)) (by
      rw [Nat.mul_comm (8388608 + T), Nat.mul_comm 2, Nat.mul_assoc]
      exact Nat.mul_lt_mul_of_pos_left (by omega) (by decide)) (by omega) (by omega)
    refine ⟨G, U, u, e, ?_⟩
    rcases r with rfl | ⟨rfl, rfl⟩ <;> refine ⟨by omega, by omega, fun _ => by first | rfl | omega, fun hh => absurd hh h⟩
/-- a number by itself -/
theorem fb_one32 (h1 : 1 ≤ E) (h2 : E < 256 - 1) (hT : T < 8388608) : FP.Core.div FP.Core.b32 (E * 8388608 + T) (E * 8388608 + T) = 127 * 8388608 := by
  unfold FP.Core.div
  rw [fb_dec32 h1 h2 hT]
  show FP.Core.encode FP.Core.b32 (if 8388608 + T = 0 then (if 8388608 + T = 0 then .nan else .inf (false != false)) else FP.Core.roundRatio FP.Core.b32 (false != false) (8388608 + T) (8388608 + T) ((-149 + ((E : Int) - 1)) - (-149 + ((E : Int) - 1)))) = _
  rw [if_neg (by omega), Int.sub_self]
  have lt : (8388608 + T).log2 = 23 := fb_l232 (by omega) (by omega)
  have ld : FP.Core.leading (8388608 + T) (8388608 + T) = 0 := by
    unfold FP.Core.leading
    dsimp only
    rw [Int.sub_self, if_pos]
    exact Nat.le_refl _
  unfold FP.Core.roundRatio
  rw [if_neg (by omega)]
  unfold FP.Core.roundAt FP.Core.quantum FP.Core.unitsNum FP.Core.unitsDen
  rw [ld, fp_qn32, fp_pi32]
  have q : max (-149 : Int) (0 + 0 - 23) = -23 := by decide
  rw [q]
  have b1 : ((0 : Int) - -23).toNat = 23 := by decide
  have b2 : ((-23 : Int) - 0).toNat = 0 := by decide
  rw [b1, b2, Nat.pow_zero, Nat.mul_one, Nat.mul_comm, show (2 ^ 23 : Nat) = 8388608 from by decide, fb_near (by omega)]
  decide +kernel
theorem fb_sublt32 (hT : T < 8388608) : FP.Core.sub FP.Core.b32 (127 * 8388608 + T) (127 * 8388608) < 2147483648 := by
  rw [fb_sub132 hT]
  by_cases h0 : T = 0
  · subst h0
    decide +kernel
  · obtain ⟨s, s1, s2, s3, -⟩ := fb_ex32 h0 (by omega)
    rw [fb_fill32 s2 s3 (by omega) (by omega), fb_enc32 (E := 127 - s) (by omega) s2 (by omega)]
    omega
theorem fb_intlt32 (hT : T < 2 * 8388608) : FP.Core.fromInt FP.Core.b32 (T : Int) < 2147483648 := by
  by_cases h0 : T = 0
  · subst h0
    decide +kernel
  · obtain ⟨s, s1, s2, s3, -, e⟩ := fb_int32 h0 hT
    rw [e]
    omega
end FB32

end

/-! 95.02.f1.lean.txt -/
section
/-! ===== a double's bits, taken apart by hand: they are the bits ===== -/
section FFD
variable {L : Nat} {xs : Nat → Int32} {m : fl_M} {Q : Option fl_V → fl_M → Prop} {E T n : Nat}
theorem ff_un (h : n < 18446744073709551616) : (UInt64.ofNat n).toNat = n := Nat.mod_eq_of_lt h
theorem ff_one : (0x3ff0000000000000 : UInt64).toNat = 1023 * 4503599627370496 := by decide +kernel
theorem ff_two : (0x4000000000000000 : UInt64).toNat = 1024 * 4503599627370496 := by decide +kernel
theorem ff_big : (0x4330000000000000 : UInt64).toNat = 1075 * 4503599627370496 := by decide +kernel
theorem ff_nn {x : UInt64} (h : x.toNat % 9223372036854775808 ≤ 9218868437227405312) : vf_n64 x := by
  show x &&& 0x7fffffffffffffff ≤ 0x7ff0000000000000
  have c1 : (0x7fffffffffffffff : UInt64).toNat = 2 ^ 63 - 1 := by decide +kernel
  have c2 : (0x7ff0000000000000 : UInt64).toNat = 9218868437227405312 := by decide +kernel
  have p : (2 : Nat) ^ 63 = 9223372036854775808 := by decide +kernel
  rw [UInt64.le_iff_toNat_le, UInt64.toNat_and, c1, c2, Nat.and_two_pow_sub_one_eq_mod, p]
  exact h
theorem ff_lt (h1 : 1 ≤ E) (h2 : E < 1023) (hT : T < 4503599627370496) : FP.dcmp (UInt64.ofNat (E * 4503599627370496 + T)) 0x3ff0000000000000 = some .lt := by
  show FP.Core.cmp FP.Core.b64 _ _ = _
  rw [ff_un (by omega), ff_one]
  exact (fb_cmp64 h1 (by omega) hT (by decide) (by decide)).1 h2
theorem ff_ge (hT : T < 4503599627370496) : FP.dcmp (UInt64.ofNat (1023 * 4503599627370496 + T)) 0x3ff0000000000000 = some .eq ∨ FP.dcmp (UInt64.ofNat (1023 * 4503599627370496 + T)) 0x3ff0000000000000 = some .gt := by
  show FP.Core.cmp FP.Core.b64 _ _ = _ ∨ FP.Core.cmp FP.Core.b64 _ _ = _
  rw [ff_un (by omega), ff_one]
  exact (fb_cmp64 (by decide) (by decide) hT (by decide) (by decide)).2 (Nat.le_refl _)
theorem ff_gt0 (h1 : 1 ≤ E) (h2 : E ≤ 1023) (hT : T < 4503599627370496) : FP.dcmp (UInt64.ofNat (E * 4503599627370496 + T)) 0 = some .gt := by
  show FP.Core.cmp FP.Core.b64 _ _ = _
  rw [ff_un (by omega)]
  exact fb_pos64 h1 (by omega) hT
theorem ff_dbl (h1 : 1 ≤ E) (h2 : E < 1023) (hT : T < 4503599627370496) : FP.dmul (UInt64.ofNat (E * 4503599627370496 + T)) 0x4000000000000000 = UInt64.ofNat ((E + 1) * 4503599627370496 + T) := by
  show UInt64.ofNat (FP.Core.mul FP.Core.b64 _ _) = _
  rw [ff_un (by omega), ff_two, fb_mul64 h1 (by omega) hT (by decide) (by decide) (by omega) (by omega), show E + 1024 - 1023 = E + 1 by omega]
theorem ff_frac (hT : T < 4503599627370496) : FP.dmul (FP.dsub (UInt64.ofNat (1023 * 4503599627370496 + T)) 0x3ff0000000000000) 0x4330000000000000 = UInt64.ofNat (FP.Core.fromInt FP.Core.b64 (T : Int)) := by
  show UInt64.ofNat (FP.Core.mul FP.Core.b64 (UInt64.ofNat (FP.Core.sub FP.Core.b64 _ _)).toNat _) = _
  rw [ff_un (n := 1023 * 4503599627370496 + T) (by omega), ff_one, ff_un (Nat.lt_trans (fb_sublt64 hT) (by decide)), ff_big, fb_frac64 hT]
theorem ff_d2l (hT : T < 4503599627370496) : FP.d2l (UInt64.ofNat (FP.Core.fromInt FP.Core.b64 (T : Int))) = Int64.ofNat T := by
  show Int64.ofInt (FP.Core.toInt (-2 ^ 63) (2 ^ 63 - 1) (FP.Core.decode FP.Core.b64 _)) = _
  rw [ff_un (Nat.lt_trans (fb_intlt64 (by omega)) (by decide)), fb_toint64 (by omega) (by decide) (by have : (2 : Int) ^ 63 = 9223372036854775808 := by decide
                                                                                                      omega)]
  exact Int64.ofInt_eq_ofNat
theorem ff_shl : (List.range 1024).all (fun e => decide ((Int32.ofNat e).toInt64 <<< ((52 : Int32).toInt64 &&& 63) = Int64.ofNat (e * 4503599627370496))) = true := by decide +kernel
theorem ff_bits (h : E < 1024) : ((Int32.ofNat E).toInt64 <<< ((52 : Int32).toInt64 &&& 63)) + Int64.ofNat T = (UInt64.ofNat (E * 4503599627370496 + T)).toInt64 := by
  rw [of_decide_eq_true (List.all_eq_true.mp ff_shl E (List.mem_range.mpr h)), ← Int64.ofNat_add]
  rfl
theorem ff_326 {b : UInt64} (hb : (Op.cmpValue (FP.dcmp b b) .l).toInt = 0) (k : Q (some (.inl (0 : Int32))) m) : fl_Tq (pw_P L xs) 326 0 (fl_args (am_mxl (pw_P L xs) 326) [fl_d b]) [] m Q := by
  refine fl_Tq.dld (i := 0) (w := 3) (n := 1) (v := fl_d b) rfl rfl rfl (fun _ _ _ => rfl) rfl ?_
  refine fl_Tq.dld (i := 0) (w := 3) (n := 1) (v := fl_d b) rfl rfl rfl (fun _ _ _ => rfl) rfl ?_
  refine fl_Tq.bi (u := .inl (Op.cmpValue (FP.dcmp b b) .l)) rfl rfl rfl (fun _ _ _ => rfl) ?_
  refine fl_Tq.zt rfl (fl_bo rfl) (by rw [at_c1]; exact decide_eq_true hb) rfl ?_
  refine fl_Tq.stp rfl rfl (fl_bo rfl) rfl ?_
  exact fl_Tq.ret rfl rfl rfl k
theorem ff_327 {b : UInt64} (hb : (Op.cmpValue (FP.dcmp b b) .l).toInt = 0) (k : Q (some (fl_j b.toInt64)) m) : fl_Tq (pw_P L xs) 327 0 (fl_args (am_mxl (pw_P L xs) 327) [fl_d b]) [] m Q := by
  refine fl_Tq.dld (i := 0) (w := 3) (n := 1) (v := fl_d b) rfl rfl rfl (fun _ _ _ => rfl) rfl ?_
  refine fl_Tq.cal rfl rfl (fl_bo rfl) rfl ?_
  refine ff_326 hb ?_
  refine fl_Tq.zf rfl (fl_bo rfl) (by decide +kernel) rfl ?_
  refine fl_Tq.dld (i := 0) (w := 3) (n := 1) (v := fl_d b) rfl rfl rfl (fun _ _ _ => rfl) rfl ?_
  refine fl_Tq.gen (st' := [fl_j b.toInt64]) rfl rfl rfl (fun la hl => ⟨la, rfl, hl⟩) ?_
  exact fl_Tq.ret rfl rfl rfl k
theorem ff_self (h1 : 1 ≤ E) (h2 : E ≤ 1023) (hT : T < 4503599627370496) : (Op.cmpValue (FP.dcmp (UInt64.ofNat (E * 4503599627370496 + T)) (UInt64.ofNat (E * 4503599627370496 + T))) .l).toInt = 0 := by
  have e : FP.dcmp (UInt64.ofNat (E * 4503599627370496 + T)) (UInt64.ofNat (E * 4503599627370496 + T)) = some .eq := by
    show FP.Core.cmp FP.Core.b64 _ _ = _
    rw [ff_un (by omega)]
    unfold FP.Core.cmp
    rw [fb_dec64 h1 (by omega) hT]
    show some (compareOfLessAndEq _ _) = _
    unfold compareOfLessAndEq
    rw [if_neg (Int.lt_irrefl _), if_pos rfl]
  rw [e]
  decide +kernel
/-- bitsOfDouble, above nothing and at most one -/
theorem ff_181 (h1 : 959 ≤ E) (h2 : E ≤ 1023) (hT : T < 4503599627370496) (k : Q (some (fl_j (UInt64.ofNat (E * 4503599627370496 + T)).toInt64)) m) : fl_Tq (pw_P L xs) 181 0 (fl_args (am_mxl (pw_P L xs) 181) [fl_d (UInt64.ofNat (E * 4503599627370496 + T))]) [] m Q := by
  have nn : ∀ G : Nat, G ≤ 1023 → vf_n64 (UInt64.ofNat (G * 4503599627370496 + T)) := fun G hG => ff_nn (by rw [ff_un (by omega)]; omega)
  have tail : ∀ (e i : Int32), e.toInt = (E : Int) - 1023 → fl_Tq (pw_P L xs) 181 43 [some (fl_d (UInt64.ofNat (E * 4503599627370496 + T))), none, some (.inl e), some (fl_d (UInt64.ofNat (1023 * 4503599627370496 + T))), none, some (.inl i), none] [] m Q := by
    intro e i he
    refine fl_Tq.dld (i := 3) (w := 3) (n := 1) (v := fl_d (UInt64.ofNat (1023 * 4503599627370496 + T))) rfl rfl rfl (fun _ _ _ => rfl) rfl ?_
    refine fl_Tq.psh (n := 1) (v := fl_d 0x3ff0000000000000) rfl rfl rfl (fun _ _ _ => rfl) ?_
    have n1 : vf_n64 (FP.dsub (UInt64.ofNat (1023 * 4503599627370496 + T)) 0x3ff0000000000000) := fp_sub64 (nn 1023 (Nat.le_refl _)) (by decide) (by decide)
    refine fl_Tq.bi (u := fl_d (FP.dsub (UInt64.ofNat (1023 * 4503599627370496 + T)) 0x3ff0000000000000)) rfl rfl rfl (fl_dbin (fun _ _ _ => rfl) n1) ?_
    refine fl_Tq.psh (n := 3) (v := fl_d 0x4330000000000000) rfl rfl rfl (fun _ _ _ => rfl) ?_
    have n2 : vf_n64 (FP.dmul (FP.dsub (UInt64.ofNat (1023 * 4503599627370496 + T)) 0x3ff0000000000000) 0x4330000000000000) := fp_mul64 n1 (by decide) (by decide)
    refine fl_Tq.bi (u := fl_d (FP.dmul (FP.dsub (UInt64.ofNat (1023 * 4503599627370496 + T)) 0x3ff0000000000000) 0x4330000000000000)) rfl rfl rfl (fl_dbin (fun _ _ _ => rfl) n2) ?_
    rw [ff_frac hT]
    refine fl_Tq.un (w := fl_j (Int64.ofNat T)) rfl rfl rfl (fun _ _ _ => by rw [← ff_d2l hT]; rfl) ?_
    refine fl_Tq.stp rfl rfl (fl_bo rfl) rfl ?_
    refine fl_Tq.stp rfl rfl (fl_bo rfl) rfl ?_
    refine fl_Tq.stp rfl rfl (fl_bo rfl) rfl ?_
    refine fl_Tq.stp rfl rfl (fl_bo rfl) rfl ?_
    refine fl_Tq.stp rfl rfl (fl_bo rfl) rfl ?_
    refine fl_Tq.stp rfl rfl (fl_bo rfl) rfl ?_
    refine fl_Tq.stp rfl rfl (fl_bo rfl) rfl ?_
    refine fl_Tq.stp rfl rfl (fl_bo rfl) rfl ?_
    refine fl_Tq.stp rfl rfl (fl_bo rfl) rfl ?_
    refine fl_Tq.ret rfl rfl rfl ?_
    have e1 : (1023 : Int32) + e = Int32.ofNat E := by
      have c : (1023 : Int32).toInt = 1023 := by decide +kernel
      apply Int32.toInt.inj
      rw [at_add32 (by omega) (by omega), at_ofN (by omega), c]
      omega
    rw [← ff_bits (by omega), ← e1] at k
    exact k
  refine fl_Tq.dld (i := 0) (w := 3) (n := 1) (v := fl_d (UInt64.ofNat (E * 4503599627370496 + T))) rfl rfl rfl (fun _ _ _ => rfl) rfl ?_
  refine fl_Tq.psh (n := 1) (v := fl_d 0) rfl rfl rfl (fun _ _ _ => rfl) ?_
  refine fl_Tq.bi (u := .inl (Op.cmpValue (FP.dcmp (UInt64.ofNat (E * 4503599627370496 + T)) 0) .g)) rfl rfl rfl (fun _ _ _ => rfl) ?_
  rw [ff_gt0 (by omega) h2 hT]
  refine fl_Tq.zt rfl (fl_bo rfl) (by decide +kernel) rfl ?_
  refine fl_Tq.stp rfl rfl (fl_bo rfl) rfl ?_
  refine fl_Tq.stp rfl rfl (fl_bo rfl) rfl ?_
  refine fl_Tq.dld (i := 0) (w := 3) (n := 1) (v := fl_d (UInt64.ofNat (E * 4503599627370496 + T))) rfl rfl rfl (fun _ _ _ => rfl) rfl ?_
  refine fl_Tq.dso (i := 3) (w := 3) (n := 1) rfl rfl rfl (fun _ _ _ => rfl) rfl ?_
  refine fl_Tq.stp rfl rfl (fl_bo rfl) rfl ?_
  refine fl_Tq.stp rfl rfl (fl_bo rfl) rfl ?_
  have loop : ∀ (d n : Nat) (e : Int32), E + n + d = 1023 → e.toInt = -(n : Int) → fl_Tq (pw_P L xs) 181 15 [some (fl_d (UInt64.ofNat (E * 4503599627370496 + T))), none, some (.inl e), some (fl_d (UInt64.ofNat ((E + n) * 4503599627370496 + T))), none, some (.inl (Int32.ofNat n)), none] [] m Q := by
    intro d
    induction d with
    | zero =>
      intro n e hn he
      have hE : E + n = 1023 := by omega
      have en := at_ofN (k := n) (by omega)
      rw [hE]
      refine fl_Tq.stp rfl rfl (fl_bo rfl) rfl ?_
      refine fl_Tq.stp rfl rfl (fl_bo rfl) rfl ?_
      by_cases h64 : n < 64
      · refine fl_Tq.jf rfl (fl_bo rfl) ?_ rfl ?_
        · rw [at_c2, en]
          exact decide_eq_false (by show ¬ (0 ≤ (n : Int) - (64 : Int)); omega)
        refine fl_Tq.dld (i := 3) (w := 3) (n := 1) (v := fl_d (UInt64.ofNat (1023 * 4503599627370496 + T))) rfl rfl rfl (fun _ _ _ => rfl) rfl ?_
        refine fl_Tq.psh (n := 1) (v := fl_d 0x3ff0000000000000) rfl rfl rfl (fun _ _ _ => rfl) ?_
        refine fl_Tq.bi (u := .inl (Op.cmpValue (FP.dcmp (UInt64.ofNat (1023 * 4503599627370496 + T)) 0x3ff0000000000000) .g)) rfl rfl rfl (fun _ _ _ => rfl) ?_
        have ge : am_c1 .ge (Op.cmpValue (FP.dcmp (UInt64.ofNat (1023 * 4503599627370496 + T)) 0x3ff0000000000000) .g) = true := by
          rcases ff_ge hT with h | h <;> rw [h] <;> decide +kernel
        refine fl_Tq.zt rfl (fl_bo rfl) ge rfl ?_
        exact tail e _ (by omega)
      · refine fl_Tq.jt rfl (fl_bo rfl) ?_ rfl ?_
        · rw [at_c2, en]
          exact decide_eq_true (by show (0 ≤ (n : Int) - (64 : Int)); omega)
        exact tail e _ (by omega)
    | succ d ih =>
      intro n e hn he
      have en := at_ofN (k := n) (by omega)
      refine fl_Tq.stp rfl rfl (fl_bo rfl) rfl ?_
      refine fl_Tq.stp rfl rfl (fl_bo rfl) rfl ?_
      refine fl_Tq.jf rfl (fl_bo rfl) ?_ rfl ?_
      · rw [at_c2, en]
        exact decide_eq_false (by show ¬ (0 ≤ (n : Int) - (64 : Int)); omega)
      refine fl_Tq.dld (i := 3) (w := 3) (n := 1) (v := fl_d (UInt64.ofNat ((E + n) * 4503599627370496 + T))) rfl rfl rfl (fun _ _ _ => rfl) rfl ?_
      refine fl_Tq.psh (n := 1) (v := fl_d 0x3ff0000000000000) rfl rfl rfl (fun _ _ _ => rfl) ?_
      refine fl_Tq.bi (u := .inl (Op.cmpValue (FP.dcmp (UInt64.ofNat ((E + n) * 4503599627370496 + T)) 0x3ff0000000000000) .g)) rfl rfl rfl (fun _ _ _ => rfl) ?_
      rw [ff_lt (by omega) (by omega) hT]
      refine fl_Tq.zf rfl (fl_bo rfl) (by decide +kernel) rfl ?_
      refine fl_Tq.dld (i := 3) (w := 3) (n := 1) (v := fl_d (UInt64.ofNat ((E + n) * 4503599627370496 + T))) rfl rfl rfl (fun _ _ _ => rfl) rfl ?_
      refine fl_Tq.psh (n := 3) (v := fl_d 0x4000000000000000) rfl rfl rfl (fun _ _ _ => rfl) ?_
      have n2 : vf_n64 (FP.dmul (UInt64.ofNat ((E + n) * 4503599627370496 + T)) 0x4000000000000000) := fp_mul64 (nn (E + n) (by omega)) (by decide) (by decide)
      refine fl_Tq.bi (u := fl_d (FP.dmul (UInt64.ofNat ((E + n) * 4503599627370496 + T)) 0x4000000000000000)) rfl rfl rfl (fl_dbin (fun _ _ _ => rfl) n2) ?_
      rw [ff_dbl (by omega) (by omega) hT]
      refine fl_Tq.dso (i := 3) (w := 3) (n := 1) rfl rfl rfl (fun _ _ _ => rfl) rfl ?_
      refine fl_Tq.stp rfl rfl (fl_bo rfl) rfl ?_
      refine fl_Tq.stp rfl rfl (fl_bo rfl) rfl ?_
      refine fl_Tq.stp rfl rfl (fl_bo rfl) rfl ?_
      have c1 : (Int32.ofInt (-1)).toInt = -1 := by decide +kernel
      have := ih (n + 1) (e + Int32.ofInt (-1)) (by omega) (by rw [at_add32 (by omega) (by omega), c1, he]; omega)
      rw [← at_inc (by omega)] at this
      exact this
  have := loop (1023 - E) 0 (Int32.ofInt 0) (by omega) (by decide +kernel)
  rw [Nat.add_zero] at this
  exact this
/-- nothing -/
theorem ff_181z (k : Q (some (fl_j (0 : Int64))) m) : fl_Tq (pw_P L xs) 181 0 (fl_args (am_mxl (pw_P L xs) 181) [fl_d 0]) [] m Q := by
  refine fl_Tq.dld (i := 0) (w := 3) (n := 1) (v := fl_d 0) rfl rfl rfl (fun _ _ _ => rfl) rfl ?_
  refine fl_Tq.psh (n := 1) (v := fl_d 0) rfl rfl rfl (fun _ _ _ => rfl) ?_
  refine fl_Tq.bi (u := .inl (Op.cmpValue (FP.dcmp 0 0) .g)) rfl rfl rfl (fun _ _ _ => rfl) ?_
  refine fl_Tq.zf rfl (fl_bo rfl) (by decide +kernel) rfl ?_
  refine fl_Tq.stp rfl rfl (fl_bo rfl) rfl ?_
  exact fl_Tq.ret rfl rfl rfl k
/-- a quotient of whole numbers, at most one -/
theorem ff_quo {s a : Int64} {S A : Nat} (hs : s.toInt = (S : Int)) (ha : a.toInt = (A : Int)) (h0 : A ≠ 0) (hA : A < 1073741824) (hS : S ≤ A) : (S = 0 ∧ FP.ddiv (FP.l2d s) (FP.l2d a) = 0) ∨ ∃ E T, 959 ≤ E ∧ E ≤ 1023 ∧ T < 4503599627370496 ∧ FP.ddiv (FP.l2d s) (FP.l2d a) = UInt64.ofNat (E * 4503599627370496 + T) := by
  have es : FP.l2d s = UInt64.ofNat (FP.Core.fromInt FP.Core.b64 (S : Int)) := by
    show UInt64.ofNat (FP.Core.fromInt FP.Core.b64 s.toInt) = _
    rw [hs]
  have eA : FP.l2d a = UInt64.ofNat (FP.Core.fromInt FP.Core.b64 (A : Int)) := by
    show UInt64.ofNat (FP.Core.fromInt FP.Core.b64 a.toInt) = _
    rw [ha]
  have e0 : FP.ddiv (FP.l2d s) (FP.l2d a) = UInt64.ofNat (FP.Core.div FP.Core.b64 (FP.Core.fromInt FP.Core.b64 (S : Int)) (FP.Core.fromInt FP.Core.b64 (A : Int))) := by
    rw [es, eA]
    show UInt64.ofNat (FP.Core.div FP.Core.b64 _ _) = _
    rw [ff_un (Nat.lt_trans (fb_intlt64 (by omega)) (by decide)), ff_un (Nat.lt_trans (fb_intlt64 (by omega)) (by decide))]
  obtain ⟨d, d1, d2, d3, d4, d5⟩ := fb_int64 h0 (by omega)
  have lA : A.log2 < 30 := (Nat.log2_lt h0).mpr hA
  by_cases hS0 : S = 0
  · refine Or.inl ⟨hS0, ?_⟩
    rw [e0, hS0, d5]
    have z : FP.Core.fromInt FP.Core.b64 ((0 : Nat) : Int) = 0 := by decide +kernel
    rw [z]
    unfold FP.Core.div
    rw [fb_d064, fb_dec64 (by omega) (by omega) (by omega)]
    have hM : 4503599627370496 + (A * 2 ^ d - 4503599627370496) ≠ 0 := by omega
    generalize 4503599627370496 + (A * 2 ^ d - 4503599627370496) = M at hM
    generalize (-1074 : Int) + (((1075 - d + 1023 - 1 : Nat) : Int) - 1) = q
    unfold FP.Core.quotient
    dsimp only
    rw [if_neg hM]
    unfold FP.Core.roundRatio
    rw [if_pos rfl]
    decide +kernel
  · refine Or.inr ?_
    obtain ⟨s', s1, s2, s3, s4, s5⟩ := fb_int64 hS0 (by omega)
    rw [e0, s5, d5]
    have le : S.log2 ≤ A.log2 := by
      apply Classical.byContradiction
      intro h
      have a1 := Nat.log2_self_le hS0
      have a2 : A < 2 ^ (A.log2 + 1) := Nat.lt_log2_self
      have a3 : 2 ^ (A.log2 + 1) ≤ 2 ^ S.log2 := Nat.pow_le_pow_right (by decide) (by omega)
      omega
    obtain ⟨G, U, u1, u2, u3, u4, u5, u6⟩ := fb_quo64 (E := 1075 - s') (T := S * 2 ^ s' - 4503599627370496) (F := 1075 - d) (d := A * 2 ^ d - 4503599627370496) (by omega) (by omega) (by omega) (by omega) (by omega) (by omega) (by omega) (by omega)
    by_cases e : s' = d
    · subst e
      have ml : S * 2 ^ s' ≤ A * 2 ^ s' := Nat.mul_le_mul_right _ hS
      by_cases lt : S * 2 ^ s' < A * 2 ^ s'
      · have := u6 (by omega)
        exact ⟨G, U, by omega, by omega, u1, by rw [u2]⟩
      · by_cases hg : G = 1024
        · have := u5 (by omega)
          -- a whole one: not above it
          exfalso
          have eq : S = A := by
            have := Nat.le_of_mul_le_mul_right (a := A) (b := S) (c := 2 ^ s') (by omega) (Nat.two_pow_pos s')
            omega
          rw [eq] at u2
          have one := fb_one64 (E := 1075 - s') (T := A * 2 ^ s' - 4503599627370496) (by omega) (by omega) (by omega)
          rw [one] at u2
          omega
        · exact ⟨G, U, by omega, by omega, u1, by rw [u2]⟩
    · exact ⟨G, U, by omega, by omega, u1, by rw [u2]⟩
end FFD

end

/-! 95.02.f2.lean.txt -/
section
/-! ===== a float's bits, taken apart by hand: they are the bits ===== -/
section FFF
variable {L : Nat} {xs : Nat → Int32} {m : fl_M} {Q : Option fl_V → fl_M → Prop} {E T n d : Nat}
theorem fg_un (h : n < 4294967296) : (UInt32.ofNat n).toNat = n := Nat.mod_eq_of_lt h
theorem fg_one : (0x3f800000 : UInt32).toNat = 127 * 8388608 := by decide +kernel
theorem fg_two : (0x40000000 : UInt32).toNat = 128 * 8388608 := by decide +kernel
theorem fg_big : (0x4b000000 : UInt32).toNat = 150 * 8388608 := by decide +kernel
theorem fg_nn {x : UInt32} (h : x.toNat % 2147483648 ≤ 2139095040) : vf_n32 x := by
  show x &&& 0x7fffffff ≤ 0x7f800000
  have c1 : (0x7fffffff : UInt32).toNat = 2 ^ 31 - 1 := by decide +kernel
  have c2 : (0x7f800000 : UInt32).toNat = 2139095040 := by decide +kernel
  have p : (2 : Nat) ^ 31 = 2147483648 := by decide +kernel
  rw [UInt32.le_iff_toNat_le, UInt32.toNat_and, c1, c2, Nat.and_two_pow_sub_one_eq_mod, p]
  exact h
theorem fg_lt1 (h1 : 1 ≤ E) (h2 : E < 127) (hT : T < 8388608) : FP.fcmp (UInt32.ofNat (E * 8388608 + T)) 0x3f800000 = some .lt := by
  show FP.Core.cmp FP.Core.b32 _ _ = _
  rw [fg_un (by omega), fg_one]
  exact (fb_cmp32 h1 (by omega) hT (by decide) (by decide)).1 h2
theorem fg_ge1 (h1 : 127 ≤ E) (h2 : E < 255) (hT : T < 8388608) : FP.fcmp (UInt32.ofNat (E * 8388608 + T)) 0x3f800000 = some .eq ∨ FP.fcmp (UInt32.ofNat (E * 8388608 + T)) 0x3f800000 = some .gt := by
  show FP.Core.cmp FP.Core.b32 _ _ = _ ∨ FP.Core.cmp FP.Core.b32 _ _ = _
  rw [fg_un (by omega), fg_one]
  exact (fb_cmp32 (by omega) (by omega) hT (by decide) (by decide)).2 h1
theorem fg_lt2 (hT : T < 8388608) : FP.fcmp (UInt32.ofNat (127 * 8388608 + T)) 0x40000000 = some .lt := by
  show FP.Core.cmp FP.Core.b32 _ _ = _
  rw [fg_un (by omega), fg_two]
  exact (fb_cmp32 (by decide) (by decide) hT (by decide) (by decide)).1 (by decide)
theorem fg_ge2 (h1 : 128 ≤ E) (h2 : E < 255) (hT : T < 8388608) : FP.fcmp (UInt32.ofNat (E * 8388608 + T)) 0x40000000 = some .eq ∨ FP.fcmp (UInt32.ofNat (E * 8388608 + T)) 0x40000000 = some .gt := by
  show FP.Core.cmp FP.Core.b32 _ _ = _ ∨ FP.Core.cmp FP.Core.b32 _ _ = _
  rw [fg_un (by omega), fg_two]
  exact (fb_cmp32 (by omega) (by omega) hT (by decide) (by decide)).2 h1
theorem fg_gt0 (h1 : 1 ≤ E) (h2 : E < 255) (hT : T < 8388608) : FP.fcmp (UInt32.ofNat (E * 8388608 + T)) 0 = some .gt := by
  show FP.Core.cmp FP.Core.b32 _ _ = _
  rw [fg_un (by omega)]
  exact fb_pos32 h1 (by omega) hT
theorem fg_dbl (h1 : 1 ≤ E) (h2 : E < 127) (hT : T < 8388608) : FP.fmul (UInt32.ofNat (E * 8388608 + T)) 0x40000000 = UInt32.ofNat ((E + 1) * 8388608 + T) := by
  show UInt32.ofNat (FP.Core.mul FP.Core.b32 _ _) = _
  rw [fg_un (by omega), fg_two, fb_mul32 h1 (by omega) hT (by decide) (by decide) (by omega) (by omega), show E + 128 - 127 = E + 1 by omega]
theorem fg_half (h1 : 127 ≤ E) (h2 : E < 253) (hT : T < 8388608) : FP.fdiv (UInt32.ofNat ((E + 1) * 8388608 + T)) 0x40000000 = UInt32.ofNat (E * 8388608 + T) := by
  show UInt32.ofNat (FP.Core.div FP.Core.b32 _ _) = _
  rw [fg_un (by omega), fg_two, fb_half32 (by omega) (by omega) hT (by decide) (by decide) (by omega) (by omega)]
  rw [show E + 1 + 127 - 128 = E by omega]
theorem fg_frac (hT : T < 8388608) : FP.fmul (FP.fsub (UInt32.ofNat (127 * 8388608 + T)) 0x3f800000) 0x4b000000 = UInt32.ofNat (FP.Core.fromInt FP.Core.b32 (T : Int)) := by
  show UInt32.ofNat (FP.Core.mul FP.Core.b32 (UInt32.ofNat (FP.Core.sub FP.Core.b32 _ _)).toNat _) = _
  rw [fg_un (n := 127 * 8388608 + T) (by omega), fg_one, fg_un (Nat.lt_trans (fb_sublt32 hT) (by decide)), fg_big, fb_frac32 hT]
theorem fg_f2i (hT : T < 8388608) : FP.f2i (UInt32.ofNat (FP.Core.fromInt FP.Core.b32 (T : Int))) = Int32.ofNat T := by
  show Int32.ofInt (FP.Core.toInt (-2 ^ 31) (2 ^ 31 - 1) (FP.Core.decode FP.Core.b32 _)) = _
  have p : (2 : Int) ^ 31 = 2147483648 := by decide
  rw [fg_un (Nat.lt_trans (fb_intlt32 (by omega)) (by decide)), fb_toint32 (by omega) (by decide) (by omega)]
  exact Int32.ofInt_eq_ofNat
theorem fg_shl : (List.range 256).all (fun e => decide ((Int32.ofNat e) <<< ((23 : Int32) &&& 31) = Int32.ofNat (e * 8388608))) = true := by decide +kernel
theorem fg_bits (h : E < 256) : ((Int32.ofNat E) <<< ((23 : Int32) &&& 31)) + Int32.ofNat T = (UInt32.ofNat (E * 8388608 + T)).toInt32 := by
  rw [of_decide_eq_true (List.all_eq_true.mp fg_shl E (List.mem_range.mpr h)), ← Int32.ofNat_add]
  rfl
theorem fg_328 {b : UInt32} (hb : (Op.cmpValue (FP.fcmp b b) .l).toInt = 0) (k : Q (some (.inl (0 : Int32))) m) : fl_Tq (pw_P L xs) 328 0 (fl_args (am_mxl (pw_P L xs) 328) [fl_f b]) [] m Q := by
  refine fl_Tq.dld (i := 0) (w := 2) (n := 1) (v := fl_f b) rfl rfl rfl (fun _ _ _ => rfl) rfl ?_
  refine fl_Tq.dld (i := 0) (w := 2) (n := 1) (v := fl_f b) rfl rfl rfl (fun _ _ _ => rfl) rfl ?_
  refine fl_Tq.bi (u := .inl (Op.cmpValue (FP.fcmp b b) .l)) rfl rfl rfl (fun _ _ _ => rfl) ?_
  refine fl_Tq.zt rfl (fl_bo rfl) (by rw [at_c1]; exact decide_eq_true hb) rfl ?_
  refine fl_Tq.stp rfl rfl (fl_bo rfl) rfl ?_
  exact fl_Tq.ret rfl rfl rfl k
theorem fg_329 {b : UInt32} (hb : (Op.cmpValue (FP.fcmp b b) .l).toInt = 0) (k : Q (some (.inl b.toInt32)) m) : fl_Tq (pw_P L xs) 329 0 (fl_args (am_mxl (pw_P L xs) 329) [fl_f b]) [] m Q := by
  refine fl_Tq.dld (i := 0) (w := 2) (n := 1) (v := fl_f b) rfl rfl rfl (fun _ _ _ => rfl) rfl ?_
  refine fl_Tq.cal rfl rfl (fl_bo rfl) rfl ?_
  refine fg_328 hb ?_
  refine fl_Tq.zf rfl (fl_bo rfl) (by decide +kernel) rfl ?_
  refine fl_Tq.dld (i := 0) (w := 2) (n := 1) (v := fl_f b) rfl rfl rfl (fun _ _ _ => rfl) rfl ?_
  refine fl_Tq.gen (st' := [.inl b.toInt32]) rfl rfl rfl (fun la hl => ⟨la, rfl, hl⟩) ?_
  exact fl_Tq.ret rfl rfl rfl k
theorem fg_self (h1 : 1 ≤ E) (h2 : E < 255) (hT : T < 8388608) : (Op.cmpValue (FP.fcmp (UInt32.ofNat (E * 8388608 + T)) (UInt32.ofNat (E * 8388608 + T))) .l).toInt = 0 := by
  have e : FP.fcmp (UInt32.ofNat (E * 8388608 + T)) (UInt32.ofNat (E * 8388608 + T)) = some .eq := by
    show FP.Core.cmp FP.Core.b32 _ _ = _
    rw [fg_un (by omega)]
    unfold FP.Core.cmp
    rw [fb_dec32 h1 (by omega) hT]
    show some (compareOfLessAndEq _ _) = _
    unfold compareOfLessAndEq
    rw [if_neg (Int.lt_irrefl _), if_pos rfl]
  rw [e]
  decide +kernel
/-- bitsOfFloat -/
theorem fg_182 (h1 : 97 ≤ E) (h2 : E ≤ 157) (hT : T < 8388608) (k : Q (some (.inl (UInt32.ofNat (E * 8388608 + T)).toInt32)) m) : fl_Tq (pw_P L xs) 182 0 (fl_args (am_mxl (pw_P L xs) 182) [fl_f (UInt32.ofNat (E * 8388608 + T))]) [] m Q := by
  have nn : ∀ G : Nat, G < 255 → vf_n32 (UInt32.ofNat (G * 8388608 + T)) := fun G hG => fg_nn (by rw [fg_un (by omega)]; omega)
  have cm1 : (Int32.ofInt (-1)).toInt = -1 := by decide +kernel
  have c1 : (Int32.ofInt 1).toInt = 1 := by decide +kernel
  have tail : ∀ (e i : Int32), e.toInt = (E : Int) - 127 → fl_Tq (pw_P L xs) 182 66 [some (fl_f (UInt32.ofNat (E * 8388608 + T))), some (.inl e), some (fl_f (UInt32.ofNat (127 * 8388608 + T))), some (.inl i)] [] m Q := by
    intro e i he
    refine fl_Tq.dld (i := 2) (w := 2) (n := 1) (v := fl_f (UInt32.ofNat (127 * 8388608 + T))) rfl rfl rfl (fun _ _ _ => rfl) rfl ?_
    refine fl_Tq.psh (n := 1) (v := fl_f 0x3f800000) rfl rfl rfl (fun _ _ _ => rfl) ?_
    have n1 : vf_n32 (FP.fsub (UInt32.ofNat (127 * 8388608 + T)) 0x3f800000) := fp_sub32 (nn 127 (by decide)) (by decide) (by decide)
    refine fl_Tq.bi (u := fl_f (FP.fsub (UInt32.ofNat (127 * 8388608 + T)) 0x3f800000)) rfl rfl rfl (fl_fbin (fun _ _ _ => rfl) n1) ?_
    refine fl_Tq.psh (n := 3) (v := fl_f 0x4b000000) rfl rfl rfl (fun _ _ _ => rfl) ?_
    have n2 : vf_n32 (FP.fmul (FP.fsub (UInt32.ofNat (127 * 8388608 + T)) 0x3f800000) 0x4b000000) := fp_mul32 n1 (by decide) (by decide)
    refine fl_Tq.bi (u := fl_f (FP.fmul (FP.fsub (UInt32.ofNat (127 * 8388608 + T)) 0x3f800000) 0x4b000000)) rfl rfl rfl (fl_fbin (fun _ _ _ => rfl) n2) ?_
    rw [fg_frac hT]
    refine fl_Tq.un (w := .inl (Int32.ofNat T)) rfl rfl rfl (fun _ _ _ => by rw [← fg_f2i hT]; rfl) ?_
    refine fl_Tq.stp rfl rfl (fl_bo rfl) rfl ?_
    refine fl_Tq.stp rfl rfl (fl_bo rfl) rfl ?_
    refine fl_Tq.stp rfl rfl (fl_bo rfl) rfl ?_
    refine fl_Tq.stp rfl rfl (fl_bo rfl) rfl ?_
    refine fl_Tq.stp rfl rfl (fl_bo rfl) rfl ?_
    refine fl_Tq.stp rfl rfl (fl_bo rfl) rfl ?_
    refine fl_Tq.stp rfl rfl (fl_bo rfl) rfl ?_
    refine fl_Tq.stp rfl rfl (fl_bo rfl) rfl ?_
    refine fl_Tq.ret rfl rfl rfl ?_
    have e1 : (127 : Int32) + e = Int32.ofNat E := by
      have c : (127 : Int32).toInt = 127 := by decide +kernel
      apply Int32.toInt.inj
      rw [at_add32 (by omega) (by omega), at_ofN (by omega), c]
      omega
    rw [← fg_bits (by omega), ← e1] at k
    exact k
  have down : ∀ (d n : Nat) (e : Int32), n + d ≤ 32 → e.toInt + d = (E : Int) - 127 → fl_Tq (pw_P L xs) 182 41 [some (fl_f (UInt32.ofNat (E * 8388608 + T))), some (.inl e), some (fl_f (UInt32.ofNat ((127 + d) * 8388608 + T))), some (.inl (Int32.ofNat n))] [] m Q := by
    intro d
    induction d with
    | zero =>
      intro n e hn he
      have en := at_ofN (k := n) (by omega)
      rw [Nat.add_zero]
      refine fl_Tq.stp rfl rfl (fl_bo rfl) rfl ?_
      refine fl_Tq.stp rfl rfl (fl_bo rfl) rfl ?_
      by_cases h32 : n < 32
      · refine fl_Tq.jf rfl (fl_bo rfl) ?_ rfl ?_
        · rw [at_c2, en]
          exact decide_eq_false (by show ¬ (0 ≤ (n : Int) - (32 : Int)); omega)
        refine fl_Tq.dld (i := 2) (w := 2) (n := 1) (v := fl_f (UInt32.ofNat (127 * 8388608 + T))) rfl rfl rfl (fun _ _ _ => rfl) rfl ?_
        refine fl_Tq.psh (n := 1) (v := fl_f 0x40000000) rfl rfl rfl (fun _ _ _ => rfl) ?_
        refine fl_Tq.bi (u := .inl (Op.cmpValue (FP.fcmp (UInt32.ofNat (127 * 8388608 + T)) 0x40000000) .l)) rfl rfl rfl (fun _ _ _ => rfl) ?_
        rw [fg_lt2 hT]
        refine fl_Tq.zt rfl (fl_bo rfl) (by decide +kernel) rfl ?_
        exact tail e _ (by omega)
      · refine fl_Tq.jt rfl (fl_bo rfl) ?_ rfl ?_
        · rw [at_c2, en]
          exact decide_eq_true (by show (0 ≤ (n : Int) - (32 : Int)); omega)
        exact tail e _ (by omega)
    | succ d ih =>
      intro n e hn he
      have en := at_ofN (k := n) (by omega)
      refine fl_Tq.stp rfl rfl (fl_bo rfl) rfl ?_
      refine fl_Tq.stp rfl rfl (fl_bo rfl) rfl ?_
      refine fl_Tq.jf rfl (fl_bo rfl) ?_ rfl ?_
      · rw [at_c2, en]
        exact decide_eq_false (by show ¬ (0 ≤ (n : Int) - (32 : Int)); omega)
      refine fl_Tq.dld (i := 2) (w := 2) (n := 1) (v := fl_f (UInt32.ofNat ((127 + (d + 1)) * 8388608 + T))) rfl rfl rfl (fun _ _ _ => rfl) rfl ?_
      refine fl_Tq.psh (n := 1) (v := fl_f 0x40000000) rfl rfl rfl (fun _ _ _ => rfl) ?_
      refine fl_Tq.bi (u := .inl (Op.cmpValue (FP.fcmp (UInt32.ofNat ((127 + (d + 1)) * 8388608 + T)) 0x40000000) .l)) rfl rfl rfl (fun _ _ _ => rfl) ?_
      have ge : am_c1 .lt (Op.cmpValue (FP.fcmp (UInt32.ofNat ((127 + (d + 1)) * 8388608 + T)) 0x40000000) .l) = false := by
        rcases fg_ge2 (E := 127 + (d + 1)) (by omega) (by omega) hT with h | h <;> rw [h] <;> decide +kernel
      refine fl_Tq.zf rfl (fl_bo rfl) ge rfl ?_
      refine fl_Tq.dld (i := 2) (w := 2) (n := 1) (v := fl_f (UInt32.ofNat ((127 + (d + 1)) * 8388608 + T))) rfl rfl rfl (fun _ _ _ => rfl) rfl ?_
      refine fl_Tq.psh (n := 1) (v := fl_f 0x40000000) rfl rfl rfl (fun _ _ _ => rfl) ?_
      have n2 : vf_n32 (FP.fdiv (UInt32.ofNat ((127 + (d + 1)) * 8388608 + T)) 0x40000000) := fp_div32 (nn (127 + (d + 1)) (by omega)) (by decide) (by decide)
      refine fl_Tq.bi (u := fl_f (FP.fdiv (UInt32.ofNat ((127 + (d + 1)) * 8388608 + T)) 0x40000000)) rfl rfl rfl (fl_fbin (fun _ _ _ => rfl) n2) ?_
      rw [show 127 + (d + 1) = (127 + d) + 1 by omega, fg_half (by omega) (by omega) hT]
      refine fl_Tq.dso (i := 2) (w := 2) (n := 1) rfl rfl rfl (fun _ _ _ => rfl) rfl ?_
      refine fl_Tq.stp rfl rfl (fl_bo rfl) rfl ?_
      refine fl_Tq.stp rfl rfl (fl_bo rfl) rfl ?_
      refine fl_Tq.stp rfl rfl (fl_bo rfl) rfl ?_
      have := ih (n + 1) (e + Int32.ofInt 1) (by omega) (by rw [at_add32 (by omega) (by omega), c1]; omega)
      rw [← at_inc (by omega)] at this
      exact this
  refine fl_Tq.dld (i := 0) (w := 2) (n := 1) (v := fl_f (UInt32.ofNat (E * 8388608 + T))) rfl rfl rfl (fun _ _ _ => rfl) rfl ?_
  refine fl_Tq.psh (n := 1) (v := fl_f 0) rfl rfl rfl (fun _ _ _ => rfl) ?_
  refine fl_Tq.bi (u := .inl (Op.cmpValue (FP.fcmp (UInt32.ofNat (E * 8388608 + T)) 0) .g)) rfl rfl rfl (fun _ _ _ => rfl) ?_
  rw [fg_gt0 (by omega) (by omega) hT]
  refine fl_Tq.zt rfl (fl_bo rfl) (by decide +kernel) rfl ?_
  refine fl_Tq.stp rfl rfl (fl_bo rfl) rfl ?_
  refine fl_Tq.stp rfl rfl (fl_bo rfl) rfl ?_
  refine fl_Tq.dld (i := 0) (w := 2) (n := 1) (v := fl_f (UInt32.ofNat (E * 8388608 + T))) rfl rfl rfl (fun _ _ _ => rfl) rfl ?_
  refine fl_Tq.dso (i := 2) (w := 2) (n := 1) rfl rfl rfl (fun _ _ _ => rfl) rfl ?_
  refine fl_Tq.stp rfl rfl (fl_bo rfl) rfl ?_
  refine fl_Tq.stp rfl rfl (fl_bo rfl) rfl ?_
  -- at one or above: on
  have out : ∀ (G n : Nat) (e : Int32), 127 ≤ G → G ≤ 157 → n < 32 → e.toInt + ((G - 127 : Nat) : Int) = (E : Int) - 127 → fl_Tq (pw_P L xs) 182 14 [some (fl_f (UInt32.ofNat (E * 8388608 + T))), some (.inl e), some (fl_f (UInt32.ofNat (G * 8388608 + T))), some (.inl (Int32.ofNat n))] [] m Q := by
    intro G n e g1 g2 hn he
    have en := at_ofN (k := n) (by omega)
    refine fl_Tq.stp rfl rfl (fl_bo rfl) rfl ?_
    refine fl_Tq.stp rfl rfl (fl_bo rfl) rfl ?_
    refine fl_Tq.jf rfl (fl_bo rfl) ?_ rfl ?_
    · rw [at_c2, en]
      exact decide_eq_false (by show ¬ (0 ≤ (n : Int) - (32 : Int)); omega)
    refine fl_Tq.dld (i := 2) (w := 2) (n := 1) (v := fl_f (UInt32.ofNat (G * 8388608 + T))) rfl rfl rfl (fun _ _ _ => rfl) rfl ?_
    refine fl_Tq.psh (n := 1) (v := fl_f 0x3f800000) rfl rfl rfl (fun _ _ _ => rfl) ?_
    refine fl_Tq.bi (u := .inl (Op.cmpValue (FP.fcmp (UInt32.ofNat (G * 8388608 + T)) 0x3f800000) .g)) rfl rfl rfl (fun _ _ _ => rfl) ?_
    have ge : am_c1 .ge (Op.cmpValue (FP.fcmp (UInt32.ofNat (G * 8388608 + T)) 0x3f800000) .g) = true := by
      rcases fg_ge1 (E := G) g1 (by omega) hT with h | h <;> rw [h] <;> decide +kernel
    refine fl_Tq.zt rfl (fl_bo rfl) ge rfl ?_
    refine fl_Tq.stp rfl rfl (fl_bo rfl) rfl ?_
    refine fl_Tq.stp rfl rfl (fl_bo rfl) rfl ?_
    have := down (G - 127) 0 e (by omega) he
    rw [show 127 + (G - 127) = G by omega] at this
    exact this
  have loop : ∀ (d n : Nat) (e : Int32), E + n + d = 127 → e.toInt = -(n : Int) → fl_Tq (pw_P L xs) 182 14 [some (fl_f (UInt32.ofNat (E * 8388608 + T))), some (.inl e), some (fl_f (UInt32.ofNat ((E + n) * 8388608 + T))), some (.inl (Int32.ofNat n))] [] m Q := by
    intro d
    induction d with
    | zero =>
      intro n e hn he
      exact out (E + n) n e (by omega) (by omega) (by omega) (by omega)
    | succ d ih =>
      intro n e hn he
      have en := at_ofN (k := n) (by omega)
      refine fl_Tq.stp rfl rfl (fl_bo rfl) rfl ?_
      refine fl_Tq.stp rfl rfl (fl_bo rfl) rfl ?_
      refine fl_Tq.jf rfl (fl_bo rfl) ?_ rfl ?_
      · rw [at_c2, en]
        exact decide_eq_false (by show ¬ (0 ≤ (n : Int) - (32 : Int)); omega)
      refine fl_Tq.dld (i := 2) (w := 2) (n := 1) (v := fl_f (UInt32.ofNat ((E + n) * 8388608 + T))) rfl rfl rfl (fun _ _ _ => rfl) rfl ?_
      refine fl_Tq.psh (n := 1) (v := fl_f 0x3f800000) rfl rfl rfl (fun _ _ _ => rfl) ?_
      refine fl_Tq.bi (u := .inl (Op.cmpValue (FP.fcmp (UInt32.ofNat ((E + n) * 8388608 + T)) 0x3f800000) .g)) rfl rfl rfl (fun _ _ _ => rfl) ?_
      rw [fg_lt1 (by omega) (by omega) hT]
      refine fl_Tq.zf rfl (fl_bo rfl) (by decide +kernel) rfl ?_
      refine fl_Tq.dld (i := 2) (w := 2) (n := 1) (v := fl_f (UInt32.ofNat ((E + n) * 8388608 + T))) rfl rfl rfl (fun _ _ _ => rfl) rfl ?_
      refine fl_Tq.psh (n := 1) (v := fl_f 0x40000000) rfl rfl rfl (fun _ _ _ => rfl) ?_
      have n2 : vf_n32 (FP.fmul (UInt32.ofNat ((E + n) * 8388608 + T)) 0x40000000) := fp_mul32 (nn (E + n) (by omega)) (by decide) (by decide)
      refine fl_Tq.bi (u := fl_f (FP.fmul (UInt32.ofNat ((E + n) * 8388608 + T)) 0x40000000)) rfl rfl rfl (fl_fbin (fun _ _ _ => rfl) n2) ?_
      rw [fg_dbl (by omega) (by omega) hT]
      refine fl_Tq.dso (i := 2) (w := 2) (n := 1) rfl rfl rfl (fun _ _ _ => rfl) rfl ?_
      refine fl_Tq.stp rfl rfl (fl_bo rfl) rfl ?_
      refine fl_Tq.stp rfl rfl (fl_bo rfl) rfl ?_
      refine fl_Tq.stp rfl rfl (fl_bo rfl) rfl ?_
      have := ih (n + 1) (e + Int32.ofInt (-1)) (by omega) (by rw [at_add32 (by omega) (by omega), cm1, he]; omega)
      rw [← at_inc (by omega)] at this
      exact this
  by_cases hE : E ≤ 127
  · have := loop (127 - E) 0 (Int32.ofInt 0) (by omega) (by decide +kernel)
    rw [Nat.add_zero] at this
    exact this
  · exact out E 0 (Int32.ofInt 0) (by omega) h2 (by decide) (by rw [show (Int32.ofInt 0).toInt = 0 by decide +kernel]; omega)
theorem fg_182z (k : Q (some (.inl (0 : Int32))) m) : fl_Tq (pw_P L xs) 182 0 (fl_args (am_mxl (pw_P L xs) 182) [fl_f 0]) [] m Q := by
  refine fl_Tq.dld (i := 0) (w := 2) (n := 1) (v := fl_f 0) rfl rfl rfl (fun _ _ _ => rfl) rfl ?_
  refine fl_Tq.psh (n := 1) (v := fl_f 0) rfl rfl rfl (fun _ _ _ => rfl) ?_
  refine fl_Tq.bi (u := .inl (Op.cmpValue (FP.fcmp 0 0) .g)) rfl rfl rfl (fun _ _ _ => rfl) ?_
  refine fl_Tq.zf rfl (fl_bo rfl) (by decide +kernel) rfl ?_
  refine fl_Tq.stp rfl rfl (fl_bo rfl) rfl ?_
  exact fl_Tq.ret rfl rfl rfl k
/-- a quotient of whole numbers -/
theorem fg_quo {s a : Int32} {S A : Nat} (hs : s.toInt = (S : Int)) (ha : a.toInt = (A : Int)) (h0 : A ≠ 0) (hA : A < 32) (hS : S < 65536) : (S = 0 ∧ FP.fdiv (FP.i2f s) (FP.i2f a) = 0) ∨ ∃ E T, 97 ≤ E ∧ E ≤ 157 ∧ T < 8388608 ∧ FP.fdiv (FP.i2f s) (FP.i2f a) = UInt32.ofNat (E * 8388608 + T) := by
  have es : FP.i2f s = UInt32.ofNat (FP.Core.fromInt FP.Core.b32 (S : Int)) := by
    show UInt32.ofNat (FP.Core.fromInt FP.Core.b32 s.toInt) = _
    rw [hs]
  have eA : FP.i2f a = UInt32.ofNat (FP.Core.fromInt FP.Core.b32 (A : Int)) := by
    show UInt32.ofNat (FP.Core.fromInt FP.Core.b32 a.toInt) = _
    rw [ha]
  have e0 : FP.fdiv (FP.i2f s) (FP.i2f a) = UInt32.ofNat (FP.Core.div FP.Core.b32 (FP.Core.fromInt FP.Core.b32 (S : Int)) (FP.Core.fromInt FP.Core.b32 (A : Int))) := by
    rw [es, eA]
    show UInt32.ofNat (FP.Core.div FP.Core.b32 _ _) = _
    rw [fg_un (Nat.lt_trans (fb_intlt32 (by omega)) (by decide)), fg_un (Nat.lt_trans (fb_intlt32 (by omega)) (by decide))]
  obtain ⟨d, d1, d2, d3, d4, d5⟩ := fb_int32 h0 (by omega)
  have lA : A.log2 < 5 := (Nat.log2_lt h0).mpr hA
  by_cases hS0 : S = 0
  · refine Or.inl ⟨hS0, ?_⟩
    rw [e0, hS0, d5]
    have z : FP.Core.fromInt FP.Core.b32 ((0 : Nat) : Int) = 0 := by decide +kernel
    rw [z]
    unfold FP.Core.div
    rw [fb_d032, fb_dec32 (by omega) (by omega) (by omega)]
    have hM : 8388608 + (A * 2 ^ d - 8388608) ≠ 0 := by omega
    generalize 8388608 + (A * 2 ^ d - 8388608) = M at hM
    unfold FP.Core.quotient
    dsimp only
    rw [if_neg hM]
    unfold FP.Core.roundRatio
    rw [if_pos rfl]
    decide +kernel
  · refine Or.inr ?_
    obtain ⟨s', s1, s2, s3, s4, s5⟩ := fb_int32 hS0 (by omega)
    have lS : S.log2 < 16 := (Nat.log2_lt hS0).mpr hS
    rw [e0, s5, d5]
    obtain ⟨G, U, u1, u2, u3, u4, -, -⟩ := fb_quo32 (E := 150 - s') (T := S * 2 ^ s' - 8388608) (F := 150 - d) (d := A * 2 ^ d - 8388608) (by omega) (by omega) (by omega) (by omega) (by omega) (by omega) (by omega) (by omega)
    exact ⟨G, U, by omega, by omega, u1, by rw [u2]⟩
end FFF

end

/-! 95.03.trial.lean.txt -/
section
/-! ===== the trial block: what a second, a drive leave alone; what is told of it ===== -/
section C2FRM
variable {fc fr fc' fr' : t2_F} {p : Nat} {x : Int32}
theorem c2_I.ext (h : c2_I fc fr) (P : ∀ p : Nat, 181 ≤ p → p < 271 → fc' p = fc p) (W : ∀ w : Nat, 2 ≤ w → w < 1420 → fr' 280 w = fr 280 w) : c2_I fc' fr' := by
  obtain ⟨⟨⟨g5, g6, g7, g8⟩, ⟨g9, g10, g11, g12⟩, g13, g14, g15, g16⟩, rs, ⟨gt, gw, tr, gm⟩, cl, ok⟩ := h
  have P1 : fc' 181 = fc 181 := P 181 (by decide) (by decide)
  have n16 := ok.2.1.2.2.1
  refine ⟨⟨⟨?_, ?_, ?_, ?_⟩, ⟨?_, ?_, ?_, ?_⟩, ?_, ?_, ?_, ?_⟩, rs.congr (P _ (by decide) (by decide)) (fun k hk => W _ (by omega) (by omega)), ⟨gt.congr ok.2.2.2.2.2.1.1.2 (P _ (by decide) (by decide)) (P _ (by decide) (by decide)) (P _ (by decide) (by decide)) (P _ (by decide) (by decide)) (P _ (by decide) (by decide)) (P _ (by decide) (by decide)) (fun w hw => W w (by omega) (by omega)), gw.congr (P _ (by decide) (by decide)) (P _ (by decide) (by decide)) (P _ (by decide) (by decide)) (P _ (by decide) (by decide)) (P _ (by decide) (by decide)) (fun w hw => W w (by omega) (by omega)), tr.congr (P _ (by decide) (by decide)) (P _ (by decide) (by decide)) (fun w hw => W w (by omega) (by omega)), gm.congr (fun p hp => P p (by omega) (by omega)) (fun w hw => W w (by omega) (by omega))⟩, fun C hC => ?_, ?_⟩
  · rw [P1, W 2 (by decide) (by decide), g5]
  · rw [P1, W 7 (by decide) (by decide), g6]
  · rw [P1, W 3 (by decide) (by decide), g7]
  · rw [P1, W 4 (by decide) (by decide), g8]
  · rw [P1, W 5 (by decide) (by decide), g9]
  · rw [P1, W 14 (by decide) (by decide), g10]
  · rw [P1, W 8 (by decide) (by decide), g11]
  · rw [P1, W 9 (by decide) (by decide), g12]
  · rw [P1, W 10 (by decide) (by decide), g13]
  · rw [P1, W 11 (by decide) (by decide), g14]
  · rw [P1, W 12 (by decide) (by decide), g15]
  · rw [P1, W 13 (by decide) (by decide), g16]
  · rw [W 2 (by decide) (by decide)] at hC
    exact ⟨(cl C hC).1.congr (P _ (by omega) (by omega)) (fun k hk => W _ (by omega) (by omega)), (cl C hC).2.congr (fun j _ _ => by rw [P _ (by omega) (by omega)]) (fun p hp => P p (by omega) (by omega)) (fun w hw => W _ (by omega) (by omega))⟩
  · refine ok.upd (fun w hw => W w (by omega) (by omega)) (fun k hk => by rw [W _ (by omega) (by omega)]; exact ok.s hk) (by rw [W 5 (by decide) (by decide)]; exact ok.2.1.1) (by rw [W 4 (by decide) (by decide)]; exact ok.2.1.2.1) (by rw [W 7 (by decide) (by decide)]; exact ok.2.1.2.2.2) (by rw [W 16 (by decide) (by decide), W 20 (by decide) (by decide), W 21 (by decide) (by decide)]; exact ok.2.2.2.2.2.2.1) (fun C hC => ?_)
    exact (ok.2.2.2.2.2.2.2 C hC).congr (fun w hw => W _ (by omega) (by omega)) (by rw [W 7 (by decide) (by decide)]; exact Int.le_refl _)
theorem c2_I.curP' (h : c2_I fc fr) (hp : p < 181 ∨ 271 ≤ p) : c2_letCurrent_m fc p = fc p := by
  have cn := h.cnt
  obtain ⟨⟨⟨g5, g6, g7, g8⟩, -⟩, rs, gx, cl, ok⟩ := id h
  have hm0 : t2_lo 4 ≤ (fr 280 38).toInt ∧ (fr 280 38).toInt ≤ t2_hi 4 := ok.s (k := 4) (by decide)
  have l4 : t2_lo 4 = 1 := by decide
  have h4 : t2_hi 4 = 99999 := by decide
  obtain ⟨-, -, -, k4, -⟩ := c2_cur_eq h.rl g7 gx.1.1 ok.2.2.1 (by omega)
  exact funext (fun k => k4 p k (fun q => absurd q (by omega)) (fun C c q => absurd q (by omega)))
theorem c2_I.balP' (h : c2_I fc fr) (hp : p < 181 ∨ 271 ≤ p) : c2_balance_m fc p = fc p := by
  have hh := h
  obtain ⟨⟨⟨g5, g6, g7, g8⟩, ⟨g9, g10, g11, g12⟩, g13, g14, g15, g16⟩, rs, gx, cl, ok⟩ := h
  have cn := hh.cnt
  generalize hnn : (fr 280 2).toInt.toNat = n at *
  have hM : (fc 181 5).toInt.toNat = n := by omega
  have oc : ∀ C : Nat, C < n → t2_OC (fr 280) C := fun C hC => (hh.cell (by omega)).2
  have rc : ∀ C : Nat, C < n → c2_Rc fc fr C := fun C hC => (hh.cell (by omega)).1.1
  have rb : c2_RB fc fr n := ⟨rs, fun C hC => ⟨rc C hC, by rw [(rc C hC).1.1]; exact (oc C hC).1.1, (oc C hC).1⟩, g14, g15, g11, g13, g16⟩
  have b13 : t2_lo 13 ≤ (fr 280 47).toInt ∧ (fr 280 47).toInt ≤ t2_hi 13 := ok.s (k := 13) (by decide)
  have q13 : t2_lo 13 = 0 ∧ t2_hi 13 = 16 := by decide
  have hl : fc 190 3 = fr 280 6 := gx.2.1.1.1
  obtain ⟨P, -, -, -⟩ := c2_balance_o hM hnn cn.2.1 rb hl g6 (by omega)
  exact P p (by omega) (fun C hC => by omega)
theorem c2_u6_P (h : c2_I fc fr) (ht : (fr 280 7).toInt < 9999) (hp : p < 181 ∨ 271 ≤ p) : c2_u6 fc p = fc p := by
  obtain ⟨i1, i2, i3, i4, i5, i6, -⟩ := h.chain ht
  have b6 := i6.hc
  unfold c2_u6
  rw [(c2_measure_o (n := (c2_s5 (c2_balance_m (c2_passCells_m (c2_letCurrent_m (c2_moveBus_m (c2_s1 fc))))) 181 5).toInt.toNat) rfl).1 p (by omega) (by omega) (fun C hC => by omega)]
  have e5 : ∀ f : t2_F, c2_s5 f p = f p := fun f => fl_row_ne (by omega)
  rw [e5, i4.balP' hp, c2_cells_p (Or.inr (fun C hC => by omega)) (by have := i3.hc; omega), i2.curP' hp, c2_moveBus_fr (by omega)]
  exact fl_row_ne (by omega)
theorem c2_I.secP (h : c2_I fc fr) (ht : (fr 280 7).toInt < 9999) (hp : p < 181 ∨ 271 ≤ p) : c2_sec_m fc p = fc p := by
  obtain ⟨-, -, -, -, -, -, -, -, ⟨i8, -⟩, -, -⟩ := h.chain ht
  have b8 := i8.hc
  unfold c2_sec_m c2_s9
  rw [fl_row_ne (by omega), c2_obeyRules_fr (by omega)]
  unfold c2_sKeep_m
  rw [c2_sKeep_f25_fr (fun j hj => by omega) (fun j hj => by omega) (fun j hj => by omega) (fun j hj => by omega), c2_tadd_fr (by omega) (by omega), c2_s8_p (by omega) (by omega), c2_u6_P h ht hp]
theorem c2_K.runP (h : c2_K fc fr) (hp : p < 181 ∨ 271 ≤ p) : ∀ k : Nat, (fr 280 7).toInt + k ≤ 9999 → c2_runN fc k p = fc p := by
  intro k
  induction k with
  | zero => intro _; rfl
  | succ k ih =>
    intro hk
    obtain ⟨⟨a, -⟩, t, -⟩ := h.run (0 : Int32) (k := k) (by omega)
    show c2_sec_m (c2_runN fc k) p = _
    rw [a.secP (by omega) hp, ih (by omega)]
theorem c2_K.drvP (h : c2_K fc fr) (hp : p < 181 ∨ 271 ≤ p) : ∀ j : Nat, (j : Int) ≤ (fr 280 19).toInt → (c2_drv fc j).1 p = fc p := by
  have q20 : t2_lo 20 = -99999 ∧ t2_hi 20 = 99999 := by decide
  intro j
  induction j with
  | zero => intro _; rfl
  | succ j ih =>
    intro hj
    obtain ⟨a, b, d⟩ := h.drv j (by omega)
    obtain ⟨p1, p2, p3, p4, p5, p6⟩ := a.pn (j := j) (by rw [b]; omega)
    have s := a.set (k := 20) (v := (r_drv fr j).1 280 (119 + 2 * j)) (by decide) (by omega)
    have t7 : r_set (r_drv fr j).1 20 ((r_drv fr j).1 280 (119 + 2 * j)) 280 7 = (r_drv fr j).1 280 7 := by unfold r_set; rw [fl_row_self, upd_ne (by decide)]
    show c2_runN (c2_set (c2_drv fc j).1 20 ((c2_drv fc j).1 188 (j * 2))) (c2_pn (c2_drv fc j).1 j).toInt.toNat p = _
    rw [p1, p4, s.runP hp _ (by rw [t7]; omega)]
    unfold c2_set
    rw [fl_row_ne (by omega), ih (by omega)]
theorem c2_I.tell (h : c2_I fc fr) : c2_tell_v fc x = r_is_v fr x := by
  obtain ⟨⟨⟨g5, g6, g7, g8⟩, ⟨g9, g10, g11, g12⟩, g13, g14, g15, g16⟩, rs, gx, cl, ok⟩ := h
  have n2 := ok.2.1.2.2.1
  have b5 := ok.2.1.1
  have hpk : c2_packAt_v fc (fc 181 9) = r_pack_v fr := by
    have e := c2_pack_eq (fc := fc) (fr := fr) (n := (fr 280 2).toInt.toNat) (fun C hC => ⟨(cl C (by omega)).1, t2_far_ok b5 (ok.2.2.2.2.2.2.2 C (by omega)).2.1⟩)
    unfold c2_packAt_v r_pack_v
    rw [g5, g9, e]
  have ha := c2_actual_eq g7 gx.1.1 ok.2.2.1
  unfold c2_tell_v r_is_v
  rw [g5, g7, g8, hpk, g9, gx.2.1.1.1, g6, g11, g12, g13, g14, g15, g16, ha, gx.1.2.2.2.2.1, gx.1.2.1.1]
end C2FRM

end

/-! 95.04.trial2.lean.txt -/
section
/-! ===== foretelling on both sides: the trial block, begun as now is ===== -/
section T2TRIAL
variable {L : Nat} {xs : Nat → Int32} {f g : t2_F} {l : t2_L} {m : fl_M} {Q : Option fl_V → fl_M → Prop}
theorem t2_kK2 {C : Nat} (hC : C < 16) : fk_K (200 + 4 * C) = 68 := by
  have H : (List.range 16).all (fun i => Nat.beq (fk_K (200 + 4 * i)) 68) = true := by decide +kernel
  exact Nat.eq_of_beq_eq_true (List.all_eq_true.mp H C (List.mem_range.mpr hC))
theorem t2_Good.J2 (hg : at_Good at_XI m) : c2_J m.1 := by
  refine ⟨fun i hi k hk => ?_, fun k hk => ?_⟩
  · have a := t2_kK2 hi
    have h := hg.1 (200 + 4 * i) (by unfold fl_N; omega) (0, 0, 0, 1, 32, 0, 9999000) (by rw [a]; decide +kernel) k ⟨0, k, by decide, by dsimp only; decide, by omega, by dsimp only; omega, by dsimp only; omega⟩
    exact h
  · have h := hg.1 189 (by unfold fl_N; omega) (0, 3, 5, 8, 1, 0, 29) (by decide +kernel) (k * 5 + 3) ⟨k, 0, by omega, by dsimp only; omega, by decide, by dsimp only; decide, by dsimp only; omega⟩
    exact h
theorem bs_out {p q r : Nat} (hn : 0 ≤ (f q 5).toInt ∧ (f q 5).toInt ≤ 16) (h1 : p + 17 + 4 * (f q 5).toInt.toNat ≤ r) (h2 : r < p + 81) : bs_m f p q r = f r := by
  unfold bs_m bs_end
  rw [fl_row_ne (by omega), bs_told_fr (by omega), bs_marks_fr (by omega), bs_cells_fr (by omega)]
theorem t2_ieq {a b : Int32} (e : (some (.inl a : fl_V)).map fl_c = (some (.inl b : fl_V)).map fl_c) : (some (.inl a) : Option fl_V) = some (.inl b) := by
  have e : (some (Value.int a)) = some (Value.int b) := e
  injection e with e
  injection e with e
  rw [e]
/-- the trial block is begun: become -/
theorem t2_begun (Z : t2_Z (f, l)) (K : ∀ M : t2_F, (∀ p : Nat, p < 181 ∨ 271 ≤ p → M p = f p) → c2_K M f → Q none (M, l)) : fl_Tq (pw_P L xs) 33 0 (fl_args (am_mxl (pw_P L xs) 33) [.inr (.inr (.inl (49, 181))), .inr (.inr (.inl (1, 1)))]) [] (f, l) Q := by
  have I : c0_I f f := Z.2.1
  have n := I.1.1.1
  obtain ⟨s1, s2, s3⟩ := (t2_B.of_now I).src (by decide)
  refine bs_48_0_q (p := 181) (q := 1) t2_blk_trial t2_blk_now (by omega) s1 s2 s3 ?_
  have S := bs_same (f := f) (p := 181) (q := 1) (by omega) s1
  have mf : ∀ r : Nat, (r < 181 ∨ 271 ≤ r) → bs_m f 181 1 r = f r := fun r hr => bs_fr s1 (by omega)
  have A : t2_blk (l.2) 181 48 := t2_blk_trial
  have a12 := A.place 12 61 (by decide) (by decide +kernel)
  have a15 := A.place 15 64 (by decide) (by decide +kernel)
  have w12 : f 193 0 = (24 : Int32) := t2_Good.k1 Z.1 (j := 0) a12.2 a12.1 (by decide +kernel)
  have w15 : f 196 0 = (32 : Int32) := t2_Good.k1 Z.1 (j := 0) a15.2 a15.1 (by decide +kernel)
  have I2 : c2_I (bs_m f 181 1) f := c2_I.of0 I (by rw [← n]; exact S.1) (S.2.1.trans w12) (S.2.2.trans w15)
  have J0 : c0_J f := t2_Good.J Z.1
  have J2 : c2_J f := t2_Good.J2 Z.1
  obtain ⟨-, ⟨-, -, -, -, -, -, e8⟩, -, -, ec, -⟩ := S.1
  refine K _ mf ⟨I2, ⟨fun i hi k hk => ?_, fun k hk => ?_⟩, t2_Good.RS Z.1, Z.2.2.2.2⟩
  · by_cases h : i < (f 1 5).toInt.toNat
    · obtain ⟨-, -, h3, -⟩ := ec i h
      have e : bs_m f 181 1 (181 + (17 + 4 * i + 2)) k = f (1 + (17 + 4 * i + 2)) k := h3 k hk
      rw [show 181 + (17 + 4 * i + 2) = 200 + 4 * i by omega, show 1 + (17 + 4 * i + 2) = 20 + 4 * i by omega] at e
      show t2_pt (bs_m f 181 1 (200 + 4 * i) k)
      rw [e]
      exact J0.1 i hi k hk
    · have e : bs_m f 181 1 (200 + 4 * i) = f (200 + 4 * i) := bs_out s1 (by omega) (by omega)
      show t2_pt (bs_m f 181 1 (200 + 4 * i) k)
      rw [e]
      exact J2.1 i hi k hk
  · have e : bs_m f 181 1 189 (k * 5 + 3) = f 9 (k * 5 + 3) := e8 _ (by omega)
    rw [e]
    exact J0.2 k hk
/-- the class's answer first, on a block of its own; the reference's from what it leaves, the same -/
theorem t2_trial {c1 : at_C} {ac ar : List fl_V} {mc mr : Nat} (hv1 : at_Valid at_XI (pw_P L xs) c1) (e1 : c1.1 = mc) (Z : t2_Z (f, l)) (k1 : at_agk l.2 c1.2.1 ac) (l1 : c1.2.2.1 = []) (R : ∀ m, t2_Z m → fl_Tq (pw_P L xs) mr 0 (fl_args (am_mxl (pw_P L xs) mr) ar) [] m t2_ZI) (F : fl_Tq (pw_P L xs) mc 0 (fl_args (am_mxl (pw_P L xs) mc) ac) [] (f, l) (fun v m => ∃ (G : t2_F) (y : Int32), v = some (.inl y) ∧ m = (G, l) ∧ (∀ p : Nat, p < 181 ∨ 271 ≤ p → G p = f p) ∧ fl_Tq (pw_P L xs) mr 0 (fl_args (am_mxl (pw_P L xs) mr) ar) [] (G, l) (fun v2 _ => v2 = some (.inl y)))) : fl_Tq (pw_P L xs) mc 0 (fl_args (am_mxl (pw_P L xs) mc) ac) [] (f, l) (t2_End L xs mr ar) := by
  subst e1
  refine fl_Tq.mono (t2_join F (hv1 (f, l) ac Z.1 k1 (fun q hq => by rw [l1] at hq; cases hq))) ?_
  rintro v m1 ⟨⟨G, y, rfl, rfl, fr, T⟩, v2, m2, e1, e2, g2, -, -⟩
  have U : t2_U (G, l) := fun p hp i => by
    have hp : fl_N l.2 ≤ p := hp
    have h285 : 285 ≤ fl_N l.2 := by unfold fl_N; omega
    show G p i = _
    rw [fr p (by omega)]
    exact Z.U p hp i
  have g1 : at_Good at_XI (G, l) := t2_Good e2 g2 U
  have Z1 : t2_Z (G, l) := ⟨g1, Z.2.ext (fun p hp => fr p (by omega)) (fun w _ => by show G 280 w = f 280 w; rw [fr 280 (by decide)]) (fun w _ => by show G 281 w = f 281 w; rw [fr 281 (by decide)]) (by show G 277 7 = f 277 7; rw [fr 277 (by decide)])⟩
  refine ⟨⟨y, rfl⟩, fl_Tq.mono (t2_join (R _ Z1) T) ?_⟩
  rintro v3 m3 ⟨⟨⟨y3, rfl⟩, Z3⟩, v4, m4, e3, -, rfl⟩
  exact ⟨t2_ieq e3, Z3⟩
end T2TRIAL
/-! ===== may so many seconds pass? ===== -/
section T2MAY
variable {f : t2_F} {a b : Int32}
theorem t2_can (t7 : 0 ≤ (f 280 7).toInt ∧ (f 280 7).toInt ≤ 9999) (hb : b.toInt ≤ 300) : (r_canRun_v f a b).toInt = 0 ↔ ¬ ((1 ≤ a.toInt ∧ a.toInt ≤ b.toInt) ∧ (f 280 7).toInt + a.toInt ≤ 9999) := by
  have c0 : (0 : Int32).toInt = 0 := rfl
  have c1 : (1 : Int32).toInt = 1 := by decide +kernel
  have c9 : (9999 : Int32).toInt = 9999 := by decide +kernel
  unfold r_canRun_v
  by_cases h : (r_isIn_v a (1 : Int32) b).toInt = 0
  · rw [if_pos h]
    rw [r_i0, c1] at h
    exact ⟨fun _ q => h q.1, fun _ => c0⟩
  · rw [if_neg h]
    rw [r_i0, c1, Classical.not_not] at h
    have ea : ((f 280 7) + a).toInt = (f 280 7).toInt + a.toInt := at_add32 (by omega) (by omega)
    rw [ea, c9]
    by_cases h2 : 9999 < (f 280 7).toInt + a.toInt
    · rw [if_pos h2]
      exact ⟨fun _ q => by omega, fun _ => c0⟩
    · rw [if_neg h2, c1]
      exact ⟨fun q => by omega, fun q => absurd ⟨h, by omega⟩ q⟩
end T2MAY

end

/-! 95.04.trial3.lean.txt -/
section
/-! ===== what a second latches ===== -/
section T2LATCH
variable {fc fr f B : t2_F} {z a x : Int32} {k N : Nat}
theorem r_wd20 (h : 0 ≤ (f 280 20).toInt ∧ (f 280 20).toInt ≤ 24) : 0 ≤ (r_writeDown_m f x 280 20).toInt ∧ (r_writeDown_m f x 280 20).toInt ≤ 24 := by
  obtain ⟨n, hn⟩ : ∃ n : Nat, (f 280 20).toInt = (n : Int) := ⟨(f 280 20).toInt.toNat, by omega⟩
  by_cases e : n = 24
  · have := (r_wd_24 (f := f) (x := x) (by omega)).1
    omega
  · have := (r_wd_lt (x := x) hn (by omega)).1
    omega
theorem r_flt_step (hk : k < 11) (hb : 0 ≤ (B 280 20).toInt ∧ (B 280 20).toInt ≤ 24) : (0 ≤ (r_goFaults_b123_m B z a k 280 20).toInt ∧ (r_goFaults_b123_m B z a k 280 20).toInt ≤ 24) ∧ ((r_goFaults_b123_v B z a k = a ∧ r_goFaults_b123_m B z a k 280 6 = B 280 6) ∨ (r_goFaults_b123_v B z a k = a + (1 : Int32) ∧ r_goFaults_b123_m B z a k 280 6 = B 280 6 ||| ((1 : Int32) <<< ((Int32.ofNat k) &&& 31)))) := by
  have key : ∀ M : t2_F, M 280 20 = B 280 20 → M 280 6 = B 280 6 ||| ((1 : Int32) <<< ((Int32.ofNat k) &&& 31)) → (0 ≤ (r_writeDown_m M (Int32.ofNat k) 280 20).toInt ∧ (r_writeDown_m M (Int32.ofNat k) 280 20).toInt ≤ 24) ∧ r_writeDown_m M (Int32.ofNat k) 280 6 = B 280 6 ||| ((1 : Int32) <<< ((Int32.ofNat k) &&& 31)) := fun M m1 m2 =>
    ⟨r_wd20 (by rw [m1]; exact hb), by rw [r_writeDown_w (by rw [m1]; exact hb) ⟨by decide, Or.inl (by decide)⟩, m2]⟩
  unfold r_goFaults_b123_v r_goFaults_b123_j134_0 r_goFaults_b123_m
  by_cases h1 : (r_has_v z (Int32.ofNat k)).toInt = 0
  · simp only [if_pos h1]
    exact ⟨hb, Or.inl ⟨(by first | rfl | trivial), (by first | rfl | trivial)⟩⟩
  · simp only [if_neg h1]
    by_cases h2 : (r_has_v (B 280 6) (Int32.ofNat k)).toInt = 0
    · simp only [if_pos h2]
      by_cases h4 : (Int32.ofNat k).toInt < (4 : Int32).toInt
      · simp only [if_pos h4]
        exact ⟨(key _ (by rw [fl_row_self, upd_ne (by omega), upd_ne (by omega), upd_ne (by omega)]) (by rw [fl_row_self, upd_self])).1, Or.inr ⟨(by first | rfl | trivial), (key _ (by rw [fl_row_self, upd_ne (by omega), upd_ne (by omega), upd_ne (by omega)]) (by rw [fl_row_self, upd_self])).2⟩⟩
      · simp only [if_neg h4]
        exact ⟨(key _ (by rw [fl_row_self, upd_ne (by omega), upd_ne (by omega)]) (by rw [fl_row_self, upd_self])).1, Or.inr ⟨(by first | rfl | trivial), (key _ (by rw [fl_row_self, upd_ne (by omega), upd_ne (by omega)]) (by rw [fl_row_self, upd_self])).2⟩⟩
    · simp only [if_neg h2]
      by_cases h4 : (Int32.ofNat k).toInt < (4 : Int32).toInt
      · simp only [if_pos h4]
        exact ⟨by rw [fl_row_self, upd_ne (by omega), upd_ne (by omega)]; exact hb, Or.inl ⟨(by first | rfl | trivial), by rw [fl_row_self, upd_ne (by omega), upd_ne (by omega)]⟩⟩
      · simp only [if_neg h4]
        exact ⟨by rw [fl_row_self, upd_ne (by omega)]; exact hb, Or.inl ⟨(by first | rfl | trivial), by rw [fl_row_self, upd_ne (by omega)]⟩⟩
theorem r_flt_l (hb : 0 ≤ (f 280 20).toInt ∧ (f 280 20).toInt ≤ 24) : ∀ k : Nat, k ≤ 11 → (0 ≤ ((r_goFaults_l123 f k).1 280 20).toInt ∧ ((r_goFaults_l123 f k).1 280 20).toInt ≤ 24) ∧ (0 ≤ (r_goFaults_l123 f k).2.toInt ∧ (r_goFaults_l123 f k).2.toInt ≤ k) ∧ ((r_goFaults_l123 f k).2.toInt ≤ 0 → (r_goFaults_l123 f k).1 280 6 = f 280 6) ∧ ∀ j : Nat, 11 ≤ j → j < 32 → t2_bt ((r_goFaults_l123 f k).1 280 6) j = t2_bt (f 280 6) j := by
  have c0 : (0 : Int32).toInt = 0 := rfl
  have c1 : (1 : Int32).toInt = 1 := by decide +kernel
  intro k
  induction k with
  | zero =>
    intro _
    have w : ∀ i : Nat, i ≠ 15 → i ≠ 16 → i ≠ 22 → (r_goFaults_l123 f 0).1 280 i = f 280 i := fun i h1 h2 h3 => by
      show fl_row f 280 (upd (upd (upd (f 280) 15 (r_goFaults_j18_0 f)) 16 (r_goFaults_j53_0 f)) 22 ((f 280 22) + (1 : Int32))) 280 i = f 280 i
      rw [fl_row_self, upd_ne h3, upd_ne h2, upd_ne h1]
    have e20 := w 20 (by decide) (by decide) (by decide)
    have e6 := w 6 (by decide) (by decide) (by decide)
    have ez : (r_goFaults_l123 f 0).2 = (0 : Int32) := rfl
    refine ⟨by rw [e20]; exact hb, ⟨by rw [ez]; omega, by rw [ez]; omega⟩, fun _ => e6, fun j _ _ => by rw [e6]⟩
  | succ k ih =>
    intro hk
    obtain ⟨a1, a2, a3, a4⟩ := ih (by omega)
    obtain ⟨b1, b2⟩ := r_flt_step (z := r_goFaults_a91 f 11) (a := (r_goFaults_l123 f k).2) (k := k) (by omega) a1
    refine ⟨b1, ?_⟩
    show (0 ≤ (r_goFaults_b123_v (r_goFaults_l123 f k).1 (r_goFaults_a91 f 11) (r_goFaults_l123 f k).2 k).toInt ∧ (r_goFaults_b123_v (r_goFaults_l123 f k).1 (r_goFaults_a91 f 11) (r_goFaults_l123 f k).2 k).toInt ≤ _) ∧ ((r_goFaults_b123_v (r_goFaults_l123 f k).1 (r_goFaults_a91 f 11) (r_goFaults_l123 f k).2 k).toInt ≤ 0 → r_goFaults_b123_m (r_goFaults_l123 f k).1 (r_goFaults_a91 f 11) (r_goFaults_l123 f k).2 k 280 6 = f 280 6) ∧ ∀ j : Nat, 11 ≤ j → j < 32 → t2_bt (r_goFaults_b123_m (r_goFaults_l123 f k).1 (r_goFaults_a91 f 11) (r_goFaults_l123 f k).2 k 280 6) j = t2_bt (f 280 6) j
    rcases b2 with ⟨e1, e2⟩ | ⟨e1, e2⟩
    · rw [e1, e2]
      exact ⟨⟨a2.1, by omega⟩, a3, a4⟩
    · have e3 : ((r_goFaults_l123 f k).2 + (1 : Int32)).toInt = (r_goFaults_l123 f k).2.toInt + 1 := by rw [at_add32 (by omega) (by omega), c1]
      rw [e1, e2, e3]
      refine ⟨⟨by omega, by omega⟩, fun h => absurd h (by omega), fun j h1 h2 => ?_⟩
      rw [t2_bor (by omega) h2, a4 j h1 h2, decide_eq_false (by omega), Bool.or_false]
theorem c2_I.sec6 (h : c2_I fc fr) (ht : (fr 280 7).toInt < 9999) : (0 ≤ (r_sec_v fr).toInt ∧ (r_sec_v fr).toInt ≤ 11) ∧ ((r_sec_v fr).toInt ≤ 0 → r_sec_m fr 280 6 = fr 280 6) ∧ ∀ j : Nat, 11 ≤ j → j < 32 → t2_bt (r_sec_m fr 280 6) j = t2_bt (fr 280 6) j := by
  obtain ⟨i1, i2, i3, i4, i5, i6, im, -, ⟨i8, -⟩, ik, -⟩ := h.chain ht
  have ok8 := i8.2.2.2.2
  have okk := ik.2.2.2.2
  have eR : r_sec_m fr 280 6 = r_goFaults_m (r_v6 fr) 280 6 := by
    unfold r_sec_m
    rw [r_goRules_w okk.2.2.2.2.1.1 okk.2.2.2.2.1.2.1 (by omega)]
    unfold r_goKept_m
    exact r_goKept_f117_w ok8.2.1.2.2.1 (fun C hC => (ok8.2.2.2.2.2.2.2 C hC).1) ok8.2.2.2.2.2.2.1.2.2 (fun C hC => ⟨(ok8.2.2.2.2.2.2.2 C hC).2.2.2.2.2.2.2.1, (ok8.2.2.2.2.2.2.2 C hC).2.2.2.2.2.2.2.2.1⟩) (Nat.le_refl _) (Or.inl (by omega)) (by omega)
  have eF : r_goFaults_m (r_v6 fr) 280 6 = (r_goFaults_l123 (r_v6 fr) 11).1 280 6 := by
    unfold r_goFaults_m
    rw [fl_row_self, upd_ne (by decide)]
    rfl
  have eV : r_v6 fr 280 6 = fr 280 6 := by
    rw [r_v6_w, r_goTaper_w (by omega)]
    unfold r_w6
    rw [r_meas_mid (by omega), r_mid_lo (by omega) (by omega) (by omega)]
    unfold r_t5
    rw [fl_row_self, upd_ne (by omega), r_goBalance_w (by omega), r_cells_lo (by omega), i2.cur.2 6 (by omega) (fun C _ => by omega), r_goBus_w2, if_neg (by omega), if_neg (by omega)]
    unfold r_t1
    rw [fl_row_self, upd_ne (by omega)]
  obtain ⟨-, l2, l3, l4⟩ := r_flt_l (f := r_v6 fr) im.2.2.2.2.2.2.2.2.2.2.1.2.1 11 (Nat.le_refl 11)
  rw [eR, eF]
  rw [eV] at l3 l4
  exact ⟨l2, l3, l4⟩
/-- seconds that latch nothing -/
theorem c2_K.six (h : c2_K fc fr) : ∀ N : Nat, (fr 280 7).toInt + N ≤ 9999 → (∀ k : Nat, k < N → (r_sec_v (r_runN fr k)).toInt ≤ 0) → r_runN fr N 280 6 = fr 280 6 := by
  intro N
  induction N with
  | zero => intro _ _; rfl
  | succ N ih =>
    intro hN h0
    obtain ⟨⟨a, -⟩, t, -⟩ := h.run (0 : Int32) (k := N) (by omega)
    show r_sec_m (r_runN fr N) 280 6 = _
    rw [(a.sec6 (by omega)).2.1 (h0 N (by omega)), ih (by omega) (fun k hk => h0 k (by omega))]
theorem c2_K.sec (h : c2_K fc fr) (hk : (fr 280 7).toInt + k < 9999) : c2_sec_v (c2_runN fc k) = r_sec_v (r_runN fr k) := by
  obtain ⟨⟨a, -⟩, t, -⟩ := h.run (0 : Int32) (k := k) (by omega)
  exact (a.sec (by omega)).2
theorem t2_fst_p (p : Nat → Bool) : ∀ n : Nat, (∀ k : Nat, k < t2_fst p n → p k = false) ∧ (t2_fst p n < n → p (t2_fst p n) = true) := by
  intro n
  induction n with
  | zero => exact ⟨fun k hk => absurd hk (Nat.not_lt_zero k), fun h => absurd h (Nat.lt_irrefl 0)⟩
  | succ n ih =>
    have hl := t2_fst_le p n
    unfold t2_fst
    by_cases e : t2_fst p n < n
    · rw [if_pos e]
      exact ⟨ih.1, fun _ => ih.2 e⟩
    · rw [if_neg e]
      have en : t2_fst p n = n := by omega
      cases hp : p n with
      | true =>
        simp only [if_true]
        exact ⟨fun k hk => ih.1 k (by omega), fun _ => hp⟩
      | false =>
        simp only [Bool.false_eq_true, if_false]
        refine ⟨fun k hk => ?_, fun h => absurd h (Nat.lt_irrefl _)⟩
        by_cases ek : k = n
        · rw [ek]; exact hp
        · exact ih.1 k (by omega)
end T2LATCH

end
