/-! 94.73.mq9.lean.txt -/
section
/-! ===== the reference's foretelling: power, yields, bestBand, eta, bestMode ===== -/
section T2MQ9
variable {L : Nat} {xs : Nat → Int32} {m0 m m1 : fl_M} {f g F G : t2_F} {l l' : t2_L} {Q : Option fl_V → fl_M → Prop} {a b c : Int32}
/-- a row of a model that isn't read -/
theorem t2_Iv.plain {m0 : fl_M} {v : Int32} (h : t2_Iv m0 (f, l)) (hv : v = 0 ∨ v = 1) : t2_Iv m0 (fl_row f 277 (upd (f 277) 7 v), l) := h.of (at_Good.plain h.1 hv) (by show fl_row f 277 (upd (f 277) 7 v) 283 = f 283; exact fl_row_ne (by decide))
theorem t2_Iv.setw {m0 : fl_M} {v : Int32} {k : Nat} (h : t2_Iv m0 (f, l)) (hk : k < 30) (hv : -99999 ≤ v.toInt ∧ v.toInt ≤ 99999) : t2_Iv m0 (fl_row f 280 (upd (f 280) (34 + k) v), l) := h.of (at_Good.setw h.1 hk hv) (by show fl_row f 280 (upd (f 280) (34 + k) v) 283 = f 283; exact fl_row_ne (by decide))
/-- all of the relation's words are there again, and isPlain isn't so -/
def t2_RP (m0 : fl_M) (v : Option fl_V) (m : fl_M) : Prop := t2_Rst m0 v m ∧ m.1 277 7 = 0
/-- goesBy -/
theorem t2_z315 (hall : ∀ c ∈ at_CM ++ at_CA, at_Valid at_XI (pw_P L xs) c) (hg : at_Good at_XI (f, l)) (ha : -99999 ≤ a.toInt ∧ a.toInt ≤ 99999) (k : ∀ (y : Int32) (m1 : fl_M), at_Good at_XI m1 → (∀ w : Nat, 2 ≤ w → w < 1420 → m1.1 280 w = f 280 w) → m1.1 277 7 = 0 → Q (some (.inl y)) m1) : fl_Tq (pw_P L xs) 315 0 (fl_args (am_mxl (pw_P L xs) 315) [at_this, .inl a, .inl b]) [] (f, l) Q := by
  have ib := at_i32 b
  show fl_Tq (pw_P L xs) 315 0 [some (.inr (.inr (.inl (76, 277)))), some (.inl a), some (.inl b), none, none] [] (f, l) _
  have fin : ∀ (c e : Int32) (f1 : t2_F) (l1 : t2_L), (c = 0 ∨ c = 1) → t2_Iv (f, l) (f1, l1) → fl_Tq (pw_P L xs) 315 67 [some (.inr (.inr (.inl (76, 277)))), some (.inl a), some (.inl b), some (.inl c), some (.inl e)] [.inr (.inr (.inl (76, 277)))] (fl_row f1 277 (upd (f1 277) 7 (0 : Int32)), l1) Q := by
    intro c e f1 l1 hc i1
    refine fl_Tq.cal rfl rfl (fl_bo rfl) rfl ?_
    refine (i1.plain (Or.inl rfl)).back (fun m4 g4 p4 w4 => ?_)
    refine fl_Tq.stp rfl rfl (fl_bo rfl) rfl ?_
    refine fl_Tq.ret rfl rfl (if_pos hc) (k c m4 g4 w4 ?_)
    rw [p4 277 (by decide)]
    show fl_row f1 277 (upd (f1 277) 7 (0 : Int32)) 277 7 = 0
    rw [fl_row_self, upd_self]
  have loop : ∀ (d j : Nat) (c : Int32) (m1 : fl_M), j + d = b.toInt.toNat → (c = 0 ∨ c = 1) → t2_Iv (f, l) m1 → fl_Tq (pw_P L xs) 315 22 [some (.inr (.inr (.inl (76, 277)))), some (.inl a), some (.inl b), some (.inl c), some (.inl (Int32.ofNat j))] [] m1 Q := by
    intro d
    induction d with
    | zero =>
      intro j c m1 hj hc i1
      have ej : (Int32.ofNat j).toInt = j := at_ofN (by omega)
      obtain ⟨f1, l1⟩ := m1
      exact z315_C (fun h _ => absurd h (by rw [ej]; omega)) (fun h _ => absurd h (by rw [ej]; omega)) (fun _ => fin c _ f1 l1 hc i1)
    | succ d ih =>
      intro j c m1 hj hc i1
      obtain ⟨f1, l1⟩ := m1
      refine z315_C (fun _ _ => fin c _ f1 l1 hc i1) (fun _ _ => ?_) (fun _ => fin c _ f1 l1 hc i1)
      refine fl_Tq.cal rfl rfl (fl_bo rfl) rfl ?_
      refine i1.call (hall _ t2_c237_in) ⟨at_k277 _, True.intro⟩ rfl rfl rfl (fun z m2 i2 => ?_)
      obtain ⟨f2, l2⟩ := m2
      refine z315_D ?_
      rw [t2_k1]
      refine ih (j + 1) _ _ (by omega) ?_ i2
      unfold z315_D_j36_0
      split
      · split
        · exact Or.inr rfl
        · exact Or.inl rfl
      · exact Or.inl rfl
  refine z315_A ?_
  refine fl_Tq.cal rfl rfl (fl_bo rfl) rfl ?_
  refine t2_Iv.put hg (fun m1 i1 _ => ?_)
  obtain ⟨f1, l1⟩ := m1
  refine z315_B ?_
  have i2 := (i1.plain (v := (1 : Int32)) (Or.inr rfl)).setw (k := 20) (v := a) (by decide) ha
  rw [fl_row_ne (by decide)] at i2
  exact loop _ 0 _ _ (Nat.zero_add _) (Or.inr rfl) i2
/-- power -/
theorem t2_z316 (hall : ∀ c ∈ at_CM ++ at_CA, at_Valid at_XI (pw_P L xs) c) (hg : at_Good at_XI (f, l)) (h7 : f 277 7 = 0) : fl_Tq (pw_P L xs) 316 0 (fl_args (am_mxl (pw_P L xs) 316) [at_this, .inl a, .inl b]) [] (f, l) (t2_RP (f, l)) := by
  have c100 : (100 : Int32).toInt = 100 := by decide +kernel
  have cm : (-100 : Int32).toInt = -100 := by decide +kernel
  show fl_Tq (pw_P L xs) 316 0 [some (.inr (.inr (.inl (76, 277)))), some (.inl a), some (.inl b), none] [] (f, l) _
  have loop : ∀ (d : Nat) (c : Int32) (m1 : fl_M), c.toInt ≤ 100 * (d : Int) → c.toInt ≤ 99999 → at_Good at_XI m1 → (∀ w : Nat, 2 ≤ w → w < 1420 → m1.1 280 w = f 280 w) → m1.1 277 7 = 0 → fl_Tq (pw_P L xs) 316 43 [some (.inr (.inr (.inl (76, 277)))), some (.inl a), some (.inl b), some (.inl c)] [] m1 (t2_RP (f, l)) := by
    intro d
    induction d with
    | zero =>
      intro c m1 hc _ _ w1 p1
      obtain ⟨f1, l1⟩ := m1
      exact z316_C (fun h => absurd h (by omega)) (fun _ => ⟨⟨⟨_, rfl⟩, w1⟩, p1⟩)
    | succ d ih =>
      intro c m1 hc hc2 g1 w1 p1
      obtain ⟨f1, l1⟩ := m1
      refine z316_C (fun h => ?_) (fun _ => ⟨⟨⟨_, rfl⟩, w1⟩, p1⟩)
      refine fl_Tq.cal rfl rfl (fl_bo rfl) rfl ?_
      have hn : (-c).toInt = -c.toInt := by rw [Int32.toInt_neg]; exact Int.bmod_eq_of_le (by omega) (by omega)
      refine t2_z315 hall g1 (by split <;> omega) (fun y m2 g2 w2 p2 => ?_)
      obtain ⟨f2, l2⟩ := m2
      have w3 : ∀ w : Nat, 2 ≤ w → w < 1420 → f2 280 w = f 280 w := fun w h1 h2 => (w2 w h1 h2).trans (w1 w h1 h2)
      refine z316_D (fun _ => ?_) (fun _ => ⟨⟨⟨_, rfl⟩, w3⟩, p2⟩)
      have e : (c + (-100 : Int32)).toInt = c.toInt - 100 := by rw [at_add32 (by omega) (by omega), cm]; omega
      exact ih _ _ (by rw [e]; omega) (by rw [e]; omega) g2 w3 p2
  have yes : t2_RP (f, l) (some (.inl (-1 : Int32))) (f, l) := ⟨⟨⟨_, rfl⟩, fun w _ _ => rfl⟩, h7⟩
  refine z316_A (fun _ => yes) (fun _ => ?_)
  refine fl_Tq.cal rfl rfl (fl_bo rfl) rfl ?_
  refine r_canRun_q ?_
  refine z316_B (fun _ => yes) (fun _ _ => ?_) (fun _ _ => yes)
  have r38 : -99999 ≤ (f 280 38).toInt ∧ (f 280 38).toInt ≤ 99999 := hg.1 280 (by unfold fl_N; omega) (0, 34, 0, 1, 30, -99999, 99999) (by rw [fk_K_280]; decide +kernel) 38 ⟨0, 4, by decide, by dsimp only; decide, by decide, by dsimp only; decide, by dsimp only; decide⟩
  have q := t2_td (x := f 280 38) (y := (100 : Int32)) (by omega)
  rw [c100] at q
  have q2 : ((f 280 38) / (100 : Int32)).toInt ≤ 999 ∧ -999 ≤ ((f 280 38) / (100 : Int32)).toInt := by
    rw [q]
    split <;> omega
  have e : (((f 280 38) / (100 : Int32)) * (100 : Int32)).toInt ≤ 99900 := by rw [at_mul32 (by rw [c100]; omega) (by rw [c100]; omega), c100]; omega
  exact loop 999 _ _ (by omega) (by omega) hg (fun w _ _ => rfl) h7
/-- yields -/
theorem t2_z317 (hall : ∀ c ∈ at_CM ++ at_CA, at_Valid at_XI (pw_P L xs) c) (hg : at_Good at_XI (f, l)) (h7 : f 277 7 = 0) : fl_Tq (pw_P L xs) 317 0 (fl_args (am_mxl (pw_P L xs) 317) [at_this, .inl a]) [] (f, l) (t2_RP (f, l)) := by
  have c2 : (2000 : Int32).toInt = 2000 := by decide +kernel
  have c1 : (1 : Int32).toInt = 1 := by decide +kernel
  have c9 : (99999 : Int32).toInt = 99999 := by decide +kernel
  show fl_Tq (pw_P L xs) 317 0 [some (.inr (.inr (.inl (76, 277)))), some (.inl a), none, none, none] [] (f, l) _
  have fin : ∀ (j : Nat) (b c : Int32) (f1 : t2_F) (l1 : t2_L), t2_Iv (f, l) (f1, l1) → fl_Tq (pw_P L xs) 317 99 [some (.inr (.inr (.inl (76, 277)))), some (.inl a), some (.inl (Int32.ofNat j)), some (.inl b), some (.inl c)] [.inr (.inr (.inl (76, 277)))] (fl_row f1 277 (upd (f1 277) 7 (0 : Int32)), l1) (t2_RP (f, l)) := by
    intro j b c f1 l1 i1
    refine fl_Tq.cal rfl rfl (fl_bo rfl) rfl ?_
    refine (i1.plain (Or.inl rfl)).back (fun m4 g4 p4 w4 => ?_)
    obtain ⟨f4, l4⟩ := m4
    refine z317_E ⟨⟨⟨_, rfl⟩, w4⟩, ?_⟩
    show f4 277 7 = 0
    have p5 : f4 277 = fl_row f1 277 (upd (f1 277) 7 (0 : Int32)) 277 := p4 277 (by decide)
    rw [p5, fl_row_self, upd_self]
  have loop : ∀ (d j : Nat) (b c : Int32) (m1 : fl_M), j + d = 2000 → t2_Iv (f, l) m1 → fl_Tq (pw_P L xs) 317 37 [some (.inr (.inr (.inl (76, 277)))), some (.inl a), some (.inl (Int32.ofNat j)), some (.inl b), some (.inl c)] [] m1 (t2_RP (f, l)) := by
    intro d
    induction d with
    | zero =>
      intro j b c m1 hj i1
      have ej : (Int32.ofNat j).toInt = j := at_ofN (by omega)
      obtain ⟨f1, l1⟩ := m1
      exact z317_C (fun _ h _ => absurd h (by rw [ej, c2]; omega)) (fun _ _ _ => fin j b c _ _ i1) (fun _ _ => fin j b c _ _ i1) (fun _ => fin j b c _ _ i1)
    | succ d ih =>
      intro j b c m1 hj i1
      obtain ⟨f1, l1⟩ := m1
      refine z317_C (fun _ _ _ => ?_) (fun _ _ _ => fin j b c _ _ i1) (fun _ _ => fin j b c _ _ i1) (fun _ => fin j b c _ _ i1)
      refine fl_Tq.cal rfl rfl (fl_bo rfl) rfl ?_
      refine i1.call (hall _ t2_c237_in) ⟨at_k277 _, True.intro⟩ rfl rfl rfl (fun z m2 i2 => ?_)
      obtain ⟨f2, l2⟩ := m2
      refine z317_D ?_
      rw [t2_k1]
      exact ih (j + 1) _ _ _ (by omega) i2
  refine z317_A (fun _ => ⟨⟨⟨_, rfl⟩, fun w _ _ => rfl⟩, h7⟩) (fun h => ?_)
  rw [r_i0, c1, c9, Classical.not_not] at h
  refine fl_Tq.cal rfl rfl (fl_bo rfl) rfl ?_
  refine t2_Iv.put hg (fun m1 i1 _ => ?_)
  obtain ⟨f1, l1⟩ := m1
  refine z317_B ?_
  have hn : (-a).toInt = -a.toInt := by rw [Int32.toInt_neg]; exact Int.bmod_eq_of_le (by omega) (by omega)
  have i2 := (i1.plain (v := (1 : Int32)) (Or.inr rfl)).setw (k := 20) (v := -a) (by decide) (by omega)
  rw [fl_row_ne (by decide)] at i2
  exact loop 2000 0 _ _ _ rfl i2
/-- spreadBy -/
theorem t2_z318 {A : Nat} (hall : ∀ c ∈ at_CM ++ at_CA, at_Valid at_XI (pw_P L xs) c) (hg : at_Good at_XI (f, l)) (hA : a.toInt = (A : Int)) (hA1 : A < 30) (hb : -99999 ≤ b.toInt ∧ b.toInt ≤ 99999) (k : ∀ (y : Int32) (m1 : fl_M), at_Good at_XI m1 → (∀ w : Nat, 2 ≤ w → w < 1420 → m1.1 280 w = f 280 w) → Q (some (.inl y)) m1) : fl_Tq (pw_P L xs) 318 0 (fl_args (am_mxl (pw_P L xs) 318) [at_this, .inl a, .inl b, .inl c]) [] (f, l) Q := by
  show fl_Tq (pw_P L xs) 318 0 [some (.inr (.inr (.inl (76, 277)))), some (.inl a), some (.inl b), some (.inl c), none, none] [] (f, l) _
  refine z318_A ?_
  refine fl_Tq.cal rfl rfl (fl_bo rfl) rfl ?_
  refine t2_Iv.put hg (fun m1 i1 _ => ?_)
  obtain ⟨f1, l1⟩ := m1
  refine z318_B hA hA1 ?_
  have i2 := i1.setw (v := b) hA1 hb
  refine fl_Tq.cal rfl rfl (fl_bo rfl) rfl ?_
  refine i2.call (hall _ t2_c248_in) ⟨at_k277 _, lx_ki _, True.intro⟩ rfl rfl rfl (fun z m3 i3 => ?_)
  obtain ⟨f3, l3⟩ := m3
  refine z318_C ?_
  refine fl_Tq.cal rfl rfl (fl_bo rfl) rfl ?_
  refine i3.call (hall _ t2_c205_in) ⟨at_k277 _, True.intro⟩ rfl rfl rfl (fun y m4 i4 => ?_)
  obtain ⟨f4, l4⟩ := m4
  refine z318_D ?_
  refine fl_Tq.cal rfl rfl (fl_bo rfl) rfl ?_
  refine i4.back (fun m5 g5 _ w5 => ?_)
  obtain ⟨f5, l5⟩ := m5
  exact z318_E (k y _ g5 w5)
/-- bestBand -/
theorem t2_z319 (hall : ∀ c ∈ at_CM ++ at_CA, at_Valid at_XI (pw_P L xs) c) (hg : at_Good at_XI (f, l)) : fl_Tq (pw_P L xs) 319 0 (fl_args (am_mxl (pw_P L xs) 319) [at_this, .inl a, .inl b]) [] (f, l) (t2_Rst (f, l)) := by
  have cm : (-1 : Int32).toInt = -1 := by decide +kernel
  have c99 : (99 : Int32).toInt = 99 := by decide +kernel
  show fl_Tq (pw_P L xs) 319 0 [some (.inr (.inr (.inl (76, 277)))), some (.inl a), some (.inl b), none] [] (f, l) _
  have loop : ∀ (d : Nat) (c : Int32) (m1 : fl_M), c.toInt = (d : Int) - 1 → d ≤ 100 → at_Good at_XI m1 → (∀ w : Nat, 2 ≤ w → w < 1420 → m1.1 280 w = f 280 w) → fl_Tq (pw_P L xs) 319 35 [some (.inr (.inr (.inl (76, 277)))), some (.inl a), some (.inl b), some (.inl c)] [] m1 (t2_Rst (f, l)) := by
    intro d
    induction d with
    | zero =>
      intro c m1 hc _ g1 w1
      obtain ⟨f1, l1⟩ := m1
      exact z319_C (fun _ => ⟨⟨_, rfl⟩, w1⟩) (fun h => absurd (by omega) h)
    | succ d ih =>
      intro c m1 hc hd g1 w1
      obtain ⟨f1, l1⟩ := m1
      refine z319_C (fun _ => ⟨⟨_, rfl⟩, w1⟩) (fun h => ?_)
      refine fl_Tq.cal rfl rfl (fl_bo rfl) rfl ?_
      refine t2_z318 (A := 14) hall g1 (by decide +kernel) (by decide) (by omega) (fun y m2 g2 w2 => ?_)
      obtain ⟨f2, l2⟩ := m2
      have w3 : ∀ w : Nat, 2 ≤ w → w < 1420 → f2 280 w = f 280 w := fun w h1 h2 => (w2 w h1 h2).trans (w1 w h1 h2)
      refine z319_D (fun _ => ?_) (fun _ => ⟨⟨_, rfl⟩, w3⟩)
      exact ih _ _ (by rw [at_add32 (by omega) (by omega), cm]; omega) (by omega) g2 w3
  refine z319_A ?_
  refine fl_Tq.cal rfl rfl (fl_bo rfl) rfl ?_
  refine r_canRun_q ?_
  refine z319_B (fun _ => ⟨⟨_, rfl⟩, fun w _ _ => rfl⟩) (fun _ _ => ⟨⟨_, rfl⟩, fun w _ _ => rfl⟩) (fun _ _ _ => ⟨⟨_, rfl⟩, fun w _ _ => rfl⟩) (fun _ _ _ => ?_)
  exact loop 100 _ _ (by rw [c99]; rfl) (by decide) hg (fun w _ _ => rfl)
/-- eta -/
theorem t2_z321 (hall : ∀ c ∈ at_CM ++ at_CA, at_Valid at_XI (pw_P L xs) c) (hg : at_Good at_XI (f, l)) : fl_Tq (pw_P L xs) 321 0 (fl_args (am_mxl (pw_P L xs) 321) [at_this, .inl a]) [] (f, l) (t2_Rst (f, l)) := by
  have c2 : (2000 : Int32).toInt = 2000 := by decide +kernel
  show fl_Tq (pw_P L xs) 321 0 [some (.inr (.inr (.inl (76, 277)))), some (.inl a), none, none, none] [] (f, l) _
  have fin : ∀ (j : Nat) (b c : Int32) (m1 : fl_M), t2_Iv (f, l) m1 → fl_Tq (pw_P L xs) 321 72 [some (.inr (.inr (.inl (76, 277)))), some (.inl a), some (.inl (Int32.ofNat j)), some (.inl b), some (.inl c)] [.inr (.inr (.inl (76, 277)))] m1 (t2_Rst (f, l)) := by
    intro j b c m1 i1
    refine fl_Tq.cal rfl rfl (fl_bo rfl) rfl ?_
    refine i1.back (fun m4 _ _ w4 => ?_)
    obtain ⟨f4, l4⟩ := m4
    exact z321_F ⟨⟨_, rfl⟩, w4⟩
  have loop : ∀ (d j : Nat) (b c : Int32) (m1 : fl_M), j + d = 2000 → t2_Iv (f, l) m1 → fl_Tq (pw_P L xs) 321 26 [some (.inr (.inr (.inl (76, 277)))), some (.inl a), some (.inl (Int32.ofNat j)), some (.inl b), some (.inl c)] [] m1 (t2_Rst (f, l)) := by
    intro d
    induction d with
    | zero =>
      intro j b c m1 hj i1
      have ej : (Int32.ofNat j).toInt = j := at_ofN (by omega)
      obtain ⟨f1, l1⟩ := m1
      exact z321_D (fun _ h _ => absurd h (by rw [ej, c2]; omega)) (fun _ _ _ => fin j b c _ i1) (fun _ _ => fin j b c _ i1) (fun _ => fin j b c _ i1)
    | succ d ih =>
      intro j b c m1 hj i1
      obtain ⟨f1, l1⟩ := m1
      refine z321_D (fun _ _ _ => ?_) (fun _ _ _ => fin j b c _ i1) (fun _ _ => fin j b c _ i1) (fun _ => fin j b c _ i1)
      refine fl_Tq.cal rfl rfl (fl_bo rfl) rfl ?_
      refine i1.call (hall _ t2_c237_in) ⟨at_k277 _, True.intro⟩ rfl rfl rfl (fun z m2 i2 => ?_)
      obtain ⟨f2, l2⟩ := m2
      refine z321_E ?_
      refine fl_Tq.cal rfl rfl (fl_bo rfl) rfl ?_
      refine i2.call (hall _ t2_c320_in) ⟨at_k277 _, lx_ki _, True.intro⟩ rfl rfl rfl (fun y m3 i3 => ?_)
      obtain ⟨f3, l3⟩ := m3
      rw [t2_k1]
      refine z321_G ?_
      exact ih (j + 1) _ _ _ (by omega) i3
  refine z321_A (fun _ => ⟨⟨_, rfl⟩, fun w _ _ => rfl⟩) (fun _ => ?_)
  refine fl_Tq.cal rfl rfl (fl_bo rfl) rfl ?_
  refine t2_Iv.put hg (fun m1 i1 _ => ?_)
  obtain ⟨f1, l1⟩ := m1
  refine z321_B ?_
  refine fl_Tq.cal rfl rfl (fl_bo rfl) rfl ?_
  refine i1.call (hall _ t2_c320_in) ⟨at_k277 _, lx_ki _, True.intro⟩ rfl rfl rfl (fun y m3 i3 => ?_)
  obtain ⟨f3, l3⟩ := m3
  refine z321_C (j := 0) ?_
  exact loop 2000 0 _ _ _ rfl i3
/-- bestMode -/
theorem t2_z322 (hall : ∀ c ∈ at_CM ++ at_CA, at_Valid at_XI (pw_P L xs) c) (hg : at_Good at_XI (f, l)) : fl_Tq (pw_P L xs) 322 0 (fl_args (am_mxl (pw_P L xs) 322) [at_this, .inl a]) [] (f, l) (t2_Rst (f, l)) := by
  have c3 : (3 : Int32).toInt = 3 := by decide +kernel
  have c0 : (0 : Int32).toInt = 0 := rfl
  show fl_Tq (pw_P L xs) 322 0 [some (.inr (.inr (.inl (76, 277)))), some (.inl a), none, none, none, none] [] (f, l) _
  have loop : ∀ (d j : Nat) (b c : Int32) (e : Option fl_V) (m1 : fl_M), j + d = 3 → at_Good at_XI m1 → (∀ w : Nat, 2 ≤ w → w < 1420 → m1.1 280 w = f 280 w) → fl_Tq (pw_P L xs) 322 36 [some (.inr (.inr (.inl (76, 277)))), some (.inl a), some (.inl b), some (.inl c), some (.inl (Int32.ofNat j)), none] [] m1 (t2_Rst (f, l)) := by
    intro d
    induction d with
    | zero =>
      intro j b c e m1 hj g1 w1
      have ej : (Int32.ofNat j).toInt = j := at_ofN (by omega)
      obtain ⟨f1, l1⟩ := m1
      exact z322_D (fun h => absurd h (by rw [ej, c3]; omega)) (fun _ => ⟨⟨_, rfl⟩, w1⟩)
    | succ d ih =>
      intro j b c e m1 hj g1 w1
      have ej : (Int32.ofNat j).toInt = j := at_ofN (by omega)
      obtain ⟨f1, l1⟩ := m1
      refine z322_D (fun _ => ?_) (fun _ => ⟨⟨_, rfl⟩, w1⟩)
      refine fl_Tq.cal rfl rfl (fl_bo rfl) rfl ?_
      refine t2_z318 (A := 11) hall g1 (by decide +kernel) (by decide) (by omega) (fun y m2 g2 w2 => ?_)
      obtain ⟨f2, l2⟩ := m2
      have w3 : ∀ w : Nat, 2 ≤ w → w < 1420 → f2 280 w = f 280 w := fun w h1 h2 => (w2 w h1 h2).trans (w1 w h1 h2)
      refine z322_E ?_
      rw [t2_k1]
      exact fl_Tq.fg (ih (j + 1) _ _ none _ (by omega) g2 w3) ⟨rfl, rfl, rfl, rfl, rfl, True.intro⟩
  refine z322_A ?_
  refine fl_Tq.cal rfl rfl (fl_bo rfl) rfl ?_
  refine r_canRun_q ?_
  refine z322_B (fun _ => ⟨⟨_, rfl⟩, fun w _ _ => rfl⟩) (fun _ _ => ⟨⟨_, rfl⟩, fun w _ _ => rfl⟩) (fun _ _ => ?_)
  refine fl_Tq.cal rfl rfl (fl_bo rfl) rfl ?_
  refine t2_z318 (A := 11) hall hg (by decide +kernel) (by decide) (by omega) (fun y m2 g2 w2 => ?_)
  obtain ⟨f2, l2⟩ := m2
  refine z322_C ?_
  exact loop 2 1 _ _ none _ rfl g2 w2
/-- a call of the reference that leaves all as it was -/
def t2_loud (ws : List at_W) : Bool := ws.all (fun w => (Nat.beq w.1 76 || (Nat.beq w.1 81 || Nat.beq w.1 82)) || (Nat.beq w.1 79 && (bif w.2.1 then decide (0 ≤ w.2.2.1) && decide (w.2.2.2 ≤ 60) else decide (2 ≤ w.2.2.1) && decide (w.2.2.2 ≤ 1419))))
theorem t2_Z.loud {ws : List at_W} (Z : t2_Z m) (hg : at_Good at_XI m1) (h : at_MD m m1 ws) (hq : t2_loud ws = true) (hw : ∀ w : Nat, 2 ≤ w → w < 1420 → m1.1 280 w = m.1 280 w) (h7 : m1.1 277 7 = m.1 277 7) : t2_Z m1 := by
  have E : ∀ p : Nat, (p < 181) ∨ (271 ≤ p ∧ p < 275) ∨ p = 281 ∨ 285 ≤ p → m1.1 p = m.1 p := fun p hp => by
    funext j
    apply Classical.byContradiction
    intro hne
    obtain ⟨w, hw1, e, -⟩ := h.2 p j hne
    have hb := List.all_eq_true.mp hq w hw1
    have k0 : ∀ q : Nat, q < 285 → (fk_K q = 76 ∨ fk_K q = 79 ∨ fk_K q = 81 ∨ fk_K q = 82) → 276 < q ∧ q ≠ 281 := by
      intro q hq2 hk
      have H : (List.range 285).all (fun q => !(Nat.beq (fk_K q) 76 || Nat.beq (fk_K q) 79 || Nat.beq (fk_K q) 81 || Nat.beq (fk_K q) 82) || decide (276 < q ∧ q ≠ 281)) = true := by decide +kernel
      have H := List.all_eq_true.mp H q (List.mem_range.mpr hq2)
      rcases hk with h | h | h | h <;> (rw [h] at H; simpa using H)
    have hk : fk_K p = 76 ∨ fk_K p = 79 ∨ fk_K p = 81 ∨ fk_K p = 82 := by
      rw [← e]
      rw [Bool.or_eq_true, Bool.or_eq_true, Bool.or_eq_true, Bool.and_eq_true] at hb
      rcases hb with (h1 | h1 | h1) | ⟨h1, -⟩
      · exact Or.inl (Nat.eq_of_beq_eq_true h1)
      · exact Or.inr (Or.inr (Or.inl (Nat.eq_of_beq_eq_true h1)))
      · exact Or.inr (Or.inr (Or.inr (Nat.eq_of_beq_eq_true h1)))
      · exact Or.inr (Or.inl (Nat.eq_of_beq_eq_true h1))
    by_cases e5 : p < 285
    · have := k0 p e5 hk
      omega
    · obtain ⟨d, r, hr, rfl⟩ : ∃ d r, r < 90 ∧ p = 285 + 90 * d + r := ⟨(p - 285) / 90, (p - 285) % 90, Nat.mod_lt _ (by decide), by omega⟩
      rw [fk_K_hi hr] at hk
      have H : (List.range 90).all (fun r => decide (fk_K1.getD r 0 < 76)) = true := by decide +kernel
      have := of_decide_eq_true (List.all_eq_true.mp H r (List.mem_range.mpr hr))
      omega
  have W0 : ∀ w : Nat, w < 29780 → m1.1 280 w = m.1 280 w := fun w _ => by
    by_cases e : 2 ≤ w ∧ w < 1420
    · exact hw w e.1 e.2
    · apply Classical.byContradiction
      intro hne
      obtain ⟨x, hx, e1, hcv⟩ := h.2 280 w hne
      have hb := List.all_eq_true.mp hq x hx
      rw [e1, fk_K_280] at hb
      have hb : (bif x.2.1 then decide (0 ≤ x.2.2.1) && decide (x.2.2.2 ≤ 60) else decide (2 ≤ x.2.2.1) && decide (x.2.2.2 ≤ 1419)) = true := by simpa using hb
      cases hx2 : x.2.1 with
      | true =>
        rw [hx2] at hb hcv
        simp only [cond_true, Bool.and_eq_true, decide_eq_true_eq] at hb
        rw [if_pos rfl] at hcv
        obtain ⟨o, o1, o2, o3, o4⟩ := hcv
        omega
      | false =>
        rw [hx2] at hb hcv
        simp only [cond_false, Bool.and_eq_true, decide_eq_true_eq] at hb
        rw [if_neg Bool.false_ne_true] at hcv
        omega
  have hh := at_XI.cnt_eq Z.1.2.2 hg.2.2 (fun q hq => E q (by omega))
  refine ⟨hg, ?_⟩
  rw [hh]
  exact Z.2.ext (fun p hp => E p (by omega)) W0 (fun w _ => by rw [E 281 (by decide)]) h7
theorem t2_aside {c2 : at_C} {ar : List fl_V} {mr : Nat} {lo hi : Int} (hv : at_Valid at_XI (pw_P L xs) c2) (e : c2.1 = mr) (Z : t2_Z m) (k2 : at_agk m.2.2 c2.2.1 ar) (l2 : c2.2.2.1 = []) (hr : c2.2.2.2.1 = some (.inr (false, lo, hi))) (hq : t2_loud c2.2.2.2.2.2 = true) (F : fl_Tq (pw_P L xs) mr 0 (fl_args (am_mxl (pw_P L xs) mr) ar) [] m (t2_RP m)) (K : ∀ (x : Int32) (m1 : fl_M), t2_Z m1 → Q (some (.inl x)) m1) : fl_Tq (pw_P L xs) mr 0 (fl_args (am_mxl (pw_P L xs) mr) ar) [] m Q := by
  subst e
  refine fl_Tq.mono (t2_join (hv m ar Z.1 k2 (fun q hq => by rw [l2] at hq; cases hq)) F) ?_
  rintro v m1 ⟨⟨g1, md, hv1⟩, v2, m2, -, e2, ⟨-, w2⟩, p2⟩
  rw [hr] at hv1
  obtain ⟨x, rfl, -⟩ := hv1
  have e280 : m1.1 280 = m2.1 280 := t2_Hi e2 (n := 29780) (z := (0, 0, 0)) (by decide) (by decide +kernel)
  have e277 : m1.1 277 7 = m2.1 277 7 := t2_Hw e2 (by unfold fl_N; omega) (by decide +kernel)
  exact K x m1 (Z.loud g1 md hq (fun w h1 h2 => by rw [e280]; exact w2 w h1 h2) (by rw [e277, p2, Z.2.2.2.2]))
/-- where isPlain isn't written -/
theorem t2_asideR {c2 : at_C} {ar : List fl_V} {mr : Nat} {lo hi : Int} (hv : at_Valid at_XI (pw_P L xs) c2) (e : c2.1 = mr) (Z : t2_Z m) (k2 : at_agk m.2.2 c2.2.1 ar) (l2 : c2.2.2.1 = []) (hr : c2.2.2.2.1 = some (.inr (false, lo, hi))) (hq : t2_loud c2.2.2.2.2.2 = true) (hp : t2_nw c2.2.2.2.2.2 76 7 7 = true) (F : fl_Tq (pw_P L xs) mr 0 (fl_args (am_mxl (pw_P L xs) mr) ar) [] m (t2_Rst m)) (K : ∀ (x : Int32) (m1 : fl_M), t2_Z m1 → Q (some (.inl x)) m1) : fl_Tq (pw_P L xs) mr 0 (fl_args (am_mxl (pw_P L xs) mr) ar) [] m Q := by
  subst e
  refine fl_Tq.mono (t2_join (hv m ar Z.1 k2 (fun q hq => by rw [l2] at hq; cases hq)) F) ?_
  rintro v m1 ⟨⟨g1, md, hv1⟩, v2, m2, -, e2, -, w2⟩
  rw [hr] at hv1
  obtain ⟨x, rfl, -⟩ := hv1
  have e280 : m1.1 280 = m2.1 280 := t2_Hi e2 (n := 29780) (z := (0, 0, 0)) (by decide) (by decide +kernel)
  exact K x m1 (Z.loud g1 md hq (fun w h1 h2 => by rw [e280]; exact w2 w h1 h2) (t2_fr md 7 7 (by decide +kernel) hp (by decide) (by decide)))
end T2MQ9

end

/-! 95.00.lt.lean.txt -/
section
/-! ===== the law: calls with the whole relation ===== -/
section T2LT
variable {L : Nat} {xs : Nat → Int32} {m : fl_M} {f : t2_F} {l : t2_L} {Q : Option fl_V → fl_M → Prop}
theorem lx_callG {pc mj n : Nat} {ins : Instr} {lv : fl_L} {st as_ rest : List fl_V} {R : Option fl_V → fl_M → Prop} (hc : am_code (pw_P L xs) 0 pc = some ins) (hcl : am_cl (pw_P L xs) 0 ins = some (mj, n)) (hrc : fl_rc (pw_P L xs) ins mj n st = true) (hok : ∀ v ∈ st, fl_ok m.2.2 v) (hst : (st.take n).reverse = as_) (hd : st.drop n = rest) (T : fl_Tq (pw_P L xs) mj 0 (fl_args (am_mxl (pw_P L xs) mj) as_) [] m R) (k : ∀ (v : Option fl_V) (m' : fl_M), R v m' → fl_Tq (pw_P L xs) 0 (pc + 3) lv (v.toList ++ rest) m' Q) : fl_Tq (pw_P L xs) 0 pc lv st m Q := by
  refine fl_Tq.cal hc hcl hok hrc ?_
  rw [hst, hd]
  exact fl_Tq.mono T (fun v m' h => k v m' h)
/-- a call that writes nothing of the relation -/
def t2_ZI (v : Option fl_V) (m : fl_M) : Prop := (∃ y, v = some (.inl y)) ∧ t2_Z m
def t2_ZJ (v : Option fl_V) (m : fl_M) : Prop := (∃ y, v = some (.inr (.inl y))) ∧ t2_Z m
theorem t2_qcall {c : at_C} {as_ : List fl_V} {mj : Nat} {lo hi : Int} (hV : at_Valid at_XI (pw_P L xs) c) (e : c.1 = mj) (Z : t2_Z m) (hk : at_agk m.2.2 c.2.1 as_) (hl : c.2.2.1 = []) (hr : c.2.2.2.1 = some (.inr (false, lo, hi))) (hq : t2_quiet c.2.2.2.2.2 = true) : fl_Tq (pw_P L xs) mj 0 (fl_args (am_mxl (pw_P L xs) mj) as_) [] m t2_ZI := by
  subst e
  refine fl_Tq.mono (hV m as_ Z.1 hk (fun q hq => by rw [hl] at hq; cases hq)) (fun v m' ⟨hg', md, hv⟩ => ?_)
  rw [hr] at hv
  obtain ⟨x, rfl, -⟩ := hv
  exact ⟨⟨x, rfl⟩, Z.quiet hg' md hq⟩
theorem t2_qcallJ {c : at_C} {as_ : List fl_V} {mj : Nat} {lo hi : Int} (hV : at_Valid at_XI (pw_P L xs) c) (e : c.1 = mj) (Z : t2_Z m) (hk : at_agk m.2.2 c.2.1 as_) (hl : c.2.2.1 = []) (hr : c.2.2.2.1 = some (.inr (true, lo, hi))) (hq : t2_quiet c.2.2.2.2.2 = true) : fl_Tq (pw_P L xs) mj 0 (fl_args (am_mxl (pw_P L xs) mj) as_) [] m t2_ZJ := by
  subst e
  refine fl_Tq.mono (hV m as_ Z.1 hk (fun q hq => by rw [hl] at hq; cases hq)) (fun v m' ⟨hg', md, hv⟩ => ?_)
  rw [hr] at hv
  obtain ⟨x, rfl, -⟩ := hv
  exact ⟨⟨x, rfl⟩, Z.quiet hg' md hq⟩
theorem t2_acall {c : at_C} {as_ : List fl_V} {mj : Nat} {lo hi : Int} (hV : at_Valid at_XI (pw_P L xs) c) (e : c.1 = mj) (Z : t2_Z m) (hk : at_agk m.2.2 c.2.1 as_) (hl : c.2.2.1 = []) (hr : c.2.2.2.1 = some (.inr (false, lo, hi))) (hq : t2_loud c.2.2.2.2.2 = true) (F : fl_Tq (pw_P L xs) mj 0 (fl_args (am_mxl (pw_P L xs) mj) as_) [] m (t2_RP m)) : fl_Tq (pw_P L xs) mj 0 (fl_args (am_mxl (pw_P L xs) mj) as_) [] m t2_ZI :=
  t2_aside hV e Z hk hl hr hq F (fun x m1 h => ⟨⟨x, rfl⟩, h⟩)
theorem t2_acallR {c : at_C} {as_ : List fl_V} {mj : Nat} {lo hi : Int} (hV : at_Valid at_XI (pw_P L xs) c) (e : c.1 = mj) (Z : t2_Z m) (hk : at_agk m.2.2 c.2.1 as_) (hl : c.2.2.1 = []) (hr : c.2.2.2.1 = some (.inr (false, lo, hi))) (hq : t2_loud c.2.2.2.2.2 = true) (hp : t2_nw c.2.2.2.2.2 76 7 7 = true) (F : fl_Tq (pw_P L xs) mj 0 (fl_args (am_mxl (pw_P L xs) mj) as_) [] m (t2_Rst m)) : fl_Tq (pw_P L xs) mj 0 (fl_args (am_mxl (pw_P L xs) mj) as_) [] m t2_ZI :=
  t2_asideR hV e Z hk hl hr hq hp F (fun x m1 h => ⟨⟨x, rfl⟩, h⟩)
/-- two answers that are the same, of calls that change nothing -/
theorem t2_qq {mc mr : Nat} {ac ar : List fl_V} {y : Int32} (Z : t2_Z (f, l)) (F1 : ∀ Q : Option fl_V → fl_M → Prop, Q (some (.inl y)) (f, l) → fl_Tq (pw_P L xs) mc 0 (fl_args (am_mxl (pw_P L xs) mc) ac) [] (f, l) Q) (F2 : ∀ Q : Option fl_V → fl_M → Prop, Q (some (.inl y)) (f, l) → fl_Tq (pw_P L xs) mr 0 (fl_args (am_mxl (pw_P L xs) mr) ar) [] (f, l) Q) : fl_Tq (pw_P L xs) mc 0 (fl_args (am_mxl (pw_P L xs) mc) ac) [] (f, l) (t2_End L xs mr ar) :=
  F1 _ ⟨⟨y, rfl⟩, F2 _ ⟨rfl, Z⟩⟩
def t2_b01 (x : Int32) : Int32 := if x.toInt = 0 then (0 : Int32) else (1 : Int32)
theorem t2_b01_k (x : Int32) : ∃ y : Int32, (.inl (t2_b01 x) : fl_V) = .inl y ∧ 0 ≤ y.toInt ∧ y.toInt ≤ 1 := ⟨_, rfl, by unfold t2_b01; split <;> decide, by unfold t2_b01; split <;> decide⟩
theorem lx_boolV {pc : Nat} {lv : fl_L} {st : List fl_V} {x : Int32} (h1 : am_code (pw_P L xs) 0 pc = some (.ifCond .eq 7)) (h2 : am_code (pw_P L xs) 0 (pc + 3) = some (.iconst 1)) (h3 : am_code (pw_P L xs) 0 (pc + 4) = some (.goto 4)) (h4 : am_code (pw_P L xs) 0 (pc + 7) = some (.iconst 0)) (hok : ∀ v ∈ (.inl x :: st : List fl_V), fl_ok m.2.2 v) (ht : am_tg pc 7 = some (pc + 7)) (ht2 : am_tg (pc + 4) 4 = some (pc + 8)) (k : fl_Tq (pw_P L xs) 0 (pc + 8) lv (.inl (t2_b01 x) :: st) m Q) : fl_Tq (pw_P L xs) 0 pc lv (.inl x :: st) m Q := by
  have ok : ∀ v ∈ st, fl_ok m.2.2 v := fun v hv => hok v (List.mem_cons_of_mem _ hv)
  have ok1 : ∀ y : Int32, ∀ v ∈ (.inl y :: st : List fl_V), fl_ok m.2.2 v := fun y v hv => by
    rcases List.mem_cons.mp hv with rfl | hv
    · exact True.intro
    · exact ok v hv
  by_cases hx : x.toInt = 0
  · have hb : am_c1 .eq x = true := by rw [at_c1, hx]; rfl
    refine fl_Tq.zt h1 hok hb ht ?_
    refine fl_Tq.stp h4 rfl ok rfl ?_
    have e : t2_b01 x = Int32.ofInt 0 := by unfold t2_b01; rw [if_pos hx]; rfl
    rw [e] at k
    exact k
  · have hb : am_c1 .eq x = false := by rw [at_c1]; exact decide_eq_false hx
    refine fl_Tq.zf h1 hok hb ht ?_
    refine fl_Tq.stp h2 rfl ok rfl ?_
    have e : t2_b01 x = Int32.ofInt 1 := by unfold t2_b01; rw [if_neg hx]; rfl
    rw [e] at k
    refine fl_Tq.stp (pc' := pc + 8) (lv' := lv) (st' := .inl (Int32.ofInt 1) :: st) (m' := m) h3 rfl (ok1 _) ?_ k
    show fl_go (pc + 3 + 1) 4 lv _ m = _
    unfold fl_go
    rw [show pc + 3 + 1 = pc + 4 by omega, ht2]
end T2LT
/-! ===== the relation at the start ===== -/
section T2START
def t2_i0 : t2_F := fun p j => (at_i0 p).getD j 0
theorem t2_m0_w {p : Nat} (hp : p < 285) (h : p ≠ 281) : at_m0.1 p = t2_i0 p := by
  funext j
  show (bl_cp 280 0 281 0 29780 at_m1).1 p j = _
  rw [bl_cp_out (fun e => absurd e h)]
  show (if p < 285 then (at_i0 p).getD j 0 else at_W0 ((p - 285) % 90) j) = _
  rw [if_pos hp]
  rfl
theorem t2_m0_281 {j : Nat} (hj : j < 29780) : at_m0.1 281 j = t2_i0 280 j := by
  show (bl_cp 280 0 281 0 29780 at_m1).1 281 j = _
  rw [bl_cp_in (by omega) (by omega)]
  show (if 280 < 285 then (at_i0 280).getD (j - 0 + 0) 0 else at_W0 ((280 - 285) % 90) j) = _
  rw [if_pos (by decide)]
  rfl
theorem t2_i0_I : c0_I t2_i0 t2_i0 := by
  have z2 : (t2_i0 280 2).toInt = 0 := by decide +kernel
  have z18 : (t2_i0 280 18).toInt = 0 := by decide +kernel
  have z19 : (t2_i0 280 19).toInt = 0 := by decide +kernel
  have z20 : (t2_i0 280 20).toInt = 0 := by decide +kernel
  have z21 : (t2_i0 280 21).toInt = 0 := by decide +kernel
  refine ⟨⟨⟨by decide +kernel, by decide +kernel, by decide +kernel, by decide +kernel⟩, ⟨by decide +kernel, by decide +kernel, by decide +kernel, by decide +kernel⟩, by decide +kernel, by decide +kernel, by decide +kernel, by decide +kernel⟩, ?_, ⟨⟨?_, ⟨by decide +kernel, ?_, ?_⟩, ⟨by decide +kernel, by decide +kernel, fun j hj => by omega⟩, ?_, by decide +kernel, fun j hj => by omega⟩, ⟨⟨by decide +kernel, by decide +kernel, by decide +kernel, by decide +kernel⟩, ?_, ?_, ⟨by decide +kernel, by decide +kernel, by decide +kernel, by decide +kernel, fun i hi => by omega⟩⟩, ⟨by decide +kernel, by decide +kernel, by decide +kernel, by decide +kernel, fun i hi => by omega⟩, ?_⟩, fun C hC => by omega, ?_, ?_, ?_, ⟨by decide +kernel, ?_⟩, ⟨by decide +kernel, ?_, fun k hk => by omega⟩, ⟨by decide +kernel, fun k hk => by omega⟩, by decide +kernel, fun C hC => by omega⟩
  · show ∀ k : Nat, k < 30 → t2_i0 4 k = t2_i0 280 (34 + k)
    decide +kernel
  · show ∀ k : Nat, k < 3 → t2_i0 5 k = t2_i0 280 (64 + k)
    decide +kernel
  · show ∀ k : Nat, k < 12 → t2_i0 7 k = t2_i0 280 (67 + k)
    decide +kernel
  · show ∀ k : Nat, k < 6 → 0 ≤ (t2_i0 280 (67 + 2 * k + 1)).toInt
    decide +kernel
  · show ∀ k : Nat, k < 24 → t2_i0 6 k = t2_i0 280 (315 + k)
    decide +kernel
  · show ∀ j : Nat, j < 11 → t2_i0 11 j = t2_i0 280 (23 + j)
    decide +kernel
  · show ∀ j : Nat, j < 4 → t2_i0 12 j = t2_i0 280 (311 + j)
    decide +kernel
  · intro m hm
    have h : ∀ m : Nat, m < 3 → t2_i0 (82 + 3 * m) 2 = t2_i0 280 (339 + 35 * m + 2) ∧ (t2_i0 280 (339 + 35 * m + 2)).toInt = 0 := by decide +kernel
    obtain ⟨h1, h2⟩ := h m hm
    exact ⟨h1, by omega, fun q => by omega, fun c hc => by omega⟩
  · show ∀ k : Nat, k < 30 → t2_lo k ≤ (t2_i0 280 (34 + k)).toInt ∧ (t2_i0 280 (34 + k)).toInt ≤ t2_hi k
    decide +kernel
  · decide +kernel
  · have h : ∀ k : Nat, k < 3 → t2_i0 280 (64 + k) = 0 := by decide +kernel
    exact fun k hk => Or.inl (h k hk)
  · show ∀ k : Nat, k < 6 → 0 ≤ (t2_i0 280 (67 + 2 * k + 1)).toInt
    decide +kernel
  · show ∀ k : Nat, k < 8 → 0 ≤ (t2_i0 280 ((79 + (5 * k)) + 3)).toInt ∧ (t2_i0 280 ((79 + (5 * k)) + 3)).toInt ≤ 29
    decide +kernel
theorem t2_i0_blk : ∀ o : Nat, o < 90 → at_i0 (91 + o) = at_i0 (1 + o) := by decide +kernel
theorem t2_Z0 : t2_Z at_m0 := by
  have I : c0_I at_m0.1 at_m0.1 := t2_i0_I.ext (fun p _ h => t2_m0_w (by omega) (by omega)) (fun w _ _ => by rw [t2_m0_w (by decide) (by decide)])
  have c0 : (0 : Int32).toInt = 0 := rfl
  have w0 : at_m0.1 280 0 = 0 := by rw [t2_m0_w (by decide) (by decide)]; decide +kernel
  have w1 : at_m0.1 280 1 = 0 := by rw [t2_m0_w (by decide) (by decide)]; decide +kernel
  have v0 : at_m0.1 281 0 = 0 := by rw [t2_m0_281 (by decide)]; decide +kernel
  have v1 : at_m0.1 281 1 = 0 := by rw [t2_m0_281 (by decide)]; decide +kernel
  have h1 : at_m0.1 271 1 = 0 ∧ at_m0.1 271 2 = 0 ∧ at_m0.1 273 1 = 0 ∧ at_m0.1 273 2 = 0 := by
    rw [t2_m0_w (by decide) (by decide), t2_m0_w (by decide) (by decide)]
    decide +kernel
  have hz : ∀ q i : Nat, (q = 272 ∨ q = 274) → i < 20 → at_m0.1 q i = 0 := fun q i hq hi => by
    rw [t2_m0_w (by omega) (by omega)]
    rcases hq with rfl | rfl
    · exact (by decide +kernel : ∀ i : Nat, i < 20 → t2_i0 272 i = 0) i hi
    · exact (by decide +kernel : ∀ i : Nat, i < 20 → t2_i0 274 i = 0) i hi
  refine ⟨at_start, I, ⟨⟨by rw [h1.2.1, w0], by rw [h1.1, c0]; omega, by rw [w0, c0]; omega, by rw [w1, c0]; omega, fun i hi => by rw [w0, c0] at hi; omega⟩, ?_, ⟨by rw [h1.2.2.2, v0], by rw [h1.2.2.1, c0]; omega, by rw [v0, c0]; omega, by rw [v1, c0]; omega, fun i hi => by rw [v0, c0] at hi; omega⟩⟩, fun q q' i i' hq hq' hi hi' h2 _ => absurd (hz q i hq hi) h2, ?_⟩
  · refine c0_I.ext t2_i0_I (fun p h1 h2 => ?_) (fun w h1 h2 => ?_)
    · show at_m0.1 (91 + p - 1) = t2_i0 p
      rw [t2_m0_w (by omega) (by omega)]
      have := t2_i0_blk (p - 1) (by omega)
      rw [show 91 + (p - 1) = 91 + p - 1 by omega, show 1 + (p - 1) = p by omega] at this
      unfold t2_i0
      rw [this]
    · show at_m0.1 281 (0 + w) = t2_i0 280 w
      rw [Nat.zero_add]
      exact t2_m0_281 (by omega)
  · rw [t2_m0_w (by decide) (by decide)]
    decide +kernel
end T2START

end

/-! 95.01.qlem.lean.txt -/
section
/-! ===== what the answers' comparisons share ===== -/
theorem t2_mc {a b m : Int32} {A B M : Nat} (hm : m.toInt = (M : Int)) (hM : M ≤ 100) (hA : a.toInt = (A : Int)) (hB : b.toInt = (B : Int)) (hA1 : A ≤ 100) (hB1 : B ≤ 100) : ((a * m) + b).toInt = ((A * M + B : Nat) : Int) := by
  have h0 : A * M ≤ 100 * 100 := Nat.mul_le_mul hA1 hM
  exact t2_ia (t2_im hA hm (by omega)) hB (by omega)
theorem t2_mr {a b m k : Int32} {A B M K : Nat} (hm : m.toInt = (M : Int)) (hk : k.toInt = (K : Int)) (hM : M ≤ 100) (hK : K ≤ 30000) (hA : a.toInt = (A : Int)) (hB : b.toInt = (B : Int)) (hA1 : A ≤ 100) (hB1 : B ≤ 100) : ((k + (m * a)) + b).toInt = ((K + M * A + B : Nat) : Int) := by
  have h0 : M * A ≤ 100 * 100 := Nat.mul_le_mul hM hA1
  exact t2_ia (t2_ia hk (t2_im hm hA (by omega)) (by omega)) hB (by omega)
theorem t2_nat {a : Int32} (h : 0 ≤ a.toInt) : ∃ A : Nat, a.toInt = (A : Int) := ⟨a.toInt.toNat, by omega⟩
theorem t2_dec {x : Int32} (h : -1000 ≤ x.toInt) : (x - (1 : Int32)).toInt = x.toInt - 1 := by
  have c1 : (1 : Int32).toInt = 1 := by decide +kernel
  have := at_i32 x
  rw [at_sub32 (by omega) (by omega), c1]
section T2QLEM
variable {fc fr : t2_F} {x : Int32}
/-- what the two tell -/
theorem c0_I.tell (h : c0_I fc fr) : c0_tell_v fc x = r_is_v fr x := by
  obtain ⟨⟨⟨g5, g6, g7, g8⟩, ⟨g9, g10, g11, g12⟩, g13, g14, g15, g16⟩, rs, gx, cl, ok⟩ := h
  have n2 := ok.2.1.2.2.1
  have b5 := ok.2.1.1
  have hpk : c0_packAt_v fc (fc 1 9) = r_pack_v fr := by
    have e := c0_pack_eq (fc := fc) (fr := fr) (n := (fr 280 2).toInt.toNat) (fun C hC => ⟨(cl C (by omega)).1, t2_far_ok b5 (ok.2.2.2.2.2.2.2 C (by omega)).2.1⟩)
    unfold c0_packAt_v r_pack_v
    rw [g5, g9, e]
  have ha := c0_actual_eq g7 gx.1.1 ok.2.2.1
  unfold c0_tell_v r_is_v
  rw [g5, g7, g8, hpk, g9, gx.2.1.1.1, g6, g11, g12, g13, g14, g15, g16, ha, gx.1.2.2.2.2.1, gx.1.2.1.1]
end T2QLEM
section T2QLEM2
variable {fc fr : t2_F} {x : Int32}
theorem c0_I.least (h : c0_I fc fr) : c0_leastPart_v fc = r_leastPart_v fr := by
  obtain ⟨n1, n2, n3⟩ := h.cnt
  unfold c0_leastPart_v r_leastPart_v
  rw [show (fc 1 5).toInt.toNat = (fr 280 2).toInt.toNat by rw [h.1.1.1]]
  exact c0_least_eq (fun C hC => (h.cell hC).1.1)
theorem r_least_b (hk : ∀ C : Nat, (C : Int) < (fr 280 2).toInt → t2_ck fr C) : 0 ≤ (r_leastPart_v fr).toInt ∧ (r_leastPart_v fr).toInt ≤ 1000 := by
  have c1000 : (1000 : Int32).toInt = 1000 := by decide +kernel
  have a : ∀ k : Nat, k ≤ (fr 280 2).toInt.toNat → 0 ≤ (r_leastPart_a6 fr k).toInt ∧ (r_leastPart_a6 fr k).toInt ≤ 1000 := by
    intro k
    induction k with
    | zero =>
      intro _
      show 0 ≤ (1000 : Int32).toInt ∧ (1000 : Int32).toInt ≤ 1000
      omega
    | succ k ih =>
      intro hk2
      have i := ih (by omega)
      have p : 0 ≤ (r_partOf_v fr (Int32.ofNat k) k).toInt ∧ (r_partOf_v fr (Int32.ofNat k) k).toInt ≤ 1000 := t2_ckp (hk k (by omega))
      show 0 ≤ (r_lesser_v (r_leastPart_a6 fr k) (r_partOf_v fr (Int32.ofNat k) k)).toInt ∧ (r_lesser_v (r_leastPart_a6 fr k) (r_partOf_v fr (Int32.ofNat k) k)).toInt ≤ 1000
      unfold r_lesser_v
      split
      · exact i
      · exact p
  exact a _ (Nat.le_refl _)
end T2QLEM2
section T2Q64
variable {x y : Int64} {a b : Int32} {fc fr : t2_F} {C : Nat}
theorem t2_ad64 (h1 : -4611686018427387904 ≤ x.toInt ∧ x.toInt ≤ 4611686018427387904) (h2 : -4611686018427387904 ≤ y.toInt ∧ y.toInt < 4611686018427387904) : (x + y).toInt = x.toInt + y.toInt := by
  rw [Int64.toInt_add]
  exact Int.bmod_eq_of_le (by omega) (by omega)
theorem t2_sb64 (h1 : -4611686018427387904 ≤ x.toInt ∧ x.toInt ≤ 4611686018427387904) (h2 : -4611686018427387904 < y.toInt ∧ y.toInt < 4611686018427387904) : (x - y).toInt = x.toInt - y.toInt := by
  rw [Int64.toInt_sub]
  exact Int.bmod_eq_of_le (by omega) (by omega)
theorem t2_nz8 (h : x.toInt ≠ 0) : x ≠ 0 := fun e => h (by rw [e]; rfl)
/-- what both read of a cell -/
theorem c0_I.part (h : c0_I fc fr) (hC : C < (fr 280 2).toInt.toNat) (c : Int32) : fc (18 + 4 * C) 3 = r_partOf_v fr c C := (h.cell hC).1.1.2.1.1
theorem c0_I.chg (h : c0_I fc fr) (hC : C < (fr 280 2).toInt.toNat) : fc (18 + 4 * C) 2 = fr 280 (444 + 61 * C + 1) := (h.cell hC).1.1.1.2.2
theorem c0_I.capa (h : c0_I fc fr) (hC : C < (fr 280 2).toInt.toNat) : fc (18 + 4 * C) 0 = fr 280 (444 + 61 * C + 0) := (h.cell hC).1.1.1.1
theorem c0_I.rst (h : c0_I fc fr) (hC : C < (fr 280 2).toInt.toNat) (c : Int32) : fc (18 + 4 * C) 4 = t2_rb (r_partOf_v fr c C) := (h.cell hC).1.1.2.1.2
theorem c0_I.ck (h : c0_I fc fr) (hC : C < (fr 280 2).toInt.toNat) : t2_ck fr C := h.rhu.2 C (by omega)
theorem t2_36m {c : Int32} (h : t2_cap c) : ((3600 : Int32) * c).toInt = 3600 * c.toInt := by
  have c36 : (3600 : Int32).toInt = 3600 := by decide +kernel
  obtain ⟨h1, h2⟩ := h
  rw [at_mul32 (by rw [c36]; omega) (by rw [c36]; omega), c36]
/-- the charge of a part -/
theorem t2_cha {c : Int32} (hk : t2_ck fr C) (ha : 0 ≤ a.toInt ∧ a.toInt ≤ 1000) : r_chargeAt_v fr c C a = t2_chargeBy_v a (fr 280 (444 + 61 * C + 0)) := by
  unfold r_chargeAt_v
  exact (t2_chg ha hk.1).2.2.2
theorem t2_hour_b (h : ¬ (t2_within_v b (1 : Int32) (99999 : Int32)).toInt = 0) : 1 ≤ b.toInt ∧ b.toInt ≤ 99999 := by
  have c1 : (1 : Int32).toInt = 1 := by decide +kernel
  have c9 : (99999 : Int32).toInt = 99999 := by decide +kernel
  rw [t2_w0, c1, c9, Classical.not_not] at h
  exact h
theorem t2_hour_e (h : 1 ≤ b.toInt ∧ b.toInt ≤ 99999) : ((3600 : Int32) * b).toInt = 3600 * b.toInt ∧ b * (3600 : Int32) = (3600 : Int32) * b := by
  have c36 : (3600 : Int32).toInt = 3600 := by decide +kernel
  exact ⟨by rw [at_mul32 (by rw [c36]; omega) (by rw [c36]; omega), c36], Int32.mul_comm _ _⟩
theorem t2_hour_nz64 (h : ¬ (t2_within_v b (1 : Int32) (99999 : Int32)).toInt = 0) : (b * (3600 : Int32)).toInt64 ≠ 0 := by
  have e := t2_hour_e (t2_hour_b h)
  have := t2_hour_b h
  exact t2_nz64 (by rw [e.2, e.1]; omega)
theorem t2_hour_nz (h : ¬ (r_isIn_v b (1 : Int32) (99999 : Int32)).toInt = 0) : (3600 : Int32) * b ≠ 0 := fun e => by
  have e1 := t2_hour_e (t2_hour_b h)
  have := t2_hour_b h
  rw [e] at e1
  have z : (0 : Int32).toInt = 0 := rfl
  omega
/-- division upward, twice -/
theorem t2_updiv {x y : Int32} (hx : 0 ≤ x.toInt ∧ x.toInt ≤ 100000000) (hy : 1 ≤ y.toInt ∧ y.toInt ≤ 1000000000) : (((x.toInt64 + y.toInt64) - (1 : Int64)) / y.toInt64).toInt32 = x / y + (if 0 < (x - x / y * y).toInt then (1 : Int32) else (0 : Int32)) := by
  have l1 : (1 : Int64).toInt = 1 := by decide +kernel
  have c1 : (1 : Int32).toInt = 1 := by decide +kernel
  have c0 : (0 : Int32).toInt = 0 := rfl
  have a1 : (x.toInt64 + y.toInt64).toInt = x.toInt + y.toInt := by rw [t2_ad64 (by rw [t2_i64]; omega) (by rw [t2_i64]; omega), t2_i64, t2_i64]
  have a2 : ((x.toInt64 + y.toInt64) - (1 : Int64)).toInt = x.toInt + y.toInt - 1 := by rw [t2_sb64 (by omega) (by omega), a1, l1]
  have q0 : 0 ≤ (x.toInt + y.toInt - 1) / y.toInt := Int.ediv_nonneg (by omega) (by omega)
  have q1 : (x.toInt + y.toInt - 1) / y.toInt ≤ x.toInt + y.toInt - 1 := Int.ediv_le_self _ (by omega)
  have a3 : (((x.toInt64 + y.toInt64) - (1 : Int64)) / y.toInt64).toInt = (x.toInt + y.toInt - 1) / y.toInt := by
    rw [Int64.toInt_div, a2, t2_i64, Int.tdiv_eq_ediv_of_nonneg (by omega)]
    exact Int.bmod_eq_of_le (by omega) (by omega)
  have d : (x / y).toInt = x.toInt / y.toInt := at_div32 hx.1 (by omega)
  have p0 : 0 ≤ x.toInt / y.toInt := Int.ediv_nonneg (by omega) (by omega)
  have p1 : x.toInt / y.toInt ≤ x.toInt := Int.ediv_le_self _ hx.1
  have m0 : x.toInt / y.toInt * y.toInt ≤ x.toInt := Int.ediv_mul_le _ (by omega)
  have m1 : x.toInt < (x.toInt / y.toInt + 1) * y.toInt := Int.lt_ediv_add_one_mul_self _ (by omega)
  have m2 : 0 ≤ x.toInt / y.toInt * y.toInt := Int.mul_nonneg p0 (by omega)
  rw [Int.add_mul, Int.one_mul] at m1
  have e1 : (x / y * y).toInt = x.toInt / y.toInt * y.toInt := by rw [at_mul32 (by rw [d]; omega) (by rw [d]; omega), d]
  have e2 : (x - x / y * y).toInt = x.toInt - x.toInt / y.toInt * y.toInt := by rw [at_sub32 (by omega) (by omega), e1]
  refine Int32.toInt.inj ?_
  rw [Int64.toInt_toInt32, a3, Int.bmod_eq_of_le (by omega) (by omega)]
  generalize hq : x.toInt / y.toInt = q at *
  by_cases h : 0 < (x - x / y * y).toInt
  · rw [if_pos h, at_add32 (by omega) (by omega), d, c1]
    refine Int.le_antisymm ?_ ?_
    · refine Int.lt_add_one_iff.mp ((Int.ediv_lt_iff_lt_mul (by omega)).mpr ?_)
      rw [Int.add_mul, Int.add_mul, Int.one_mul]
      omega
    · refine (Int.le_ediv_iff_mul_le (by omega)).mpr ?_
      rw [Int.add_mul, Int.one_mul]
      omega
  · rw [if_neg h, at_add32 (by omega) (by omega), d, c0]
    refine Int.le_antisymm ?_ ?_
    · refine Int.lt_add_one_iff.mp ((Int.ediv_lt_iff_lt_mul (by omega)).mpr ?_)
      rw [Int.add_zero, Int.add_mul, Int.one_mul]
      omega
    · refine (Int.le_ediv_iff_mul_le (by omega)).mpr ?_
      rw [Int.add_zero]
      omega
end T2Q64
theorem t2_cmp0 {x : Int64} : 0 < (lg_cmp x (0 : Int64)).toInt ↔ 0 < x.toInt := by
  have z : (0 : Int64).toInt = 0 := rfl
  have c1 : (1 : Int32).toInt = 1 := by decide +kernel
  have cm : (-1 : Int32).toInt = -1 := by decide +kernel
  have c0 : (0 : Int32).toInt = 0 := rfl
  unfold lg_cmp
  by_cases h : x > 0
  · rw [if_pos h]
    have := Int64.lt_iff_toInt_lt.mp h
    omega
  · rw [if_neg h]
    have hn : ¬ 0 < x.toInt := fun hh => h (Int64.lt_iff_toInt_lt.mpr (by rw [z]; exact hh))
    split <;> omega
theorem t2_nzl {x : Int64} (h : 0 < (lg_cmp x (0 : Int64)).toInt) : x ≠ 0 := t2_nz8 (by have := t2_cmp0.mp h; omega)
theorem t2_flg {x n : Int32} (hc : 0 ≤ n.toInt ∧ n.toInt ≤ 16) : (t2_within_v x (0 : Int32) (n - (2 : Int32))).toInt = 0 ↔ ¬ (0 ≤ x.toInt ∧ x.toInt + 2 ≤ n.toInt) := by
  have c0 : (0 : Int32).toInt = 0 := rfl
  have c2 : (2 : Int32).toInt = 2 := by decide +kernel
  rw [t2_w0, c0, at_sub32 (by omega) (by omega), c2]
  omega
theorem t2_flw {x n : Int32} (hc : 0 ≤ n.toInt ∧ n.toInt ≤ 16) (h : ¬ ((t2_within_v x (0 : Int32) (n - (2 : Int32))).toInt = 0)) : 0 ≤ x.toInt ∧ x.toInt + 2 ≤ n.toInt ∧ x.toInt ≤ 14 := by
  rw [t2_flg hc, Classical.not_not] at h
  omega
theorem t2_fl1 {x n : Int32} {k : Nat} (h : 0 ≤ x.toInt ∧ x.toInt + 2 ≤ n.toInt ∧ x.toInt ≤ 14) (hk : k < x.toInt.toNat + 1) : ¬ (x.toInt < (Int32.ofNat k).toInt) := by
  rw [at_ofN (by omega)]
  omega
theorem t2_fl2 {x n : Int32} (h : 0 ≤ x.toInt ∧ x.toInt + 2 ≤ n.toInt ∧ x.toInt ≤ 14) : x.toInt < (Int32.ofNat (x.toInt.toNat + 1)).toInt := by
  rw [at_ofN (by omega)]
  omega

end

/-! 95.05.cmp.lean.txt -/
section
/-! ===== this row's own, printed by wip/t2/cmp ===== -/
theorem x_mod_A {L : Nat} {xs : Nat → Int32} {f : t2_F} {l : t2_L} {Q : Option fl_V → fl_M → Prop} {a b : Int32}  (k : ((t2_within_v a (0 : Int32) (3 : Int32)).toInt = 0) → Q (some (.inl (-1000000000 : Int32))) (f, l)) (k1 : (¬ ((t2_within_v a (0 : Int32) (3 : Int32)).toInt = 0)) → ((t2_within_v b (0 : Int32) (3 : Int32)).toInt = 0) → Q (some (.inl (-1000000000 : Int32))) (f, l)) (k2 : (¬ ((t2_within_v a (0 : Int32) (3 : Int32)).toInt = 0)) → (¬ ((t2_within_v b (0 : Int32) (3 : Int32)).toInt = 0)) → ((a * (4 : Int32)).toInt < (t2_min_v ((a * (4 : Int32)) + (4 : Int32)) (f 1 5)).toInt) → fl_Tq (pw_P L xs) 126 59 [some (.inr (.inr (.inl (0, 0)))), some (.inl a), some (.inl b), some (.inl (a * (4 : Int32))), some (.inl (t2_min_v ((a * (4 : Int32)) + (4 : Int32)) (f 1 5)))] [.inl b, .inl (t2_min_v ((a * (4 : Int32)) + (4 : Int32)) (f 1 5)), .inl (a * (4 : Int32)), .inr (.inr (.inl (1, 1)))] (f, l) Q) (k3 : (¬ ((t2_within_v a (0 : Int32) (3 : Int32)).toInt = 0)) → (¬ ((t2_within_v b (0 : Int32) (3 : Int32)).toInt = 0)) → (¬ ((a * (4 : Int32)).toInt < (t2_min_v ((a * (4 : Int32)) + (4 : Int32)) (f 1 5)).toInt)) → Q (some (.inl (-1000000000 : Int32))) (f, l)) : fl_Tq (pw_P L xs) 126 0 [some (.inr (.inr (.inl (0, 0)))), some (.inl a), some (.inl b), none, none] [] (f, l) Q := by
  refine fl_Tq.stp (pc' := 1) (lv' := [some (.inr (.inr (.inl (0, 0)))), some (.inl a), some (.inl b), none, none]) (st' := [.inl a]) (m' := (f, l)) rfl rfl (fl_bo rfl) rfl ?_
  refine fl_Tq.cI (c := (0 : Int32)) rfl (by decide +kernel) (fl_bo rfl) ?_
  refine fl_Tq.cI (c := (3 : Int32)) rfl (by decide +kernel) (fl_bo rfl) ?_
  refine fl_Tq.cal rfl rfl (fl_bo rfl) rfl ?_
  refine t2_within_q  ?_
  show fl_Tq _ 126 6 [some (.inr (.inr (.inl (0, 0)))), some (.inl a), some (.inl b), none, none] [.inl (t2_within_v a (0 : Int32) (3 : Int32))] (f, l) _
  by_cases h1 : (t2_within_v a (0 : Int32) (3 : Int32)).toInt = 0
  · refine fl_Tq.zt rfl (fl_bo rfl) (c1_eq_t h1) rfl ?_
    refine fl_Tq.stp (pc' := 20) (lv' := [some (.inr (.inr (.inl (0, 0)))), some (.inl a), some (.inl b), none, none]) (st' := [.inl (-1000000000 : Int32)]) (m' := (f, l)) rfl rfl (fl_bo rfl) rfl ?_
    exact fl_Tq.ret rfl rfl rfl (k h1)
  · refine fl_Tq.zf rfl (fl_bo rfl) (c1_eq_f h1) rfl ?_
    refine fl_Tq.stp (pc' := 10) (lv' := [some (.inr (.inr (.inl (0, 0)))), some (.inl a), some (.inl b), none, none]) (st' := [.inl b]) (m' := (f, l)) rfl rfl (fl_bo rfl) rfl ?_
    refine fl_Tq.cI (c := (0 : Int32)) rfl (by decide +kernel) (fl_bo rfl) ?_
    refine fl_Tq.cI (c := (3 : Int32)) rfl (by decide +kernel) (fl_bo rfl) ?_
    refine fl_Tq.cal rfl rfl (fl_bo rfl) rfl ?_
    refine t2_within_q  ?_
    show fl_Tq _ 126 15 [some (.inr (.inr (.inl (0, 0)))), some (.inl a), some (.inl b), none, none] [.inl (t2_within_v b (0 : Int32) (3 : Int32))] (f, l) _
    by_cases h2 : (t2_within_v b (0 : Int32) (3 : Int32)).toInt = 0
    · refine fl_Tq.zf rfl (fl_bo rfl) (c1_ne_f h2) rfl ?_
      refine fl_Tq.stp (pc' := 20) (lv' := [some (.inr (.inr (.inl (0, 0)))), some (.inl a), some (.inl b), none, none]) (st' := [.inl (-1000000000 : Int32)]) (m' := (f, l)) rfl rfl (fl_bo rfl) rfl ?_
      exact fl_Tq.ret rfl rfl rfl (k1 h1 h2)
    · refine fl_Tq.zt rfl (fl_bo rfl) (c1_ne_t h2) rfl ?_
      refine fl_Tq.stp (pc' := 22) (lv' := [some (.inr (.inr (.inl (0, 0)))), some (.inl a), some (.inl b), none, none]) (st' := [.inl a]) (m' := (f, l)) rfl rfl (fl_bo rfl) rfl ?_
      refine fl_Tq.cI (c := (4 : Int32)) rfl (by decide +kernel) (fl_bo rfl) ?_
      refine fl_Tq.stp (pc' := 24) (lv' := [some (.inr (.inr (.inl (0, 0)))), some (.inl a), some (.inl b), none, none]) (st' := [.inl (a * (4 : Int32))]) (m' := (f, l)) rfl rfl (fl_bo rfl) rfl ?_
      refine fl_Tq.stp (pc' := 25) (lv' := [some (.inr (.inr (.inl (0, 0)))), some (.inl a), some (.inl b), some (.inl (a * (4 : Int32))), none]) (st' := []) (m' := (f, l)) rfl rfl (fl_bo rfl) rfl ?_
      refine fl_Tq.stp (pc' := 26) (lv' := [some (.inr (.inr (.inl (0, 0)))), some (.inl a), some (.inl b), some (.inl (a * (4 : Int32))), none]) (st' := [.inl (a * (4 : Int32))]) (m' := (f, l)) rfl rfl (fl_bo rfl) rfl ?_
      refine fl_Tq.cI (c := (4 : Int32)) rfl (by decide +kernel) (fl_bo rfl) ?_
      refine fl_Tq.stp (pc' := 28) (lv' := [some (.inr (.inr (.inl (0, 0)))), some (.inl a), some (.inl b), some (.inl (a * (4 : Int32))), none]) (st' := [.inl ((a * (4 : Int32)) + (4 : Int32))]) (m' := (f, l)) rfl rfl (fl_bo rfl) rfl ?_
      refine fl_Tq.stp (pc' := 29) (lv' := [some (.inr (.inr (.inl (0, 0)))), some (.inl a), some (.inl b), some (.inl (a * (4 : Int32))), none]) (st' := [.inr (.inr (.inl (0, 0))), .inl ((a * (4 : Int32)) + (4 : Int32))]) (m' := (f, l)) rfl rfl (fl_bo rfl) rfl ?_
      refine fl_Tq.stp (pc' := 32) (lv' := [some (.inr (.inr (.inl (0, 0)))), some (.inl a), some (.inl b), some (.inl (a * (4 : Int32))), none]) (st' := [.inr (.inr (.inl (1, 1))), .inl ((a * (4 : Int32)) + (4 : Int32))]) (m' := (f, l)) rfl rfl (fl_bo rfl) rfl ?_
      refine fl_Tq.gfV (k := 5) (v := f 1 5) rfl (fl_bo rfl) rfl rfl ?_
      refine fl_Tq.cal rfl rfl (fl_bo rfl) rfl ?_
      refine t2_min_q  ?_
      show fl_Tq _ 126 38 [some (.inr (.inr (.inl (0, 0)))), some (.inl a), some (.inl b), some (.inl (a * (4 : Int32))), none] [.inl (t2_min_v ((a * (4 : Int32)) + (4 : Int32)) (f 1 5))] (f, l) _
      refine fl_Tq.stp (pc' := 40) (lv' := [some (.inr (.inr (.inl (0, 0)))), some (.inl a), some (.inl b), some (.inl (a * (4 : Int32))), some (.inl (t2_min_v ((a * (4 : Int32)) + (4 : Int32)) (f 1 5)))]) (st' := []) (m' := (f, l)) rfl rfl (fl_bo rfl) rfl ?_
      refine fl_Tq.stp (pc' := 41) (lv' := [some (.inr (.inr (.inl (0, 0)))), some (.inl a), some (.inl b), some (.inl (a * (4 : Int32))), some (.inl (t2_min_v ((a * (4 : Int32)) + (4 : Int32)) (f 1 5)))]) (st' := [.inl (a * (4 : Int32))]) (m' := (f, l)) rfl rfl (fl_bo rfl) rfl ?_
      refine fl_Tq.stp (pc' := 43) (lv' := [some (.inr (.inr (.inl (0, 0)))), some (.inl a), some (.inl b), some (.inl (a * (4 : Int32))), some (.inl (t2_min_v ((a * (4 : Int32)) + (4 : Int32)) (f 1 5)))]) (st' := [.inl (t2_min_v ((a * (4 : Int32)) + (4 : Int32)) (f 1 5)), .inl (a * (4 : Int32))]) (m' := (f, l)) rfl rfl (fl_bo rfl) rfl ?_
      by_cases h3 : (a * (4 : Int32)).toInt < (t2_min_v ((a * (4 : Int32)) + (4 : Int32)) (f 1 5)).toInt
      · refine fl_Tq.jt rfl (fl_bo rfl) (c2_lt_t h3) rfl ?_
        refine fl_Tq.stp (pc' := 52) (lv' := [some (.inr (.inr (.inl (0, 0)))), some (.inl a), some (.inl b), some (.inl (a * (4 : Int32))), some (.inl (t2_min_v ((a * (4 : Int32)) + (4 : Int32)) (f 1 5)))]) (st' := [.inr (.inr (.inl (0, 0)))]) (m' := (f, l)) rfl rfl (fl_bo rfl) rfl ?_
        refine fl_Tq.stp (pc' := 55) (lv' := [some (.inr (.inr (.inl (0, 0)))), some (.inl a), some (.inl b), some (.inl (a * (4 : Int32))), some (.inl (t2_min_v ((a * (4 : Int32)) + (4 : Int32)) (f 1 5)))]) (st' := [.inr (.inr (.inl (1, 1)))]) (m' := (f, l)) rfl rfl (fl_bo rfl) rfl ?_
        refine fl_Tq.stp (pc' := 56) (lv' := [some (.inr (.inr (.inl (0, 0)))), some (.inl a), some (.inl b), some (.inl (a * (4 : Int32))), some (.inl (t2_min_v ((a * (4 : Int32)) + (4 : Int32)) (f 1 5)))]) (st' := [.inl (a * (4 : Int32)), .inr (.inr (.inl (1, 1)))]) (m' := (f, l)) rfl rfl (fl_bo rfl) rfl ?_
        refine fl_Tq.stp (pc' := 58) (lv' := [some (.inr (.inr (.inl (0, 0)))), some (.inl a), some (.inl b), some (.inl (a * (4 : Int32))), some (.inl (t2_min_v ((a * (4 : Int32)) + (4 : Int32)) (f 1 5)))]) (st' := [.inl (t2_min_v ((a * (4 : Int32)) + (4 : Int32)) (f 1 5)), .inl (a * (4 : Int32)), .inr (.inr (.inl (1, 1)))]) (m' := (f, l)) rfl rfl (fl_bo rfl) rfl ?_
        refine fl_Tq.stp (pc' := 59) (lv' := [some (.inr (.inr (.inl (0, 0)))), some (.inl a), some (.inl b), some (.inl (a * (4 : Int32))), some (.inl (t2_min_v ((a * (4 : Int32)) + (4 : Int32)) (f 1 5)))]) (st' := [.inl b, .inl (t2_min_v ((a * (4 : Int32)) + (4 : Int32)) (f 1 5)), .inl (a * (4 : Int32)), .inr (.inr (.inl (1, 1)))]) (m' := (f, l)) rfl rfl (fl_bo rfl) rfl ?_
        exact k2 h1 h2 h3
      · refine fl_Tq.jf rfl (fl_bo rfl) (c2_lt_f h3) rfl ?_
        refine fl_Tq.stp (pc' := 48) (lv' := [some (.inr (.inr (.inl (0, 0)))), some (.inl a), some (.inl b), some (.inl (a * (4 : Int32))), some (.inl (t2_min_v ((a * (4 : Int32)) + (4 : Int32)) (f 1 5)))]) (st' := [.inl (-1000000000 : Int32)]) (m' := (f, l)) rfl rfl (fl_bo rfl) rfl ?_
        refine fl_Tq.stp (pc' := 62) (lv' := [some (.inr (.inr (.inl (0, 0)))), some (.inl a), some (.inl b), some (.inl (a * (4 : Int32))), some (.inl (t2_min_v ((a * (4 : Int32)) + (4 : Int32)) (f 1 5)))]) (st' := [.inl (-1000000000 : Int32)]) (m' := (f, l)) rfl rfl (fl_bo rfl) rfl ?_
        exact fl_Tq.ret rfl rfl rfl (k3 h1 h2 h3)
theorem x_mod_B {L : Nat} {xs : Nat → Int32} {f : t2_F} {l : t2_L} {Q : Option fl_V → fl_M → Prop} {a b z : Int32}  (k : Q (some (.inl z)) (f, l)) : fl_Tq (pw_P L xs) 126 62 [some (.inr (.inr (.inl (0, 0)))), some (.inl a), some (.inl b), none, none] [.inl z] (f, l) Q := by
  exact fl_Tq.ret rfl rfl rfl k
theorem x_tm_A {L : Nat} {xs : Nat → Int32} {f : t2_F} {l : t2_L} {Q : Option fl_V → fl_M → Prop} {a b c : Int32}  (k : fl_Tq (pw_P L xs) 74 11 [some (.inr (.inr (.inl (1, 1)))), some (.inl a), some (.inl b), some (.inl c), some (.inl (0 : Int32)), some (.inl (-400 : Int32)), some (.inl a)] [] (f, l) Q) : fl_Tq (pw_P L xs) 74 0 [some (.inr (.inr (.inl (1, 1)))), some (.inl a), some (.inl b), some (.inl c), none, none, none] [] (f, l) Q := by
  refine fl_Tq.cI (c := (0 : Int32)) rfl (by decide +kernel) (fl_bo rfl) ?_
  refine fl_Tq.stp (pc' := 3) (lv' := [some (.inr (.inr (.inl (1, 1)))), some (.inl a), some (.inl b), some (.inl c), some (.inl (0 : Int32)), none, none]) (st' := []) (m' := (f, l)) rfl rfl (fl_bo rfl) rfl ?_
  refine fl_Tq.cS (c := (-400 : Int32)) rfl (by decide +kernel) (fl_bo rfl) ?_
  refine fl_Tq.stp (pc' := 8) (lv' := [some (.inr (.inr (.inl (1, 1)))), some (.inl a), some (.inl b), some (.inl c), some (.inl (0 : Int32)), some (.inl (-400 : Int32)), none]) (st' := []) (m' := (f, l)) rfl rfl (fl_bo rfl) rfl ?_
  refine fl_Tq.stp (pc' := 9) (lv' := [some (.inr (.inr (.inl (1, 1)))), some (.inl a), some (.inl b), some (.inl c), some (.inl (0 : Int32)), some (.inl (-400 : Int32)), none]) (st' := [.inl a]) (m' := (f, l)) rfl rfl (fl_bo rfl) rfl ?_
  refine fl_Tq.stp (pc' := 11) (lv' := [some (.inr (.inr (.inl (1, 1)))), some (.inl a), some (.inl b), some (.inl c), some (.inl (0 : Int32)), some (.inl (-400 : Int32)), some (.inl a)]) (st' := []) (m' := (f, l)) rfl rfl (fl_bo rfl) rfl ?_
  exact k
theorem x_tm_B {L : Nat} {xs : Nat → Int32} {f : t2_F} {l : t2_L} {Q : Option fl_V → fl_M → Prop} {a b c z y : Int32} {C : Nat} (hC : C < 16) (hkk : (Int32.ofNat C).toInt < b.toInt) (k : fl_Tq (pw_P L xs) 74 11 [some (.inr (.inr (.inl (1, 1)))), some (.inl a), some (.inl b), some (.inl c), some (.inl (z + (c0_voltsAt_v f C (f 1 9)))), some (.inl (if (Int32.ofNat C).toInt = a.toInt then f (18 + 4 * C) 6 else t2_max_v y (f (18 + 4 * C) 6))), some (.inl ((Int32.ofNat C) + (1 : Int32)))] [] (f, l) Q) : fl_Tq (pw_P L xs) 74 11 [some (.inr (.inr (.inl (1, 1)))), some (.inl a), some (.inl b), some (.inl c), some (.inl z), some (.inl y), some (.inl (Int32.ofNat C))] [] (f, l) Q := by
  refine fl_Tq.stp (pc' := 13) (lv' := [some (.inr (.inr (.inl (1, 1)))), some (.inl a), some (.inl b), some (.inl c), some (.inl z), some (.inl y), some (.inl (Int32.ofNat C))]) (st' := [.inl (Int32.ofNat C)]) (m' := (f, l)) rfl rfl (fl_bo rfl) rfl ?_
  refine fl_Tq.stp (pc' := 14) (lv' := [some (.inr (.inr (.inl (1, 1)))), some (.inl a), some (.inl b), some (.inl c), some (.inl z), some (.inl y), some (.inl (Int32.ofNat C))]) (st' := [.inl b, .inl (Int32.ofNat C)]) (m' := (f, l)) rfl rfl (fl_bo rfl) rfl ?_
  refine fl_Tq.jf rfl (fl_bo rfl) (c2_ge_f hkk) rfl ?_
  refine fl_Tq.stp (pc' := 19) (lv' := [some (.inr (.inr (.inl (1, 1)))), some (.inl a), some (.inl b), some (.inl c), some (.inl z), some (.inl y), some (.inl (Int32.ofNat C))]) (st' := [.inl z]) (m' := (f, l)) rfl rfl (fl_bo rfl) rfl ?_
  refine fl_Tq.stp (pc' := 20) (lv' := [some (.inr (.inr (.inl (1, 1)))), some (.inl a), some (.inl b), some (.inl c), some (.inl z), some (.inl y), some (.inl (Int32.ofNat C))]) (st' := [.inr (.inr (.inl (1, 1))), .inl z]) (m' := (f, l)) rfl rfl (fl_bo rfl) rfl ?_
  refine fl_Tq.stp (pc' := 23) (lv' := [some (.inr (.inr (.inl (1, 1)))), some (.inl a), some (.inl b), some (.inl c), some (.inl z), some (.inl y), some (.inl (Int32.ofNat C))]) (st' := [.inr (.inr (.inl (2, 2))), .inl z]) (m' := (f, l)) rfl rfl (fl_bo rfl) rfl ?_
  refine fl_Tq.stp (pc' := 25) (lv' := [some (.inr (.inr (.inl (1, 1)))), some (.inl a), some (.inl b), some (.inl c), some (.inl z), some (.inl y), some (.inl (Int32.ofNat C))]) (st' := [.inl (Int32.ofNat C), .inr (.inr (.inl (2, 2))), .inl z]) (m' := (f, l)) rfl rfl (fl_bo rfl) rfl ?_
  refine fl_Tq.qld (p := 2) (τ := 2) (n := 16) (t := 18) (b := 16) (d := 3) (k := C) rfl (fl_bo rfl) rfl (at_ofN (by omega)) (by omega) ?_
  show fl_Tq _ 74 26 [some (.inr (.inr (.inl (1, 1)))), some (.inl a), some (.inl b), some (.inl c), some (.inl z), some (.inl y), some (.inl (Int32.ofNat C))] [.inr (.inr (.inl (18, 18 + 4 * C))), .inl z] (f, l) _
  refine fl_Tq.stp (pc' := 27) (lv' := [some (.inr (.inr (.inl (1, 1)))), some (.inl a), some (.inl b), some (.inl c), some (.inl z), some (.inl y), some (.inl (Int32.ofNat C))]) (st' := [.inr (.inr (.inl (1, 1))), .inr (.inr (.inl (18, 18 + 4 * C))), .inl z]) (m' := (f, l)) rfl rfl (fl_oks_ok ⟨(t2_kc0 (by omega)), True.intro, True.intro⟩) rfl ?_
  refine fl_Tq.gfV (k := 9) (v := f 1 9) rfl (fl_oks_ok ⟨fl_okp (by decide +kernel) (by decide), (t2_kc0 (by omega)), True.intro, True.intro⟩) rfl rfl ?_
  refine fl_Tq.cal rfl rfl (fl_oks_ok ⟨True.intro, (t2_kc0 (by omega)), True.intro, True.intro⟩) rfl ?_
  refine c0_voltsAt_q (by omega) ?_
  show fl_Tq _ 74 33 [some (.inr (.inr (.inl (1, 1)))), some (.inl a), some (.inl b), some (.inl c), some (.inl z), some (.inl y), some (.inl (Int32.ofNat C))] [.inl (c0_voltsAt_v f C (f 1 9)), .inl z] (f, l) _
  refine fl_Tq.stp (pc' := 34) (lv' := [some (.inr (.inr (.inl (1, 1)))), some (.inl a), some (.inl b), some (.inl c), some (.inl z), some (.inl y), some (.inl (Int32.ofNat C))]) (st' := [.inl (z + (c0_voltsAt_v f C (f 1 9)))]) (m' := (f, l)) rfl rfl (fl_bo rfl) rfl ?_
  refine fl_Tq.stp (pc' := 36) (lv' := [some (.inr (.inr (.inl (1, 1)))), some (.inl a), some (.inl b), some (.inl c), some (.inl (z + (c0_voltsAt_v f C (f 1 9)))), some (.inl y), some (.inl (Int32.ofNat C))]) (st' := []) (m' := (f, l)) rfl rfl (fl_bo rfl) rfl ?_
  refine fl_Tq.stp (pc' := 38) (lv' := [some (.inr (.inr (.inl (1, 1)))), some (.inl a), some (.inl b), some (.inl c), some (.inl (z + (c0_voltsAt_v f C (f 1 9)))), some (.inl y), some (.inl (Int32.ofNat C))]) (st' := [.inl (Int32.ofNat C)]) (m' := (f, l)) rfl rfl (fl_bo rfl) rfl ?_
  refine fl_Tq.stp (pc' := 39) (lv' := [some (.inr (.inr (.inl (1, 1)))), some (.inl a), some (.inl b), some (.inl c), some (.inl (z + (c0_voltsAt_v f C (f 1 9)))), some (.inl y), some (.inl (Int32.ofNat C))]) (st' := [.inl a, .inl (Int32.ofNat C)]) (m' := (f, l)) rfl rfl (fl_bo rfl) rfl ?_
  have hj130 : fl_Tq (pw_P L xs) 74 70 [some (.inr (.inr (.inl (1, 1)))), some (.inl a), some (.inl b), some (.inl c), some (.inl (z + (c0_voltsAt_v f C (f 1 9)))), some (.inl y), some (.inl (Int32.ofNat C))] [.inl (if (Int32.ofNat C).toInt = a.toInt then f (18 + 4 * C) 6 else t2_max_v y (f (18 + 4 * C) 6))] (f, l) Q → fl_Tq (pw_P L xs) 74 39 [some (.inr (.inr (.inl (1, 1)))), some (.inl a), some (.inl b), some (.inl c), some (.inl (z + (c0_voltsAt_v f C (f 1 9)))), some (.inl y), some (.inl (Int32.ofNat C))] [.inl a, .inl (Int32.ofNat C)] (f, l) Q := by
    intro hJ
    by_cases h1 : (Int32.ofNat C).toInt = a.toInt
    · refine fl_Tq.jf rfl (fl_bo rfl) (c2_ne_f h1) rfl ?_
      refine fl_Tq.stp (pc' := 43) (lv' := [some (.inr (.inr (.inl (1, 1)))), some (.inl a), some (.inl b), some (.inl c), some (.inl (z + (c0_voltsAt_v f C (f 1 9)))), some (.inl y), some (.inl (Int32.ofNat C))]) (st' := [.inr (.inr (.inl (1, 1)))]) (m' := (f, l)) rfl rfl (fl_bo rfl) rfl ?_
      refine fl_Tq.stp (pc' := 46) (lv' := [some (.inr (.inr (.inl (1, 1)))), some (.inl a), some (.inl b), some (.inl c), some (.inl (z + (c0_voltsAt_v f C (f 1 9)))), some (.inl y), some (.inl (Int32.ofNat C))]) (st' := [.inr (.inr (.inl (2, 2)))]) (m' := (f, l)) rfl rfl (fl_bo rfl) rfl ?_
      refine fl_Tq.stp (pc' := 48) (lv' := [some (.inr (.inr (.inl (1, 1)))), some (.inl a), some (.inl b), some (.inl c), some (.inl (z + (c0_voltsAt_v f C (f 1 9)))), some (.inl y), some (.inl (Int32.ofNat C))]) (st' := [.inl (Int32.ofNat C), .inr (.inr (.inl (2, 2)))]) (m' := (f, l)) rfl rfl (fl_bo rfl) rfl ?_
      refine fl_Tq.qld (p := 2) (τ := 2) (n := 16) (t := 18) (b := 16) (d := 3) (k := C) rfl (fl_bo rfl) rfl (at_ofN (by omega)) (by omega) ?_
      show fl_Tq _ 74 49 [some (.inr (.inr (.inl (1, 1)))), some (.inl a), some (.inl b), some (.inl c), some (.inl (z + (c0_voltsAt_v f C (f 1 9)))), some (.inl y), some (.inl (Int32.ofNat C))] [.inr (.inr (.inl (18, 18 + 4 * C)))] (f, l) _
      refine fl_Tq.gfV (k := 6) (v := f (18 + 4 * C) 6) rfl (fl_oks_ok ⟨(t2_kc0 (by omega)), True.intro⟩) rfl rfl ?_
      refine fl_Tq.stp (pc' := 70) (lv' := [some (.inr (.inr (.inl (1, 1)))), some (.inl a), some (.inl b), some (.inl c), some (.inl (z + (c0_voltsAt_v f C (f 1 9)))), some (.inl y), some (.inl (Int32.ofNat C))]) (st' := [.inl (f (18 + 4 * C) 6)]) (m' := (f, l)) rfl rfl (fl_bo rfl) rfl ?_
      have e0 : (if (Int32.ofNat C).toInt = a.toInt then f (18 + 4 * C) 6 else t2_max_v y (f (18 + 4 * C) 6)) = f (18 + 4 * C) 6 := by simp only [if_pos h1]
      rw [e0] at hJ
      exact hJ
    · refine fl_Tq.jt rfl (fl_bo rfl) (c2_ne_t h1) rfl ?_
      refine fl_Tq.stp (pc' := 57) (lv' := [some (.inr (.inr (.inl (1, 1)))), some (.inl a), some (.inl b), some (.inl c), some (.inl (z + (c0_voltsAt_v f C (f 1 9)))), some (.inl y), some (.inl (Int32.ofNat C))]) (st' := [.inl y]) (m' := (f, l)) rfl rfl (fl_bo rfl) rfl ?_
      refine fl_Tq.stp (pc' := 58) (lv' := [some (.inr (.inr (.inl (1, 1)))), some (.inl a), some (.inl b), some (.inl c), some (.inl (z + (c0_voltsAt_v f C (f 1 9)))), some (.inl y), some (.inl (Int32.ofNat C))]) (st' := [.inr (.inr (.inl (1, 1))), .inl y]) (m' := (f, l)) rfl rfl (fl_bo rfl) rfl ?_
      refine fl_Tq.stp (pc' := 61) (lv' := [some (.inr (.inr (.inl (1, 1)))), some (.inl a), some (.inl b), some (.inl c), some (.inl (z + (c0_voltsAt_v f C (f 1 9)))), some (.inl y), some (.inl (Int32.ofNat C))]) (st' := [.inr (.inr (.inl (2, 2))), .inl y]) (m' := (f, l)) rfl rfl (fl_bo rfl) rfl ?_
      refine fl_Tq.stp (pc' := 63) (lv' := [some (.inr (.inr (.inl (1, 1)))), some (.inl a), some (.inl b), some (.inl c), some (.inl (z + (c0_voltsAt_v f C (f 1 9)))), some (.inl y), some (.inl (Int32.ofNat C))]) (st' := [.inl (Int32.ofNat C), .inr (.inr (.inl (2, 2))), .inl y]) (m' := (f, l)) rfl rfl (fl_bo rfl) rfl ?_
      refine fl_Tq.qld (p := 2) (τ := 2) (n := 16) (t := 18) (b := 16) (d := 3) (k := C) rfl (fl_bo rfl) rfl (at_ofN (by omega)) (by omega) ?_
      show fl_Tq _ 74 64 [some (.inr (.inr (.inl (1, 1)))), some (.inl a), some (.inl b), some (.inl c), some (.inl (z + (c0_voltsAt_v f C (f 1 9)))), some (.inl y), some (.inl (Int32.ofNat C))] [.inr (.inr (.inl (18, 18 + 4 * C))), .inl y] (f, l) _
      refine fl_Tq.gfV (k := 6) (v := f (18 + 4 * C) 6) rfl (fl_oks_ok ⟨(t2_kc0 (by omega)), True.intro, True.intro⟩) rfl rfl ?_
      refine fl_Tq.cal rfl rfl (fl_bo rfl) rfl ?_
      refine t2_max_q  ?_
      show fl_Tq _ 74 70 [some (.inr (.inr (.inl (1, 1)))), some (.inl a), some (.inl b), some (.inl c), some (.inl (z + (c0_voltsAt_v f C (f 1 9)))), some (.inl y), some (.inl (Int32.ofNat C))] [.inl (t2_max_v y (f (18 + 4 * C) 6))] (f, l) _
      have e0 : (if (Int32.ofNat C).toInt = a.toInt then f (18 + 4 * C) 6 else t2_max_v y (f (18 + 4 * C) 6)) = t2_max_v y (f (18 + 4 * C) 6) := by simp only [if_neg h1]
      rw [e0] at hJ
      exact hJ
  refine hj130 ?_
  show fl_Tq _ 74 70 [some (.inr (.inr (.inl (1, 1)))), some (.inl a), some (.inl b), some (.inl c), some (.inl (z + (c0_voltsAt_v f C (f 1 9)))), some (.inl y), some (.inl (Int32.ofNat C))] [.inl (if (Int32.ofNat C).toInt = a.toInt then f (18 + 4 * C) 6 else t2_max_v y (f (18 + 4 * C) 6))] (f, l) _
  refine fl_Tq.stp (pc' := 72) (lv' := [some (.inr (.inr (.inl (1, 1)))), some (.inl a), some (.inl b), some (.inl c), some (.inl (z + (c0_voltsAt_v f C (f 1 9)))), some (.inl (if (Int32.ofNat C).toInt = a.toInt then f (18 + 4 * C) 6 else t2_max_v y (f (18 + 4 * C) 6))), some (.inl (Int32.ofNat C))]) (st' := []) (m' := (f, l)) rfl rfl (fl_bo rfl) rfl ?_
  refine fl_Tq.stp (pc' := 75) (lv' := [some (.inr (.inr (.inl (1, 1)))), some (.inl a), some (.inl b), some (.inl c), some (.inl (z + (c0_voltsAt_v f C (f 1 9)))), some (.inl (if (Int32.ofNat C).toInt = a.toInt then f (18 + 4 * C) 6 else t2_max_v y (f (18 + 4 * C) 6))), some (.inl ((Int32.ofNat C) + (1 : Int32)))]) (st' := []) (m' := (f, l)) rfl rfl (fl_bo rfl) rfl ?_
  refine fl_Tq.stp (pc' := 11) (lv' := [some (.inr (.inr (.inl (1, 1)))), some (.inl a), some (.inl b), some (.inl c), some (.inl (z + (c0_voltsAt_v f C (f 1 9)))), some (.inl (if (Int32.ofNat C).toInt = a.toInt then f (18 + 4 * C) 6 else t2_max_v y (f (18 + 4 * C) 6))), some (.inl ((Int32.ofNat C) + (1 : Int32)))]) (st' := []) (m' := (f, l)) rfl rfl (fl_bo rfl) rfl ?_
  exact k
theorem x_tm_C {L : Nat} {xs : Nat → Int32} {f : t2_F} {l : t2_L} {Q : Option fl_V → fl_M → Prop} {a b c z y : Int32} {C : Nat} (hkk : ¬ ((Int32.ofNat C).toInt < b.toInt)) (k : (c.toInt = 0) → Q (some (.inl z)) (f, l)) (k1 : (¬ (c.toInt = 0)) → (c.toInt = 1) → Q (some (.inl y)) (f, l)) (k2 : (¬ (c.toInt = 0)) → (¬ (c.toInt = 1)) → (c.toInt = 2) → fl_Tq (pw_P L xs) 74 117 [some (.inr (.inr (.inl (1, 1)))), some (.inl a), some (.inl b), some (.inl c), some (.inl z), some (.inl y), some (.inl (Int32.ofNat C))] [.inl b, .inl a, .inr (.inr (.inl (1, 1)))] (f, l) Q) (k3 : (¬ (c.toInt = 0)) → (¬ (c.toInt = 1)) → (¬ (c.toInt = 2)) → (c.toInt = 3) → Q (some (.inl (b - a))) (f, l)) (k4 : (¬ (c.toInt = 0)) → (¬ (c.toInt = 1)) → (¬ (c.toInt = 2)) → (¬ (c.toInt = 3)) → Q (some (.inl (-1000000000 : Int32))) (f, l)) : fl_Tq (pw_P L xs) 74 11 [some (.inr (.inr (.inl (1, 1)))), some (.inl a), some (.inl b), some (.inl c), some (.inl z), some (.inl y), some (.inl (Int32.ofNat C))] [] (f, l) Q := by
  refine fl_Tq.stp (pc' := 13) (lv' := [some (.inr (.inr (.inl (1, 1)))), some (.inl a), some (.inl b), some (.inl c), some (.inl z), some (.inl y), some (.inl (Int32.ofNat C))]) (st' := [.inl (Int32.ofNat C)]) (m' := (f, l)) rfl rfl (fl_bo rfl) rfl ?_
  refine fl_Tq.stp (pc' := 14) (lv' := [some (.inr (.inr (.inl (1, 1)))), some (.inl a), some (.inl b), some (.inl c), some (.inl z), some (.inl y), some (.inl (Int32.ofNat C))]) (st' := [.inl b, .inl (Int32.ofNat C)]) (m' := (f, l)) rfl rfl (fl_bo rfl) rfl ?_
  refine fl_Tq.jt rfl (fl_bo rfl) (c2_ge_t hkk) rfl ?_
  refine fl_Tq.stp (pc' := 79) (lv' := [some (.inr (.inr (.inl (1, 1)))), some (.inl a), some (.inl b), some (.inl c), some (.inl z), some (.inl y), some (.inl (Int32.ofNat C))]) (st' := [.inl c]) (m' := (f, l)) rfl rfl (fl_bo rfl) rfl ?_
  by_cases h1 : c.toInt = 0
  · refine fl_Tq.swI (k := 0) rfl (fl_bo rfl) h1 rfl rfl ?_
    refine fl_Tq.stp (pc' := 110) (lv' := [some (.inr (.inr (.inl (1, 1)))), some (.inl a), some (.inl b), some (.inl c), some (.inl z), some (.inl y), some (.inl (Int32.ofNat C))]) (st' := [.inl z]) (m' := (f, l)) rfl rfl (fl_bo rfl) rfl ?_
    exact fl_Tq.ret rfl rfl rfl (k h1)
  by_cases h2 : c.toInt = 1
  · refine fl_Tq.swI (k := 1) rfl (fl_bo rfl) h2 rfl rfl ?_
    refine fl_Tq.stp (pc' := 113) (lv' := [some (.inr (.inr (.inl (1, 1)))), some (.inl a), some (.inl b), some (.inl c), some (.inl z), some (.inl y), some (.inl (Int32.ofNat C))]) (st' := [.inl y]) (m' := (f, l)) rfl rfl (fl_bo rfl) rfl ?_
    exact fl_Tq.ret rfl rfl rfl (k1 h1 h2)
  by_cases h3 : c.toInt = 2
  · refine fl_Tq.swI (k := 2) rfl (fl_bo rfl) h3 rfl rfl ?_
    refine fl_Tq.stp (pc' := 115) (lv' := [some (.inr (.inr (.inl (1, 1)))), some (.inl a), some (.inl b), some (.inl c), some (.inl z), some (.inl y), some (.inl (Int32.ofNat C))]) (st' := [.inr (.inr (.inl (1, 1)))]) (m' := (f, l)) rfl rfl (fl_bo rfl) rfl ?_
    refine fl_Tq.stp (pc' := 116) (lv' := [some (.inr (.inr (.inl (1, 1)))), some (.inl a), some (.inl b), some (.inl c), some (.inl z), some (.inl y), some (.inl (Int32.ofNat C))]) (st' := [.inl a, .inr (.inr (.inl (1, 1)))]) (m' := (f, l)) rfl rfl (fl_bo rfl) rfl ?_
    refine fl_Tq.stp (pc' := 117) (lv' := [some (.inr (.inr (.inl (1, 1)))), some (.inl a), some (.inl b), some (.inl c), some (.inl z), some (.inl y), some (.inl (Int32.ofNat C))]) (st' := [.inl b, .inl a, .inr (.inr (.inl (1, 1)))]) (m' := (f, l)) rfl rfl (fl_bo rfl) rfl ?_
    exact k2 h1 h2 h3
  by_cases h4 : c.toInt = 3
  · refine fl_Tq.swI (k := 3) rfl (fl_bo rfl) h4 rfl rfl ?_
    refine fl_Tq.stp (pc' := 122) (lv' := [some (.inr (.inr (.inl (1, 1)))), some (.inl a), some (.inl b), some (.inl c), some (.inl z), some (.inl y), some (.inl (Int32.ofNat C))]) (st' := [.inl b]) (m' := (f, l)) rfl rfl (fl_bo rfl) rfl ?_
    refine fl_Tq.stp (pc' := 123) (lv' := [some (.inr (.inr (.inl (1, 1)))), some (.inl a), some (.inl b), some (.inl c), some (.inl z), some (.inl y), some (.inl (Int32.ofNat C))]) (st' := [.inl a, .inl b]) (m' := (f, l)) rfl rfl (fl_bo rfl) rfl ?_
    refine fl_Tq.stp (pc' := 124) (lv' := [some (.inr (.inr (.inl (1, 1)))), some (.inl a), some (.inl b), some (.inl c), some (.inl z), some (.inl y), some (.inl (Int32.ofNat C))]) (st' := [.inl (b - a)]) (m' := (f, l)) rfl rfl (fl_bo rfl) rfl ?_
    exact fl_Tq.ret rfl rfl rfl (k3 h1 h2 h3 h4)
  refine fl_Tq.swD rfl (fl_bo rfl) (by omega) rfl ?_
  refine fl_Tq.stp (pc' := 128) (lv' := [some (.inr (.inr (.inl (1, 1)))), some (.inl a), some (.inl b), some (.inl c), some (.inl z), some (.inl y), some (.inl (Int32.ofNat C))]) (st' := [.inl (-1000000000 : Int32)]) (m' := (f, l)) rfl rfl (fl_bo rfl) rfl ?_
  exact fl_Tq.ret rfl rfl rfl (k4 h1 h2 h3 h4)
theorem x_tm_D {L : Nat} {xs : Nat → Int32} {f : t2_F} {l : t2_L} {Q : Option fl_V → fl_M → Prop} {a b c z y x : Int32} {C : Nat}  (k : Q (some (.inl x)) (f, l)) : fl_Tq (pw_P L xs) 74 120 [some (.inr (.inr (.inl (1, 1)))), some (.inl a), some (.inl b), some (.inl c), some (.inl z), some (.inl y), some (.inl (Int32.ofNat C))] [.inl x] (f, l) Q := by
  exact fl_Tq.ret rfl rfl rfl k
theorem x_sp_A {L : Nat} {xs : Nat → Int32} {f : t2_F} {l : t2_L} {Q : Option fl_V → fl_M → Prop} {a b : Int32}  (k : fl_Tq (pw_P L xs) 41 10 [some (.inr (.inr (.inl (1, 1)))), some (.inl a), some (.inl b), some (.inl (1000 : Int32)), some (.inl (0 : Int32)), some (.inl a)] [] (f, l) Q) : fl_Tq (pw_P L xs) 41 0 [some (.inr (.inr (.inl (1, 1)))), some (.inl a), some (.inl b), none, none, none] [] (f, l) Q := by
  refine fl_Tq.cS (c := (1000 : Int32)) rfl (by decide +kernel) (fl_bo rfl) ?_
  refine fl_Tq.stp (pc' := 4) (lv' := [some (.inr (.inr (.inl (1, 1)))), some (.inl a), some (.inl b), some (.inl (1000 : Int32)), none, none]) (st' := []) (m' := (f, l)) rfl rfl (fl_bo rfl) rfl ?_
  refine fl_Tq.cI (c := (0 : Int32)) rfl (by decide +kernel) (fl_bo rfl) ?_
  refine fl_Tq.stp (pc' := 7) (lv' := [some (.inr (.inr (.inl (1, 1)))), some (.inl a), some (.inl b), some (.inl (1000 : Int32)), some (.inl (0 : Int32)), none]) (st' := []) (m' := (f, l)) rfl rfl (fl_bo rfl) rfl ?_
  refine fl_Tq.stp (pc' := 8) (lv' := [some (.inr (.inr (.inl (1, 1)))), some (.inl a), some (.inl b), some (.inl (1000 : Int32)), some (.inl (0 : Int32)), none]) (st' := [.inl a]) (m' := (f, l)) rfl rfl (fl_bo rfl) rfl ?_
  refine fl_Tq.stp (pc' := 10) (lv' := [some (.inr (.inr (.inl (1, 1)))), some (.inl a), some (.inl b), some (.inl (1000 : Int32)), some (.inl (0 : Int32)), some (.inl a)]) (st' := []) (m' := (f, l)) rfl rfl (fl_bo rfl) rfl ?_
  exact k
theorem x_sp_B {L : Nat} {xs : Nat → Int32} {f : t2_F} {l : t2_L} {Q : Option fl_V → fl_M → Prop} {a b z y : Int32} {C : Nat} (hC : C < 16) (hkk : (Int32.ofNat C).toInt < b.toInt) (k : fl_Tq (pw_P L xs) 41 10 [some (.inr (.inr (.inl (1, 1)))), some (.inl a), some (.inl b), some (.inl (t2_min_v z (f (18 + 4 * C) 3))), some (.inl (t2_max_v y (f (18 + 4 * C) 3))), some (.inl ((Int32.ofNat C) + (1 : Int32)))] [] (f, l) Q) : fl_Tq (pw_P L xs) 41 10 [some (.inr (.inr (.inl (1, 1)))), some (.inl a), some (.inl b), some (.inl z), some (.inl y), some (.inl (Int32.ofNat C))] [] (f, l) Q := by
  refine fl_Tq.stp (pc' := 12) (lv' := [some (.inr (.inr (.inl (1, 1)))), some (.inl a), some (.inl b), some (.inl z), some (.inl y), some (.inl (Int32.ofNat C))]) (st' := [.inl (Int32.ofNat C)]) (m' := (f, l)) rfl rfl (fl_bo rfl) rfl ?_
  refine fl_Tq.stp (pc' := 13) (lv' := [some (.inr (.inr (.inl (1, 1)))), some (.inl a), some (.inl b), some (.inl z), some (.inl y), some (.inl (Int32.ofNat C))]) (st' := [.inl b, .inl (Int32.ofNat C)]) (m' := (f, l)) rfl rfl (fl_bo rfl) rfl ?_
  refine fl_Tq.jf rfl (fl_bo rfl) (c2_ge_f hkk) rfl ?_
  refine fl_Tq.stp (pc' := 17) (lv' := [some (.inr (.inr (.inl (1, 1)))), some (.inl a), some (.inl b), some (.inl z), some (.inl y), some (.inl (Int32.ofNat C))]) (st' := [.inl z]) (m' := (f, l)) rfl rfl (fl_bo rfl) rfl ?_
  refine fl_Tq.stp (pc' := 18) (lv' := [some (.inr (.inr (.inl (1, 1)))), some (.inl a), some (.inl b), some (.inl z), some (.inl y), some (.inl (Int32.ofNat C))]) (st' := [.inr (.inr (.inl (1, 1))), .inl z]) (m' := (f, l)) rfl rfl (fl_bo rfl) rfl ?_
  refine fl_Tq.stp (pc' := 21) (lv' := [some (.inr (.inr (.inl (1, 1)))), some (.inl a), some (.inl b), some (.inl z), some (.inl y), some (.inl (Int32.ofNat C))]) (st' := [.inr (.inr (.inl (2, 2))), .inl z]) (m' := (f, l)) rfl rfl (fl_bo rfl) rfl ?_
  refine fl_Tq.stp (pc' := 23) (lv' := [some (.inr (.inr (.inl (1, 1)))), some (.inl a), some (.inl b), some (.inl z), some (.inl y), some (.inl (Int32.ofNat C))]) (st' := [.inl (Int32.ofNat C), .inr (.inr (.inl (2, 2))), .inl z]) (m' := (f, l)) rfl rfl (fl_bo rfl) rfl ?_
  refine fl_Tq.qld (p := 2) (τ := 2) (n := 16) (t := 18) (b := 16) (d := 3) (k := C) rfl (fl_bo rfl) rfl (at_ofN (by omega)) (by omega) ?_
  show fl_Tq _ 41 24 [some (.inr (.inr (.inl (1, 1)))), some (.inl a), some (.inl b), some (.inl z), some (.inl y), some (.inl (Int32.ofNat C))] [.inr (.inr (.inl (18, 18 + 4 * C))), .inl z] (f, l) _
  refine fl_Tq.gfV (k := 3) (v := f (18 + 4 * C) 3) rfl (fl_oks_ok ⟨(t2_kc0 (by omega)), True.intro, True.intro⟩) rfl rfl ?_
  refine fl_Tq.cal rfl rfl (fl_bo rfl) rfl ?_
  refine t2_min_q  ?_
  show fl_Tq _ 41 30 [some (.inr (.inr (.inl (1, 1)))), some (.inl a), some (.inl b), some (.inl z), some (.inl y), some (.inl (Int32.ofNat C))] [.inl (t2_min_v z (f (18 + 4 * C) 3))] (f, l) _
  refine fl_Tq.stp (pc' := 31) (lv' := [some (.inr (.inr (.inl (1, 1)))), some (.inl a), some (.inl b), some (.inl (t2_min_v z (f (18 + 4 * C) 3))), some (.inl y), some (.inl (Int32.ofNat C))]) (st' := []) (m' := (f, l)) rfl rfl (fl_bo rfl) rfl ?_
  refine fl_Tq.stp (pc' := 33) (lv' := [some (.inr (.inr (.inl (1, 1)))), some (.inl a), some (.inl b), some (.inl (t2_min_v z (f (18 + 4 * C) 3))), some (.inl y), some (.inl (Int32.ofNat C))]) (st' := [.inl y]) (m' := (f, l)) rfl rfl (fl_bo rfl) rfl ?_
  refine fl_Tq.stp (pc' := 34) (lv' := [some (.inr (.inr (.inl (1, 1)))), some (.inl a), some (.inl b), some (.inl (t2_min_v z (f (18 + 4 * C) 3))), some (.inl y), some (.inl (Int32.ofNat C))]) (st' := [.inr (.inr (.inl (1, 1))), .inl y]) (m' := (f, l)) rfl rfl (fl_bo rfl) rfl ?_
  refine fl_Tq.stp (pc' := 37) (lv' := [some (.inr (.inr (.inl (1, 1)))), some (.inl a), some (.inl b), some (.inl (t2_min_v z (f (18 + 4 * C) 3))), some (.inl y), some (.inl (Int32.ofNat C))]) (st' := [.inr (.inr (.inl (2, 2))), .inl y]) (m' := (f, l)) rfl rfl (fl_bo rfl) rfl ?_
  refine fl_Tq.stp (pc' := 39) (lv' := [some (.inr (.inr (.inl (1, 1)))), some (.inl a), some (.inl b), some (.inl (t2_min_v z (f (18 + 4 * C) 3))), some (.inl y), some (.inl (Int32.ofNat C))]) (st' := [.inl (Int32.ofNat C), .inr (.inr (.inl (2, 2))), .inl y]) (m' := (f, l)) rfl rfl (fl_bo rfl) rfl ?_
  refine fl_Tq.qld (p := 2) (τ := 2) (n := 16) (t := 18) (b := 16) (d := 3) (k := C) rfl (fl_bo rfl) rfl (at_ofN (by omega)) (by omega) ?_
  show fl_Tq _ 41 40 [some (.inr (.inr (.inl (1, 1)))), some (.inl a), some (.inl b), some (.inl (t2_min_v z (f (18 + 4 * C) 3))), some (.inl y), some (.inl (Int32.ofNat C))] [.inr (.inr (.inl (18, 18 + 4 * C))), .inl y] (f, l) _
  refine fl_Tq.gfV (k := 3) (v := f (18 + 4 * C) 3) rfl (fl_oks_ok ⟨(t2_kc0 (by omega)), True.intro, True.intro⟩) rfl rfl ?_
  refine fl_Tq.cal rfl rfl (fl_bo rfl) rfl ?_
  refine t2_max_q  ?_
  show fl_Tq _ 41 46 [some (.inr (.inr (.inl (1, 1)))), some (.inl a), some (.inl b), some (.inl (t2_min_v z (f (18 + 4 * C) 3))), some (.inl y), some (.inl (Int32.ofNat C))] [.inl (t2_max_v y (f (18 + 4 * C) 3))] (f, l) _
  refine fl_Tq.stp (pc' := 48) (lv' := [some (.inr (.inr (.inl (1, 1)))), some (.inl a), some (.inl b), some (.inl (t2_min_v z (f (18 + 4 * C) 3))), some (.inl (t2_max_v y (f (18 + 4 * C) 3))), some (.inl (Int32.ofNat C))]) (st' := []) (m' := (f, l)) rfl rfl (fl_bo rfl) rfl ?_
  refine fl_Tq.stp (pc' := 51) (lv' := [some (.inr (.inr (.inl (1, 1)))), some (.inl a), some (.inl b), some (.inl (t2_min_v z (f (18 + 4 * C) 3))), some (.inl (t2_max_v y (f (18 + 4 * C) 3))), some (.inl ((Int32.ofNat C) + (1 : Int32)))]) (st' := []) (m' := (f, l)) rfl rfl (fl_bo rfl) rfl ?_
  refine fl_Tq.stp (pc' := 10) (lv' := [some (.inr (.inr (.inl (1, 1)))), some (.inl a), some (.inl b), some (.inl (t2_min_v z (f (18 + 4 * C) 3))), some (.inl (t2_max_v y (f (18 + 4 * C) 3))), some (.inl ((Int32.ofNat C) + (1 : Int32)))]) (st' := []) (m' := (f, l)) rfl rfl (fl_bo rfl) rfl ?_
  exact k
theorem x_sp_C {L : Nat} {xs : Nat → Int32} {f : t2_F} {l : t2_L} {Q : Option fl_V → fl_M → Prop} {a b z y : Int32} {C : Nat} (hkk : ¬ ((Int32.ofNat C).toInt < b.toInt)) (k : Q (some (.inl (y - z))) (f, l)) : fl_Tq (pw_P L xs) 41 10 [some (.inr (.inr (.inl (1, 1)))), some (.inl a), some (.inl b), some (.inl z), some (.inl y), some (.inl (Int32.ofNat C))] [] (f, l) Q := by
  refine fl_Tq.stp (pc' := 12) (lv' := [some (.inr (.inr (.inl (1, 1)))), some (.inl a), some (.inl b), some (.inl z), some (.inl y), some (.inl (Int32.ofNat C))]) (st' := [.inl (Int32.ofNat C)]) (m' := (f, l)) rfl rfl (fl_bo rfl) rfl ?_
  refine fl_Tq.stp (pc' := 13) (lv' := [some (.inr (.inr (.inl (1, 1)))), some (.inl a), some (.inl b), some (.inl z), some (.inl y), some (.inl (Int32.ofNat C))]) (st' := [.inl b, .inl (Int32.ofNat C)]) (m' := (f, l)) rfl rfl (fl_bo rfl) rfl ?_
  refine fl_Tq.jt rfl (fl_bo rfl) (c2_ge_t hkk) rfl ?_
  refine fl_Tq.stp (pc' := 56) (lv' := [some (.inr (.inr (.inl (1, 1)))), some (.inl a), some (.inl b), some (.inl z), some (.inl y), some (.inl (Int32.ofNat C))]) (st' := [.inl y]) (m' := (f, l)) rfl rfl (fl_bo rfl) rfl ?_
  refine fl_Tq.stp (pc' := 57) (lv' := [some (.inr (.inr (.inl (1, 1)))), some (.inl a), some (.inl b), some (.inl z), some (.inl y), some (.inl (Int32.ofNat C))]) (st' := [.inl z, .inl y]) (m' := (f, l)) rfl rfl (fl_bo rfl) rfl ?_
  refine fl_Tq.stp (pc' := 58) (lv' := [some (.inr (.inr (.inl (1, 1)))), some (.inl a), some (.inl b), some (.inl z), some (.inl y), some (.inl (Int32.ofNat C))]) (st' := [.inl (y - z)]) (m' := (f, l)) rfl rfl (fl_bo rfl) rfl ?_
  exact fl_Tq.ret rfl rfl rfl k
theorem y_mod_A {L : Nat} {xs : Nat → Int32} {f : t2_F} {l : t2_L} {Q : Option fl_V → fl_M → Prop} {a b : Int32}  (k : ((r_isIn_v a (0 : Int32) (3 : Int32)).toInt = 0) → Q (some (.inl (-1000000000 : Int32))) (f, l)) (k1 : (¬ ((r_isIn_v a (0 : Int32) (3 : Int32)).toInt = 0)) → (((4 : Int32) * a).toInt < (f 280 2).toInt) → ((r_isIn_v b (0 : Int32) (3 : Int32)).toInt = 0) → Q (some (.inl (-1000000000 : Int32))) (f, l)) (k2 : (¬ ((r_isIn_v a (0 : Int32) (3 : Int32)).toInt = 0)) → (((4 : Int32) * a).toInt < (f 280 2).toInt) → (¬ ((r_isIn_v b (0 : Int32) (3 : Int32)).toInt = 0)) → fl_Tq (pw_P L xs) 273 56 [some (.inr (.inr (.inl (76, 277)))), some (.inl a), some (.inl b), some (.inl (0 : Int32)), some (.inl (-2000000000 : Int32)), some (.inl (0 : Int32)), some (.inl (1000 : Int32)), some (.inl (0 : Int32)), some (.inl ((4 : Int32) * a))] [] (f, l) Q) (k3 : (¬ ((r_isIn_v a (0 : Int32) (3 : Int32)).toInt = 0)) → (¬ (((4 : Int32) * a).toInt < (f 280 2).toInt)) → Q (some (.inl (-1000000000 : Int32))) (f, l)) : fl_Tq (pw_P L xs) 273 0 [some (.inr (.inr (.inl (76, 277)))), some (.inl a), some (.inl b), none, none, none, none, none, none] [] (f, l) Q := by
  refine fl_Tq.stp (pc' := 1) (lv' := [some (.inr (.inr (.inl (76, 277)))), some (.inl a), some (.inl b), none, none, none, none, none, none]) (st' := [.inl a]) (m' := (f, l)) rfl rfl (fl_bo rfl) rfl ?_
  refine fl_Tq.cI (c := (0 : Int32)) rfl (by decide +kernel) (fl_bo rfl) ?_
  refine fl_Tq.cI (c := (3 : Int32)) rfl (by decide +kernel) (fl_bo rfl) ?_
  refine fl_Tq.cal rfl rfl (fl_bo rfl) rfl ?_
  refine r_isIn_q  ?_
  show fl_Tq _ 273 6 [some (.inr (.inr (.inl (76, 277)))), some (.inl a), some (.inl b), none, none, none, none, none, none] [.inl (r_isIn_v a (0 : Int32) (3 : Int32))] (f, l) _
  by_cases h1 : (r_isIn_v a (0 : Int32) (3 : Int32)).toInt = 0
  · refine fl_Tq.zt rfl (fl_bo rfl) (c1_eq_t h1) rfl ?_
    refine fl_Tq.stp (pc' := 33) (lv' := [some (.inr (.inr (.inl (76, 277)))), some (.inl a), some (.inl b), none, none, none, none, none, none]) (st' := [.inl (-1000000000 : Int32)]) (m' := (f, l)) rfl rfl (fl_bo rfl) rfl ?_
    exact fl_Tq.ret rfl rfl rfl (k h1)
  · refine fl_Tq.zf rfl (fl_bo rfl) (c1_eq_f h1) rfl ?_
    refine fl_Tq.cI (c := (4 : Int32)) rfl (by decide +kernel) (fl_bo rfl) ?_
    refine fl_Tq.stp (pc' := 11) (lv' := [some (.inr (.inr (.inl (76, 277)))), some (.inl a), some (.inl b), none, none, none, none, none, none]) (st' := [.inl a, .inl (4 : Int32)]) (m' := (f, l)) rfl rfl (fl_bo rfl) rfl ?_
    refine fl_Tq.stp (pc' := 12) (lv' := [some (.inr (.inr (.inl (76, 277)))), some (.inl a), some (.inl b), none, none, none, none, none, none]) (st' := [.inl ((4 : Int32) * a)]) (m' := (f, l)) rfl rfl (fl_bo rfl) rfl ?_
    refine fl_Tq.stp (pc' := 13) (lv' := [some (.inr (.inr (.inl (76, 277)))), some (.inl a), some (.inl b), none, none, none, none, none, none]) (st' := [.inr (.inr (.inl (76, 277))), .inl ((4 : Int32) * a)]) (m' := (f, l)) rfl rfl (fl_bo rfl) rfl ?_
    refine fl_Tq.stp (pc' := 16) (lv' := [some (.inr (.inr (.inl (76, 277)))), some (.inl a), some (.inl b), none, none, none, none, none, none]) (st' := [.inr (.inr (.inl (79, 280))), .inl ((4 : Int32) * a)]) (m' := (f, l)) rfl rfl (fl_bo rfl) rfl ?_
    refine fl_Tq.cI (c := (2 : Int32)) rfl (by decide +kernel) (fl_bo rfl) ?_
    refine fl_Tq.ldV (p := 280) (τ := 79) (n := 29780) (z := (0, 0, 0)) (k := 2) (v := f 280 2) rfl (fl_bo rfl) rfl (by decide +kernel) (by decide) rfl ?_
    by_cases h2 : ((4 : Int32) * a).toInt < (f 280 2).toInt
    · refine fl_Tq.jf rfl (fl_bo rfl) (c2_ge_f h2) rfl ?_
      refine fl_Tq.stp (pc' := 22) (lv' := [some (.inr (.inr (.inl (76, 277)))), some (.inl a), some (.inl b), none, none, none, none, none, none]) (st' := [.inl b]) (m' := (f, l)) rfl rfl (fl_bo rfl) rfl ?_
      refine fl_Tq.cI (c := (0 : Int32)) rfl (by decide +kernel) (fl_bo rfl) ?_
      refine fl_Tq.cI (c := (3 : Int32)) rfl (by decide +kernel) (fl_bo rfl) ?_
      refine fl_Tq.cal rfl rfl (fl_bo rfl) rfl ?_
      refine r_isIn_q  ?_
      show fl_Tq _ 273 27 [some (.inr (.inr (.inl (76, 277)))), some (.inl a), some (.inl b), none, none, none, none, none, none] [.inl (r_isIn_v b (0 : Int32) (3 : Int32))] (f, l) _
      by_cases h3 : (r_isIn_v b (0 : Int32) (3 : Int32)).toInt = 0
      · refine fl_Tq.zf rfl (fl_bo rfl) (c1_ne_f h3) rfl ?_
        refine fl_Tq.stp (pc' := 33) (lv' := [some (.inr (.inr (.inl (76, 277)))), some (.inl a), some (.inl b), none, none, none, none, none, none]) (st' := [.inl (-1000000000 : Int32)]) (m' := (f, l)) rfl rfl (fl_bo rfl) rfl ?_
        exact fl_Tq.ret rfl rfl rfl (k1 h1 h2 h3)
      · refine fl_Tq.zt rfl (fl_bo rfl) (c1_ne_t h3) rfl ?_
        refine fl_Tq.cI (c := (0 : Int32)) rfl (by decide +kernel) (fl_bo rfl) ?_
        refine fl_Tq.stp (pc' := 36) (lv' := [some (.inr (.inr (.inl (76, 277)))), some (.inl a), some (.inl b), some (.inl (0 : Int32)), none, none, none, none, none]) (st' := []) (m' := (f, l)) rfl rfl (fl_bo rfl) rfl ?_
        refine fl_Tq.stp (pc' := 38) (lv' := [some (.inr (.inr (.inl (76, 277)))), some (.inl a), some (.inl b), some (.inl (0 : Int32)), none, none, none, none, none]) (st' := [.inl (-2000000000 : Int32)]) (m' := (f, l)) rfl rfl (fl_bo rfl) rfl ?_
        refine fl_Tq.stp (pc' := 40) (lv' := [some (.inr (.inr (.inl (76, 277)))), some (.inl a), some (.inl b), some (.inl (0 : Int32)), some (.inl (-2000000000 : Int32)), none, none, none, none]) (st' := []) (m' := (f, l)) rfl rfl (fl_bo rfl) rfl ?_
        refine fl_Tq.cI (c := (0 : Int32)) rfl (by decide +kernel) (fl_bo rfl) ?_
        refine fl_Tq.stp (pc' := 43) (lv' := [some (.inr (.inr (.inl (76, 277)))), some (.inl a), some (.inl b), some (.inl (0 : Int32)), some (.inl (-2000000000 : Int32)), some (.inl (0 : Int32)), none, none, none]) (st' := []) (m' := (f, l)) rfl rfl (fl_bo rfl) rfl ?_
        refine fl_Tq.cS (c := (1000 : Int32)) rfl (by decide +kernel) (fl_bo rfl) ?_
        refine fl_Tq.stp (pc' := 48) (lv' := [some (.inr (.inr (.inl (76, 277)))), some (.inl a), some (.inl b), some (.inl (0 : Int32)), some (.inl (-2000000000 : Int32)), some (.inl (0 : Int32)), some (.inl (1000 : Int32)), none, none]) (st' := []) (m' := (f, l)) rfl rfl (fl_bo rfl) rfl ?_
        refine fl_Tq.cI (c := (0 : Int32)) rfl (by decide +kernel) (fl_bo rfl) ?_
        refine fl_Tq.stp (pc' := 51) (lv' := [some (.inr (.inr (.inl (76, 277)))), some (.inl a), some (.inl b), some (.inl (0 : Int32)), some (.inl (-2000000000 : Int32)), some (.inl (0 : Int32)), some (.inl (1000 : Int32)), some (.inl (0 : Int32)), none]) (st' := []) (m' := (f, l)) rfl rfl (fl_bo rfl) rfl ?_
        refine fl_Tq.cI (c := (4 : Int32)) rfl (by decide +kernel) (fl_bo rfl) ?_
        refine fl_Tq.stp (pc' := 53) (lv' := [some (.inr (.inr (.inl (76, 277)))), some (.inl a), some (.inl b), some (.inl (0 : Int32)), some (.inl (-2000000000 : Int32)), some (.inl (0 : Int32)), some (.inl (1000 : Int32)), some (.inl (0 : Int32)), none]) (st' := [.inl a, .inl (4 : Int32)]) (m' := (f, l)) rfl rfl (fl_bo rfl) rfl ?_
        refine fl_Tq.stp (pc' := 54) (lv' := [some (.inr (.inr (.inl (76, 277)))), some (.inl a), some (.inl b), some (.inl (0 : Int32)), some (.inl (-2000000000 : Int32)), some (.inl (0 : Int32)), some (.inl (1000 : Int32)), some (.inl (0 : Int32)), none]) (st' := [.inl ((4 : Int32) * a)]) (m' := (f, l)) rfl rfl (fl_bo rfl) rfl ?_
        refine fl_Tq.stp (pc' := 56) (lv' := [some (.inr (.inr (.inl (76, 277)))), some (.inl a), some (.inl b), some (.inl (0 : Int32)), some (.inl (-2000000000 : Int32)), some (.inl (0 : Int32)), some (.inl (1000 : Int32)), some (.inl (0 : Int32)), some (.inl ((4 : Int32) * a))]) (st' := []) (m' := (f, l)) rfl rfl (fl_bo rfl) rfl ?_
        exact k2 h1 h2 h3
    · refine fl_Tq.jt rfl (fl_bo rfl) (c2_ge_t h2) rfl ?_
      refine fl_Tq.stp (pc' := 33) (lv' := [some (.inr (.inr (.inl (76, 277)))), some (.inl a), some (.inl b), none, none, none, none, none, none]) (st' := [.inl (-1000000000 : Int32)]) (m' := (f, l)) rfl rfl (fl_bo rfl) rfl ?_
      exact fl_Tq.ret rfl rfl rfl (k3 h1 h2)
theorem y_mod_B {L : Nat} {xs : Nat → Int32} {f : t2_F} {l : t2_L} {Q : Option fl_V → fl_M → Prop} {a b v u t s r : Int32} {C : Nat} (hC : C < 16) (hCn : (C : Int) < (f 280 2).toInt) (hk1 : (Int32.ofNat C).toInt < (((4 : Int32) * a) + (4 : Int32)).toInt) (hk2 : (Int32.ofNat C).toInt < (f 280 2).toInt) (hr : t2_RS f) (hk : t2_ck f C) (k : fl_Tq (pw_P L xs) 273 56 [some (.inr (.inr (.inl (76, 277)))), some (.inl a), some (.inl b), some (.inl (v + (r_voltsOf_v f (Int32.ofNat C) C))), some (.inl (if u.toInt < (f 280 (444 + 61 * C + 3)).toInt then f 280 (444 + 61 * C + 3) else u)), some (.inl (if t.toInt < (r_partOf_v f (Int32.ofNat C) C).toInt then r_partOf_v f (Int32.ofNat C) C else t)), some (.inl (r_lesser_v s (r_partOf_v f (Int32.ofNat C) C))), some (.inl (r + (1 : Int32))), some (.inl ((Int32.ofNat C) + (1 : Int32)))] [] (f, l) Q) : fl_Tq (pw_P L xs) 273 56 [some (.inr (.inr (.inl (76, 277)))), some (.inl a), some (.inl b), some (.inl v), some (.inl u), some (.inl t), some (.inl s), some (.inl r), some (.inl (Int32.ofNat C))] [] (f, l) Q := by
  refine fl_Tq.stp (pc' := 58) (lv' := [some (.inr (.inr (.inl (76, 277)))), some (.inl a), some (.inl b), some (.inl v), some (.inl u), some (.inl t), some (.inl s), some (.inl r), some (.inl (Int32.ofNat C))]) (st' := [.inl (Int32.ofNat C)]) (m' := (f, l)) rfl rfl (fl_bo rfl) rfl ?_
  refine fl_Tq.cI (c := (4 : Int32)) rfl (by decide +kernel) (fl_bo rfl) ?_
  refine fl_Tq.stp (pc' := 60) (lv' := [some (.inr (.inr (.inl (76, 277)))), some (.inl a), some (.inl b), some (.inl v), some (.inl u), some (.inl t), some (.inl s), some (.inl r), some (.inl (Int32.ofNat C))]) (st' := [.inl a, .inl (4 : Int32), .inl (Int32.ofNat C)]) (m' := (f, l)) rfl rfl (fl_bo rfl) rfl ?_
  refine fl_Tq.stp (pc' := 61) (lv' := [some (.inr (.inr (.inl (76, 277)))), some (.inl a), some (.inl b), some (.inl v), some (.inl u), some (.inl t), some (.inl s), some (.inl r), some (.inl (Int32.ofNat C))]) (st' := [.inl ((4 : Int32) * a), .inl (Int32.ofNat C)]) (m' := (f, l)) rfl rfl (fl_bo rfl) rfl ?_
  refine fl_Tq.cI (c := (4 : Int32)) rfl (by decide +kernel) (fl_bo rfl) ?_
  refine fl_Tq.stp (pc' := 63) (lv' := [some (.inr (.inr (.inl (76, 277)))), some (.inl a), some (.inl b), some (.inl v), some (.inl u), some (.inl t), some (.inl s), some (.inl r), some (.inl (Int32.ofNat C))]) (st' := [.inl (((4 : Int32) * a) + (4 : Int32)), .inl (Int32.ofNat C)]) (m' := (f, l)) rfl rfl (fl_bo rfl) rfl ?_
  refine fl_Tq.jf rfl (fl_bo rfl) (c2_ge_f hk1) rfl ?_
  refine fl_Tq.stp (pc' := 68) (lv' := [some (.inr (.inr (.inl (76, 277)))), some (.inl a), some (.inl b), some (.inl v), some (.inl u), some (.inl t), some (.inl s), some (.inl r), some (.inl (Int32.ofNat C))]) (st' := [.inl (Int32.ofNat C)]) (m' := (f, l)) rfl rfl (fl_bo rfl) rfl ?_
  refine fl_Tq.stp (pc' := 69) (lv' := [some (.inr (.inr (.inl (76, 277)))), some (.inl a), some (.inl b), some (.inl v), some (.inl u), some (.inl t), some (.inl s), some (.inl r), some (.inl (Int32.ofNat C))]) (st' := [.inr (.inr (.inl (76, 277))), .inl (Int32.ofNat C)]) (m' := (f, l)) rfl rfl (fl_bo rfl) rfl ?_
  refine fl_Tq.stp (pc' := 72) (lv' := [some (.inr (.inr (.inl (76, 277)))), some (.inl a), some (.inl b), some (.inl v), some (.inl u), some (.inl t), some (.inl s), some (.inl r), some (.inl (Int32.ofNat C))]) (st' := [.inr (.inr (.inl (79, 280))), .inl (Int32.ofNat C)]) (m' := (f, l)) rfl rfl (fl_bo rfl) rfl ?_
  refine fl_Tq.cI (c := (2 : Int32)) rfl (by decide +kernel) (fl_bo rfl) ?_
  refine fl_Tq.ldV (p := 280) (τ := 79) (n := 29780) (z := (0, 0, 0)) (k := 2) (v := f 280 2) rfl (fl_bo rfl) rfl (by decide +kernel) (by decide) rfl ?_
  refine fl_Tq.jf rfl (fl_bo rfl) (c2_ge_f hk2) rfl ?_
  refine fl_Tq.stp (pc' := 78) (lv' := [some (.inr (.inr (.inl (76, 277)))), some (.inl a), some (.inl b), some (.inl v), some (.inl u), some (.inl t), some (.inl s), some (.inl r), some (.inl (Int32.ofNat C))]) (st' := [.inl v]) (m' := (f, l)) rfl rfl (fl_bo rfl) rfl ?_
  refine fl_Tq.stp (pc' := 79) (lv' := [some (.inr (.inr (.inl (76, 277)))), some (.inl a), some (.inl b), some (.inl v), some (.inl u), some (.inl t), some (.inl s), some (.inl r), some (.inl (Int32.ofNat C))]) (st' := [.inr (.inr (.inl (76, 277))), .inl v]) (m' := (f, l)) rfl rfl (fl_bo rfl) rfl ?_
  refine fl_Tq.stp (pc' := 81) (lv' := [some (.inr (.inr (.inl (76, 277)))), some (.inl a), some (.inl b), some (.inl v), some (.inl u), some (.inl t), some (.inl s), some (.inl r), some (.inl (Int32.ofNat C))]) (st' := [.inl (Int32.ofNat C), .inr (.inr (.inl (76, 277))), .inl v]) (m' := (f, l)) rfl rfl (fl_bo rfl) rfl ?_
  refine fl_Tq.cal rfl rfl (fl_bo rfl) rfl ?_
  refine r_voltsOf_q (at_ofN (by omega)) (by omega) hr hk ?_
  show fl_Tq _ 273 84 [some (.inr (.inr (.inl (76, 277)))), some (.inl a), some (.inl b), some (.inl v), some (.inl u), some (.inl t), some (.inl s), some (.inl r), some (.inl (Int32.ofNat C))] [.inl (r_voltsOf_v f (Int32.ofNat C) C), .inl v] (f, l) _
  refine fl_Tq.stp (pc' := 85) (lv' := [some (.inr (.inr (.inl (76, 277)))), some (.inl a), some (.inl b), some (.inl v), some (.inl u), some (.inl t), some (.inl s), some (.inl r), some (.inl (Int32.ofNat C))]) (st' := [.inl (v + (r_voltsOf_v f (Int32.ofNat C) C))]) (m' := (f, l)) rfl rfl (fl_bo rfl) rfl ?_
  refine fl_Tq.stp (pc' := 86) (lv' := [some (.inr (.inr (.inl (76, 277)))), some (.inl a), some (.inl b), some (.inl (v + (r_voltsOf_v f (Int32.ofNat C) C))), some (.inl u), some (.inl t), some (.inl s), some (.inl r), some (.inl (Int32.ofNat C))]) (st' := []) (m' := (f, l)) rfl rfl (fl_bo rfl) rfl ?_
  refine fl_Tq.stp (pc' := 87) (lv' := [some (.inr (.inr (.inl (76, 277)))), some (.inl a), some (.inl b), some (.inl (v + (r_voltsOf_v f (Int32.ofNat C) C))), some (.inl u), some (.inl t), some (.inl s), some (.inl r), some (.inl (Int32.ofNat C))]) (st' := [.inr (.inr (.inl (76, 277)))]) (m' := (f, l)) rfl rfl (fl_bo rfl) rfl ?_
  refine fl_Tq.stp (pc' := 89) (lv' := [some (.inr (.inr (.inl (76, 277)))), some (.inl a), some (.inl b), some (.inl (v + (r_voltsOf_v f (Int32.ofNat C) C))), some (.inl u), some (.inl t), some (.inl s), some (.inl r), some (.inl (Int32.ofNat C))]) (st' := [.inl (Int32.ofNat C), .inr (.inr (.inl (76, 277)))]) (m' := (f, l)) rfl rfl (fl_bo rfl) rfl ?_
  refine fl_Tq.cI (c := (3 : Int32)) rfl (by decide +kernel) (fl_bo rfl) ?_
  refine fl_Tq.cal rfl rfl (fl_bo rfl) rfl ?_
  refine t2_get (C := C) (W := 3) (v := f 280 (444 + 61 * C + 3)) (at_ofN (by omega)) (by decide +kernel) (by omega) (by decide) rfl ?_
  show fl_Tq _ 273 93 [some (.inr (.inr (.inl (76, 277)))), some (.inl a), some (.inl b), some (.inl (v + (r_voltsOf_v f (Int32.ofNat C) C))), some (.inl u), some (.inl t), some (.inl s), some (.inl r), some (.inl (Int32.ofNat C))] [.inl (f 280 (444 + 61 * C + 3))] (f, l) _
  refine fl_Tq.stp (pc' := 95) (lv' := [some (.inr (.inr (.inl (76, 277)))), some (.inl a), some (.inl b), some (.inl (v + (r_voltsOf_v f (Int32.ofNat C) C))), some (.inl u), some (.inl t), some (.inl s), some (.inl r), some (.inl (Int32.ofNat C))]) (st' := [.inl u, .inl (f 280 (444 + 61 * C + 3))]) (m' := (f, l)) rfl rfl (fl_bo rfl) rfl ?_
  have hj131 : fl_Tq (pw_P L xs) 273 110 [some (.inr (.inr (.inl (76, 277)))), some (.inl a), some (.inl b), some (.inl (v + (r_voltsOf_v f (Int32.ofNat C) C))), some (.inl u), some (.inl t), some (.inl s), some (.inl r), some (.inl (Int32.ofNat C))] [.inl (if u.toInt < (f 280 (444 + 61 * C + 3)).toInt then f 280 (444 + 61 * C + 3) else u)] (f, l) Q → fl_Tq (pw_P L xs) 273 95 [some (.inr (.inr (.inl (76, 277)))), some (.inl a), some (.inl b), some (.inl (v + (r_voltsOf_v f (Int32.ofNat C) C))), some (.inl u), some (.inl t), some (.inl s), some (.inl r), some (.inl (Int32.ofNat C))] [.inl u, .inl (f 280 (444 + 61 * C + 3))] (f, l) Q := by
    intro hJ
    by_cases h1 : u.toInt < (f 280 (444 + 61 * C + 3)).toInt
    · refine fl_Tq.jf rfl (fl_bo rfl) (c2_le_f h1) rfl ?_
      refine fl_Tq.stp (pc' := 99) (lv' := [some (.inr (.inr (.inl (76, 277)))), some (.inl a), some (.inl b), some (.inl (v + (r_voltsOf_v f (Int32.ofNat C) C))), some (.inl u), some (.inl t), some (.inl s), some (.inl r), some (.inl (Int32.ofNat C))]) (st' := [.inr (.inr (.inl (76, 277)))]) (m' := (f, l)) rfl rfl (fl_bo rfl) rfl ?_
      refine fl_Tq.stp (pc' := 101) (lv' := [some (.inr (.inr (.inl (76, 277)))), some (.inl a), some (.inl b), some (.inl (v + (r_voltsOf_v f (Int32.ofNat C) C))), some (.inl u), some (.inl t), some (.inl s), some (.inl r), some (.inl (Int32.ofNat C))]) (st' := [.inl (Int32.ofNat C), .inr (.inr (.inl (76, 277)))]) (m' := (f, l)) rfl rfl (fl_bo rfl) rfl ?_
      refine fl_Tq.cI (c := (3 : Int32)) rfl (by decide +kernel) (fl_bo rfl) ?_
      refine fl_Tq.cal rfl rfl (fl_bo rfl) rfl ?_
      refine t2_get (C := C) (W := 3) (v := f 280 (444 + 61 * C + 3)) (at_ofN (by omega)) (by decide +kernel) (by omega) (by decide) rfl ?_
      show fl_Tq _ 273 105 [some (.inr (.inr (.inl (76, 277)))), some (.inl a), some (.inl b), some (.inl (v + (r_voltsOf_v f (Int32.ofNat C) C))), some (.inl u), some (.inl t), some (.inl s), some (.inl r), some (.inl (Int32.ofNat C))] [.inl (f 280 (444 + 61 * C + 3))] (f, l) _
      refine fl_Tq.stp (pc' := 110) (lv' := [some (.inr (.inr (.inl (76, 277)))), some (.inl a), some (.inl b), some (.inl (v + (r_voltsOf_v f (Int32.ofNat C) C))), some (.inl u), some (.inl t), some (.inl s), some (.inl r), some (.inl (Int32.ofNat C))]) (st' := [.inl (f 280 (444 + 61 * C + 3))]) (m' := (f, l)) rfl rfl (fl_bo rfl) rfl ?_
      have e0 : (if u.toInt < (f 280 (444 + 61 * C + 3)).toInt then f 280 (444 + 61 * C + 3) else u) = f 280 (444 + 61 * C + 3) := by simp only [if_pos h1]
      rw [e0] at hJ
      exact hJ
    · refine fl_Tq.jt rfl (fl_bo rfl) (c2_le_t h1) rfl ?_
      refine fl_Tq.stp (pc' := 110) (lv' := [some (.inr (.inr (.inl (76, 277)))), some (.inl a), some (.inl b), some (.inl (v + (r_voltsOf_v f (Int32.ofNat C) C))), some (.inl u), some (.inl t), some (.inl s), some (.inl r), some (.inl (Int32.ofNat C))]) (st' := [.inl u]) (m' := (f, l)) rfl rfl (fl_bo rfl) rfl ?_
      have e0 : (if u.toInt < (f 280 (444 + 61 * C + 3)).toInt then f 280 (444 + 61 * C + 3) else u) = u := by simp only [if_neg h1]
      rw [e0] at hJ
      exact hJ
  refine hj131 ?_
  show fl_Tq _ 273 110 [some (.inr (.inr (.inl (76, 277)))), some (.inl a), some (.inl b), some (.inl (v + (r_voltsOf_v f (Int32.ofNat C) C))), some (.inl u), some (.inl t), some (.inl s), some (.inl r), some (.inl (Int32.ofNat C))] [.inl (if u.toInt < (f 280 (444 + 61 * C + 3)).toInt then f 280 (444 + 61 * C + 3) else u)] (f, l) _
  refine fl_Tq.stp (pc' := 112) (lv' := [some (.inr (.inr (.inl (76, 277)))), some (.inl a), some (.inl b), some (.inl (v + (r_voltsOf_v f (Int32.ofNat C) C))), some (.inl (if u.toInt < (f 280 (444 + 61 * C + 3)).toInt then f 280 (444 + 61 * C + 3) else u)), some (.inl t), some (.inl s), some (.inl r), some (.inl (Int32.ofNat C))]) (st' := []) (m' := (f, l)) rfl rfl (fl_bo rfl) rfl ?_
  refine fl_Tq.stp (pc' := 113) (lv' := [some (.inr (.inr (.inl (76, 277)))), some (.inl a), some (.inl b), some (.inl (v + (r_voltsOf_v f (Int32.ofNat C) C))), some (.inl (if u.toInt < (f 280 (444 + 61 * C + 3)).toInt then f 280 (444 + 61 * C + 3) else u)), some (.inl t), some (.inl s), some (.inl r), some (.inl (Int32.ofNat C))]) (st' := [.inr (.inr (.inl (76, 277)))]) (m' := (f, l)) rfl rfl (fl_bo rfl) rfl ?_
  refine fl_Tq.stp (pc' := 115) (lv' := [some (.inr (.inr (.inl (76, 277)))), some (.inl a), some (.inl b), some (.inl (v + (r_voltsOf_v f (Int32.ofNat C) C))), some (.inl (if u.toInt < (f 280 (444 + 61 * C + 3)).toInt then f 280 (444 + 61 * C + 3) else u)), some (.inl t), some (.inl s), some (.inl r), some (.inl (Int32.ofNat C))]) (st' := [.inl (Int32.ofNat C), .inr (.inr (.inl (76, 277)))]) (m' := (f, l)) rfl rfl (fl_bo rfl) rfl ?_
  refine fl_Tq.cal rfl rfl (fl_bo rfl) rfl ?_
  refine r_partOf_q (at_ofN (by omega)) (by omega) hk ?_
  show fl_Tq _ 273 118 [some (.inr (.inr (.inl (76, 277)))), some (.inl a), some (.inl b), some (.inl (v + (r_voltsOf_v f (Int32.ofNat C) C))), some (.inl (if u.toInt < (f 280 (444 + 61 * C + 3)).toInt then f 280 (444 + 61 * C + 3) else u)), some (.inl t), some (.inl s), some (.inl r), some (.inl (Int32.ofNat C))] [.inl (r_partOf_v f (Int32.ofNat C) C)] (f, l) _
  refine fl_Tq.stp (pc' := 120) (lv' := [some (.inr (.inr (.inl (76, 277)))), some (.inl a), some (.inl b), some (.inl (v + (r_voltsOf_v f (Int32.ofNat C) C))), some (.inl (if u.toInt < (f 280 (444 + 61 * C + 3)).toInt then f 280 (444 + 61 * C + 3) else u)), some (.inl t), some (.inl s), some (.inl r), some (.inl (Int32.ofNat C))]) (st' := [.inl t, .inl (r_partOf_v f (Int32.ofNat C) C)]) (m' := (f, l)) rfl rfl (fl_bo rfl) rfl ?_
  have hj132 : fl_Tq (pw_P L xs) 273 134 [some (.inr (.inr (.inl (76, 277)))), some (.inl a), some (.inl b), some (.inl (v + (r_voltsOf_v f (Int32.ofNat C) C))), some (.inl (if u.toInt < (f 280 (444 + 61 * C + 3)).toInt then f 280 (444 + 61 * C + 3) else u)), some (.inl t), some (.inl s), some (.inl r), some (.inl (Int32.ofNat C))] [.inl (if t.toInt < (r_partOf_v f (Int32.ofNat C) C).toInt then r_partOf_v f (Int32.ofNat C) C else t)] (f, l) Q → fl_Tq (pw_P L xs) 273 120 [some (.inr (.inr (.inl (76, 277)))), some (.inl a), some (.inl b), some (.inl (v + (r_voltsOf_v f (Int32.ofNat C) C))), some (.inl (if u.toInt < (f 280 (444 + 61 * C + 3)).toInt then f 280 (444 + 61 * C + 3) else u)), some (.inl t), some (.inl s), some (.inl r), some (.inl (Int32.ofNat C))] [.inl t, .inl (r_partOf_v f (Int32.ofNat C) C)] (f, l) Q := by
    intro hJ
    by_cases h2 : t.toInt < (r_partOf_v f (Int32.ofNat C) C).toInt
    · refine fl_Tq.jf rfl (fl_bo rfl) (c2_le_f h2) rfl ?_
      refine fl_Tq.stp (pc' := 124) (lv' := [some (.inr (.inr (.inl (76, 277)))), some (.inl a), some (.inl b), some (.inl (v + (r_voltsOf_v f (Int32.ofNat C) C))), some (.inl (if u.toInt < (f 280 (444 + 61 * C + 3)).toInt then f 280 (444 + 61 * C + 3) else u)), some (.inl t), some (.inl s), some (.inl r), some (.inl (Int32.ofNat C))]) (st' := [.inr (.inr (.inl (76, 277)))]) (m' := (f, l)) rfl rfl (fl_bo rfl) rfl ?_
      refine fl_Tq.stp (pc' := 126) (lv' := [some (.inr (.inr (.inl (76, 277)))), some (.inl a), some (.inl b), some (.inl (v + (r_voltsOf_v f (Int32.ofNat C) C))), some (.inl (if u.toInt < (f 280 (444 + 61 * C + 3)).toInt then f 280 (444 + 61 * C + 3) else u)), some (.inl t), some (.inl s), some (.inl r), some (.inl (Int32.ofNat C))]) (st' := [.inl (Int32.ofNat C), .inr (.inr (.inl (76, 277)))]) (m' := (f, l)) rfl rfl (fl_bo rfl) rfl ?_
      refine fl_Tq.cal rfl rfl (fl_bo rfl) rfl ?_
      refine r_partOf_q (at_ofN (by omega)) (by omega) hk ?_
      show fl_Tq _ 273 129 [some (.inr (.inr (.inl (76, 277)))), some (.inl a), some (.inl b), some (.inl (v + (r_voltsOf_v f (Int32.ofNat C) C))), some (.inl (if u.toInt < (f 280 (444 + 61 * C + 3)).toInt then f 280 (444 + 61 * C + 3) else u)), some (.inl t), some (.inl s), some (.inl r), some (.inl (Int32.ofNat C))] [.inl (r_partOf_v f (Int32.ofNat C) C)] (f, l) _
      refine fl_Tq.stp (pc' := 134) (lv' := [some (.inr (.inr (.inl (76, 277)))), some (.inl a), some (.inl b), some (.inl (v + (r_voltsOf_v f (Int32.ofNat C) C))), some (.inl (if u.toInt < (f 280 (444 + 61 * C + 3)).toInt then f 280 (444 + 61 * C + 3) else u)), some (.inl t), some (.inl s), some (.inl r), some (.inl (Int32.ofNat C))]) (st' := [.inl (r_partOf_v f (Int32.ofNat C) C)]) (m' := (f, l)) rfl rfl (fl_bo rfl) rfl ?_
      have e0 : (if t.toInt < (r_partOf_v f (Int32.ofNat C) C).toInt then r_partOf_v f (Int32.ofNat C) C else t) = r_partOf_v f (Int32.ofNat C) C := by simp only [if_pos h2]
      rw [e0] at hJ
      exact hJ
    · refine fl_Tq.jt rfl (fl_bo rfl) (c2_le_t h2) rfl ?_
      refine fl_Tq.stp (pc' := 134) (lv' := [some (.inr (.inr (.inl (76, 277)))), some (.inl a), some (.inl b), some (.inl (v + (r_voltsOf_v f (Int32.ofNat C) C))), some (.inl (if u.toInt < (f 280 (444 + 61 * C + 3)).toInt then f 280 (444 + 61 * C + 3) else u)), some (.inl t), some (.inl s), some (.inl r), some (.inl (Int32.ofNat C))]) (st' := [.inl t]) (m' := (f, l)) rfl rfl (fl_bo rfl) rfl ?_
      have e0 : (if t.toInt < (r_partOf_v f (Int32.ofNat C) C).toInt then r_partOf_v f (Int32.ofNat C) C else t) = t := by simp only [if_neg h2]
      rw [e0] at hJ
      exact hJ
  refine hj132 ?_
  show fl_Tq _ 273 134 [some (.inr (.inr (.inl (76, 277)))), some (.inl a), some (.inl b), some (.inl (v + (r_voltsOf_v f (Int32.ofNat C) C))), some (.inl (if u.toInt < (f 280 (444 + 61 * C + 3)).toInt then f 280 (444 + 61 * C + 3) else u)), some (.inl t), some (.inl s), some (.inl r), some (.inl (Int32.ofNat C))] [.inl (if t.toInt < (r_partOf_v f (Int32.ofNat C) C).toInt then r_partOf_v f (Int32.ofNat C) C else t)] (f, l) _
  refine fl_Tq.stp (pc' := 136) (lv' := [some (.inr (.inr (.inl (76, 277)))), some (.inl a), some (.inl b), some (.inl (v + (r_voltsOf_v f (Int32.ofNat C) C))), some (.inl (if u.toInt < (f 280 (444 + 61 * C + 3)).toInt then f 280 (444 + 61 * C + 3) else u)), some (.inl (if t.toInt < (r_partOf_v f (Int32.ofNat C) C).toInt then r_partOf_v f (Int32.ofNat C) C else t)), some (.inl s), some (.inl r), some (.inl (Int32.ofNat C))]) (st' := []) (m' := (f, l)) rfl rfl (fl_bo rfl) rfl ?_
  refine fl_Tq.stp (pc' := 138) (lv' := [some (.inr (.inr (.inl (76, 277)))), some (.inl a), some (.inl b), some (.inl (v + (r_voltsOf_v f (Int32.ofNat C) C))), some (.inl (if u.toInt < (f 280 (444 + 61 * C + 3)).toInt then f 280 (444 + 61 * C + 3) else u)), some (.inl (if t.toInt < (r_partOf_v f (Int32.ofNat C) C).toInt then r_partOf_v f (Int32.ofNat C) C else t)), some (.inl s), some (.inl r), some (.inl (Int32.ofNat C))]) (st' := [.inl s]) (m' := (f, l)) rfl rfl (fl_bo rfl) rfl ?_
  refine fl_Tq.stp (pc' := 139) (lv' := [some (.inr (.inr (.inl (76, 277)))), some (.inl a), some (.inl b), some (.inl (v + (r_voltsOf_v f (Int32.ofNat C) C))), some (.inl (if u.toInt < (f 280 (444 + 61 * C + 3)).toInt then f 280 (444 + 61 * C + 3) else u)), some (.inl (if t.toInt < (r_partOf_v f (Int32.ofNat C) C).toInt then r_partOf_v f (Int32.ofNat C) C else t)), some (.inl s), some (.inl r), some (.inl (Int32.ofNat C))]) (st' := [.inr (.inr (.inl (76, 277))), .inl s]) (m' := (f, l)) rfl rfl (fl_bo rfl) rfl ?_
  refine fl_Tq.stp (pc' := 141) (lv' := [some (.inr (.inr (.inl (76, 277)))), some (.inl a), some (.inl b), some (.inl (v + (r_voltsOf_v f (Int32.ofNat C) C))), some (.inl (if u.toInt < (f 280 (444 + 61 * C + 3)).toInt then f 280 (444 + 61 * C + 3) else u)), some (.inl (if t.toInt < (r_partOf_v f (Int32.ofNat C) C).toInt then r_partOf_v f (Int32.ofNat C) C else t)), some (.inl s), some (.inl r), some (.inl (Int32.ofNat C))]) (st' := [.inl (Int32.ofNat C), .inr (.inr (.inl (76, 277))), .inl s]) (m' := (f, l)) rfl rfl (fl_bo rfl) rfl ?_
  refine fl_Tq.cal rfl rfl (fl_bo rfl) rfl ?_
  refine r_partOf_q (at_ofN (by omega)) (by omega) hk ?_
  show fl_Tq _ 273 144 [some (.inr (.inr (.inl (76, 277)))), some (.inl a), some (.inl b), some (.inl (v + (r_voltsOf_v f (Int32.ofNat C) C))), some (.inl (if u.toInt < (f 280 (444 + 61 * C + 3)).toInt then f 280 (444 + 61 * C + 3) else u)), some (.inl (if t.toInt < (r_partOf_v f (Int32.ofNat C) C).toInt then r_partOf_v f (Int32.ofNat C) C else t)), some (.inl s), some (.inl r), some (.inl (Int32.ofNat C))] [.inl (r_partOf_v f (Int32.ofNat C) C), .inl s] (f, l) _
  refine fl_Tq.cal rfl rfl (fl_bo rfl) rfl ?_
  refine r_lesser_q  ?_
  show fl_Tq _ 273 147 [some (.inr (.inr (.inl (76, 277)))), some (.inl a), some (.inl b), some (.inl (v + (r_voltsOf_v f (Int32.ofNat C) C))), some (.inl (if u.toInt < (f 280 (444 + 61 * C + 3)).toInt then f 280 (444 + 61 * C + 3) else u)), some (.inl (if t.toInt < (r_partOf_v f (Int32.ofNat C) C).toInt then r_partOf_v f (Int32.ofNat C) C else t)), some (.inl s), some (.inl r), some (.inl (Int32.ofNat C))] [.inl (r_lesser_v s (r_partOf_v f (Int32.ofNat C) C))] (f, l) _
  refine fl_Tq.stp (pc' := 149) (lv' := [some (.inr (.inr (.inl (76, 277)))), some (.inl a), some (.inl b), some (.inl (v + (r_voltsOf_v f (Int32.ofNat C) C))), some (.inl (if u.toInt < (f 280 (444 + 61 * C + 3)).toInt then f 280 (444 + 61 * C + 3) else u)), some (.inl (if t.toInt < (r_partOf_v f (Int32.ofNat C) C).toInt then r_partOf_v f (Int32.ofNat C) C else t)), some (.inl (r_lesser_v s (r_partOf_v f (Int32.ofNat C) C))), some (.inl r), some (.inl (Int32.ofNat C))]) (st' := []) (m' := (f, l)) rfl rfl (fl_bo rfl) rfl ?_
  refine fl_Tq.stp (pc' := 152) (lv' := [some (.inr (.inr (.inl (76, 277)))), some (.inl a), some (.inl b), some (.inl (v + (r_voltsOf_v f (Int32.ofNat C) C))), some (.inl (if u.toInt < (f 280 (444 + 61 * C + 3)).toInt then f 280 (444 + 61 * C + 3) else u)), some (.inl (if t.toInt < (r_partOf_v f (Int32.ofNat C) C).toInt then r_partOf_v f (Int32.ofNat C) C else t)), some (.inl (r_lesser_v s (r_partOf_v f (Int32.ofNat C) C))), some (.inl (r + (1 : Int32))), some (.inl (Int32.ofNat C))]) (st' := []) (m' := (f, l)) rfl rfl (fl_bo rfl) rfl ?_
  refine fl_Tq.stp (pc' := 155) (lv' := [some (.inr (.inr (.inl (76, 277)))), some (.inl a), some (.inl b), some (.inl (v + (r_voltsOf_v f (Int32.ofNat C) C))), some (.inl (if u.toInt < (f 280 (444 + 61 * C + 3)).toInt then f 280 (444 + 61 * C + 3) else u)), some (.inl (if t.toInt < (r_partOf_v f (Int32.ofNat C) C).toInt then r_partOf_v f (Int32.ofNat C) C else t)), some (.inl (r_lesser_v s (r_partOf_v f (Int32.ofNat C) C))), some (.inl (r + (1 : Int32))), some (.inl ((Int32.ofNat C) + (1 : Int32)))]) (st' := []) (m' := (f, l)) rfl rfl (fl_bo rfl) rfl ?_
  refine fl_Tq.stp (pc' := 56) (lv' := [some (.inr (.inr (.inl (76, 277)))), some (.inl a), some (.inl b), some (.inl (v + (r_voltsOf_v f (Int32.ofNat C) C))), some (.inl (if u.toInt < (f 280 (444 + 61 * C + 3)).toInt then f 280 (444 + 61 * C + 3) else u)), some (.inl (if t.toInt < (r_partOf_v f (Int32.ofNat C) C).toInt then r_partOf_v f (Int32.ofNat C) C else t)), some (.inl (r_lesser_v s (r_partOf_v f (Int32.ofNat C) C))), some (.inl (r + (1 : Int32))), some (.inl ((Int32.ofNat C) + (1 : Int32)))]) (st' := []) (m' := (f, l)) rfl rfl (fl_bo rfl) rfl ?_
  exact k
theorem y_mod_C {L : Nat} {xs : Nat → Int32} {f : t2_F} {l : t2_L} {Q : Option fl_V → fl_M → Prop} {a b v u t s r : Int32} {C : Nat} (hk1 : ¬ ((Int32.ofNat C).toInt < (((4 : Int32) * a) + (4 : Int32)).toInt)) (k : Q (some (.inl (if b.toInt = 0 then v else (if b.toInt = (1 : Int32).toInt then u else (if b.toInt = (2 : Int32).toInt then t - s else r))))) (f, l)) : fl_Tq (pw_P L xs) 273 56 [some (.inr (.inr (.inl (76, 277)))), some (.inl a), some (.inl b), some (.inl v), some (.inl u), some (.inl t), some (.inl s), some (.inl r), some (.inl (Int32.ofNat C))] [] (f, l) Q := by
  refine fl_Tq.stp (pc' := 58) (lv' := [some (.inr (.inr (.inl (76, 277)))), some (.inl a), some (.inl b), some (.inl v), some (.inl u), some (.inl t), some (.inl s), some (.inl r), some (.inl (Int32.ofNat C))]) (st' := [.inl (Int32.ofNat C)]) (m' := (f, l)) rfl rfl (fl_bo rfl) rfl ?_
  refine fl_Tq.cI (c := (4 : Int32)) rfl (by decide +kernel) (fl_bo rfl) ?_
  refine fl_Tq.stp (pc' := 60) (lv' := [some (.inr (.inr (.inl (76, 277)))), some (.inl a), some (.inl b), some (.inl v), some (.inl u), some (.inl t), some (.inl s), some (.inl r), some (.inl (Int32.ofNat C))]) (st' := [.inl a, .inl (4 : Int32), .inl (Int32.ofNat C)]) (m' := (f, l)) rfl rfl (fl_bo rfl) rfl ?_
  refine fl_Tq.stp (pc' := 61) (lv' := [some (.inr (.inr (.inl (76, 277)))), some (.inl a), some (.inl b), some (.inl v), some (.inl u), some (.inl t), some (.inl s), some (.inl r), some (.inl (Int32.ofNat C))]) (st' := [.inl ((4 : Int32) * a), .inl (Int32.ofNat C)]) (m' := (f, l)) rfl rfl (fl_bo rfl) rfl ?_
  refine fl_Tq.cI (c := (4 : Int32)) rfl (by decide +kernel) (fl_bo rfl) ?_
  refine fl_Tq.stp (pc' := 63) (lv' := [some (.inr (.inr (.inl (76, 277)))), some (.inl a), some (.inl b), some (.inl v), some (.inl u), some (.inl t), some (.inl s), some (.inl r), some (.inl (Int32.ofNat C))]) (st' := [.inl (((4 : Int32) * a) + (4 : Int32)), .inl (Int32.ofNat C)]) (m' := (f, l)) rfl rfl (fl_bo rfl) rfl ?_
  refine fl_Tq.jt rfl (fl_bo rfl) (c2_ge_t hk1) rfl ?_
  refine fl_Tq.stp (pc' := 159) (lv' := [some (.inr (.inr (.inl (76, 277)))), some (.inl a), some (.inl b), some (.inl v), some (.inl u), some (.inl t), some (.inl s), some (.inl r), some (.inl (Int32.ofNat C))]) (st' := [.inl b]) (m' := (f, l)) rfl rfl (fl_bo rfl) rfl ?_
  have hj133 : fl_Tq (pw_P L xs) 273 191 [some (.inr (.inr (.inl (76, 277)))), some (.inl a), some (.inl b), some (.inl v), some (.inl u), some (.inl t), some (.inl s), some (.inl r), some (.inl (Int32.ofNat C))] [.inl (if b.toInt = 0 then v else (if b.toInt = (1 : Int32).toInt then u else (if b.toInt = (2 : Int32).toInt then t - s else r)))] (f, l) Q → fl_Tq (pw_P L xs) 273 159 [some (.inr (.inr (.inl (76, 277)))), some (.inl a), some (.inl b), some (.inl v), some (.inl u), some (.inl t), some (.inl s), some (.inl r), some (.inl (Int32.ofNat C))] [.inl b] (f, l) Q := by
    intro hJ
    by_cases h1 : b.toInt = 0
    · refine fl_Tq.zf rfl (fl_bo rfl) (c1_ne_f h1) rfl ?_
      refine fl_Tq.stp (pc' := 163) (lv' := [some (.inr (.inr (.inl (76, 277)))), some (.inl a), some (.inl b), some (.inl v), some (.inl u), some (.inl t), some (.inl s), some (.inl r), some (.inl (Int32.ofNat C))]) (st' := [.inl v]) (m' := (f, l)) rfl rfl (fl_bo rfl) rfl ?_
      refine fl_Tq.stp (pc' := 191) (lv' := [some (.inr (.inr (.inl (76, 277)))), some (.inl a), some (.inl b), some (.inl v), some (.inl u), some (.inl t), some (.inl s), some (.inl r), some (.inl (Int32.ofNat C))]) (st' := [.inl v]) (m' := (f, l)) rfl rfl (fl_bo rfl) rfl ?_
      have e0 : (if b.toInt = 0 then v else (if b.toInt = (1 : Int32).toInt then u else (if b.toInt = (2 : Int32).toInt then t - s else r))) = v := by simp only [if_pos h1]
      rw [e0] at hJ
      exact hJ
    · refine fl_Tq.zt rfl (fl_bo rfl) (c1_ne_t h1) rfl ?_
      refine fl_Tq.stp (pc' := 167) (lv' := [some (.inr (.inr (.inl (76, 277)))), some (.inl a), some (.inl b), some (.inl v), some (.inl u), some (.inl t), some (.inl s), some (.inl r), some (.inl (Int32.ofNat C))]) (st' := [.inl b]) (m' := (f, l)) rfl rfl (fl_bo rfl) rfl ?_
      refine fl_Tq.cI (c := (1 : Int32)) rfl (by decide +kernel) (fl_bo rfl) ?_
      by_cases h2 : b.toInt = (1 : Int32).toInt
      · refine fl_Tq.jf rfl (fl_bo rfl) (c2_ne_f h2) rfl ?_
        refine fl_Tq.stp (pc' := 173) (lv' := [some (.inr (.inr (.inl (76, 277)))), some (.inl a), some (.inl b), some (.inl v), some (.inl u), some (.inl t), some (.inl s), some (.inl r), some (.inl (Int32.ofNat C))]) (st' := [.inl u]) (m' := (f, l)) rfl rfl (fl_bo rfl) rfl ?_
        refine fl_Tq.stp (pc' := 191) (lv' := [some (.inr (.inr (.inl (76, 277)))), some (.inl a), some (.inl b), some (.inl v), some (.inl u), some (.inl t), some (.inl s), some (.inl r), some (.inl (Int32.ofNat C))]) (st' := [.inl u]) (m' := (f, l)) rfl rfl (fl_bo rfl) rfl ?_
        have e0 : (if b.toInt = 0 then v else (if b.toInt = (1 : Int32).toInt then u else (if b.toInt = (2 : Int32).toInt then t - s else r))) = u := by simp only [if_neg h1, if_pos h2]
        rw [e0] at hJ
        exact hJ
      · refine fl_Tq.jt rfl (fl_bo rfl) (c2_ne_t h2) rfl ?_
        refine fl_Tq.stp (pc' := 177) (lv' := [some (.inr (.inr (.inl (76, 277)))), some (.inl a), some (.inl b), some (.inl v), some (.inl u), some (.inl t), some (.inl s), some (.inl r), some (.inl (Int32.ofNat C))]) (st' := [.inl b]) (m' := (f, l)) rfl rfl (fl_bo rfl) rfl ?_
        refine fl_Tq.cI (c := (2 : Int32)) rfl (by decide +kernel) (fl_bo rfl) ?_
        by_cases h3 : b.toInt = (2 : Int32).toInt
        · refine fl_Tq.jf rfl (fl_bo rfl) (c2_ne_f h3) rfl ?_
          refine fl_Tq.stp (pc' := 183) (lv' := [some (.inr (.inr (.inl (76, 277)))), some (.inl a), some (.inl b), some (.inl v), some (.inl u), some (.inl t), some (.inl s), some (.inl r), some (.inl (Int32.ofNat C))]) (st' := [.inl t]) (m' := (f, l)) rfl rfl (fl_bo rfl) rfl ?_
          refine fl_Tq.stp (pc' := 185) (lv' := [some (.inr (.inr (.inl (76, 277)))), some (.inl a), some (.inl b), some (.inl v), some (.inl u), some (.inl t), some (.inl s), some (.inl r), some (.inl (Int32.ofNat C))]) (st' := [.inl s, .inl t]) (m' := (f, l)) rfl rfl (fl_bo rfl) rfl ?_
          refine fl_Tq.stp (pc' := 186) (lv' := [some (.inr (.inr (.inl (76, 277)))), some (.inl a), some (.inl b), some (.inl v), some (.inl u), some (.inl t), some (.inl s), some (.inl r), some (.inl (Int32.ofNat C))]) (st' := [.inl (t - s)]) (m' := (f, l)) rfl rfl (fl_bo rfl) rfl ?_
          refine fl_Tq.stp (pc' := 191) (lv' := [some (.inr (.inr (.inl (76, 277)))), some (.inl a), some (.inl b), some (.inl v), some (.inl u), some (.inl t), some (.inl s), some (.inl r), some (.inl (Int32.ofNat C))]) (st' := [.inl (t - s)]) (m' := (f, l)) rfl rfl (fl_bo rfl) rfl ?_
          have e0 : (if b.toInt = 0 then v else (if b.toInt = (1 : Int32).toInt then u else (if b.toInt = (2 : Int32).toInt then t - s else r))) = t - s := by simp only [if_neg h1, if_neg h2, if_pos h3]
          rw [e0] at hJ
          exact hJ
        · refine fl_Tq.jt rfl (fl_bo rfl) (c2_ne_t h3) rfl ?_
          refine fl_Tq.stp (pc' := 191) (lv' := [some (.inr (.inr (.inl (76, 277)))), some (.inl a), some (.inl b), some (.inl v), some (.inl u), some (.inl t), some (.inl s), some (.inl r), some (.inl (Int32.ofNat C))]) (st' := [.inl r]) (m' := (f, l)) rfl rfl (fl_bo rfl) rfl ?_
          have e0 : (if b.toInt = 0 then v else (if b.toInt = (1 : Int32).toInt then u else (if b.toInt = (2 : Int32).toInt then t - s else r))) = r := by simp only [if_neg h1, if_neg h2, if_neg h3]
          rw [e0] at hJ
          exact hJ
  refine hj133 ?_
  show fl_Tq _ 273 191 [some (.inr (.inr (.inl (76, 277)))), some (.inl a), some (.inl b), some (.inl v), some (.inl u), some (.inl t), some (.inl s), some (.inl r), some (.inl (Int32.ofNat C))] [.inl (if b.toInt = 0 then v else (if b.toInt = (1 : Int32).toInt then u else (if b.toInt = (2 : Int32).toInt then t - s else r)))] (f, l) _
  exact fl_Tq.ret rfl rfl rfl k
theorem y_mod_D {L : Nat} {xs : Nat → Int32} {f : t2_F} {l : t2_L} {Q : Option fl_V → fl_M → Prop} {a b v u t s r : Int32} {C : Nat} (hk1 : (Int32.ofNat C).toInt < (((4 : Int32) * a) + (4 : Int32)).toInt) (hk2 : ¬ ((Int32.ofNat C).toInt < (f 280 2).toInt)) (k : Q (some (.inl (if b.toInt = 0 then v else (if b.toInt = (1 : Int32).toInt then u else (if b.toInt = (2 : Int32).toInt then t - s else r))))) (f, l)) : fl_Tq (pw_P L xs) 273 56 [some (.inr (.inr (.inl (76, 277)))), some (.inl a), some (.inl b), some (.inl v), some (.inl u), some (.inl t), some (.inl s), some (.inl r), some (.inl (Int32.ofNat C))] [] (f, l) Q := by
  refine fl_Tq.stp (pc' := 58) (lv' := [some (.inr (.inr (.inl (76, 277)))), some (.inl a), some (.inl b), some (.inl v), some (.inl u), some (.inl t), some (.inl s), some (.inl r), some (.inl (Int32.ofNat C))]) (st' := [.inl (Int32.ofNat C)]) (m' := (f, l)) rfl rfl (fl_bo rfl) rfl ?_
  refine fl_Tq.cI (c := (4 : Int32)) rfl (by decide +kernel) (fl_bo rfl) ?_
  refine fl_Tq.stp (pc' := 60) (lv' := [some (.inr (.inr (.inl (76, 277)))), some (.inl a), some (.inl b), some (.inl v), some (.inl u), some (.inl t), some (.inl s), some (.inl r), some (.inl (Int32.ofNat C))]) (st' := [.inl a, .inl (4 : Int32), .inl (Int32.ofNat C)]) (m' := (f, l)) rfl rfl (fl_bo rfl) rfl ?_
  refine fl_Tq.stp (pc' := 61) (lv' := [some (.inr (.inr (.inl (76, 277)))), some (.inl a), some (.inl b), some (.inl v), some (.inl u), some (.inl t), some (.inl s), some (.inl r), some (.inl (Int32.ofNat C))]) (st' := [.inl ((4 : Int32) * a), .inl (Int32.ofNat C)]) (m' := (f, l)) rfl rfl (fl_bo rfl) rfl ?_
  refine fl_Tq.cI (c := (4 : Int32)) rfl (by decide +kernel) (fl_bo rfl) ?_
  refine fl_Tq.stp (pc' := 63) (lv' := [some (.inr (.inr (.inl (76, 277)))), some (.inl a), some (.inl b), some (.inl v), some (.inl u), some (.inl t), some (.inl s), some (.inl r), some (.inl (Int32.ofNat C))]) (st' := [.inl (((4 : Int32) * a) + (4 : Int32)), .inl (Int32.ofNat C)]) (m' := (f, l)) rfl rfl (fl_bo rfl) rfl ?_
  refine fl_Tq.jf rfl (fl_bo rfl) (c2_ge_f hk1) rfl ?_
  refine fl_Tq.stp (pc' := 68) (lv' := [some (.inr (.inr (.inl (76, 277)))), some (.inl a), some (.inl b), some (.inl v), some (.inl u), some (.inl t), some (.inl s), some (.inl r), some (.inl (Int32.ofNat C))]) (st' := [.inl (Int32.ofNat C)]) (m' := (f, l)) rfl rfl (fl_bo rfl) rfl ?_
  refine fl_Tq.stp (pc' := 69) (lv' := [some (.inr (.inr (.inl (76, 277)))), some (.inl a), some (.inl b), some (.inl v), some (.inl u), some (.inl t), some (.inl s), some (.inl r), some (.inl (Int32.ofNat C))]) (st' := [.inr (.inr (.inl (76, 277))), .inl (Int32.ofNat C)]) (m' := (f, l)) rfl rfl (fl_bo rfl) rfl ?_
  refine fl_Tq.stp (pc' := 72) (lv' := [some (.inr (.inr (.inl (76, 277)))), some (.inl a), some (.inl b), some (.inl v), some (.inl u), some (.inl t), some (.inl s), some (.inl r), some (.inl (Int32.ofNat C))]) (st' := [.inr (.inr (.inl (79, 280))), .inl (Int32.ofNat C)]) (m' := (f, l)) rfl rfl (fl_bo rfl) rfl ?_
  refine fl_Tq.cI (c := (2 : Int32)) rfl (by decide +kernel) (fl_bo rfl) ?_
  refine fl_Tq.ldV (p := 280) (τ := 79) (n := 29780) (z := (0, 0, 0)) (k := 2) (v := f 280 2) rfl (fl_bo rfl) rfl (by decide +kernel) (by decide) rfl ?_
  refine fl_Tq.jt rfl (fl_bo rfl) (c2_ge_t hk2) rfl ?_
  refine fl_Tq.stp (pc' := 159) (lv' := [some (.inr (.inr (.inl (76, 277)))), some (.inl a), some (.inl b), some (.inl v), some (.inl u), some (.inl t), some (.inl s), some (.inl r), some (.inl (Int32.ofNat C))]) (st' := [.inl b]) (m' := (f, l)) rfl rfl (fl_bo rfl) rfl ?_
  have hj134 : fl_Tq (pw_P L xs) 273 191 [some (.inr (.inr (.inl (76, 277)))), some (.inl a), some (.inl b), some (.inl v), some (.inl u), some (.inl t), some (.inl s), some (.inl r), some (.inl (Int32.ofNat C))] [.inl (if b.toInt = 0 then v else (if b.toInt = (1 : Int32).toInt then u else (if b.toInt = (2 : Int32).toInt then t - s else r)))] (f, l) Q → fl_Tq (pw_P L xs) 273 159 [some (.inr (.inr (.inl (76, 277)))), some (.inl a), some (.inl b), some (.inl v), some (.inl u), some (.inl t), some (.inl s), some (.inl r), some (.inl (Int32.ofNat C))] [.inl b] (f, l) Q := by
    intro hJ
    by_cases h1 : b.toInt = 0
    · refine fl_Tq.zf rfl (fl_bo rfl) (c1_ne_f h1) rfl ?_
      refine fl_Tq.stp (pc' := 163) (lv' := [some (.inr (.inr (.inl (76, 277)))), some (.inl a), some (.inl b), some (.inl v), some (.inl u), some (.inl t), some (.inl s), some (.inl r), some (.inl (Int32.ofNat C))]) (st' := [.inl v]) (m' := (f, l)) rfl rfl (fl_bo rfl) rfl ?_
      refine fl_Tq.stp (pc' := 191) (lv' := [some (.inr (.inr (.inl (76, 277)))), some (.inl a), some (.inl b), some (.inl v), some (.inl u), some (.inl t), some (.inl s), some (.inl r), some (.inl (Int32.ofNat C))]) (st' := [.inl v]) (m' := (f, l)) rfl rfl (fl_bo rfl) rfl ?_
      have e0 : (if b.toInt = 0 then v else (if b.toInt = (1 : Int32).toInt then u else (if b.toInt = (2 : Int32).toInt then t - s else r))) = v := by simp only [if_pos h1]
      rw [e0] at hJ
      exact hJ
    · refine fl_Tq.zt rfl (fl_bo rfl) (c1_ne_t h1) rfl ?_
      refine fl_Tq.stp (pc' := 167) (lv' := [some (.inr (.inr (.inl (76, 277)))), some (.inl a), some (.inl b), some (.inl v), some (.inl u), some (.inl t), some (.inl s), some (.inl r), some (.inl (Int32.ofNat C))]) (st' := [.inl b]) (m' := (f, l)) rfl rfl (fl_bo rfl) rfl ?_
      refine fl_Tq.cI (c := (1 : Int32)) rfl (by decide +kernel) (fl_bo rfl) ?_
      by_cases h2 : b.toInt = (1 : Int32).toInt
      · refine fl_Tq.jf rfl (fl_bo rfl) (c2_ne_f h2) rfl ?_
        refine fl_Tq.stp (pc' := 173) (lv' := [some (.inr (.inr (.inl (76, 277)))), some (.inl a), some (.inl b), some (.inl v), some (.inl u), some (.inl t), some (.inl s), some (.inl r), some (.inl (Int32.ofNat C))]) (st' := [.inl u]) (m' := (f, l)) rfl rfl (fl_bo rfl) rfl ?_
        refine fl_Tq.stp (pc' := 191) (lv' := [some (.inr (.inr (.inl (76, 277)))), some (.inl a), some (.inl b), some (.inl v), some (.inl u), some (.inl t), some (.inl s), some (.inl r), some (.inl (Int32.ofNat C))]) (st' := [.inl u]) (m' := (f, l)) rfl rfl (fl_bo rfl) rfl ?_
        have e0 : (if b.toInt = 0 then v else (if b.toInt = (1 : Int32).toInt then u else (if b.toInt = (2 : Int32).toInt then t - s else r))) = u := by simp only [if_neg h1, if_pos h2]
        rw [e0] at hJ
        exact hJ
      · refine fl_Tq.jt rfl (fl_bo rfl) (c2_ne_t h2) rfl ?_
        refine fl_Tq.stp (pc' := 177) (lv' := [some (.inr (.inr (.inl (76, 277)))), some (.inl a), some (.inl b), some (.inl v), some (.inl u), some (.inl t), some (.inl s), some (.inl r), some (.inl (Int32.ofNat C))]) (st' := [.inl b]) (m' := (f, l)) rfl rfl (fl_bo rfl) rfl ?_
        refine fl_Tq.cI (c := (2 : Int32)) rfl (by decide +kernel) (fl_bo rfl) ?_
        by_cases h3 : b.toInt = (2 : Int32).toInt
        · refine fl_Tq.jf rfl (fl_bo rfl) (c2_ne_f h3) rfl ?_
          refine fl_Tq.stp (pc' := 183) (lv' := [some (.inr (.inr (.inl (76, 277)))), some (.inl a), some (.inl b), some (.inl v), some (.inl u), some (.inl t), some (.inl s), some (.inl r), some (.inl (Int32.ofNat C))]) (st' := [.inl t]) (m' := (f, l)) rfl rfl (fl_bo rfl) rfl ?_
          refine fl_Tq.stp (pc' := 185) (lv' := [some (.inr (.inr (.inl (76, 277)))), some (.inl a), some (.inl b), some (.inl v), some (.inl u), some (.inl t), some (.inl s), some (.inl r), some (.inl (Int32.ofNat C))]) (st' := [.inl s, .inl t]) (m' := (f, l)) rfl rfl (fl_bo rfl) rfl ?_
          refine fl_Tq.stp (pc' := 186) (lv' := [some (.inr (.inr (.inl (76, 277)))), some (.inl a), some (.inl b), some (.inl v), some (.inl u), some (.inl t), some (.inl s), some (.inl r), some (.inl (Int32.ofNat C))]) (st' := [.inl (t - s)]) (m' := (f, l)) rfl rfl (fl_bo rfl) rfl ?_
          refine fl_Tq.stp (pc' := 191) (lv' := [some (.inr (.inr (.inl (76, 277)))), some (.inl a), some (.inl b), some (.inl v), some (.inl u), some (.inl t), some (.inl s), some (.inl r), some (.inl (Int32.ofNat C))]) (st' := [.inl (t - s)]) (m' := (f, l)) rfl rfl (fl_bo rfl) rfl ?_
          have e0 : (if b.toInt = 0 then v else (if b.toInt = (1 : Int32).toInt then u else (if b.toInt = (2 : Int32).toInt then t - s else r))) = t - s := by simp only [if_neg h1, if_neg h2, if_pos h3]
          rw [e0] at hJ
          exact hJ
        · refine fl_Tq.jt rfl (fl_bo rfl) (c2_ne_t h3) rfl ?_
          refine fl_Tq.stp (pc' := 191) (lv' := [some (.inr (.inr (.inl (76, 277)))), some (.inl a), some (.inl b), some (.inl v), some (.inl u), some (.inl t), some (.inl s), some (.inl r), some (.inl (Int32.ofNat C))]) (st' := [.inl r]) (m' := (f, l)) rfl rfl (fl_bo rfl) rfl ?_
          have e0 : (if b.toInt = 0 then v else (if b.toInt = (1 : Int32).toInt then u else (if b.toInt = (2 : Int32).toInt then t - s else r))) = r := by simp only [if_neg h1, if_neg h2, if_neg h3]
          rw [e0] at hJ
          exact hJ
  refine hj134 ?_
  show fl_Tq _ 273 191 [some (.inr (.inr (.inl (76, 277)))), some (.inl a), some (.inl b), some (.inl v), some (.inl u), some (.inl t), some (.inl s), some (.inl r), some (.inl (Int32.ofNat C))] [.inl (if b.toInt = 0 then v else (if b.toInt = (1 : Int32).toInt then u else (if b.toInt = (2 : Int32).toInt then t - s else r)))] (f, l) _
  exact fl_Tq.ret rfl rfl rfl k
/-! ===== module, on both sides ===== -/
section P25
variable {f : t2_F} {A k : Nat} {a b : Int32}
noncomputable def md_v (f : t2_F) (A : Nat) : Nat → Int32
  | 0 => (0 : Int32)
  | k + 1 => md_v f A k + r_voltsOf_v f (Int32.ofNat (4 * A + k)) (4 * A + k)
noncomputable def md_u (f : t2_F) (A : Nat) : Nat → Int32
  | 0 => (-2000000000 : Int32)
  | k + 1 => if (md_u f A k).toInt < (f 280 (444 + 61 * (4 * A + k) + 3)).toInt then f 280 (444 + 61 * (4 * A + k) + 3) else md_u f A k
noncomputable def md_y (f : t2_F) (A : Nat) : Nat → Int32
  | 0 => (-400 : Int32)
  | k + 1 => if k = 0 then f 280 (444 + 61 * (4 * A + k) + 3) else t2_max_v (md_y f A k) (f 280 (444 + 61 * (4 * A + k) + 3))
noncomputable def md_t (f : t2_F) (A : Nat) : Nat → Int32
  | 0 => (0 : Int32)
  | k + 1 => if (md_t f A k).toInt < (r_partOf_v f 0 (4 * A + k)).toInt then r_partOf_v f 0 (4 * A + k) else md_t f A k
noncomputable def md_s (f : t2_F) (A : Nat) : Nat → Int32
  | 0 => (1000 : Int32)
  | k + 1 => r_lesser_v (md_s f A k) (r_partOf_v f 0 (4 * A + k))
noncomputable def md_m (f : t2_F) (A : Nat) : Nat → Int32
  | 0 => (0 : Int32)
  | k + 1 => t2_max_v (md_m f A k) (r_partOf_v f 0 (4 * A + k))
noncomputable def md_z (f : t2_F) (A : Nat) : Nat → Int32
  | 0 => (1000 : Int32)
  | k + 1 => t2_min_v (md_z f A k) (r_partOf_v f 0 (4 * A + k))
theorem md_ms : ∀ k : Nat, md_m f A k = md_t f A k ∧ md_z f A k = md_s f A k := by
  intro k
  induction k with
  | zero => exact ⟨rfl, rfl⟩
  | succ k ih =>
    refine ⟨?_, ?_⟩
    · show t2_max_v (md_m f A k) (r_partOf_v f 0 (4 * A + k)) = (if (md_t f A k).toInt < (r_partOf_v f 0 (4 * A + k)).toInt then r_partOf_v f 0 (4 * A + k) else md_t f A k)
      rw [ih.1]
      apply Int32.toInt.inj
      rw [t2_max_i]
      split <;> omega
    · show t2_min_v (md_z f A k) (r_partOf_v f 0 (4 * A + k)) = r_lesser_v (md_s f A k) (r_partOf_v f 0 (4 * A + k))
      rw [ih.2]
      apply Int32.toInt.inj
      unfold r_lesser_v
      rw [t2_min_i]
      split <;> omega
theorem md_yu (h : ∀ i : Nat, i < k + 1 → -400 ≤ (f 280 (444 + 61 * (4 * A + i) + 3)).toInt) : md_y f A (k + 1) = md_u f A (k + 1) := by
  have cf : (-2000000000 : Int32).toInt = -2000000000 := by decide +kernel
  induction k with
  | zero =>
    have h0 := h 0 (by omega)
    show (if (0 : Nat) = 0 then f 280 (444 + 61 * (4 * A + 0) + 3) else _) = (if (-2000000000 : Int32).toInt < (f 280 (444 + 61 * (4 * A + 0) + 3)).toInt then f 280 (444 + 61 * (4 * A + 0) + 3) else _)
    rw [if_pos rfl, if_pos (by rw [cf]; omega)]
  | succ k ih =>
    have ih := ih (fun i hi => h i (by omega))
    show (if k + 1 = 0 then _ else t2_max_v (md_y f A (k + 1)) (f 280 (444 + 61 * (4 * A + (k + 1)) + 3))) = (if (md_u f A (k + 1)).toInt < (f 280 (444 + 61 * (4 * A + (k + 1)) + 3)).toInt then f 280 (444 + 61 * (4 * A + (k + 1)) + 3) else md_u f A (k + 1))
    rw [if_neg (Nat.succ_ne_zero k), ih]
    apply Int32.toInt.inj
    rw [t2_max_i]
    split <;> omega
end P25
theorem t2_cmp {L : Nat} {xs : Nat → Int32} {f : t2_F} {l : t2_L} {a b : Int32} (_hall : ∀ c ∈ at_CM ++ at_CA, at_Valid at_XI (pw_P L xs) c) (hg : t2_Z (f, l)) : fl_Tq (pw_P L xs) 126 0 (fl_args (am_mxl (pw_P L xs) 126) [lx_x, .inl a, .inl b]) [] (f, l) (t2_End L xs 273 [at_this, .inl a, .inl b]) := by
  have I : c0_I f f := hg.2.1
  have c0 : (0 : Int32).toInt = 0 := rfl
  have c1 : (1 : Int32).toInt = 1 := by decide +kernel
  have c2 : (2 : Int32).toInt = 2 := by decide +kernel
  have c3 : (3 : Int32).toInt = 3 := by decide +kernel
  have c4 : (4 : Int32).toInt = 4 := by decide +kernel
  have e5 : f 1 5 = f 280 2 := I.1.1.1
  have e9 : f 1 9 = f 280 5 := I.1.2.1.1
  have cn := I.cnt
  obtain ⟨n, hn⟩ : ∃ n : Nat, (f 280 2).toInt = (n : Int) := ⟨(f 280 2).toInt.toNat, by omega⟩
  have n16 : n ≤ 16 := by omega
  have ba : 0 ≤ a.toInt ∧ a.toInt ≤ 3 → (a * (4 : Int32)).toInt = a.toInt * 4 ∧ ((4 : Int32) * a).toInt = a.toInt * 4 := fun h => by
    refine ⟨by rw [at_mul32 (by rw [c4]; omega) (by rw [c4]; omega), c4], ?_⟩
    rw [at_mul32 (by rw [c4]; omega) (by rw [c4]; omega), c4]
    omega
  have bb : 0 ≤ a.toInt ∧ a.toInt ≤ 3 → (a * (4 : Int32) + (4 : Int32)).toInt = a.toInt * 4 + 4 ∧ ((4 : Int32) * a + (4 : Int32)).toInt = a.toInt * 4 + 4 := fun h => by
    obtain ⟨h1, h2⟩ := ba h
    exact ⟨by rw [at_add32 (by rw [h1, c4]; omega) (by rw [h1, c4]; omega), h1, c4], by rw [at_add32 (by rw [h2, c4]; omega) (by rw [h2, c4]; omega), h2, c4]⟩
  by_cases V : ((0 ≤ a.toInt ∧ a.toInt ≤ 3) ∧ (0 ≤ b.toInt ∧ b.toInt ≤ 3)) ∧ a.toInt * 4 < (n : Int)
  case neg =>
    refine t2_qq (y := (-1000000000 : Int32)) hg (fun Q k => ?_) (fun Q k => ?_)
    · show fl_Tq (pw_P L xs) 126 0 [some (.inr (.inr (.inl (0, 0)))), some (.inl a), some (.inl b), none, none] [] (f, l) Q
      refine x_mod_A (fun _ => k) (fun _ _ => k) (fun h1 h2 h3 => absurd ?_ V) (fun _ _ _ => k)
      rw [t2_w0, Classical.not_not, c0, c3] at h1
      rw [t2_w0, Classical.not_not, c0, c3] at h2
      rw [(ba h1).1, t2_min_i, (bb h1).1, e5, hn] at h3
      exact ⟨⟨h1, h2⟩, by omega⟩
    · show fl_Tq (pw_P L xs) 273 0 [some (.inr (.inr (.inl (76, 277)))), some (.inl a), some (.inl b), none, none, none, none, none, none] [] (f, l) Q
      refine y_mod_A (fun _ => k) (fun _ _ _ => k) (fun h1 h2 h3 => absurd ?_ V) (fun _ _ => k)
      rw [r_i0, Classical.not_not, c0, c3] at h1
      rw [r_i0, Classical.not_not, c0, c3] at h3
      rw [(ba h1).2, hn] at h2
      exact ⟨⟨h1, h3⟩, h2⟩
  obtain ⟨⟨va, vb⟩, vn⟩ := V
  obtain ⟨A, hA⟩ : ∃ A : Nat, a.toInt = (A : Int) := ⟨a.toInt.toNat, by omega⟩
  obtain ⟨T, hT⟩ : ∃ T : Nat, T = min (4 * A + 4) n := ⟨_, rfl⟩
  obtain ⟨K, hK⟩ : ∃ K : Nat, T = 4 * A + K ∧ 1 ≤ K ∧ K ≤ 4 := ⟨T - 4 * A, by omega⟩
  have eF : a * (4 : Int32) = Int32.ofNat (4 * A) := Int32.toInt.inj (by rw [(ba va).1, at_ofN (by omega)]; omega)
  have eF2 : (4 : Int32) * a = Int32.ofNat (4 * A) := Int32.toInt.inj (by rw [(ba va).2, at_ofN (by omega)]; omega)
  have eT : t2_min_v (a * (4 : Int32) + (4 : Int32)) (f 1 5) = Int32.ofNat T := Int32.toInt.inj (by rw [t2_min_i, (bb va).1, e5, hn, at_ofN (by omega)]; omega)
  have iT : (Int32.ofNat T).toInt = T := at_ofN (by omega)
  have iF : (Int32.ofNat (4 * A)).toInt = ((4 * A : Nat) : Int) := at_ofN (by omega)
  have iC : ∀ i : Nat, i ≤ 4 → (Int32.ofNat (4 * A + i)).toInt = ((4 * A + i : Nat) : Int) := fun i hi => at_ofN (by omega)
  have wm : ∀ i : Nat, i < K → -400 ≤ (f 280 (444 + 61 * (4 * A + i) + 3)).toInt := fun i hi => (I.cell (C := 4 * A + i) (by omega)).2.2.2.2.2.2.2.1.2.1
  refine t2_qq (y := (if b.toInt = 0 then md_v f A K else (if b.toInt = (1 : Int32).toInt then md_u f A K else (if b.toInt = (2 : Int32).toInt then md_t f A K - md_s f A K else Int32.ofNat K)))) hg (fun Q k => ?_) (fun Q k => ?_)
  · show fl_Tq (pw_P L xs) 126 0 [some (.inr (.inr (.inl (0, 0)))), some (.inl a), some (.inl b), none, none] [] (f, l) Q
    refine x_mod_A (fun h => absurd ?_ (t2_w0.mp h)) (fun _ h => absurd ?_ (t2_w0.mp h)) (fun _ _ _ => ?_) (fun _ _ h => absurd ?_ h)
    · rw [c0, c3]; exact va
    · rw [c0, c3]; exact vb
    case refine_4 =>
      rw [eT, eF, iT, iF]
      omega
    rw [eT, eF]
    have fin : ∀ z : Int32, z = (if b.toInt = 0 then md_v f A K else (if b.toInt = (1 : Int32).toInt then md_u f A K else (if b.toInt = (2 : Int32).toInt then md_t f A K - md_s f A K else Int32.ofNat K))) → fl_Tq (pw_P L xs) 126 62 [some (.inr (.inr (.inl (0, 0)))), some (.inl a), some (.inl b), some (.inl (Int32.ofNat (4 * A))), some (.inl (Int32.ofNat T))] [.inl z] (f, l) Q := fun z hz => by
      refine fl_Tq.fg (x_mod_B (a := a) (b := b) (z := z) ?_) ⟨rfl, rfl, rfl, trivial⟩
      rw [hz]
      exact k
    refine fl_Tq.cal rfl rfl (fl_bo rfl) rfl ?_
    show fl_Tq (pw_P L xs) 74 0 [some (.inr (.inr (.inl (1, 1)))), some (.inl (Int32.ofNat (4 * A))), some (.inl (Int32.ofNat T)), some (.inl b), none, none, none] [] (f, l) _
    refine x_tm_A ?_
    refine t2_for (n := K) (S := fun j => fl_Tq (pw_P L xs) 74 11 [some (.inr (.inr (.inl (1, 1)))), some (.inl (Int32.ofNat (4 * A))), some (.inl (Int32.ofNat T)), some (.inl b), some (.inl (md_v f A j)), some (.inl (md_y f A j)), some (.inl (Int32.ofNat (4 * A + j)))] [] (f, l) _) (fun j hj hS => ?_) ?_
    · have ic := iC j (by omega)
      obtain ⟨⟨rc, -⟩, oc⟩ := I.cell (C := 4 * A + j) (by omega)
      refine x_tm_B (C := 4 * A + j) (by omega) (by rw [ic, iT]; omega) ?_
      have ev : c0_voltsAt_v f (4 * A + j) (f 1 9) = r_voltsOf_v f (Int32.ofNat (4 * A + j)) (4 * A + j) := by
        rw [e9]
        exact c0_volts_eq rc (I.far (by omega))
      have ew : f (18 + 4 * (4 * A + j)) 6 = f 280 (444 + 61 * (4 * A + j) + 3) := rc.2.2.1.2.1
      have ey : (if (Int32.ofNat (4 * A + j)).toInt = (Int32.ofNat (4 * A)).toInt then f (18 + 4 * (4 * A + j)) 6 else t2_max_v (md_y f A j) (f (18 + 4 * (4 * A + j)) 6)) = md_y f A (j + 1) := by
        show _ = (if j = 0 then f 280 (444 + 61 * (4 * A + j) + 3) else t2_max_v (md_y f A j) (f 280 (444 + 61 * (4 * A + j) + 3)))
        rw [ew, ic, iF]
        by_cases e : j = 0
        · rw [if_pos e, if_pos (by omega)]
        · rw [if_neg e, if_neg (by omega)]
      rw [ev, ey, t2_k1]
      exact hS
    · have ic := iC K (by omega)
      obtain ⟨m1, m2⟩ := md_ms (f := f) (A := A) K
      have yu : md_y f A K = md_u f A K := by
        obtain ⟨k', rfl⟩ : ∃ k', K = k' + 1 := ⟨K - 1, by omega⟩
        exact md_yu (fun i hi => wm i hi)
      refine x_tm_C (C := 4 * A + K) (by rw [ic, iT]; omega) (fun h => fin _ ?_) (fun h h1 => fin _ ?_) (fun h h1 h2 => ?_) (fun h h1 h2 h3 => fin _ ?_) (fun h h1 h2 h3 => absurd (by omega) h3)
      · rw [if_pos h]
      · rw [if_neg h, if_pos (by rw [c1]; exact h1), yu]
      · refine fl_Tq.cal rfl rfl (fl_bo rfl) rfl ?_
        show fl_Tq (pw_P L xs) 41 0 [some (.inr (.inr (.inl (1, 1)))), some (.inl (Int32.ofNat (4 * A))), some (.inl (Int32.ofNat T)), none, none, none] [] (f, l) _
        refine x_sp_A ?_
        refine t2_for (n := K) (S := fun j => fl_Tq (pw_P L xs) 41 10 [some (.inr (.inr (.inl (1, 1)))), some (.inl (Int32.ofNat (4 * A))), some (.inl (Int32.ofNat T)), some (.inl (md_z f A j)), some (.inl (md_m f A j)), some (.inl (Int32.ofNat (4 * A + j)))] [] (f, l) _) (fun j hj hS => ?_) ?_
        · have ic := iC j (by omega)
          obtain ⟨⟨rc, -⟩, oc⟩ := I.cell (C := 4 * A + j) (by omega)
          refine x_sp_B (C := 4 * A + j) (by omega) (by rw [ic, iT]; omega) ?_
          have ep : f (18 + 4 * (4 * A + j)) 3 = r_partOf_v f 0 (4 * A + j) := rc.2.1.1
          rw [ep, t2_k1]
          exact hS
        · refine x_sp_C (C := 4 * A + K) (by rw [ic, iT]; omega) ?_
          refine x_tm_D ?_
          refine fin _ ?_
          rw [if_neg h, if_neg (by rw [c1]; exact h1), if_pos (by rw [c2]; exact h2), m1, m2]
      · rw [if_neg h, if_neg (by rw [c1]; exact h1), if_neg (by rw [c2]; exact h2)]
        apply Int32.toInt.inj
        rw [at_sub32 (by rw [iT, iF]; omega) (by rw [iT, iF]; omega), iT, iF, at_ofN (by omega)]
        omega
  · show fl_Tq (pw_P L xs) 273 0 [some (.inr (.inr (.inl (76, 277)))), some (.inl a), some (.inl b), none, none, none, none, none, none] [] (f, l) Q
    refine y_mod_A (fun h => absurd ?_ (r_i0.mp h)) (fun _ _ h => absurd ?_ (r_i0.mp h)) (fun _ _ _ => ?_) (fun _ h => absurd ?_ h)
    · rw [c0, c3]; exact va
    · rw [c0, c3]; exact vb
    case refine_4 =>
      rw [eF2, iF, hn]
      omega
    rw [eF2]
    refine t2_for (n := K) (S := fun j => fl_Tq (pw_P L xs) 273 56 [some (.inr (.inr (.inl (76, 277)))), some (.inl a), some (.inl b), some (.inl (md_v f A j)), some (.inl (md_u f A j)), some (.inl (md_t f A j)), some (.inl (md_s f A j)), some (.inl (Int32.ofNat j)), some (.inl (Int32.ofNat (4 * A + j)))] [] (f, l) Q) (fun j hj hS => ?_) ?_
    · have ic := iC j (by omega)
      refine y_mod_B (C := 4 * A + j) (by omega) (by omega) (by rw [ic, (bb va).2]; omega) (by rw [ic, hn]; omega) (t2_Good.RS hg.1) (I.rhu.2 _ (by omega)) ?_
      rw [t2_k1, t2_k1]
      exact hS
    · have ic := iC K (by omega)
      by_cases e : K = 4
      · exact y_mod_C (C := 4 * A + K) (by rw [ic, (bb va).2]; omega) k
      · exact y_mod_D (C := 4 * A + K) (by rw [ic, (bb va).2]; omega) (by rw [ic, hn]; omega) k

end

/-! 95.10.lawx.lean.txt -/
section
/-! ===== printed by wip/gen/lawgen3.py: contracts, codes that are wanting ===== -/
set_option maxRecDepth 1000000 in
theorem lx_l116 : am_cl nw_P0 0 (.invokevirtual 116) = some (273, 3) := by decide +kernel

end

/-! 95.11.lawcase.lean.txt -/
section
/-! ===== printed by wip/gen/lawgen3.py: the law's cases ===== -/
theorem ly_c0 {L : Nat} {xs : Nat → Int32} {m : fl_M} {Q : Option fl_V → fl_M → Prop} {i : Nat} (hall : ∀ c ∈ at_CM ++ at_CA, at_Valid at_XI (pw_P L xs) c) (hL : L ≤ 3072) (hi : i + 6 ≤ L) (hg : t2_Z m) (kk : ∀ m' : fl_M, t2_Z m' → fl_Tq (pw_P L xs) 0 2030 (lx_lv i) [] m' Q) : fl_Tq (pw_P L xs) 0 320 (lx_lv i) [] m Q := by
  obtain ⟨f, l⟩ := m
  refine fl_Tq.stp (pw_cod lx_k320) rfl (fl_bo rfl) rfl ?_
  refine lx_arg (i := i) (jn := 1) (pw_cod lx_k321) (pw_cod lx_k322) (pw_cod lx_k323) (pw_cod lx_k324) (pw_cod lx_k325) rfl (fl_bo rfl) hL (by omega) ?_
  refine lx_arg (i := i) (jn := 2) (pw_cod lx_k326) (pw_cod lx_k327) (pw_cod lx_k328) (pw_cod lx_k329) (pw_cod lx_k330) rfl (fl_bo rfl) hL (by omega) ?_
  refine lx_arg (i := i) (jn := 3) (pw_cod lx_k331) (pw_cod lx_k332) (pw_cod lx_k333) (pw_cod lx_k334) (pw_cod lx_k335) rfl (fl_bo rfl) hL (by omega) ?_
  refine lx_callG (as_ := [lx_x, .inl (xs (i + 1)), .inl (xs (i + 2)), .inl (xs (i + 3))]) (rest := []) (pw_cod lx_k336) (pw_cll lx_l13) rfl (fl_bo rfl) rfl rfl (t2_step (ar := [at_this, .inl (xs (i + 1)), .inl (xs (i + 2)), .inl (xs (i + 3))]) (hall _ at_c101_in) (hall _ at_c243_in) rfl rfl hg ⟨lx_kx _, lx_ki _, lx_ki _, lx_ki _, True.intro⟩ rfl (fun _ => ⟨at_k277 _, lx_ki _, lx_ki _, lx_ki _, True.intro⟩) rfl (t2_cell hg)) (fun v1 m1 hg1 => ?_)
  obtain ⟨⟨y1, rfl⟩, hg1⟩ := hg1
  refine fl_Tq.stp (pw_cod lx_k339) rfl (fl_bo rfl) rfl ?_
  refine fl_Tq.stp (pw_cod lx_k340) rfl (fl_bo rfl) rfl ?_
  refine lx_arg (i := i) (jn := 1) (pw_cod lx_k341) (pw_cod lx_k342) (pw_cod lx_k343) (pw_cod lx_k344) (pw_cod lx_k345) rfl (fl_bo rfl) hL (by omega) ?_
  refine lx_arg (i := i) (jn := 2) (pw_cod lx_k346) (pw_cod lx_k347) (pw_cod lx_k348) (pw_cod lx_k349) (pw_cod lx_k350) rfl (fl_bo rfl) hL (by omega) ?_
  refine lx_arg (i := i) (jn := 3) (pw_cod lx_k351) (pw_cod lx_k352) (pw_cod lx_k353) (pw_cod lx_k354) (pw_cod lx_k355) rfl (fl_bo rfl) hL (by omega) ?_
  refine lx_callG (as_ := [at_this, .inl (xs (i + 1)), .inl (xs (i + 2)), .inl (xs (i + 3))]) (rest := []) (pw_cod lx_k356) (pw_cll lx_l17) rfl (fl_bo rfl) rfl rfl hg1 (fun v2 m2 hg2 => ?_)
  obtain ⟨rfl, hg2⟩ := hg2
  refine fl_Tq.stp (pw_cod lx_k359) rfl (fl_bo rfl) rfl ?_
  refine fl_Tq.stp (pw_cod lx_k360) rfl (fl_bo rfl) rfl ?_
  exact kk m2 hg2
theorem ly_c1 {L : Nat} {xs : Nat → Int32} {m : fl_M} {Q : Option fl_V → fl_M → Prop} {i : Nat} (hall : ∀ c ∈ at_CM ++ at_CA, at_Valid at_XI (pw_P L xs) c) (hL : L ≤ 3072) (hi : i + 6 ≤ L) (hg : t2_Z m) (kk : ∀ m' : fl_M, t2_Z m' → fl_Tq (pw_P L xs) 0 2030 (lx_lv i) [] m' Q) : fl_Tq (pw_P L xs) 0 363 (lx_lv i) [] m Q := by
  obtain ⟨f, l⟩ := m
  refine fl_Tq.stp (pw_cod lx_k363) rfl (fl_bo rfl) rfl ?_
  refine lx_arg (i := i) (jn := 1) (pw_cod lx_k364) (pw_cod lx_k365) (pw_cod lx_k366) (pw_cod lx_k367) (pw_cod lx_k368) rfl (fl_bo rfl) hL (by omega) ?_
  refine lx_arg (i := i) (jn := 2) (pw_cod lx_k369) (pw_cod lx_k370) (pw_cod lx_k371) (pw_cod lx_k372) (pw_cod lx_k373) rfl (fl_bo rfl) hL (by omega) ?_
  refine lx_callG (as_ := [lx_x, .inl (xs (i + 1)), .inl (xs (i + 2))]) (rest := []) (pw_cod lx_k374) (pw_cll lx_l18) rfl (fl_bo rfl) rfl rfl (t2_step (ar := [at_this, .inl (xs (i + 1)), .inl (xs (i + 2))]) (hall _ at_c102_in) (hall _ at_c244_in) rfl rfl hg ⟨lx_kx _, lx_ki _, lx_ki _, True.intro⟩ rfl (fun _ => ⟨at_k277 _, lx_ki _, lx_ki _, True.intro⟩) rfl (t2_charge hg)) (fun v1 m1 hg1 => ?_)
  obtain ⟨⟨y1, rfl⟩, hg1⟩ := hg1
  refine fl_Tq.stp (pw_cod lx_k377) rfl (fl_bo rfl) rfl ?_
  refine fl_Tq.stp (pw_cod lx_k378) rfl (fl_bo rfl) rfl ?_
  refine lx_arg (i := i) (jn := 1) (pw_cod lx_k379) (pw_cod lx_k380) (pw_cod lx_k381) (pw_cod lx_k382) (pw_cod lx_k383) rfl (fl_bo rfl) hL (by omega) ?_
  refine lx_arg (i := i) (jn := 2) (pw_cod lx_k384) (pw_cod lx_k385) (pw_cod lx_k386) (pw_cod lx_k387) (pw_cod lx_k388) rfl (fl_bo rfl) hL (by omega) ?_
  refine lx_callG (as_ := [at_this, .inl (xs (i + 1)), .inl (xs (i + 2))]) (rest := []) (pw_cod lx_k389) (pw_cll lx_l22) rfl (fl_bo rfl) rfl rfl hg1 (fun v2 m2 hg2 => ?_)
  obtain ⟨rfl, hg2⟩ := hg2
  refine fl_Tq.stp (pw_cod lx_k392) rfl (fl_bo rfl) rfl ?_
  refine fl_Tq.stp (pw_cod lx_k393) rfl (fl_bo rfl) rfl ?_
  exact kk m2 hg2
theorem ly_c2 {L : Nat} {xs : Nat → Int32} {m : fl_M} {Q : Option fl_V → fl_M → Prop} {i : Nat} (hall : ∀ c ∈ at_CM ++ at_CA, at_Valid at_XI (pw_P L xs) c) (hL : L ≤ 3072) (hi : i + 6 ≤ L) (hg : t2_Z m) (kk : ∀ m' : fl_M, t2_Z m' → fl_Tq (pw_P L xs) 0 2030 (lx_lv i) [] m' Q) : fl_Tq (pw_P L xs) 0 396 (lx_lv i) [] m Q := by
  obtain ⟨f, l⟩ := m
  refine fl_Tq.stp (pw_cod lx_k396) rfl (fl_bo rfl) rfl ?_
  refine lx_arg (i := i) (jn := 1) (pw_cod lx_k397) (pw_cod lx_k398) (pw_cod lx_k399) (pw_cod lx_k400) (pw_cod lx_k401) rfl (fl_bo rfl) hL (by omega) ?_
  refine lx_arg (i := i) (jn := 2) (pw_cod lx_k402) (pw_cod lx_k403) (pw_cod lx_k404) (pw_cod lx_k405) (pw_cod lx_k406) rfl (fl_bo rfl) hL (by omega) ?_
  refine lx_callG (as_ := [lx_x, .inl (xs (i + 1)), .inl (xs (i + 2))]) (rest := []) (pw_cod lx_k407) (pw_cll lx_l23) rfl (fl_bo rfl) rfl rfl (t2_step (ar := [at_this, .inl (xs (i + 1)), .inl (xs (i + 2))]) (hall _ at_c103_in) (hall _ at_c245_in) rfl rfl hg ⟨lx_kx _, lx_ki _, lx_ki _, True.intro⟩ rfl (fun _ => ⟨at_k277 _, lx_ki _, lx_ki _, True.intro⟩) rfl (t2_warm hg)) (fun v1 m1 hg1 => ?_)
  obtain ⟨⟨y1, rfl⟩, hg1⟩ := hg1
  refine fl_Tq.stp (pw_cod lx_k410) rfl (fl_bo rfl) rfl ?_
  refine fl_Tq.stp (pw_cod lx_k411) rfl (fl_bo rfl) rfl ?_
  refine lx_arg (i := i) (jn := 1) (pw_cod lx_k412) (pw_cod lx_k413) (pw_cod lx_k414) (pw_cod lx_k415) (pw_cod lx_k416) rfl (fl_bo rfl) hL (by omega) ?_
  refine lx_arg (i := i) (jn := 2) (pw_cod lx_k417) (pw_cod lx_k418) (pw_cod lx_k419) (pw_cod lx_k420) (pw_cod lx_k421) rfl (fl_bo rfl) hL (by omega) ?_
  refine lx_callG (as_ := [at_this, .inl (xs (i + 1)), .inl (xs (i + 2))]) (rest := []) (pw_cod lx_k422) (pw_cll lx_l26) rfl (fl_bo rfl) rfl rfl hg1 (fun v2 m2 hg2 => ?_)
  obtain ⟨rfl, hg2⟩ := hg2
  refine fl_Tq.stp (pw_cod lx_k425) rfl (fl_bo rfl) rfl ?_
  refine fl_Tq.stp (pw_cod lx_k426) rfl (fl_bo rfl) rfl ?_
  exact kk m2 hg2
theorem ly_c3 {L : Nat} {xs : Nat → Int32} {m : fl_M} {Q : Option fl_V → fl_M → Prop} {i : Nat} (hall : ∀ c ∈ at_CM ++ at_CA, at_Valid at_XI (pw_P L xs) c) (hL : L ≤ 3072) (hi : i + 6 ≤ L) (hg : t2_Z m) (kk : ∀ m' : fl_M, t2_Z m' → fl_Tq (pw_P L xs) 0 2030 (lx_lv i) [] m' Q) : fl_Tq (pw_P L xs) 0 429 (lx_lv i) [] m Q := by
  obtain ⟨f, l⟩ := m
  refine fl_Tq.stp (pw_cod lx_k429) rfl (fl_bo rfl) rfl ?_
  refine lx_arg (i := i) (jn := 1) (pw_cod lx_k430) (pw_cod lx_k431) (pw_cod lx_k432) (pw_cod lx_k433) (pw_cod lx_k434) rfl (fl_bo rfl) hL (by omega) ?_
  refine lx_arg (i := i) (jn := 2) (pw_cod lx_k435) (pw_cod lx_k436) (pw_cod lx_k437) (pw_cod lx_k438) (pw_cod lx_k439) rfl (fl_bo rfl) hL (by omega) ?_
  refine lx_callG (as_ := [lx_x, .inl (xs (i + 1)), .inl (xs (i + 2))]) (rest := []) (pw_cod lx_k440) (pw_cll lx_l27) rfl (fl_bo rfl) rfl rfl (t2_step (ar := [at_this, .inl (xs (i + 1)), .inl (xs (i + 2))]) (hall _ at_c104_in) (hall _ at_c247_in) rfl rfl hg ⟨lx_kx _, lx_ki _, lx_ki _, True.intro⟩ rfl (fun _ => ⟨at_k277 _, lx_ki _, lx_ki _, True.intro⟩) rfl (t2_set hg)) (fun v1 m1 hg1 => ?_)
  obtain ⟨⟨y1, rfl⟩, hg1⟩ := hg1
  refine fl_Tq.stp (pw_cod lx_k443) rfl (fl_bo rfl) rfl ?_
  refine fl_Tq.stp (pw_cod lx_k444) rfl (fl_bo rfl) rfl ?_
  refine lx_arg (i := i) (jn := 1) (pw_cod lx_k445) (pw_cod lx_k446) (pw_cod lx_k447) (pw_cod lx_k448) (pw_cod lx_k449) rfl (fl_bo rfl) hL (by omega) ?_
  refine lx_arg (i := i) (jn := 2) (pw_cod lx_k450) (pw_cod lx_k451) (pw_cod lx_k452) (pw_cod lx_k453) (pw_cod lx_k454) rfl (fl_bo rfl) hL (by omega) ?_
  refine lx_callG (as_ := [at_this, .inl (xs (i + 1)), .inl (xs (i + 2))]) (rest := []) (pw_cod lx_k455) (pw_cll lx_l30) rfl (fl_bo rfl) rfl rfl hg1 (fun v2 m2 hg2 => ?_)
  obtain ⟨rfl, hg2⟩ := hg2
  refine fl_Tq.stp (pw_cod lx_k458) rfl (fl_bo rfl) rfl ?_
  refine fl_Tq.stp (pw_cod lx_k459) rfl (fl_bo rfl) rfl ?_
  exact kk m2 hg2
theorem ly_c4 {L : Nat} {xs : Nat → Int32} {m : fl_M} {Q : Option fl_V → fl_M → Prop} {i : Nat} (hall : ∀ c ∈ at_CM ++ at_CA, at_Valid at_XI (pw_P L xs) c) (hL : L ≤ 3072) (hi : i + 6 ≤ L) (hg : t2_Z m) (kk : ∀ m' : fl_M, t2_Z m' → fl_Tq (pw_P L xs) 0 2030 (lx_lv i) [] m' Q) : fl_Tq (pw_P L xs) 0 462 (lx_lv i) [] m Q := by
  obtain ⟨f, l⟩ := m
  refine fl_Tq.stp (pw_cod lx_k462) rfl (fl_bo rfl) rfl ?_
  refine lx_arg (i := i) (jn := 1) (pw_cod lx_k463) (pw_cod lx_k464) (pw_cod lx_k465) (pw_cod lx_k466) (pw_cod lx_k467) rfl (fl_bo rfl) hL (by omega) ?_
  refine lx_callG (as_ := [lx_x, .inl (xs (i + 1))]) (rest := []) (pw_cod lx_k468) (pw_cll lx_l31) rfl (fl_bo rfl) rfl rfl (t2_stepG (ar := [at_this, .inl (xs (i + 1))]) (hall _ at_c105_in) (hall _ at_c250_in) rfl rfl hg ⟨lx_kx _, lx_ki _, True.intro⟩ rfl (fun _ => ⟨at_k277 _, lx_ki _, True.intro⟩) rfl (t2_run hall hg)) (fun v1 m1 hg1 => ?_)
  obtain ⟨⟨y1, rfl⟩, hg1⟩ := hg1
  refine fl_Tq.stp (pw_cod lx_k471) rfl (fl_bo rfl) rfl ?_
  refine fl_Tq.stp (pw_cod lx_k472) rfl (fl_bo rfl) rfl ?_
  refine lx_arg (i := i) (jn := 1) (pw_cod lx_k473) (pw_cod lx_k474) (pw_cod lx_k475) (pw_cod lx_k476) (pw_cod lx_k477) rfl (fl_bo rfl) hL (by omega) ?_
  refine lx_callG (as_ := [at_this, .inl (xs (i + 1))]) (rest := []) (pw_cod lx_k478) (pw_cll lx_l35) rfl (fl_bo rfl) rfl rfl hg1 (fun v2 m2 hg2 => ?_)
  obtain ⟨rfl, hg2⟩ := hg2
  refine fl_Tq.stp (pw_cod lx_k481) rfl (fl_bo rfl) rfl ?_
  refine fl_Tq.stp (pw_cod lx_k482) rfl (fl_bo rfl) rfl ?_
  exact kk m2 hg2
theorem ly_c5 {L : Nat} {xs : Nat → Int32} {m : fl_M} {Q : Option fl_V → fl_M → Prop} {i : Nat} (hall : ∀ c ∈ at_CM ++ at_CA, at_Valid at_XI (pw_P L xs) c) (hL : L ≤ 3072) (hi : i + 6 ≤ L) (hg : t2_Z m) (kk : ∀ m' : fl_M, t2_Z m' → fl_Tq (pw_P L xs) 0 2030 (lx_lv i) [] m' Q) : fl_Tq (pw_P L xs) 0 485 (lx_lv i) [] m Q := by
  obtain ⟨f, l⟩ := m
  refine fl_Tq.stp (pw_cod lx_k485) rfl (fl_bo rfl) rfl ?_
  refine lx_callG (as_ := [lx_x]) (rest := []) (pw_cod lx_k486) (pw_cll lx_l36) rfl (fl_bo rfl) rfl rfl (t2_step (ar := [at_this]) (hall _ at_c106_in) (hall _ at_c251_in) rfl rfl hg ⟨lx_kx _, True.intro⟩ rfl (fun _ => ⟨at_k277 _, True.intro⟩) rfl (t2_close hg)) (fun v1 m1 hg1 => ?_)
  obtain ⟨⟨y1, rfl⟩, hg1⟩ := hg1
  refine fl_Tq.stp (pw_cod lx_k489) rfl (fl_bo rfl) rfl ?_
  refine fl_Tq.stp (pw_cod lx_k490) rfl (fl_bo rfl) rfl ?_
  refine lx_callG (as_ := [at_this]) (rest := []) (pw_cod lx_k491) (pw_cll lx_l40) rfl (fl_bo rfl) rfl rfl hg1 (fun v2 m2 hg2 => ?_)
  obtain ⟨rfl, hg2⟩ := hg2
  refine fl_Tq.stp (pw_cod lx_k494) rfl (fl_bo rfl) rfl ?_
  refine fl_Tq.stp (pw_cod lx_k495) rfl (fl_bo rfl) rfl ?_
  exact kk m2 hg2
theorem ly_c6 {L : Nat} {xs : Nat → Int32} {m : fl_M} {Q : Option fl_V → fl_M → Prop} {i : Nat} (hall : ∀ c ∈ at_CM ++ at_CA, at_Valid at_XI (pw_P L xs) c) (hL : L ≤ 3072) (hi : i + 6 ≤ L) (hg : t2_Z m) (kk : ∀ m' : fl_M, t2_Z m' → fl_Tq (pw_P L xs) 0 2030 (lx_lv i) [] m' Q) : fl_Tq (pw_P L xs) 0 498 (lx_lv i) [] m Q := by
  obtain ⟨f, l⟩ := m
  refine fl_Tq.stp (pw_cod lx_k498) rfl (fl_bo rfl) rfl ?_
  refine lx_callG (as_ := [lx_x]) (rest := []) (pw_cod lx_k499) (pw_cll lx_l41) rfl (fl_bo rfl) rfl rfl (t2_step (ar := [at_this]) (hall _ at_c107_in) (hall _ at_c252_in) rfl rfl hg ⟨lx_kx _, True.intro⟩ rfl (fun _ => ⟨at_k277 _, True.intro⟩) rfl (t2_open hg)) (fun v1 m1 hg1 => ?_)
  obtain ⟨⟨y1, rfl⟩, hg1⟩ := hg1
  refine fl_Tq.stp (pw_cod lx_k502) rfl (fl_bo rfl) rfl ?_
  refine fl_Tq.stp (pw_cod lx_k503) rfl (fl_bo rfl) rfl ?_
  refine lx_callG (as_ := [at_this]) (rest := []) (pw_cod lx_k504) (pw_cll lx_l44) rfl (fl_bo rfl) rfl rfl hg1 (fun v2 m2 hg2 => ?_)
  obtain ⟨rfl, hg2⟩ := hg2
  refine fl_Tq.stp (pw_cod lx_k507) rfl (fl_bo rfl) rfl ?_
  refine fl_Tq.stp (pw_cod lx_k508) rfl (fl_bo rfl) rfl ?_
  exact kk m2 hg2
theorem ly_c7 {L : Nat} {xs : Nat → Int32} {m : fl_M} {Q : Option fl_V → fl_M → Prop} {i : Nat} (hall : ∀ c ∈ at_CM ++ at_CA, at_Valid at_XI (pw_P L xs) c) (hL : L ≤ 3072) (hi : i + 6 ≤ L) (hg : t2_Z m) (kk : ∀ m' : fl_M, t2_Z m' → fl_Tq (pw_P L xs) 0 2030 (lx_lv i) [] m' Q) : fl_Tq (pw_P L xs) 0 511 (lx_lv i) [] m Q := by
  obtain ⟨f, l⟩ := m
  refine fl_Tq.stp (pw_cod lx_k511) rfl (fl_bo rfl) rfl ?_
  refine lx_arg (i := i) (jn := 1) (pw_cod lx_k512) (pw_cod lx_k513) (pw_cod lx_k514) (pw_cod lx_k515) (pw_cod lx_k516) rfl (fl_bo rfl) hL (by omega) ?_
  refine lx_callG (as_ := [lx_x, .inl (xs (i + 1))]) (rest := []) (pw_cod lx_k517) (pw_cll lx_l45) rfl (fl_bo rfl) rfl rfl (t2_step (ar := [at_this, .inl (xs (i + 1))]) (hall _ at_c108_in) (hall _ at_c254_in) rfl rfl hg ⟨lx_kx _, lx_ki _, True.intro⟩ rfl (fun _ => ⟨at_k277 _, lx_ki _, True.intro⟩) rfl (t2_reset hg)) (fun v1 m1 hg1 => ?_)
  obtain ⟨⟨y1, rfl⟩, hg1⟩ := hg1
  refine fl_Tq.stp (pw_cod lx_k520) rfl (fl_bo rfl) rfl ?_
  refine fl_Tq.stp (pw_cod lx_k521) rfl (fl_bo rfl) rfl ?_
  refine lx_arg (i := i) (jn := 1) (pw_cod lx_k522) (pw_cod lx_k523) (pw_cod lx_k524) (pw_cod lx_k525) (pw_cod lx_k526) rfl (fl_bo rfl) hL (by omega) ?_
  refine lx_callG (as_ := [at_this, .inl (xs (i + 1))]) (rest := []) (pw_cod lx_k527) (pw_cll lx_l49) rfl (fl_bo rfl) rfl rfl hg1 (fun v2 m2 hg2 => ?_)
  obtain ⟨rfl, hg2⟩ := hg2
  refine fl_Tq.stp (pw_cod lx_k530) rfl (fl_bo rfl) rfl ?_
  refine fl_Tq.stp (pw_cod lx_k531) rfl (fl_bo rfl) rfl ?_
  exact kk m2 hg2
theorem ly_c8 {L : Nat} {xs : Nat → Int32} {m : fl_M} {Q : Option fl_V → fl_M → Prop} {i : Nat} (hall : ∀ c ∈ at_CM ++ at_CA, at_Valid at_XI (pw_P L xs) c) (hL : L ≤ 3072) (hi : i + 6 ≤ L) (hg : t2_Z m) (kk : ∀ m' : fl_M, t2_Z m' → fl_Tq (pw_P L xs) 0 2030 (lx_lv i) [] m' Q) : fl_Tq (pw_P L xs) 0 534 (lx_lv i) [] m Q := by
  obtain ⟨f, l⟩ := m
  refine fl_Tq.stp (pw_cod lx_k534) rfl (fl_bo rfl) rfl ?_
  refine lx_arg (i := i) (jn := 1) (pw_cod lx_k535) (pw_cod lx_k536) (pw_cod lx_k537) (pw_cod lx_k538) (pw_cod lx_k539) rfl (fl_bo rfl) hL (by omega) ?_
  refine lx_arg (i := i) (jn := 2) (pw_cod lx_k540) (pw_cod lx_k541) (pw_cod lx_k542) (pw_cod lx_k543) (pw_cod lx_k544) rfl (fl_bo rfl) hL (by omega) ?_
  refine lx_callG (as_ := [lx_x, .inl (xs (i + 1)), .inl (xs (i + 2))]) (rest := []) (pw_cod lx_k545) (pw_cll lx_l50) rfl (fl_bo rfl) rfl rfl (t2_step (ar := [at_this, .inl (xs (i + 1)), .inl (xs (i + 2))]) (hall _ at_c109_in) (hall _ at_c258_in) rfl rfl hg ⟨lx_kx _, lx_ki _, lx_ki _, True.intro⟩ rfl (fun _ => ⟨at_k277 _, lx_ki _, lx_ki _, True.intro⟩) rfl (t2_stuck hg)) (fun v1 m1 hg1 => ?_)
  obtain ⟨⟨y1, rfl⟩, hg1⟩ := hg1
  refine fl_Tq.stp (pw_cod lx_k548) rfl (fl_bo rfl) rfl ?_
  refine fl_Tq.stp (pw_cod lx_k549) rfl (fl_bo rfl) rfl ?_
  refine lx_arg (i := i) (jn := 1) (pw_cod lx_k550) (pw_cod lx_k551) (pw_cod lx_k552) (pw_cod lx_k553) (pw_cod lx_k554) rfl (fl_bo rfl) hL (by omega) ?_
  refine lx_arg (i := i) (jn := 2) (pw_cod lx_k555) (pw_cod lx_k556) (pw_cod lx_k557) (pw_cod lx_k558) (pw_cod lx_k559) rfl (fl_bo rfl) hL (by omega) ?_
  refine lx_callG (as_ := [at_this, .inl (xs (i + 1)), .inl (xs (i + 2))]) (rest := []) (pw_cod lx_k560) (pw_cll lx_l53) rfl (fl_bo rfl) rfl rfl hg1 (fun v2 m2 hg2 => ?_)
  obtain ⟨rfl, hg2⟩ := hg2
  refine fl_Tq.stp (pw_cod lx_k563) rfl (fl_bo rfl) rfl ?_
  refine fl_Tq.stp (pw_cod lx_k564) rfl (fl_bo rfl) rfl ?_
  exact kk m2 hg2
theorem ly_c9 {L : Nat} {xs : Nat → Int32} {m : fl_M} {Q : Option fl_V → fl_M → Prop} {i : Nat} (hall : ∀ c ∈ at_CM ++ at_CA, at_Valid at_XI (pw_P L xs) c) (hL : L ≤ 3072) (hi : i + 6 ≤ L) (hg : t2_Z m) (kk : ∀ m' : fl_M, t2_Z m' → fl_Tq (pw_P L xs) 0 2030 (lx_lv i) [] m' Q) : fl_Tq (pw_P L xs) 0 567 (lx_lv i) [] m Q := by
  obtain ⟨f, l⟩ := m
  refine fl_Tq.stp (pw_cod lx_k567) rfl (fl_bo rfl) rfl ?_
  refine lx_arg (i := i) (jn := 1) (pw_cod lx_k568) (pw_cod lx_k569) (pw_cod lx_k570) (pw_cod lx_k571) (pw_cod lx_k572) rfl (fl_bo rfl) hL (by omega) ?_
  refine lx_arg (i := i) (jn := 2) (pw_cod lx_k573) (pw_cod lx_k574) (pw_cod lx_k575) (pw_cod lx_k576) (pw_cod lx_k577) rfl (fl_bo rfl) hL (by omega) ?_
  refine lx_callG (as_ := [lx_x, .inl (xs (i + 1)), .inl (xs (i + 2))]) (rest := []) (pw_cod lx_k578) (pw_cll lx_l54) rfl (fl_bo rfl) rfl rfl (t2_step (ar := [at_this, .inl (xs (i + 1)), .inl (xs (i + 2))]) (hall _ at_c110_in) (hall _ at_c259_in) rfl rfl hg ⟨lx_kx _, lx_ki _, lx_ki _, True.intro⟩ rfl (fun _ => ⟨at_k277 _, lx_ki _, lx_ki _, True.intro⟩) rfl (t2_zone hg)) (fun v1 m1 hg1 => ?_)
  obtain ⟨⟨y1, rfl⟩, hg1⟩ := hg1
  refine fl_Tq.stp (pw_cod lx_k581) rfl (fl_bo rfl) rfl ?_
  refine fl_Tq.stp (pw_cod lx_k582) rfl (fl_bo rfl) rfl ?_
  refine lx_arg (i := i) (jn := 1) (pw_cod lx_k583) (pw_cod lx_k584) (pw_cod lx_k585) (pw_cod lx_k586) (pw_cod lx_k587) rfl (fl_bo rfl) hL (by omega) ?_
  refine lx_arg (i := i) (jn := 2) (pw_cod lx_k588) (pw_cod lx_k589) (pw_cod lx_k590) (pw_cod lx_k591) (pw_cod lx_k592) rfl (fl_bo rfl) hL (by omega) ?_
  refine lx_callG (as_ := [at_this, .inl (xs (i + 1)), .inl (xs (i + 2))]) (rest := []) (pw_cod lx_k593) (pw_cll lx_l58) rfl (fl_bo rfl) rfl rfl hg1 (fun v2 m2 hg2 => ?_)
  obtain ⟨rfl, hg2⟩ := hg2
  refine fl_Tq.stp (pw_cod lx_k596) rfl (fl_bo rfl) rfl ?_
  refine fl_Tq.stp (pw_cod lx_k597) rfl (fl_bo rfl) rfl ?_
  exact kk m2 hg2
theorem ly_c10 {L : Nat} {xs : Nat → Int32} {m : fl_M} {Q : Option fl_V → fl_M → Prop} {i : Nat} (hall : ∀ c ∈ at_CM ++ at_CA, at_Valid at_XI (pw_P L xs) c) (hL : L ≤ 3072) (hi : i + 6 ≤ L) (hg : t2_Z m) (kk : ∀ m' : fl_M, t2_Z m' → fl_Tq (pw_P L xs) 0 2030 (lx_lv i) [] m' Q) : fl_Tq (pw_P L xs) 0 600 (lx_lv i) [] m Q := by
  obtain ⟨f, l⟩ := m
  refine fl_Tq.stp (pw_cod lx_k600) rfl (fl_bo rfl) rfl ?_
  refine lx_callG (as_ := [lx_x]) (rest := []) (pw_cod lx_k601) (pw_cll lx_l59) rfl (fl_bo rfl) rfl rfl (t2_step (ar := [at_this]) (hall _ at_c111_in) (hall _ at_c255_in) rfl rfl hg ⟨lx_kx _, True.intro⟩ rfl (fun _ => ⟨at_k277 _, True.intro⟩) rfl (t2_hear hg)) (fun v1 m1 hg1 => ?_)
  obtain ⟨⟨y1, rfl⟩, hg1⟩ := hg1
  refine fl_Tq.stp (pw_cod lx_k604) rfl (fl_bo rfl) rfl ?_
  refine fl_Tq.stp (pw_cod lx_k605) rfl (fl_bo rfl) rfl ?_
  refine lx_callG (as_ := [at_this]) (rest := []) (pw_cod lx_k606) (pw_cll lx_l63) rfl (fl_bo rfl) rfl rfl hg1 (fun v2 m2 hg2 => ?_)
  obtain ⟨rfl, hg2⟩ := hg2
  refine fl_Tq.stp (pw_cod lx_k609) rfl (fl_bo rfl) rfl ?_
  refine fl_Tq.stp (pw_cod lx_k610) rfl (fl_bo rfl) rfl ?_
  exact kk m2 hg2
theorem ly_c11 {L : Nat} {xs : Nat → Int32} {m : fl_M} {Q : Option fl_V → fl_M → Prop} {i : Nat} (hall : ∀ c ∈ at_CM ++ at_CA, at_Valid at_XI (pw_P L xs) c) (hL : L ≤ 3072) (hi : i + 6 ≤ L) (hg : t2_Z m) (kk : ∀ m' : fl_M, t2_Z m' → fl_Tq (pw_P L xs) 0 2030 (lx_lv i) [] m' Q) : fl_Tq (pw_P L xs) 0 613 (lx_lv i) [] m Q := by
  obtain ⟨f, l⟩ := m
  refine fl_Tq.stp (pw_cod lx_k613) rfl (fl_bo rfl) rfl ?_
  refine lx_arg (i := i) (jn := 1) (pw_cod lx_k614) (pw_cod lx_k615) (pw_cod lx_k616) (pw_cod lx_k617) (pw_cod lx_k618) rfl (fl_bo rfl) hL (by omega) ?_
  refine lx_arg (i := i) (jn := 2) (pw_cod lx_k619) (pw_cod lx_k620) (pw_cod lx_k621) (pw_cod lx_k622) (pw_cod lx_k623) rfl (fl_bo rfl) hL (by omega) ?_
  refine lx_callG (as_ := [lx_x, .inl (xs (i + 1)), .inl (xs (i + 2))]) (rest := []) (pw_cod lx_k624) (pw_cll lx_l64) rfl (fl_bo rfl) rfl rfl (t2_step (ar := [at_this, .inl (xs (i + 1)), .inl (xs (i + 2))]) (hall _ at_c112_in) (hall _ at_c256_in) rfl rfl hg ⟨lx_kx _, lx_ki _, lx_ki _, True.intro⟩ rfl (fun _ => ⟨at_k277 _, lx_ki _, lx_ki _, True.intro⟩) rfl (t2_price hg)) (fun v1 m1 hg1 => ?_)
  obtain ⟨⟨y1, rfl⟩, hg1⟩ := hg1
  refine fl_Tq.stp (pw_cod lx_k627) rfl (fl_bo rfl) rfl ?_
  refine fl_Tq.stp (pw_cod lx_k628) rfl (fl_bo rfl) rfl ?_
  refine lx_arg (i := i) (jn := 1) (pw_cod lx_k629) (pw_cod lx_k630) (pw_cod lx_k631) (pw_cod lx_k632) (pw_cod lx_k633) rfl (fl_bo rfl) hL (by omega) ?_
  refine lx_arg (i := i) (jn := 2) (pw_cod lx_k634) (pw_cod lx_k635) (pw_cod lx_k636) (pw_cod lx_k637) (pw_cod lx_k638) rfl (fl_bo rfl) hL (by omega) ?_
  refine lx_callG (as_ := [at_this, .inl (xs (i + 1)), .inl (xs (i + 2))]) (rest := []) (pw_cod lx_k639) (pw_cll lx_l67) rfl (fl_bo rfl) rfl rfl hg1 (fun v2 m2 hg2 => ?_)
  obtain ⟨rfl, hg2⟩ := hg2
  refine fl_Tq.stp (pw_cod lx_k642) rfl (fl_bo rfl) rfl ?_
  refine fl_Tq.stp (pw_cod lx_k643) rfl (fl_bo rfl) rfl ?_
  exact kk m2 hg2
theorem ly_c12 {L : Nat} {xs : Nat → Int32} {m : fl_M} {Q : Option fl_V → fl_M → Prop} {i : Nat} (hall : ∀ c ∈ at_CM ++ at_CA, at_Valid at_XI (pw_P L xs) c) (hL : L ≤ 3072) (hi : i + 6 ≤ L) (hg : t2_Z m) (kk : ∀ m' : fl_M, t2_Z m' → fl_Tq (pw_P L xs) 0 2030 (lx_lv i) [] m' Q) : fl_Tq (pw_P L xs) 0 646 (lx_lv i) [] m Q := by
  obtain ⟨f, l⟩ := m
  refine fl_Tq.stp (pw_cod lx_k646) rfl (fl_bo rfl) rfl ?_
  refine lx_arg (i := i) (jn := 1) (pw_cod lx_k647) (pw_cod lx_k648) (pw_cod lx_k649) (pw_cod lx_k650) (pw_cod lx_k651) rfl (fl_bo rfl) hL (by omega) ?_
  refine lx_callG (as_ := [lx_x, .inl (xs (i + 1))]) (rest := []) (pw_cod lx_k652) (pw_cll lx_l68) rfl (fl_bo rfl) rfl rfl (t2_step (ar := [at_this, .inl (xs (i + 1))]) (hall _ at_c113_in) (hall _ at_c257_in) rfl rfl hg ⟨lx_kx _, lx_ki _, True.intro⟩ rfl (fun _ => ⟨at_k277 _, lx_ki _, True.intro⟩) rfl (t2_mark hg)) (fun v1 m1 hg1 => ?_)
  obtain ⟨⟨y1, rfl⟩, hg1⟩ := hg1
  refine fl_Tq.stp (pw_cod lx_k655) rfl (fl_bo rfl) rfl ?_
  refine fl_Tq.stp (pw_cod lx_k656) rfl (fl_bo rfl) rfl ?_
  refine lx_arg (i := i) (jn := 1) (pw_cod lx_k657) (pw_cod lx_k658) (pw_cod lx_k659) (pw_cod lx_k660) (pw_cod lx_k661) rfl (fl_bo rfl) hL (by omega) ?_
  refine lx_callG (as_ := [at_this, .inl (xs (i + 1))]) (rest := []) (pw_cod lx_k662) (pw_cll lx_l71) rfl (fl_bo rfl) rfl rfl hg1 (fun v2 m2 hg2 => ?_)
  obtain ⟨rfl, hg2⟩ := hg2
  refine fl_Tq.stp (pw_cod lx_k665) rfl (fl_bo rfl) rfl ?_
  refine fl_Tq.stp (pw_cod lx_k666) rfl (fl_bo rfl) rfl ?_
  exact kk m2 hg2
theorem ly_c13 {L : Nat} {xs : Nat → Int32} {m : fl_M} {Q : Option fl_V → fl_M → Prop} {i : Nat} (hall : ∀ c ∈ at_CM ++ at_CA, at_Valid at_XI (pw_P L xs) c) (hL : L ≤ 3072) (hi : i + 6 ≤ L) (hg : t2_Z m) (kk : ∀ m' : fl_M, t2_Z m' → fl_Tq (pw_P L xs) 0 2030 (lx_lv i) [] m' Q) : fl_Tq (pw_P L xs) 0 669 (lx_lv i) [] m Q := by
  obtain ⟨f, l⟩ := m
  refine fl_Tq.stp (pw_cod lx_k669) rfl (fl_bo rfl) rfl ?_
  refine lx_arg (i := i) (jn := 1) (pw_cod lx_k670) (pw_cod lx_k671) (pw_cod lx_k672) (pw_cod lx_k673) (pw_cod lx_k674) rfl (fl_bo rfl) hL (by omega) ?_
  refine lx_arg (i := i) (jn := 2) (pw_cod lx_k675) (pw_cod lx_k676) (pw_cod lx_k677) (pw_cod lx_k678) (pw_cod lx_k679) rfl (fl_bo rfl) hL (by omega) ?_
  refine lx_callG (as_ := [lx_x, .inl (xs (i + 1)), .inl (xs (i + 2))]) (rest := []) (pw_cod lx_k680) (pw_cll lx_l72) rfl (fl_bo rfl) rfl rfl (t2_step (ar := [at_this, .inl (xs (i + 1)), .inl (xs (i + 2))]) (hall _ at_c114_in) (hall _ at_c260_in) rfl rfl hg ⟨lx_kx _, lx_ki _, lx_ki _, True.intro⟩ rfl (fun _ => ⟨at_k277 _, lx_ki _, lx_ki _, True.intro⟩) rfl (t2_piece hg)) (fun v1 m1 hg1 => ?_)
  obtain ⟨⟨y1, rfl⟩, hg1⟩ := hg1
  refine fl_Tq.stp (pw_cod lx_k683) rfl (fl_bo rfl) rfl ?_
  refine fl_Tq.stp (pw_cod lx_k684) rfl (fl_bo rfl) rfl ?_
  refine lx_arg (i := i) (jn := 1) (pw_cod lx_k685) (pw_cod lx_k686) (pw_cod lx_k687) (pw_cod lx_k688) (pw_cod lx_k689) rfl (fl_bo rfl) hL (by omega) ?_
  refine lx_arg (i := i) (jn := 2) (pw_cod lx_k690) (pw_cod lx_k691) (pw_cod lx_k692) (pw_cod lx_k693) (pw_cod lx_k694) rfl (fl_bo rfl) hL (by omega) ?_
  refine lx_callG (as_ := [at_this, .inl (xs (i + 1)), .inl (xs (i + 2))]) (rest := []) (pw_cod lx_k695) (pw_cll lx_l75) rfl (fl_bo rfl) rfl rfl hg1 (fun v2 m2 hg2 => ?_)
  obtain ⟨rfl, hg2⟩ := hg2
  refine fl_Tq.stp (pw_cod lx_k698) rfl (fl_bo rfl) rfl ?_
  refine fl_Tq.stp (pw_cod lx_k699) rfl (fl_bo rfl) rfl ?_
  exact kk m2 hg2
theorem ly_c14 {L : Nat} {xs : Nat → Int32} {m : fl_M} {Q : Option fl_V → fl_M → Prop} {i : Nat} (hall : ∀ c ∈ at_CM ++ at_CA, at_Valid at_XI (pw_P L xs) c) (hL : L ≤ 3072) (hi : i + 6 ≤ L) (hg : t2_Z m) (kk : ∀ m' : fl_M, t2_Z m' → fl_Tq (pw_P L xs) 0 2030 (lx_lv i) [] m' Q) : fl_Tq (pw_P L xs) 0 702 (lx_lv i) [] m Q := by
  obtain ⟨f, l⟩ := m
  refine fl_Tq.stp (pw_cod lx_k702) rfl (fl_bo rfl) rfl ?_
  refine lx_arg (i := i) (jn := 1) (pw_cod lx_k703) (pw_cod lx_k704) (pw_cod lx_k705) (pw_cod lx_k706) (pw_cod lx_k707) rfl (fl_bo rfl) hL (by omega) ?_
  refine lx_arg (i := i) (jn := 2) (pw_cod lx_k708) (pw_cod lx_k709) (pw_cod lx_k710) (pw_cod lx_k711) (pw_cod lx_k712) rfl (fl_bo rfl) hL (by omega) ?_
  refine lx_boolV (pw_cod lx_k713) (pw_cod lx_k716) (pw_cod lx_k717) (pw_cod lx_k720) (fl_bo rfl) rfl rfl ?_
  refine lx_arg (i := i) (jn := 3) (pw_cod lx_k721) (pw_cod lx_k722) (pw_cod lx_k723) (pw_cod lx_k724) (pw_cod lx_k725) rfl (fl_bo rfl) hL (by omega) ?_
  refine lx_arg (i := i) (jn := 4) (pw_cod lx_k726) (pw_cod lx_k727) (pw_cod lx_k728) (pw_cod lx_k729) (pw_cod lx_k730) rfl (fl_bo rfl) hL (by omega) ?_
  refine lx_arg (i := i) (jn := 5) (pw_cod lx_k731) (pw_cod lx_k732) (pw_cod lx_k733) (pw_cod lx_k734) (pw_cod lx_k735) rfl (fl_bo rfl) hL (by omega) ?_
  refine lx_callG (as_ := [lx_x, .inl (xs (i + 1)), .inl (t2_b01 (xs (i + 2))), .inl (xs (i + 3)), .inl (xs (i + 4)), .inl (xs (i + 5))]) (rest := []) (pw_cod lx_k736) (pw_cll lx_l76) rfl (fl_bo rfl) rfl rfl (t2_step (ar := [at_this, .inl (xs (i + 1)), .inl (t2_b01 (xs (i + 2))), .inl (xs (i + 3)), .inl (xs (i + 4)), .inl (xs (i + 5))]) (hall _ at_c115_in) (hall _ at_c261_in) rfl rfl hg ⟨lx_kx _, lx_ki _, t2_b01_k _, lx_ki _, lx_ki _, lx_ki _, True.intro⟩ rfl (fun _ => ⟨at_k277 _, lx_ki _, t2_b01_k _, lx_ki _, lx_ki _, lx_ki _, True.intro⟩) rfl (t2_rule hg)) (fun v1 m1 hg1 => ?_)
  obtain ⟨⟨y1, rfl⟩, hg1⟩ := hg1
  refine fl_Tq.stp (pw_cod lx_k739) rfl (fl_bo rfl) rfl ?_
  refine fl_Tq.stp (pw_cod lx_k740) rfl (fl_bo rfl) rfl ?_
  refine lx_arg (i := i) (jn := 1) (pw_cod lx_k741) (pw_cod lx_k742) (pw_cod lx_k743) (pw_cod lx_k744) (pw_cod lx_k745) rfl (fl_bo rfl) hL (by omega) ?_
  refine lx_arg (i := i) (jn := 2) (pw_cod lx_k746) (pw_cod lx_k747) (pw_cod lx_k748) (pw_cod lx_k749) (pw_cod lx_k750) rfl (fl_bo rfl) hL (by omega) ?_
  refine lx_boolV (pw_cod lx_k751) (pw_cod lx_k754) (pw_cod lx_k755) (pw_cod lx_k758) (fl_bo rfl) rfl rfl ?_
  refine lx_arg (i := i) (jn := 3) (pw_cod lx_k759) (pw_cod lx_k760) (pw_cod lx_k761) (pw_cod lx_k762) (pw_cod lx_k763) rfl (fl_bo rfl) hL (by omega) ?_
  refine lx_arg (i := i) (jn := 4) (pw_cod lx_k764) (pw_cod lx_k765) (pw_cod lx_k766) (pw_cod lx_k767) (pw_cod lx_k768) rfl (fl_bo rfl) hL (by omega) ?_
  refine lx_arg (i := i) (jn := 5) (pw_cod lx_k769) (pw_cod lx_k770) (pw_cod lx_k771) (pw_cod lx_k772) (pw_cod lx_k773) rfl (fl_bo rfl) hL (by omega) ?_
  refine lx_callG (as_ := [at_this, .inl (xs (i + 1)), .inl (t2_b01 (xs (i + 2))), .inl (xs (i + 3)), .inl (xs (i + 4)), .inl (xs (i + 5))]) (rest := []) (pw_cod lx_k774) (pw_cll lx_l80) rfl (fl_bo rfl) rfl rfl hg1 (fun v2 m2 hg2 => ?_)
  obtain ⟨rfl, hg2⟩ := hg2
  refine fl_Tq.stp (pw_cod lx_k777) rfl (fl_bo rfl) rfl ?_
  refine fl_Tq.stp (pw_cod lx_k778) rfl (fl_bo rfl) rfl ?_
  exact kk m2 hg2
theorem ly_c15 {L : Nat} {xs : Nat → Int32} {m : fl_M} {Q : Option fl_V → fl_M → Prop} {i : Nat} (hall : ∀ c ∈ at_CM ++ at_CA, at_Valid at_XI (pw_P L xs) c) (hL : L ≤ 3072) (hi : i + 6 ≤ L) (hg : t2_Z m) (kk : ∀ m' : fl_M, t2_Z m' → fl_Tq (pw_P L xs) 0 2030 (lx_lv i) [] m' Q) : fl_Tq (pw_P L xs) 0 781 (lx_lv i) [] m Q := by
  obtain ⟨f, l⟩ := m
  refine fl_Tq.stp (pw_cod lx_k781) rfl (fl_bo rfl) rfl ?_
  refine lx_callG (as_ := [lx_x]) (rest := []) (pw_cod lx_k782) (pw_cll lx_l81) rfl (fl_bo rfl) rfl rfl (t2_step (ar := [at_this]) (hall _ at_c116_in) (hall _ at_c263_in) rfl rfl hg ⟨lx_kx _, True.intro⟩ rfl (fun _ => ⟨at_k277 _, True.intro⟩) rfl (t2_unrule hg)) (fun v1 m1 hg1 => ?_)
  obtain ⟨⟨y1, rfl⟩, hg1⟩ := hg1
  refine fl_Tq.stp (pw_cod lx_k785) rfl (fl_bo rfl) rfl ?_
  refine fl_Tq.stp (pw_cod lx_k786) rfl (fl_bo rfl) rfl ?_
  refine lx_callG (as_ := [at_this]) (rest := []) (pw_cod lx_k787) (pw_cll lx_l84) rfl (fl_bo rfl) rfl rfl hg1 (fun v2 m2 hg2 => ?_)
  obtain ⟨rfl, hg2⟩ := hg2
  refine fl_Tq.stp (pw_cod lx_k790) rfl (fl_bo rfl) rfl ?_
  refine fl_Tq.stp (pw_cod lx_k791) rfl (fl_bo rfl) rfl ?_
  exact kk m2 hg2
theorem ly_c16 {L : Nat} {xs : Nat → Int32} {m : fl_M} {Q : Option fl_V → fl_M → Prop} {i : Nat} (hall : ∀ c ∈ at_CM ++ at_CA, at_Valid at_XI (pw_P L xs) c) (hL : L ≤ 3072) (hi : i + 6 ≤ L) (hg : t2_Z m) (kk : ∀ m' : fl_M, t2_Z m' → fl_Tq (pw_P L xs) 0 2030 (lx_lv i) [] m' Q) : fl_Tq (pw_P L xs) 0 794 (lx_lv i) [] m Q := by
  obtain ⟨f, l⟩ := m
  refine fl_Tq.stp (pw_cod lx_k794) rfl (fl_bo rfl) rfl ?_
  refine lx_callG (as_ := [lx_x]) (rest := []) (pw_cod lx_k795) (pw_cll lx_l85) rfl (fl_bo rfl) rfl rfl (t2_step (ar := [at_this]) (hall _ at_c117_in) (hall _ at_c264_in) rfl rfl hg ⟨lx_kx _, True.intro⟩ rfl (fun _ => ⟨at_k277 _, True.intro⟩) rfl (t2_wipe hg)) (fun v1 m1 hg1 => ?_)
  obtain ⟨⟨y1, rfl⟩, hg1⟩ := hg1
  refine fl_Tq.stp (pw_cod lx_k798) rfl (fl_bo rfl) rfl ?_
  refine fl_Tq.stp (pw_cod lx_k799) rfl (fl_bo rfl) rfl ?_
  refine lx_callG (as_ := [at_this]) (rest := []) (pw_cod lx_k800) (pw_cll lx_l88) rfl (fl_bo rfl) rfl rfl hg1 (fun v2 m2 hg2 => ?_)
  obtain ⟨rfl, hg2⟩ := hg2
  refine fl_Tq.stp (pw_cod lx_k803) rfl (fl_bo rfl) rfl ?_
  refine fl_Tq.stp (pw_cod lx_k804) rfl (fl_bo rfl) rfl ?_
  exact kk m2 hg2

end

/-! 95.12.lawcase.lean.txt -/
section
/-! ===== printed by wip/gen/lawgen3.py: the law's cases ===== -/
theorem ly_c17 {L : Nat} {xs : Nat → Int32} {m : fl_M} {Q : Option fl_V → fl_M → Prop} {i : Nat} (hall : ∀ c ∈ at_CM ++ at_CA, at_Valid at_XI (pw_P L xs) c) (hL : L ≤ 3072) (hi : i + 6 ≤ L) (hg : t2_Z m) (kk : ∀ m' : fl_M, t2_Z m' → fl_Tq (pw_P L xs) 0 2030 (lx_lv i) [] m' Q) : fl_Tq (pw_P L xs) 0 807 (lx_lv i) [] m Q := by
  obtain ⟨f, l⟩ := m
  refine fl_Tq.stp (pw_cod lx_k807) rfl (fl_bo rfl) rfl ?_
  refine lx_callG (as_ := [lx_x]) (rest := []) (pw_cod lx_k808) (pw_cll lx_l89) rfl (fl_bo rfl) rfl rfl (t2_stepG (ar := [at_this]) (hall _ at_c118_in) (hall _ at_c267_in) rfl rfl hg ⟨lx_kx _, True.intro⟩ rfl (fun _ => ⟨at_k277 _, True.intro⟩) rfl (t2_drive hall hg)) (fun v1 m1 hg1 => ?_)
  obtain ⟨⟨y1, rfl⟩, hg1⟩ := hg1
  refine fl_Tq.stp (pw_cod lx_k811) rfl (fl_bo rfl) rfl ?_
  refine fl_Tq.stp (pw_cod lx_k812) rfl (fl_bo rfl) rfl ?_
  refine lx_callG (as_ := [at_this]) (rest := []) (pw_cod lx_k813) (pw_cll lx_l92) rfl (fl_bo rfl) rfl rfl hg1 (fun v2 m2 hg2 => ?_)
  obtain ⟨rfl, hg2⟩ := hg2
  refine fl_Tq.stp (pw_cod lx_k816) rfl (fl_bo rfl) rfl ?_
  refine fl_Tq.stp (pw_cod lx_k817) rfl (fl_bo rfl) rfl ?_
  exact kk m2 hg2
theorem ly_c18 {L : Nat} {xs : Nat → Int32} {m : fl_M} {Q : Option fl_V → fl_M → Prop} {i : Nat} (hall : ∀ c ∈ at_CM ++ at_CA, at_Valid at_XI (pw_P L xs) c) (hL : L ≤ 3072) (hi : i + 6 ≤ L) (hg : t2_Z m) (kk : ∀ m' : fl_M, t2_Z m' → fl_Tq (pw_P L xs) 0 2030 (lx_lv i) [] m' Q) : fl_Tq (pw_P L xs) 0 820 (lx_lv i) [] m Q := by
  obtain ⟨f, l⟩ := m
  refine fl_Tq.stp (pw_cod lx_k820) rfl (fl_bo rfl) rfl ?_
  refine lx_callG (as_ := [lx_x]) (rest := []) (pw_cod lx_k821) (pw_cll lx_l93) rfl (fl_bo rfl) rfl rfl (t2_step (ar := [at_this]) (hall _ at_c119_in) (hall _ at_c242_in) rfl rfl hg ⟨lx_kx _, True.intro⟩ rfl (fun _ => ⟨at_k277 _, True.intro⟩) rfl (t2_undo hg)) (fun v1 m1 hg1 => ?_)
  obtain ⟨⟨y1, rfl⟩, hg1⟩ := hg1
  refine fl_Tq.stp (pw_cod lx_k824) rfl (fl_bo rfl) rfl ?_
  refine fl_Tq.stp (pw_cod lx_k825) rfl (fl_bo rfl) rfl ?_
  refine lx_callG (as_ := [at_this]) (rest := []) (pw_cod lx_k826) (pw_cll lx_l96) rfl (fl_bo rfl) rfl rfl hg1 (fun v2 m2 hg2 => ?_)
  obtain ⟨rfl, hg2⟩ := hg2
  refine fl_Tq.stp (pw_cod lx_k829) rfl (fl_bo rfl) rfl ?_
  refine fl_Tq.stp (pw_cod lx_k830) rfl (fl_bo rfl) rfl ?_
  exact kk m2 hg2
theorem ly_c19 {L : Nat} {xs : Nat → Int32} {m : fl_M} {Q : Option fl_V → fl_M → Prop} {i : Nat} (hall : ∀ c ∈ at_CM ++ at_CA, at_Valid at_XI (pw_P L xs) c) (hL : L ≤ 3072) (hi : i + 6 ≤ L) (hg : t2_Z m) (kk : ∀ m' : fl_M, t2_Z m' → fl_Tq (pw_P L xs) 0 2030 (lx_lv i) [] m' Q) : fl_Tq (pw_P L xs) 0 833 (lx_lv i) [] m Q := by
  obtain ⟨f, l⟩ := m
  refine fl_Tq.stp (pw_cod lx_k833) rfl (fl_bo rfl) rfl ?_
  refine lx_arg (i := i) (jn := 1) (pw_cod lx_k834) (pw_cod lx_k835) (pw_cod lx_k836) (pw_cod lx_k837) (pw_cod lx_k838) rfl (fl_bo rfl) hL (by omega) ?_
  refine lx_callG (as_ := [lx_x, .inl (xs (i + 1))]) (rest := []) (pw_cod lx_k839) (pw_cll lx_l97) rfl (fl_bo rfl) rfl rfl (t2_qcall (hall _ at_c122_in) rfl hg ⟨lx_kx _, lx_ki _, True.intro⟩ rfl rfl rfl) (fun v1 m1 hg1 => ?_)
  obtain ⟨⟨y1, rfl⟩, hg1⟩ := hg1
  refine fl_Tq.stp (pw_cod lx_k842) rfl (fl_bo rfl) rfl ?_
  refine fl_Tq.stp (pw_cod lx_k843) rfl (fl_bo rfl) rfl ?_
  refine lx_arg (i := i) (jn := 1) (pw_cod lx_k844) (pw_cod lx_k845) (pw_cod lx_k846) (pw_cod lx_k847) (pw_cod lx_k848) rfl (fl_bo rfl) hL (by omega) ?_
  refine lx_callG (as_ := [at_this, .inl (xs (i + 1))]) (rest := []) (pw_cod lx_k849) (pw_cll lx_l100) rfl (fl_bo rfl) rfl rfl (t2_qcall (hall _ at_c268_in) rfl hg1 ⟨at_k277 _, lx_ki _, True.intro⟩ rfl rfl rfl) (fun v2 m2 hg2 => ?_)
  obtain ⟨⟨y2, rfl⟩, hg2⟩ := hg2
  refine fl_Tq.stp (pw_cod lx_k852) rfl (fl_bo rfl) rfl ?_
  refine fl_Tq.stp (pw_cod lx_k853) rfl (fl_bo rfl) rfl ?_
  exact kk m2 hg2
theorem ly_c20 {L : Nat} {xs : Nat → Int32} {m : fl_M} {Q : Option fl_V → fl_M → Prop} {i : Nat} (hall : ∀ c ∈ at_CM ++ at_CA, at_Valid at_XI (pw_P L xs) c) (hL : L ≤ 3072) (hi : i + 6 ≤ L) (hg : t2_Z m) (kk : ∀ m' : fl_M, t2_Z m' → fl_Tq (pw_P L xs) 0 2030 (lx_lv i) [] m' Q) : fl_Tq (pw_P L xs) 0 856 (lx_lv i) [] m Q := by
  obtain ⟨f, l⟩ := m
  refine fl_Tq.stp (pw_cod lx_k856) rfl (fl_bo rfl) rfl ?_
  refine lx_arg (i := i) (jn := 1) (pw_cod lx_k857) (pw_cod lx_k858) (pw_cod lx_k859) (pw_cod lx_k860) (pw_cod lx_k861) rfl (fl_bo rfl) hL (by omega) ?_
  refine lx_callG (as_ := [lx_x, .inl (xs (i + 1))]) (rest := []) (pw_cod lx_k862) (pw_cll lx_l101) rfl (fl_bo rfl) rfl rfl (t2_qcall (hall _ at_c123_in) rfl hg ⟨lx_kx _, lx_ki _, True.intro⟩ rfl rfl rfl) (fun v1 m1 hg1 => ?_)
  obtain ⟨⟨y1, rfl⟩, hg1⟩ := hg1
  refine fl_Tq.stp (pw_cod lx_k865) rfl (fl_bo rfl) rfl ?_
  refine fl_Tq.stp (pw_cod lx_k866) rfl (fl_bo rfl) rfl ?_
  refine lx_arg (i := i) (jn := 1) (pw_cod lx_k867) (pw_cod lx_k868) (pw_cod lx_k869) (pw_cod lx_k870) (pw_cod lx_k871) rfl (fl_bo rfl) hL (by omega) ?_
  refine lx_callG (as_ := [at_this, .inl (xs (i + 1))]) (rest := []) (pw_cod lx_k872) (pw_cll lx_l104) rfl (fl_bo rfl) rfl rfl (t2_qcall (hall _ at_c269_in) rfl hg1 ⟨at_k277 _, lx_ki _, True.intro⟩ rfl rfl rfl) (fun v2 m2 hg2 => ?_)
  obtain ⟨⟨y2, rfl⟩, hg2⟩ := hg2
  refine fl_Tq.stp (pw_cod lx_k875) rfl (fl_bo rfl) rfl ?_
  refine fl_Tq.stp (pw_cod lx_k876) rfl (fl_bo rfl) rfl ?_
  exact kk m2 hg2
theorem ly_c21 {L : Nat} {xs : Nat → Int32} {m : fl_M} {Q : Option fl_V → fl_M → Prop} {i : Nat} (hall : ∀ c ∈ at_CM ++ at_CA, at_Valid at_XI (pw_P L xs) c) (hL : L ≤ 3072) (hi : i + 6 ≤ L) (hg : t2_Z m) (kk : ∀ m' : fl_M, t2_Z m' → fl_Tq (pw_P L xs) 0 2030 (lx_lv i) [] m' Q) : fl_Tq (pw_P L xs) 0 879 (lx_lv i) [] m Q := by
  obtain ⟨f, l⟩ := m
  refine fl_Tq.stp (pw_cod lx_k879) rfl (fl_bo rfl) rfl ?_
  refine lx_arg (i := i) (jn := 1) (pw_cod lx_k880) (pw_cod lx_k881) (pw_cod lx_k882) (pw_cod lx_k883) (pw_cod lx_k884) rfl (fl_bo rfl) hL (by omega) ?_
  refine lx_arg (i := i) (jn := 2) (pw_cod lx_k885) (pw_cod lx_k886) (pw_cod lx_k887) (pw_cod lx_k888) (pw_cod lx_k889) rfl (fl_bo rfl) hL (by omega) ?_
  refine lx_callG (as_ := [lx_x, .inl (xs (i + 1)), .inl (xs (i + 2))]) (rest := []) (pw_cod lx_k890) (pw_cll lx_l105) rfl (fl_bo rfl) rfl rfl (t2_qcall (hall _ at_c124_in) rfl hg ⟨lx_kx _, lx_ki _, lx_ki _, True.intro⟩ rfl rfl rfl) (fun v1 m1 hg1 => ?_)
  obtain ⟨⟨y1, rfl⟩, hg1⟩ := hg1
  refine fl_Tq.stp (pw_cod lx_k893) rfl (fl_bo rfl) rfl ?_
  refine fl_Tq.stp (pw_cod lx_k894) rfl (fl_bo rfl) rfl ?_
  refine lx_arg (i := i) (jn := 1) (pw_cod lx_k895) (pw_cod lx_k896) (pw_cod lx_k897) (pw_cod lx_k898) (pw_cod lx_k899) rfl (fl_bo rfl) hL (by omega) ?_
  refine lx_arg (i := i) (jn := 2) (pw_cod lx_k900) (pw_cod lx_k901) (pw_cod lx_k902) (pw_cod lx_k903) (pw_cod lx_k904) rfl (fl_bo rfl) hL (by omega) ?_
  refine lx_callG (as_ := [at_this, .inl (xs (i + 1)), .inl (xs (i + 2))]) (rest := []) (pw_cod lx_k905) (pw_cll lx_l108) rfl (fl_bo rfl) rfl rfl (t2_qcall (hall _ at_c271_in) rfl hg1 ⟨at_k277 _, lx_ki _, lx_ki _, True.intro⟩ rfl rfl rfl) (fun v2 m2 hg2 => ?_)
  obtain ⟨⟨y2, rfl⟩, hg2⟩ := hg2
  refine fl_Tq.stp (pw_cod lx_k908) rfl (fl_bo rfl) rfl ?_
  refine fl_Tq.stp (pw_cod lx_k909) rfl (fl_bo rfl) rfl ?_
  exact kk m2 hg2
theorem ly_c22 {L : Nat} {xs : Nat → Int32} {m : fl_M} {Q : Option fl_V → fl_M → Prop} {i : Nat} (hall : ∀ c ∈ at_CM ++ at_CA, at_Valid at_XI (pw_P L xs) c) (hL : L ≤ 3072) (hi : i + 6 ≤ L) (hg : t2_Z m) (kk : ∀ m' : fl_M, t2_Z m' → fl_Tq (pw_P L xs) 0 2030 (lx_lv i) [] m' Q) : fl_Tq (pw_P L xs) 0 912 (lx_lv i) [] m Q := by
  obtain ⟨f, l⟩ := m
  refine fl_Tq.stp (pw_cod lx_k912) rfl (fl_bo rfl) rfl ?_
  refine lx_arg (i := i) (jn := 1) (pw_cod lx_k913) (pw_cod lx_k914) (pw_cod lx_k915) (pw_cod lx_k916) (pw_cod lx_k917) rfl (fl_bo rfl) hL (by omega) ?_
  refine lx_arg (i := i) (jn := 2) (pw_cod lx_k918) (pw_cod lx_k919) (pw_cod lx_k920) (pw_cod lx_k921) (pw_cod lx_k922) rfl (fl_bo rfl) hL (by omega) ?_
  refine lx_callG (as_ := [lx_x, .inl (xs (i + 1)), .inl (xs (i + 2))]) (rest := []) (pw_cod lx_k923) (pw_cll lx_l109) rfl (fl_bo rfl) rfl rfl (t2_qcall (hall _ at_c125_in) rfl hg ⟨lx_kx _, lx_ki _, lx_ki _, True.intro⟩ rfl rfl rfl) (fun v1 m1 hg1 => ?_)
  obtain ⟨⟨y1, rfl⟩, hg1⟩ := hg1
  refine fl_Tq.stp (pw_cod lx_k926) rfl (fl_bo rfl) rfl ?_
  refine fl_Tq.stp (pw_cod lx_k927) rfl (fl_bo rfl) rfl ?_
  refine lx_arg (i := i) (jn := 1) (pw_cod lx_k928) (pw_cod lx_k929) (pw_cod lx_k930) (pw_cod lx_k931) (pw_cod lx_k932) rfl (fl_bo rfl) hL (by omega) ?_
  refine lx_arg (i := i) (jn := 2) (pw_cod lx_k933) (pw_cod lx_k934) (pw_cod lx_k935) (pw_cod lx_k936) (pw_cod lx_k937) rfl (fl_bo rfl) hL (by omega) ?_
  refine lx_callG (as_ := [at_this, .inl (xs (i + 1)), .inl (xs (i + 2))]) (rest := []) (pw_cod lx_k938) (pw_cll lx_l112) rfl (fl_bo rfl) rfl rfl (t2_qcall (hall _ at_c272_in) rfl hg1 ⟨at_k277 _, lx_ki _, lx_ki _, True.intro⟩ rfl rfl rfl) (fun v2 m2 hg2 => ?_)
  obtain ⟨⟨y2, rfl⟩, hg2⟩ := hg2
  refine fl_Tq.stp (pw_cod lx_k941) rfl (fl_bo rfl) rfl ?_
  refine fl_Tq.stp (pw_cod lx_k942) rfl (fl_bo rfl) rfl ?_
  exact kk m2 hg2
theorem ly_c23 {L : Nat} {xs : Nat → Int32} {m : fl_M} {Q : Option fl_V → fl_M → Prop} {i : Nat} (hall : ∀ c ∈ at_CM ++ at_CA, at_Valid at_XI (pw_P L xs) c) (hL : L ≤ 3072) (hi : i + 6 ≤ L) (hg : t2_Z m) (kk : ∀ m' : fl_M, t2_Z m' → fl_Tq (pw_P L xs) 0 2030 (lx_lv i) [] m' Q) : fl_Tq (pw_P L xs) 0 945 (lx_lv i) [] m Q := by
  obtain ⟨f, l⟩ := m
  refine fl_Tq.stp (pw_cod lx_k945) rfl (fl_bo rfl) rfl ?_
  refine lx_arg (i := i) (jn := 1) (pw_cod lx_k946) (pw_cod lx_k947) (pw_cod lx_k948) (pw_cod lx_k949) (pw_cod lx_k950) rfl (fl_bo rfl) hL (by omega) ?_
  refine lx_arg (i := i) (jn := 2) (pw_cod lx_k951) (pw_cod lx_k952) (pw_cod lx_k953) (pw_cod lx_k954) (pw_cod lx_k955) rfl (fl_bo rfl) hL (by omega) ?_
  refine lx_callG (as_ := [lx_x, .inl (xs (i + 1)), .inl (xs (i + 2))]) (rest := []) (pw_cod lx_k956) (pw_cll lx_l113) rfl (fl_bo rfl) rfl rfl (t2_cmp hall hg) (fun v1 m1 hg1 => ?_)
  obtain ⟨⟨y1, rfl⟩, hg1⟩ := hg1
  refine fl_Tq.stp (pw_cod lx_k959) rfl (fl_bo rfl) rfl ?_
  refine lx_arg (i := i) (jn := 1) (pw_cod lx_k960) (pw_cod lx_k961) (pw_cod lx_k962) (pw_cod lx_k963) (pw_cod lx_k964) rfl (fl_bo rfl) hL (by omega) ?_
  refine lx_arg (i := i) (jn := 2) (pw_cod lx_k965) (pw_cod lx_k966) (pw_cod lx_k967) (pw_cod lx_k968) (pw_cod lx_k969) rfl (fl_bo rfl) hL (by omega) ?_
  refine lx_callG (as_ := [at_this, .inl (xs (i + 1)), .inl (xs (i + 2))]) (rest := [.inl y1]) (pw_cod lx_k970) (pw_cll lx_l116) rfl (fl_bo rfl) rfl rfl hg1 (fun v2 m2 hg2 => ?_)
  obtain ⟨rfl, hg2⟩ := hg2
  refine fl_Tq.jt (pw_cod lx_k973) (fl_bo rfl) (by rw [at_c2]; exact decide_eq_true (by omega)) rfl ?_
  exact kk m2 hg2
theorem ly_c24 {L : Nat} {xs : Nat → Int32} {m : fl_M} {Q : Option fl_V → fl_M → Prop} {i : Nat} (hall : ∀ c ∈ at_CM ++ at_CA, at_Valid at_XI (pw_P L xs) c) (hL : L ≤ 3072) (hi : i + 6 ≤ L) (hg : t2_Z m) (kk : ∀ m' : fl_M, t2_Z m' → fl_Tq (pw_P L xs) 0 2030 (lx_lv i) [] m' Q) : fl_Tq (pw_P L xs) 0 978 (lx_lv i) [] m Q := by
  obtain ⟨f, l⟩ := m
  refine fl_Tq.stp (pw_cod lx_k978) rfl (fl_bo rfl) rfl ?_
  refine lx_arg (i := i) (jn := 1) (pw_cod lx_k979) (pw_cod lx_k980) (pw_cod lx_k981) (pw_cod lx_k982) (pw_cod lx_k983) rfl (fl_bo rfl) hL (by omega) ?_
  refine lx_arg (i := i) (jn := 2) (pw_cod lx_k984) (pw_cod lx_k985) (pw_cod lx_k986) (pw_cod lx_k987) (pw_cod lx_k988) rfl (fl_bo rfl) hL (by omega) ?_
  refine lx_callG (as_ := [lx_x, .inl (xs (i + 1)), .inl (xs (i + 2))]) (rest := []) (pw_cod lx_k989) (pw_cll lx_l117) rfl (fl_bo rfl) rfl rfl (t2_qcall (hall _ at_c127_in) rfl hg ⟨lx_kx _, lx_ki _, lx_ki _, True.intro⟩ rfl rfl rfl) (fun v1 m1 hg1 => ?_)
  obtain ⟨⟨y1, rfl⟩, hg1⟩ := hg1
  refine fl_Tq.stp (pw_cod lx_k992) rfl (fl_bo rfl) rfl ?_
  refine fl_Tq.stp (pw_cod lx_k993) rfl (fl_bo rfl) rfl ?_
  refine lx_arg (i := i) (jn := 1) (pw_cod lx_k994) (pw_cod lx_k995) (pw_cod lx_k996) (pw_cod lx_k997) (pw_cod lx_k998) rfl (fl_bo rfl) hL (by omega) ?_
  refine lx_arg (i := i) (jn := 2) (pw_cod lx_k999) (pw_cod lx_k1000) (pw_cod lx_k1001) (pw_cod lx_k1002) (pw_cod lx_k1003) rfl (fl_bo rfl) hL (by omega) ?_
  refine lx_callG (as_ := [at_this, .inl (xs (i + 1)), .inl (xs (i + 2))]) (rest := []) (pw_cod lx_k1004) (pw_cll lx_l120) rfl (fl_bo rfl) rfl rfl (t2_qcall (hall _ at_c274_in) rfl hg1 ⟨at_k277 _, lx_ki _, lx_ki _, True.intro⟩ rfl rfl rfl) (fun v2 m2 hg2 => ?_)
  obtain ⟨⟨y2, rfl⟩, hg2⟩ := hg2
  refine fl_Tq.stp (pw_cod lx_k1007) rfl (fl_bo rfl) rfl ?_
  refine fl_Tq.stp (pw_cod lx_k1008) rfl (fl_bo rfl) rfl ?_
  exact kk m2 hg2
theorem ly_c25 {L : Nat} {xs : Nat → Int32} {m : fl_M} {Q : Option fl_V → fl_M → Prop} {i : Nat} (hall : ∀ c ∈ at_CM ++ at_CA, at_Valid at_XI (pw_P L xs) c) (hL : L ≤ 3072) (hi : i + 6 ≤ L) (hg : t2_Z m) (kk : ∀ m' : fl_M, t2_Z m' → fl_Tq (pw_P L xs) 0 2030 (lx_lv i) [] m' Q) : fl_Tq (pw_P L xs) 0 1011 (lx_lv i) [] m Q := by
  obtain ⟨f, l⟩ := m
  refine fl_Tq.stp (pw_cod lx_k1011) rfl (fl_bo rfl) rfl ?_
  refine lx_arg (i := i) (jn := 1) (pw_cod lx_k1012) (pw_cod lx_k1013) (pw_cod lx_k1014) (pw_cod lx_k1015) (pw_cod lx_k1016) rfl (fl_bo rfl) hL (by omega) ?_
  refine lx_arg (i := i) (jn := 2) (pw_cod lx_k1017) (pw_cod lx_k1018) (pw_cod lx_k1019) (pw_cod lx_k1020) (pw_cod lx_k1021) rfl (fl_bo rfl) hL (by omega) ?_
  refine lx_callG (as_ := [lx_x, .inl (xs (i + 1)), .inl (xs (i + 2))]) (rest := []) (pw_cod lx_k1022) (pw_cll lx_l121) rfl (fl_bo rfl) rfl rfl (t2_qcall (hall _ at_c128_in) rfl hg ⟨lx_kx _, lx_ki _, lx_ki _, True.intro⟩ rfl rfl rfl) (fun v1 m1 hg1 => ?_)
  obtain ⟨⟨y1, rfl⟩, hg1⟩ := hg1
  refine fl_Tq.stp (pw_cod lx_k1025) rfl (fl_bo rfl) rfl ?_
  refine fl_Tq.stp (pw_cod lx_k1026) rfl (fl_bo rfl) rfl ?_
  refine lx_arg (i := i) (jn := 1) (pw_cod lx_k1027) (pw_cod lx_k1028) (pw_cod lx_k1029) (pw_cod lx_k1030) (pw_cod lx_k1031) rfl (fl_bo rfl) hL (by omega) ?_
  refine lx_arg (i := i) (jn := 2) (pw_cod lx_k1032) (pw_cod lx_k1033) (pw_cod lx_k1034) (pw_cod lx_k1035) (pw_cod lx_k1036) rfl (fl_bo rfl) hL (by omega) ?_
  refine lx_callG (as_ := [at_this, .inl (xs (i + 1)), .inl (xs (i + 2))]) (rest := []) (pw_cod lx_k1037) (pw_cll lx_l124) rfl (fl_bo rfl) rfl rfl (t2_qcall (hall _ at_c275_in) rfl hg1 ⟨at_k277 _, lx_ki _, lx_ki _, True.intro⟩ rfl rfl rfl) (fun v2 m2 hg2 => ?_)
  obtain ⟨⟨y2, rfl⟩, hg2⟩ := hg2
  refine fl_Tq.stp (pw_cod lx_k1040) rfl (fl_bo rfl) rfl ?_
  refine fl_Tq.stp (pw_cod lx_k1041) rfl (fl_bo rfl) rfl ?_
  exact kk m2 hg2
theorem ly_c26 {L : Nat} {xs : Nat → Int32} {m : fl_M} {Q : Option fl_V → fl_M → Prop} {i : Nat} (hall : ∀ c ∈ at_CM ++ at_CA, at_Valid at_XI (pw_P L xs) c) (hL : L ≤ 3072) (hi : i + 6 ≤ L) (hg : t2_Z m) (kk : ∀ m' : fl_M, t2_Z m' → fl_Tq (pw_P L xs) 0 2030 (lx_lv i) [] m' Q) : fl_Tq (pw_P L xs) 0 1044 (lx_lv i) [] m Q := by
  obtain ⟨f, l⟩ := m
  refine fl_Tq.stp (pw_cod lx_k1044) rfl (fl_bo rfl) rfl ?_
  refine lx_arg (i := i) (jn := 1) (pw_cod lx_k1045) (pw_cod lx_k1046) (pw_cod lx_k1047) (pw_cod lx_k1048) (pw_cod lx_k1049) rfl (fl_bo rfl) hL (by omega) ?_
  refine lx_arg (i := i) (jn := 2) (pw_cod lx_k1050) (pw_cod lx_k1051) (pw_cod lx_k1052) (pw_cod lx_k1053) (pw_cod lx_k1054) rfl (fl_bo rfl) hL (by omega) ?_
  refine lx_callG (as_ := [lx_x, .inl (xs (i + 1)), .inl (xs (i + 2))]) (rest := []) (pw_cod lx_k1055) (pw_cll lx_l125) rfl (fl_bo rfl) rfl rfl (t2_qcall (hall _ at_c129_in) rfl hg ⟨lx_kx _, lx_ki _, lx_ki _, True.intro⟩ rfl rfl rfl) (fun v1 m1 hg1 => ?_)
  obtain ⟨⟨y1, rfl⟩, hg1⟩ := hg1
  refine fl_Tq.stp (pw_cod lx_k1058) rfl (fl_bo rfl) rfl ?_
  refine fl_Tq.stp (pw_cod lx_k1059) rfl (fl_bo rfl) rfl ?_
  refine lx_arg (i := i) (jn := 1) (pw_cod lx_k1060) (pw_cod lx_k1061) (pw_cod lx_k1062) (pw_cod lx_k1063) (pw_cod lx_k1064) rfl (fl_bo rfl) hL (by omega) ?_
  refine lx_arg (i := i) (jn := 2) (pw_cod lx_k1065) (pw_cod lx_k1066) (pw_cod lx_k1067) (pw_cod lx_k1068) (pw_cod lx_k1069) rfl (fl_bo rfl) hL (by omega) ?_
  refine lx_callG (as_ := [at_this, .inl (xs (i + 1)), .inl (xs (i + 2))]) (rest := []) (pw_cod lx_k1070) (pw_cll lx_l128) rfl (fl_bo rfl) rfl rfl (t2_qcall (hall _ at_c276_in) rfl hg1 ⟨at_k277 _, lx_ki _, lx_ki _, True.intro⟩ rfl rfl rfl) (fun v2 m2 hg2 => ?_)
  obtain ⟨⟨y2, rfl⟩, hg2⟩ := hg2
  refine fl_Tq.stp (pw_cod lx_k1073) rfl (fl_bo rfl) rfl ?_
  refine fl_Tq.stp (pw_cod lx_k1074) rfl (fl_bo rfl) rfl ?_
  exact kk m2 hg2
theorem ly_c27 {L : Nat} {xs : Nat → Int32} {m : fl_M} {Q : Option fl_V → fl_M → Prop} {i : Nat} (hall : ∀ c ∈ at_CM ++ at_CA, at_Valid at_XI (pw_P L xs) c) (hL : L ≤ 3072) (hi : i + 6 ≤ L) (hg : t2_Z m) (kk : ∀ m' : fl_M, t2_Z m' → fl_Tq (pw_P L xs) 0 2030 (lx_lv i) [] m' Q) : fl_Tq (pw_P L xs) 0 1077 (lx_lv i) [] m Q := by
  obtain ⟨f, l⟩ := m
  refine fl_Tq.stp (pw_cod lx_k1077) rfl (fl_bo rfl) rfl ?_
  refine lx_arg (i := i) (jn := 1) (pw_cod lx_k1078) (pw_cod lx_k1079) (pw_cod lx_k1080) (pw_cod lx_k1081) (pw_cod lx_k1082) rfl (fl_bo rfl) hL (by omega) ?_
  refine lx_callG (as_ := [lx_x, .inl (xs (i + 1))]) (rest := []) (pw_cod lx_k1083) (pw_cll lx_l129) rfl (fl_bo rfl) rfl rfl (t2_qcall (hall _ at_c130_in) rfl hg ⟨lx_kx _, lx_ki _, True.intro⟩ rfl rfl rfl) (fun v1 m1 hg1 => ?_)
  obtain ⟨⟨y1, rfl⟩, hg1⟩ := hg1
  refine fl_Tq.stp (pw_cod lx_k1086) rfl (fl_bo rfl) rfl ?_
  refine fl_Tq.stp (pw_cod lx_k1087) rfl (fl_bo rfl) rfl ?_
  refine lx_arg (i := i) (jn := 1) (pw_cod lx_k1088) (pw_cod lx_k1089) (pw_cod lx_k1090) (pw_cod lx_k1091) (pw_cod lx_k1092) rfl (fl_bo rfl) hL (by omega) ?_
  refine lx_callG (as_ := [at_this, .inl (xs (i + 1))]) (rest := []) (pw_cod lx_k1093) (pw_cll lx_l132) rfl (fl_bo rfl) rfl rfl (t2_qcall (hall _ at_c277_in) rfl hg1 ⟨at_k277 _, lx_ki _, True.intro⟩ rfl rfl rfl) (fun v2 m2 hg2 => ?_)
  obtain ⟨⟨y2, rfl⟩, hg2⟩ := hg2
  refine fl_Tq.stp (pw_cod lx_k1096) rfl (fl_bo rfl) rfl ?_
  refine fl_Tq.stp (pw_cod lx_k1097) rfl (fl_bo rfl) rfl ?_
  exact kk m2 hg2
theorem ly_c28 {L : Nat} {xs : Nat → Int32} {m : fl_M} {Q : Option fl_V → fl_M → Prop} {i : Nat} (hall : ∀ c ∈ at_CM ++ at_CA, at_Valid at_XI (pw_P L xs) c) (hL : L ≤ 3072) (hi : i + 6 ≤ L) (hg : t2_Z m) (kk : ∀ m' : fl_M, t2_Z m' → fl_Tq (pw_P L xs) 0 2030 (lx_lv i) [] m' Q) : fl_Tq (pw_P L xs) 0 1100 (lx_lv i) [] m Q := by
  obtain ⟨f, l⟩ := m
  refine fl_Tq.stp (pw_cod lx_k1100) rfl (fl_bo rfl) rfl ?_
  refine lx_callG (as_ := [lx_x]) (rest := []) (pw_cod lx_k1101) (pw_cll lx_l133) rfl (fl_bo rfl) rfl rfl (t2_qcall (hall _ at_c131_in) rfl hg ⟨lx_kx _, True.intro⟩ rfl rfl rfl) (fun v1 m1 hg1 => ?_)
  obtain ⟨⟨y1, rfl⟩, hg1⟩ := hg1
  refine fl_Tq.stp (pw_cod lx_k1104) rfl (fl_bo rfl) rfl ?_
  refine fl_Tq.stp (pw_cod lx_k1105) rfl (fl_bo rfl) rfl ?_
  refine lx_callG (as_ := [at_this]) (rest := []) (pw_cod lx_k1106) (pw_cll lx_l136) rfl (fl_bo rfl) rfl rfl (t2_qcall (hall _ at_c278_in) rfl hg1 ⟨at_k277 _, True.intro⟩ rfl rfl rfl) (fun v2 m2 hg2 => ?_)
  obtain ⟨⟨y2, rfl⟩, hg2⟩ := hg2
  refine fl_Tq.stp (pw_cod lx_k1109) rfl (fl_bo rfl) rfl ?_
  refine fl_Tq.stp (pw_cod lx_k1110) rfl (fl_bo rfl) rfl ?_
  exact kk m2 hg2
theorem ly_c29 {L : Nat} {xs : Nat → Int32} {m : fl_M} {Q : Option fl_V → fl_M → Prop} {i : Nat} (hall : ∀ c ∈ at_CM ++ at_CA, at_Valid at_XI (pw_P L xs) c) (hL : L ≤ 3072) (hi : i + 6 ≤ L) (hg : t2_Z m) (kk : ∀ m' : fl_M, t2_Z m' → fl_Tq (pw_P L xs) 0 2030 (lx_lv i) [] m' Q) : fl_Tq (pw_P L xs) 0 1113 (lx_lv i) [] m Q := by
  obtain ⟨f, l⟩ := m
  refine fl_Tq.stp (pw_cod lx_k1113) rfl (fl_bo rfl) rfl ?_
  refine lx_arg (i := i) (jn := 1) (pw_cod lx_k1114) (pw_cod lx_k1115) (pw_cod lx_k1116) (pw_cod lx_k1117) (pw_cod lx_k1118) rfl (fl_bo rfl) hL (by omega) ?_
  refine lx_callG (as_ := [lx_x, .inl (xs (i + 1))]) (rest := []) (pw_cod lx_k1119) (pw_cll lx_l137) rfl (fl_bo rfl) rfl rfl (t2_qcall (hall _ at_c132_in) rfl hg ⟨lx_kx _, lx_ki _, True.intro⟩ rfl rfl rfl) (fun v1 m1 hg1 => ?_)
  obtain ⟨⟨y1, rfl⟩, hg1⟩ := hg1
  refine fl_Tq.stp (pw_cod lx_k1122) rfl (fl_bo rfl) rfl ?_
  refine fl_Tq.stp (pw_cod lx_k1123) rfl (fl_bo rfl) rfl ?_
  refine lx_arg (i := i) (jn := 1) (pw_cod lx_k1124) (pw_cod lx_k1125) (pw_cod lx_k1126) (pw_cod lx_k1127) (pw_cod lx_k1128) rfl (fl_bo rfl) hL (by omega) ?_
  refine lx_callG (as_ := [at_this, .inl (xs (i + 1))]) (rest := []) (pw_cod lx_k1129) (pw_cll lx_l140) rfl (fl_bo rfl) rfl rfl (t2_qcall (hall _ at_c279_in) rfl hg1 ⟨at_k277 _, lx_ki _, True.intro⟩ rfl rfl rfl) (fun v2 m2 hg2 => ?_)
  obtain ⟨⟨y2, rfl⟩, hg2⟩ := hg2
  refine fl_Tq.stp (pw_cod lx_k1132) rfl (fl_bo rfl) rfl ?_
  refine fl_Tq.stp (pw_cod lx_k1133) rfl (fl_bo rfl) rfl ?_
  exact kk m2 hg2
theorem ly_c30 {L : Nat} {xs : Nat → Int32} {m : fl_M} {Q : Option fl_V → fl_M → Prop} {i : Nat} (hall : ∀ c ∈ at_CM ++ at_CA, at_Valid at_XI (pw_P L xs) c) (hL : L ≤ 3072) (hi : i + 6 ≤ L) (hg : t2_Z m) (kk : ∀ m' : fl_M, t2_Z m' → fl_Tq (pw_P L xs) 0 2030 (lx_lv i) [] m' Q) : fl_Tq (pw_P L xs) 0 1136 (lx_lv i) [] m Q := by
  obtain ⟨f, l⟩ := m
  refine fl_Tq.stp (pw_cod lx_k1136) rfl (fl_bo rfl) rfl ?_
  refine lx_arg (i := i) (jn := 1) (pw_cod lx_k1137) (pw_cod lx_k1138) (pw_cod lx_k1139) (pw_cod lx_k1140) (pw_cod lx_k1141) rfl (fl_bo rfl) hL (by omega) ?_
  refine lx_arg (i := i) (jn := 2) (pw_cod lx_k1142) (pw_cod lx_k1143) (pw_cod lx_k1144) (pw_cod lx_k1145) (pw_cod lx_k1146) rfl (fl_bo rfl) hL (by omega) ?_
  refine lx_callG (as_ := [lx_x, .inl (xs (i + 1)), .inl (xs (i + 2))]) (rest := []) (pw_cod lx_k1147) (pw_cll lx_l141) rfl (fl_bo rfl) rfl rfl (t2_qcall (hall _ at_c133_in) rfl hg ⟨lx_kx _, lx_ki _, lx_ki _, True.intro⟩ rfl rfl rfl) (fun v1 m1 hg1 => ?_)
  obtain ⟨⟨y1, rfl⟩, hg1⟩ := hg1
  refine fl_Tq.stp (pw_cod lx_k1150) rfl (fl_bo rfl) rfl ?_
  refine fl_Tq.stp (pw_cod lx_k1151) rfl (fl_bo rfl) rfl ?_
  refine lx_arg (i := i) (jn := 1) (pw_cod lx_k1152) (pw_cod lx_k1153) (pw_cod lx_k1154) (pw_cod lx_k1155) (pw_cod lx_k1156) rfl (fl_bo rfl) hL (by omega) ?_
  refine lx_arg (i := i) (jn := 2) (pw_cod lx_k1157) (pw_cod lx_k1158) (pw_cod lx_k1159) (pw_cod lx_k1160) (pw_cod lx_k1161) rfl (fl_bo rfl) hL (by omega) ?_
  refine lx_callG (as_ := [at_this, .inl (xs (i + 1)), .inl (xs (i + 2))]) (rest := []) (pw_cod lx_k1162) (pw_cll lx_l144) rfl (fl_bo rfl) rfl rfl (t2_qcall (hall _ at_c280_in) rfl hg1 ⟨at_k277 _, lx_ki _, lx_ki _, True.intro⟩ rfl rfl rfl) (fun v2 m2 hg2 => ?_)
  obtain ⟨⟨y2, rfl⟩, hg2⟩ := hg2
  refine fl_Tq.stp (pw_cod lx_k1165) rfl (fl_bo rfl) rfl ?_
  refine fl_Tq.stp (pw_cod lx_k1166) rfl (fl_bo rfl) rfl ?_
  exact kk m2 hg2
theorem ly_c31 {L : Nat} {xs : Nat → Int32} {m : fl_M} {Q : Option fl_V → fl_M → Prop} {i : Nat} (hall : ∀ c ∈ at_CM ++ at_CA, at_Valid at_XI (pw_P L xs) c) (hL : L ≤ 3072) (hi : i + 6 ≤ L) (hg : t2_Z m) (kk : ∀ m' : fl_M, t2_Z m' → fl_Tq (pw_P L xs) 0 2030 (lx_lv i) [] m' Q) : fl_Tq (pw_P L xs) 0 1169 (lx_lv i) [] m Q := by
  obtain ⟨f, l⟩ := m
  refine fl_Tq.stp (pw_cod lx_k1169) rfl (fl_bo rfl) rfl ?_
  refine lx_arg (i := i) (jn := 1) (pw_cod lx_k1170) (pw_cod lx_k1171) (pw_cod lx_k1172) (pw_cod lx_k1173) (pw_cod lx_k1174) rfl (fl_bo rfl) hL (by omega) ?_
  refine lx_callG (as_ := [lx_x, .inl (xs (i + 1))]) (rest := []) (pw_cod lx_k1175) (pw_cll lx_l145) rfl (fl_bo rfl) rfl rfl (t2_qcall (hall _ at_c134_in) rfl hg ⟨lx_kx _, lx_ki _, True.intro⟩ rfl rfl rfl) (fun v1 m1 hg1 => ?_)
  obtain ⟨⟨y1, rfl⟩, hg1⟩ := hg1
  refine fl_Tq.stp (pw_cod lx_k1178) rfl (fl_bo rfl) rfl ?_
  refine fl_Tq.stp (pw_cod lx_k1179) rfl (fl_bo rfl) rfl ?_
  refine lx_arg (i := i) (jn := 1) (pw_cod lx_k1180) (pw_cod lx_k1181) (pw_cod lx_k1182) (pw_cod lx_k1183) (pw_cod lx_k1184) rfl (fl_bo rfl) hL (by omega) ?_
  refine lx_callG (as_ := [at_this, .inl (xs (i + 1))]) (rest := []) (pw_cod lx_k1185) (pw_cll lx_l148) rfl (fl_bo rfl) rfl rfl (t2_qcall (hall _ at_c298_in) rfl hg1 ⟨at_k277 _, lx_ki _, True.intro⟩ rfl rfl rfl) (fun v2 m2 hg2 => ?_)
  obtain ⟨⟨y2, rfl⟩, hg2⟩ := hg2
  refine fl_Tq.stp (pw_cod lx_k1188) rfl (fl_bo rfl) rfl ?_
  refine fl_Tq.stp (pw_cod lx_k1189) rfl (fl_bo rfl) rfl ?_
  exact kk m2 hg2
theorem ly_c32 {L : Nat} {xs : Nat → Int32} {m : fl_M} {Q : Option fl_V → fl_M → Prop} {i : Nat} (hall : ∀ c ∈ at_CM ++ at_CA, at_Valid at_XI (pw_P L xs) c) (hL : L ≤ 3072) (hi : i + 6 ≤ L) (hg : t2_Z m) (kk : ∀ m' : fl_M, t2_Z m' → fl_Tq (pw_P L xs) 0 2030 (lx_lv i) [] m' Q) : fl_Tq (pw_P L xs) 0 1192 (lx_lv i) [] m Q := by
  obtain ⟨f, l⟩ := m
  refine fl_Tq.stp (pw_cod lx_k1192) rfl (fl_bo rfl) rfl ?_
  refine lx_arg (i := i) (jn := 1) (pw_cod lx_k1193) (pw_cod lx_k1194) (pw_cod lx_k1195) (pw_cod lx_k1196) (pw_cod lx_k1197) rfl (fl_bo rfl) hL (by omega) ?_
  refine lx_arg (i := i) (jn := 2) (pw_cod lx_k1198) (pw_cod lx_k1199) (pw_cod lx_k1200) (pw_cod lx_k1201) (pw_cod lx_k1202) rfl (fl_bo rfl) hL (by omega) ?_
  refine lx_arg (i := i) (jn := 3) (pw_cod lx_k1203) (pw_cod lx_k1204) (pw_cod lx_k1205) (pw_cod lx_k1206) (pw_cod lx_k1207) rfl (fl_bo rfl) hL (by omega) ?_
  refine lx_callG (as_ := [lx_x, .inl (xs (i + 1)), .inl (xs (i + 2)), .inl (xs (i + 3))]) (rest := []) (pw_cod lx_k1208) (pw_cll lx_l149) rfl (fl_bo rfl) rfl rfl (t2_qcall (hall _ at_c135_in) rfl hg ⟨lx_kx _, lx_ki _, lx_ki _, lx_ki _, True.intro⟩ rfl rfl rfl) (fun v1 m1 hg1 => ?_)
  obtain ⟨⟨y1, rfl⟩, hg1⟩ := hg1
  refine fl_Tq.stp (pw_cod lx_k1211) rfl (fl_bo rfl) rfl ?_
  refine fl_Tq.stp (pw_cod lx_k1212) rfl (fl_bo rfl) rfl ?_
  refine lx_arg (i := i) (jn := 1) (pw_cod lx_k1213) (pw_cod lx_k1214) (pw_cod lx_k1215) (pw_cod lx_k1216) (pw_cod lx_k1217) rfl (fl_bo rfl) hL (by omega) ?_
  refine lx_arg (i := i) (jn := 2) (pw_cod lx_k1218) (pw_cod lx_k1219) (pw_cod lx_k1220) (pw_cod lx_k1221) (pw_cod lx_k1222) rfl (fl_bo rfl) hL (by omega) ?_
  refine lx_arg (i := i) (jn := 3) (pw_cod lx_k1223) (pw_cod lx_k1224) (pw_cod lx_k1225) (pw_cod lx_k1226) (pw_cod lx_k1227) rfl (fl_bo rfl) hL (by omega) ?_
  refine lx_callG (as_ := [at_this, .inl (xs (i + 1)), .inl (xs (i + 2)), .inl (xs (i + 3))]) (rest := []) (pw_cod lx_k1228) (pw_cll lx_l152) rfl (fl_bo rfl) rfl rfl (t2_qcall (hall _ at_c294_in) rfl hg1 ⟨at_k277 _, lx_ki _, lx_ki _, lx_ki _, True.intro⟩ rfl rfl rfl) (fun v2 m2 hg2 => ?_)
  obtain ⟨⟨y2, rfl⟩, hg2⟩ := hg2
  refine fl_Tq.stp (pw_cod lx_k1231) rfl (fl_bo rfl) rfl ?_
  refine fl_Tq.stp (pw_cod lx_k1232) rfl (fl_bo rfl) rfl ?_
  exact kk m2 hg2
theorem ly_c33 {L : Nat} {xs : Nat → Int32} {m : fl_M} {Q : Option fl_V → fl_M → Prop} {i : Nat} (hall : ∀ c ∈ at_CM ++ at_CA, at_Valid at_XI (pw_P L xs) c) (hL : L ≤ 3072) (hi : i + 6 ≤ L) (hg : t2_Z m) (kk : ∀ m' : fl_M, t2_Z m' → fl_Tq (pw_P L xs) 0 2030 (lx_lv i) [] m' Q) : fl_Tq (pw_P L xs) 0 1235 (lx_lv i) [] m Q := by
  obtain ⟨f, l⟩ := m
  refine fl_Tq.stp (pw_cod lx_k1235) rfl (fl_bo rfl) rfl ?_
  refine lx_arg (i := i) (jn := 1) (pw_cod lx_k1236) (pw_cod lx_k1237) (pw_cod lx_k1238) (pw_cod lx_k1239) (pw_cod lx_k1240) rfl (fl_bo rfl) hL (by omega) ?_
  refine lx_callG (as_ := [lx_x, .inl (xs (i + 1))]) (rest := []) (pw_cod lx_k1241) (pw_cll lx_l153) rfl (fl_bo rfl) rfl rfl (t2_qcall (hall _ at_c136_in) rfl hg ⟨lx_kx _, lx_ki _, True.intro⟩ rfl rfl rfl) (fun v1 m1 hg1 => ?_)
  obtain ⟨⟨y1, rfl⟩, hg1⟩ := hg1
  refine fl_Tq.stp (pw_cod lx_k1244) rfl (fl_bo rfl) rfl ?_
  refine fl_Tq.stp (pw_cod lx_k1245) rfl (fl_bo rfl) rfl ?_
  refine lx_arg (i := i) (jn := 1) (pw_cod lx_k1246) (pw_cod lx_k1247) (pw_cod lx_k1248) (pw_cod lx_k1249) (pw_cod lx_k1250) rfl (fl_bo rfl) hL (by omega) ?_
  refine lx_callG (as_ := [at_this, .inl (xs (i + 1))]) (rest := []) (pw_cod lx_k1251) (pw_cll lx_l156) rfl (fl_bo rfl) rfl rfl (t2_qcall (hall _ at_c295_in) rfl hg1 ⟨at_k277 _, lx_ki _, True.intro⟩ rfl rfl rfl) (fun v2 m2 hg2 => ?_)
  obtain ⟨⟨y2, rfl⟩, hg2⟩ := hg2
  refine fl_Tq.stp (pw_cod lx_k1254) rfl (fl_bo rfl) rfl ?_
  refine fl_Tq.stp (pw_cod lx_k1255) rfl (fl_bo rfl) rfl ?_
  exact kk m2 hg2

end
