/-! ===== the reference's foretelling: all is as it was ===== -/
section T2MQ8
variable {L : Nat} {xs : Nat → Int32} {m0 m m1 : fl_M} {f g F G : t2_F} {l l' : t2_L} {Q : Option fl_V → fl_M → Prop} {a b c : Int32} {k : Nat} {v : Int32}
theorem at_Good.plain (h : at_Good at_XI (f, l)) (hv : v = 0 ∨ v = 1) : at_Good at_XI (fl_row f 277 (upd (f 277) 7 v), l) := by
  have hw : at_w (fl_row f 277 (upd (f 277) 7 v), l) = at_w (f, l) := funext (fun j => by
    show (fl_row f 277 (upd (f 277) 7 v) 280 j).toInt = (f 280 j).toInt
    rw [fl_row_ne (by decide)])
  have k76 : fk_K 277 = 76 := by decide +kernel
  have r76 : (at_rg 76).all (fun r => decide (r.2.2.2.2.2.1 = 0 ∧ r.2.2.2.2.2.2 = 1)) = true := by decide +kernel
  refine ⟨fun p hp r hr j hm => ?_, ?_, h.2.2.keep rfl (fun p j hp => ?_)⟩
  · show r.2.2.2.2.2.1 ≤ (fl_row f 277 (upd (f 277) 7 v) p j).toInt ∧ (fl_row f 277 (upd (f 277) 7 v) p j).toInt ≤ r.2.2.2.2.2.2
    by_cases e : p = 277 ∧ j = 7
    · obtain ⟨rfl, rfl⟩ := e
      rw [k76] at hr
      have := of_decide_eq_true (List.all_eq_true.mp r76 r hr)
      have c0 : (0 : Int32).toInt = 0 := rfl
      have c1 : (1 : Int32).toInt = 1 := by decide +kernel
      rw [fl_row_self, upd_self, this.1, this.2]
      rcases hv with rfl | rfl
      · rw [c0]; omega
      · rw [c1]; omega
    · have e2 : fl_row f 277 (upd (f 277) 7 v) p j = f p j := by
        by_cases e1 : p = 277
        · subst e1
          rw [fl_row_self, upd_ne (fun h => e ⟨rfl, h⟩)]
        · rw [fl_row_ne e1]
      rw [e2]
      exact h.1 p hp r hr j hm
  · have := h.2.1
    unfold at_RL at this ⊢
    rw [hw]
    exact this
  · show fl_row f 277 (upd (f 277) 7 v) p j = f p j
    rw [fl_row_ne (by
      rcases hp with h | h | h | h | h | h | h | h
      · omega
      · omega
      · unfold fl_N at h; omega
      · omega
      · omega
      · omega
      · omega
      · omega)]
theorem at_Good.setw (h : at_Good at_XI (f, l)) (hk : k < 30) (hv : -99999 ≤ v.toInt ∧ v.toInt ≤ 99999) : at_Good at_XI (fl_row f 280 (upd (f 280) (34 + k) v), l) := by
  have ne : ∀ p j : Nat, (p = 280 → j ≠ 34 + k) → fl_row f 280 (upd (f 280) (34 + k) v) p j = f p j := fun p j e => by
    by_cases e1 : p = 280
    · subst e1
      rw [fl_row_self, upd_ne (e rfl)]
    · rw [fl_row_ne e1]
  have hX : at_XI (fl_row f 280 (upd (f 280) (34 + k) v), l) := h.2.2.keep rfl (fun p j hp => ne p j (fun e => by
    rcases hp with h | h | h | h | h | h | h | h
    · omega
    · omega
    · unfold fl_N at h; omega
    · omega
    · omega
    · omega
    · omega
    · omega))
  have ew : ∀ j, j ≠ 34 + k → at_w (fl_row f 280 (upd (f 280) (34 + k) v), l) j = at_w (f, l) j := fun j hj => by
    show (fl_row f 280 (upd (f 280) (34 + k) v) 280 j).toInt = _
    rw [ne 280 j (fun _ => hj)]
    rfl
  have ev : at_w (fl_row f 280 (upd (f 280) (34 + k) v), l) (34 + k) = v.toInt := by
    show (fl_row f 280 (upd (f 280) (34 + k) v) 280 (34 + k)).toInt = _
    rw [fl_row_self, upd_self]
  obtain ⟨a1, a2, a3⟩ := h.AK
  refine h.mk rfl hX (fun p j hp _ hne => absurd (ne p j (fun e => absurd e hp)) hne) (by rw [ew 0 (by omega)]; exact h.w0) (by rw [ew 1 (by omega)]; exact h.w1) ⟨fun r hr j hj hm => ?_, fun c hc hl => ?_, fun kk hkk => ?_⟩
  · by_cases e : j = 34 + k
    · subst e
      have h1 := List.all_eq_true.mp at_rg34 k (List.mem_range.mpr hk)
      have h2 := List.all_eq_true.mp h1 r hr
      have ec : (34 + (k : Int)) = ((34 + k : Nat) : Int) := by omega
      rw [ec, at_memb_ok hm] at h2
      have h3 := of_decide_eq_true (show decide (r = (0, 34, 0, 1, 30, -99999, 99999)) = true by simpa using h2)
      subst h3
      rw [ev]
      exact ⟨by show (-99999 : Int) ≤ _; omega, by show _ ≤ (99999 : Int); omega⟩
    · rw [ew j e]
      exact a1 r hr j hj hm
  · rw [ew 2 (by omega)] at hl
    rw [ew (444 + 61 * c) (by omega), ew (450 + 61 * c) (by omega), ew (454 + 61 * c) (by omega), ew (445 + 61 * c) (by omega)]
    exact a2 c hc hl
  · rw [ew (341 + 35 * kk) (by omega), ew 2 (by omega)]
    exact a3 kk hkk
/-- the words of m0 are put aside -/
def t2_Iv (m0 m : fl_M) : Prop := at_Good at_XI m ∧ ∀ j : Nat, j < 1418 → m.1 283 j = m0.1 280 (2 + j)
/-- the words of m0 are there again -/
def t2_Rst (m0 : fl_M) (v : Option fl_V) (m : fl_M) : Prop := (∃ y, v = some (.inl y)) ∧ ∀ w : Nat, 2 ≤ w → w < 1420 → m.1 280 w = m0.1 280 w
def t2_in (ws : List at_W) : Bool := ws.all (fun w => !Nat.beq w.1 82)
theorem t2_Iv.call {cc : at_C} {as_ : List fl_V} {lo hi : Int} (h : t2_Iv m0 m) (hV : at_Valid at_XI (pw_P L xs) cc) (hk : at_agk m.2.2 cc.2.1 as_) (hl : cc.2.2.1 = []) (hw : t2_in cc.2.2.2.2.2 = true) (hr : cc.2.2.2.1 = some (.inr (false, lo, hi))) (K : ∀ (x : Int32) (m' : fl_M), t2_Iv m0 m' → Q (some (.inl x)) m') : fl_Tq (pw_P L xs) cc.1 0 (fl_args (am_mxl (pw_P L xs) cc.1) as_) [] m Q := by
  refine fl_Tq.mono (hV m as_ h.1 hk (fun q hq => by rw [hl] at hq; cases hq)) (fun vv m' ⟨hg', md, hv⟩ => ?_)
  rw [hr] at hv
  obtain ⟨x, rfl, -⟩ := hv
  refine K x m' ⟨hg', fun j hj => ?_⟩
  rw [← h.2 j hj]
  apply Classical.byContradiction
  intro hne
  obtain ⟨w, hw1, e, -⟩ := md.2 283 j hne
  have k82 : fk_K 283 = 82 := by decide +kernel
  have hb := List.all_eq_true.mp hw w hw1
  rw [e, k82] at hb
  exact absurd hb (by decide)
theorem t2_Iv.put (hg : at_Good at_XI m) (K : ∀ m' : fl_M, t2_Iv m m' → (∀ p : Nat, p ≠ 283 → m'.1 p = m.1 p) → Q none m') : fl_Tq (pw_P L xs) 238 0 (fl_args (am_mxl (pw_P L xs) 238) [.inr (.inr (.inl (76, 277)))]) [] m Q := by
  refine fl_Tq.mono (t2_join (r_putAside_q (L := L) (xs := xs) (m := m) (Q := fun v m' => v = none ∧ ∃ g : t2_F, m' = (g, m.2) ∧ (∀ p : Nat, p ≠ 283 → g p = m.1 p) ∧ ∀ j : Nat, j < 1418 → g 283 j = m.1 280 (2 + j)) (fun g a b => ⟨rfl, g, rfl, a, b⟩)) (at_v238 (L := L) (xs := xs) m [at_this] hg ⟨at_k277 _, True.intro⟩ (fun q hq => by cases hq))) ?_
  rintro v m' ⟨⟨rfl, g, rfl, h1, h2⟩, v2, m2, -, e2, g2, -, -⟩
  refine K _ ⟨t2_Good e2 g2 (fun p hp i => ?_), h2⟩ h1
  have hp : fl_N m.2.2 ≤ p := hp
  show g p i = _
  rw [h1 p (by unfold fl_N at hp; omega)]
  exact hg.2.2.2.2.1 p hp i
theorem t2_Iv.back (h : t2_Iv m0 m) (K : ∀ m' : fl_M, at_Good at_XI m' → (∀ p : Nat, p ≠ 280 → m'.1 p = m.1 p) → (∀ w : Nat, 2 ≤ w → w < 1420 → m'.1 280 w = m0.1 280 w) → Q none m') : fl_Tq (pw_P L xs) 239 0 (fl_args (am_mxl (pw_P L xs) 239) [.inr (.inr (.inl (76, 277)))]) [] m Q := by
  refine fl_Tq.mono (t2_join (r_bringBack_q (L := L) (xs := xs) (m := m) (Q := fun v m' => v = none ∧ ∃ g : t2_F, m' = (g, m.2) ∧ (∀ p : Nat, p ≠ 280 → g p = m.1 p) ∧ ∀ j : Nat, j < 1418 → g 280 (2 + j) = m.1 283 j) (fun g a _ b => ⟨rfl, g, rfl, a, b⟩)) (at_v239 (L := L) (xs := xs) m [at_this] h.1 ⟨at_k277 _, True.intro⟩ (fun q hq => by cases hq))) ?_
  rintro v m' ⟨⟨rfl, g, rfl, h1, h2⟩, v2, m2, -, e2, g2, -, -⟩
  refine K _ (t2_Good e2 g2 (fun p hp i => ?_)) h1 (fun w w1 w2 => ?_)
  · have hp : fl_N m.2.2 ≤ p := hp
    show g p i = _
    rw [h1 p (by unfold fl_N at hp; omega)]
    exact h.1.2.2.2.2.1 p hp i
  · have e := h2 (w - 2) (by omega)
    rw [h.2 (w - 2) (by omega), show 2 + (w - 2) = w by omega] at e
    exact e
theorem t2_Iv.of (h : t2_Iv m0 m) (hg : at_Good at_XI m1) (e : m1.1 283 = m.1 283) : t2_Iv m0 m1 := ⟨hg, fun j hj => by rw [e]; exact h.2 j hj⟩
section
variable (hall : ∀ c ∈ at_CM ++ at_CA, at_Valid at_XI (pw_P L xs) c)
/-- foretold -/
theorem t2_z310 (hall : ∀ c ∈ at_CM ++ at_CA, at_Valid at_XI (pw_P L xs) c) (hg : at_Good at_XI (f, l)) : fl_Tq (pw_P L xs) 310 0 (fl_args (am_mxl (pw_P L xs) 310) [at_this, .inl a, .inl b]) [] (f, l) (t2_Rst (f, l)) := by
  show fl_Tq (pw_P L xs) 310 0 [some (.inr (.inr (.inl (76, 277)))), some (.inl a), some (.inl b), none, none] [] (f, l) _
  refine z310_A ?_
  refine fl_Tq.cal rfl rfl (fl_bo rfl) rfl ?_
  refine r_canRun_q ?_
  refine z310_B (fun _ => ⟨⟨_, rfl⟩, fun w _ _ => rfl⟩) (fun _ => ?_)
  refine fl_Tq.cal rfl rfl (fl_bo rfl) rfl ?_
  refine t2_Iv.put hg (fun m1 i1 _ => ?_)
  obtain ⟨f1, l1⟩ := m1
  refine z310_C ?_
  refine fl_Tq.cal rfl rfl (fl_bo rfl) rfl ?_
  refine i1.call (hall _ t2_c248_in) ⟨at_k277 _, lx_ki _, True.intro⟩ rfl rfl rfl (fun z m2 i2 => ?_)
  obtain ⟨f2, l2⟩ := m2
  refine z310_D ?_
  refine fl_Tq.cal rfl rfl (fl_bo rfl) rfl ?_
  refine i2.call (hall _ t2_c268_in) ⟨at_k277 _, lx_ki _, True.intro⟩ rfl rfl rfl (fun y m3 i3 => ?_)
  obtain ⟨f3, l3⟩ := m3
  refine z310_E ?_
  refine fl_Tq.cal rfl rfl (fl_bo rfl) rfl ?_
  refine i3.back (fun m4 _ _ w4 => ?_)
  obtain ⟨f4, l4⟩ := m4
  exact z310_F ⟨⟨_, rfl⟩, w4⟩
/-- foretoldOf -/
theorem t2_z311 (hall : ∀ c ∈ at_CM ++ at_CA, at_Valid at_XI (pw_P L xs) c) (hg : at_Good at_XI (f, l)) : fl_Tq (pw_P L xs) 311 0 (fl_args (am_mxl (pw_P L xs) 311) [at_this, .inl a, .inl b, .inl c]) [] (f, l) (t2_Rst (f, l)) := by
  show fl_Tq (pw_P L xs) 311 0 [some (.inr (.inr (.inl (76, 277)))), some (.inl a), some (.inl b), some (.inl c), none, none] [] (f, l) _
  refine z311_A ?_
  refine fl_Tq.cal rfl rfl (fl_bo rfl) rfl ?_
  refine r_canRun_q ?_
  refine z311_B (fun _ => ⟨⟨_, rfl⟩, fun w _ _ => rfl⟩) (fun _ => ?_)
  refine fl_Tq.cal rfl rfl (fl_bo rfl) rfl ?_
  refine t2_Iv.put hg (fun m1 i1 _ => ?_)
  obtain ⟨f1, l1⟩ := m1
  refine z311_C ?_
  refine fl_Tq.cal rfl rfl (fl_bo rfl) rfl ?_
  refine i1.call (hall _ t2_c248_in) ⟨at_k277 _, lx_ki _, True.intro⟩ rfl rfl rfl (fun z m2 i2 => ?_)
  obtain ⟨f2, l2⟩ := m2
  refine z311_D ?_
  refine fl_Tq.cal rfl rfl (fl_bo rfl) rfl ?_
  refine i2.call (hall _ t2_c271_in) ⟨at_k277 _, lx_ki _, lx_ki _, True.intro⟩ rfl rfl rfl (fun y m3 i3 => ?_)
  obtain ⟨f3, l3⟩ := m3
  refine z311_E ?_
  refine fl_Tq.cal rfl rfl (fl_bo rfl) rfl ?_
  refine i3.back (fun m4 _ _ w4 => ?_)
  obtain ⟨f4, l4⟩ := m4
  exact z311_F ⟨⟨_, rfl⟩, w4⟩
/-- driven -/
theorem t2_z312 (hall : ∀ c ∈ at_CM ++ at_CA, at_Valid at_XI (pw_P L xs) c) (hg : at_Good at_XI (f, l)) : fl_Tq (pw_P L xs) 312 0 (fl_args (am_mxl (pw_P L xs) 312) [at_this, .inl a]) [] (f, l) (t2_Rst (f, l)) := by
  show fl_Tq (pw_P L xs) 312 0 [some (.inr (.inr (.inl (76, 277)))), some (.inl a), none, none] [] (f, l) _
  refine z312_A ?_
  refine fl_Tq.cal rfl rfl (fl_bo rfl) rfl ?_
  refine t2_Iv.put hg (fun m1 i1 _ => ?_)
  obtain ⟨f1, l1⟩ := m1
  refine z312_B ?_
  refine fl_Tq.cal rfl rfl (fl_bo rfl) rfl ?_
  refine i1.call (hall _ t2_c266_in) ⟨at_k277 _, True.intro⟩ rfl rfl rfl (fun z m2 i2 => ?_)
  obtain ⟨f2, l2⟩ := m2
  refine z312_C ?_
  refine fl_Tq.cal rfl rfl (fl_bo rfl) rfl ?_
  refine i2.call (hall _ t2_c268_in) ⟨at_k277 _, lx_ki _, True.intro⟩ rfl rfl rfl (fun y m3 i3 => ?_)
  obtain ⟨f3, l3⟩ := m3
  refine z312_D ?_
  refine fl_Tq.cal rfl rfl (fl_bo rfl) rfl ?_
  refine i3.back (fun m4 _ _ w4 => ?_)
  obtain ⟨f4, l4⟩ := m4
  exact z312_E ⟨⟨_, rfl⟩, w4⟩
/-- bare -/
theorem t2_z313 (hall : ∀ c ∈ at_CM ++ at_CA, at_Valid at_XI (pw_P L xs) c) (hg : at_Good at_XI (f, l)) : fl_Tq (pw_P L xs) 313 0 (fl_args (am_mxl (pw_P L xs) 313) [at_this]) [] (f, l) (t2_Rst (f, l)) := by
  have c2 : (2000 : Int32).toInt = 2000 := by decide +kernel
  show fl_Tq (pw_P L xs) 313 0 [some (.inr (.inr (.inl (76, 277)))), none, none, none] [] (f, l) _
  have fin : ∀ (j : Nat) (b c : Int32) (m1 : fl_M), t2_Iv (f, l) m1 → fl_Tq (pw_P L xs) 313 61 [some (.inr (.inr (.inl (76, 277)))), some (.inl (Int32.ofNat j)), some (.inl b), some (.inl c)] [.inr (.inr (.inl (76, 277)))] m1 (t2_Rst (f, l)) := by
    intro j b c m1 i1
    refine fl_Tq.cal rfl rfl (fl_bo rfl) rfl ?_
    refine i1.back (fun m4 _ _ w4 => ?_)
    obtain ⟨f4, l4⟩ := m4
    exact z313_E ⟨⟨_, rfl⟩, w4⟩
  have loop : ∀ (d j : Nat) (b c : Int32) (m1 : fl_M), j + d = 2000 → t2_Iv (f, l) m1 → fl_Tq (pw_P L xs) 313 10 [some (.inr (.inr (.inl (76, 277)))), some (.inl (Int32.ofNat j)), some (.inl b), some (.inl c)] [] m1 (t2_Rst (f, l)) := by
    intro d
    induction d with
    | zero =>
      intro j b c m1 hj i1
      have ej : (Int32.ofNat j).toInt = j := at_ofN (by omega)
      obtain ⟨f1, l1⟩ := m1
      exact z313_C (fun _ h _ => absurd h (by rw [ej, c2]; omega)) (fun _ _ _ => fin j b c _ i1) (fun _ _ => fin j b c _ i1) (fun _ => fin j b c _ i1)
    | succ d ih =>
      intro j b c m1 hj i1
      obtain ⟨f1, l1⟩ := m1
      refine z313_C (fun _ _ _ => ?_) (fun _ _ _ => fin j b c _ i1) (fun _ _ => fin j b c _ i1) (fun _ => fin j b c _ i1)
      refine fl_Tq.cal rfl rfl (fl_bo rfl) rfl ?_
      refine i1.call (hall _ t2_c237_in) ⟨at_k277 _, True.intro⟩ rfl rfl rfl (fun z m2 i2 => ?_)
      obtain ⟨f2, l2⟩ := m2
      refine z313_D ?_
      rw [t2_k1]
      exact ih (j + 1) _ _ _ (by omega) i2
  refine z313_A ?_
  refine fl_Tq.cal rfl rfl (fl_bo rfl) rfl ?_
  refine t2_Iv.put hg (fun m1 i1 _ => ?_)
  obtain ⟨f1, l1⟩ := m1
  refine z313_B ?_
  exact loop 2000 0 _ _ _ rfl i1
/-- harm -/
theorem t2_z314 (hall : ∀ c ∈ at_CM ++ at_CA, at_Valid at_XI (pw_P L xs) c) (hg : at_Good at_XI (f, l)) : fl_Tq (pw_P L xs) 314 0 (fl_args (am_mxl (pw_P L xs) 314) [at_this, .inl a]) [] (f, l) (t2_Rst (f, l)) := by
  have c11 : (11 : Int32).toInt = 11 := by decide +kernel
  have ia := at_i32 a
  show fl_Tq (pw_P L xs) 314 0 [some (.inr (.inr (.inl (76, 277)))), some (.inl a), none, none, none, none] [] (f, l) _
  have look : ∀ (d j : Nat) (b c e : Int32) (m1 : fl_M), j + d = 11 → (∀ w : Nat, 2 ≤ w → w < 1420 → m1.1 280 w = f 280 w) → fl_Tq (pw_P L xs) 314 71 [some (.inr (.inr (.inl (76, 277)))), some (.inl a), some (.inl b), some (.inl c), some (.inl e), some (.inl (Int32.ofNat j))] [] m1 (t2_Rst (f, l)) := by
    intro d
    induction d with
    | zero =>
      intro j b c e m1 hj w1
      have ej : (Int32.ofNat j).toInt = j := at_ofN (by omega)
      obtain ⟨f1, l1⟩ := m1
      exact z314_G (fun h _ => absurd h (by rw [ej, c11]; omega)) (fun _ _ => ⟨⟨_, rfl⟩, w1⟩) (fun _ => ⟨⟨_, rfl⟩, w1⟩)
    | succ d ih =>
      intro j b c e m1 hj w1
      obtain ⟨f1, l1⟩ := m1
      refine z314_G (fun _ _ => ?_) (fun _ _ => ⟨⟨_, rfl⟩, w1⟩) (fun _ => ⟨⟨_, rfl⟩, w1⟩)
      rw [t2_k1]
      exact ih (j + 1) b c e _ (by omega) w1
  have fin : ∀ (b c e : Int32) (m1 : fl_M), t2_Iv (f, l) m1 → fl_Tq (pw_P L xs) 314 65 [some (.inr (.inr (.inl (76, 277)))), some (.inl a), some (.inl b), some (.inl c), some (.inl e), none] [.inr (.inr (.inl (76, 277)))] m1 (t2_Rst (f, l)) := by
    intro b c e m1 i1
    refine fl_Tq.cal rfl rfl (fl_bo rfl) rfl ?_
    refine i1.back (fun m4 _ _ w4 => ?_)
    obtain ⟨f4, l4⟩ := m4
    refine z314_F ?_
    exact look 11 0 b c e _ rfl w4
  have loop : ∀ (d j : Nat) (b c : Int32) (m1 : fl_M), j + d = a.toInt.toNat → t2_Iv (f, l) m1 → fl_Tq (pw_P L xs) 314 30 [some (.inr (.inr (.inl (76, 277)))), some (.inl a), some (.inl b), some (.inl c), some (.inl (Int32.ofNat j)), none] [] m1 (t2_Rst (f, l)) := by
    intro d
    induction d with
    | zero =>
      intro j b c m1 hj i1
      have ej : (Int32.ofNat j).toInt = j := at_ofN (by omega)
      obtain ⟨f1, l1⟩ := m1
      exact z314_D (fun h _ => absurd h (by rw [ej]; omega)) (fun _ _ => fin _ _ _ _ i1) (fun _ => fin _ _ _ _ i1)
    | succ d ih =>
      intro j b c m1 hj i1
      obtain ⟨f1, l1⟩ := m1
      refine z314_D (fun _ _ => ?_) (fun _ _ => fin _ _ _ _ i1) (fun _ => fin _ _ _ _ i1)
      refine fl_Tq.cal rfl rfl (fl_bo rfl) rfl ?_
      refine i1.call (hall _ t2_c237_in) ⟨at_k277 _, True.intro⟩ rfl rfl rfl (fun z m2 i2 => ?_)
      obtain ⟨f2, l2⟩ := m2
      refine z314_E ?_
      rw [t2_k1]
      exact ih (j + 1) _ _ _ (by omega) i2
  refine z314_A ?_
  refine fl_Tq.cal rfl rfl (fl_bo rfl) rfl ?_
  refine r_canRun_q ?_
  refine z314_B (fun _ => ⟨⟨_, rfl⟩, fun w _ _ => rfl⟩) (fun _ => ?_)
  refine fl_Tq.cal rfl rfl (fl_bo rfl) rfl ?_
  refine t2_Iv.put hg (fun m1 i1 _ => ?_)
  obtain ⟨f1, l1⟩ := m1
  refine z314_C ?_
  exact loop _ 0 _ _ _ (Nat.zero_add _) i1
end
end T2MQ8
