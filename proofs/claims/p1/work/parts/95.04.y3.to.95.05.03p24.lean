/-! 95.04.y3.lean.txt -/
section
/-! ===== cheapest: the class's run ===== -/
section CHR
variable {L : Nat} {xs : Nat → Int32} {m : fl_M} {Q : Option fl_V → fl_M → Prop} {p : Nat → Int} {J : Nat → Nat → Int64}
theorem ch_add64 {x y : Int64} (h1 : -9223372036854775808 ≤ x.toInt + y.toInt) (h2 : x.toInt + y.toInt ≤ 9223372036854775807) : (x + y).toInt = x.toInt + y.toInt := by
  rw [Int64.toInt_add]; exact Int.bmod_eq_of_le (by omega) (by omega)
theorem x_minq {x y : Int64} (k : Q (some (fl_j (ch_min x y))) m) : fl_Tq (pw_P L xs) 336 0 (fl_args (am_mxl (pw_P L xs) 336) [fl_j x, fl_j y]) [] m Q := x_min_q k
theorem x_fill275_q {x : Int64} (k : Q none (m.1, ch_fl m.2.1 275 325 x, m.2.2)) : fl_Tq (pw_P L xs) 337 0 (fl_args (am_mxl (pw_P L xs) 337) [.inr (.inr (.inl (75, 275))), fl_j x]) [] m Q := by
  have loop : ∀ d n : Nat, n + d = 325 → fl_Tq (pw_P L xs) 337 6 [some (.inr (.inr (.inl (75, 275)))), some (fl_j x), none, some (.inl (Int32.ofNat n)), some (.inl (Int32.ofNat 325))] [] (m.1, ch_fl m.2.1 275 n x, m.2.2) Q := by
    intro d
    induction d with
    | zero =>
      intro n hn
      have hn : n = 325 := by omega
      subst hn
      refine fl_Tq.stp rfl rfl (fl_bo rfl) rfl ?_
      refine fl_Tq.stp rfl rfl (fl_bo rfl) rfl ?_
      refine fl_Tq.jt rfl (fl_bo rfl) (by decide +kernel) rfl ?_
      exact fl_Tq.ret rfl rfl rfl k
    | succ d ih =>
      intro n hn
      have en := at_ofN (k := n) (by omega)
      have e325 := at_ofN (k := 325) (by omega)
      refine fl_Tq.stp rfl rfl (fl_bo rfl) rfl ?_
      refine fl_Tq.stp rfl rfl (fl_bo rfl) rfl ?_
      refine fl_Tq.jf rfl (fl_bo rfl) ?_ rfl ?_
      · rw [at_c2, en, e325]
        exact decide_eq_false (by show ¬ (0 ≤ (n : Int) - ((325 : Nat) : Int)); omega)
      refine fl_Tq.stp rfl rfl (fl_bo rfl) rfl ?_
      refine fl_Tq.stp rfl rfl (fl_bo rfl) rfl ?_
      refine fl_Tq.stp rfl rfl (fl_bo rfl) rfl ?_
      refine fl_Tq.svJ (p := 275) (τ := 75) (n := 325) (z := (0, 0, 0)) (k := n) rfl (fl_bo rfl) rfl en (by omega) (by decide) ?_
      refine fl_Tq.stp rfl rfl (fl_bo rfl) rfl ?_
      refine fl_Tq.stp rfl rfl (fl_bo rfl) rfl ?_
      have := ih (n + 1) (by omega)
      rw [← ch_fl_s, ← at_inc (by omega)] at this
      exact this
  show fl_Tq (pw_P L xs) 337 0 [some (.inr (.inr (.inl (75, 275)))), some (fl_j x), none, none, none] [] m Q
  refine fl_Tq.stp rfl rfl (fl_bo rfl) rfl ?_
  refine fl_Tq.stp rfl rfl (fl_bo rfl) rfl ?_
  refine fl_Tq.stp rfl rfl (fl_bo rfl) rfl ?_
  refine fl_Tq.stp rfl rfl (fl_bo rfl) rfl ?_
  refine fl_Tq.stp rfl rfl (fl_bo rfl) rfl ?_
  have := loop 325 0 (by omega)
  rw [ch_fl_0] at this
  exact this
theorem x_fill276_q {x : Int64} (k : Q none (m.1, ch_fl m.2.1 276 325 x, m.2.2)) : fl_Tq (pw_P L xs) 337 0 (fl_args (am_mxl (pw_P L xs) 337) [.inr (.inr (.inl (75, 276))), fl_j x]) [] m Q := by
  have loop : ∀ d n : Nat, n + d = 325 → fl_Tq (pw_P L xs) 337 6 [some (.inr (.inr (.inl (75, 276)))), some (fl_j x), none, some (.inl (Int32.ofNat n)), some (.inl (Int32.ofNat 325))] [] (m.1, ch_fl m.2.1 276 n x, m.2.2) Q := by
    intro d
    induction d with
    | zero =>
      intro n hn
      have hn : n = 325 := by omega
      subst hn
      refine fl_Tq.stp rfl rfl (fl_bo rfl) rfl ?_
      refine fl_Tq.stp rfl rfl (fl_bo rfl) rfl ?_
      refine fl_Tq.jt rfl (fl_bo rfl) (by decide +kernel) rfl ?_
      exact fl_Tq.ret rfl rfl rfl k
    | succ d ih =>
      intro n hn
      have en := at_ofN (k := n) (by omega)
      have e325 := at_ofN (k := 325) (by omega)
      refine fl_Tq.stp rfl rfl (fl_bo rfl) rfl ?_
      refine fl_Tq.stp rfl rfl (fl_bo rfl) rfl ?_
      refine fl_Tq.jf rfl (fl_bo rfl) ?_ rfl ?_
      · rw [at_c2, en, e325]
        exact decide_eq_false (by show ¬ (0 ≤ (n : Int) - ((325 : Nat) : Int)); omega)
      refine fl_Tq.stp rfl rfl (fl_bo rfl) rfl ?_
      refine fl_Tq.stp rfl rfl (fl_bo rfl) rfl ?_
      refine fl_Tq.stp rfl rfl (fl_bo rfl) rfl ?_
      refine fl_Tq.svJ (p := 276) (τ := 75) (n := 325) (z := (0, 0, 0)) (k := n) rfl (fl_bo rfl) rfl en (by omega) (by decide) ?_
      refine fl_Tq.stp rfl rfl (fl_bo rfl) rfl ?_
      refine fl_Tq.stp rfl rfl (fl_bo rfl) rfl ?_
      have := ih (n + 1) (by omega)
      rw [← ch_fl_s, ← at_inc (by omega)] at this
      exact this
  show fl_Tq (pw_P L xs) 337 0 [some (.inr (.inr (.inl (75, 276)))), some (fl_j x), none, none, none] [] m Q
  refine fl_Tq.stp rfl rfl (fl_bo rfl) rfl ?_
  refine fl_Tq.stp rfl rfl (fl_bo rfl) rfl ?_
  refine fl_Tq.stp rfl rfl (fl_bo rfl) rfl ?_
  refine fl_Tq.stp rfl rfl (fl_bo rfl) rfl ?_
  refine fl_Tq.stp rfl rfl (fl_bo rfl) rfl ?_
  have := loop 325 0 (by omega)
  rw [ch_fl_0] at this
  exact this
/-- one place of both rows -/
def ch_o1 (J : Nat → Nat → Int64) (i : Nat) : Nat → Nat → Int64 := fl_upL J 275 i (ch_min (J 275 i) (J 276 i))
def ch_bf (J : Nat → Nat → Int64) (t s i : Nat) : Int64 := if 0 < t ∧ 0 < s then ch_min (J 276 (i - 13)) (J 275 (i - 14)) else (1152921504606846976 : Int64)
def ch_o2 (J : Nat → Nat → Int64) (t s : Nat) (c : Int64) : Nat → Nat → Int64 := fl_upL (ch_o1 J (t * 13 + s)) 276 (t * 13 + s) (ch_min (ch_bf (ch_o1 J (t * 13 + s)) t s (t * 13 + s) + c) (1152921504606846976 : Int64))
theorem x_one_q {t s : Nat} {c : Int64} (bt : t ≤ 24) (bs : s ≤ 12) (k : Q none (m.1, ch_o2 m.2.1 t s c, m.2.2)) : fl_Tq (pw_P L xs) 172 0 (fl_args (am_mxl (pw_P L xs) 172) [lx_x, .inl (Int32.ofNat t), .inl (Int32.ofNat s), fl_j c]) [] m Q := by
  have et := at_ofN (k := t) (by omega)
  have es := at_ofN (k := s) (by omega)
  have e13 : (Int8.ofInt 13).toInt32.toInt = 13 := by decide +kernel
  have e1 : (Int32.ofInt 1).toInt = 1 := rfl
  have a1 : (Int32.ofNat t * (Int8.ofInt 13).toInt32).toInt = (t : Int) * 13 := by rw [at_mul32] <;> rw [et, e13] <;> omega
  have ei : (Int32.ofNat t * (Int8.ofInt 13).toInt32 + Int32.ofNat s).toInt = ((t * 13 + s : Nat) : Int) := by rw [at_add32] <;> rw [a1, es] <;> omega
  have bi : t * 13 + s < 325 := by omega
  unfold ch_o2 ch_bf at k
  show fl_Tq (pw_P L xs) 172 0 [some (.inr (.inr (.inl (0, 0)))), some (.inl (Int32.ofNat t)), some (.inl (Int32.ofNat s)), some (fl_j c), none, none, none, none, none] [] m Q
  refine fl_Tq.stp rfl rfl (fl_bo rfl) rfl ?_
  refine fl_Tq.stp rfl rfl (fl_bo rfl) rfl ?_
  refine fl_Tq.stp rfl rfl (fl_bo rfl) rfl ?_
  refine fl_Tq.stp rfl rfl (fl_bo rfl) rfl ?_
  refine fl_Tq.stp rfl rfl (fl_bo rfl) rfl ?_
  refine fl_Tq.stp rfl rfl (fl_bo rfl) rfl ?_
  show fl_Tq (pw_P L xs) 172 8 [some (.inr (.inr (.inl (0, 0)))), some (.inl (Int32.ofNat t)), some (.inl (Int32.ofNat s)), some (fl_j c), none, some (.inl (Int32.ofNat t * (Int8.ofInt 13).toInt32 + Int32.ofNat s)), none, none, none] [] m Q
  generalize Int32.ofNat t * (Int8.ofInt 13).toInt32 + Int32.ofNat s = iv at ei ⊢
  generalize hi : t * 13 + s = i at ei bi k
  have after : ∀ (J : Nat → Nat → Int64) (b : Int64) (o8 : Option fl_V), Q none (m.1, fl_upL J 276 i (ch_min (b + c) (1152921504606846976 : Int64)), m.2.2) → fl_Tq (pw_P L xs) 172 73 [some (.inr (.inr (.inl (0, 0)))), some (.inl (Int32.ofNat t)), some (.inl (Int32.ofNat s)), some (fl_j c), none, some (.inl iv), some (fl_j b), none, o8] [] (m.1, J, m.2.2) Q := by
    intro J b o8 hQ
    refine fl_Tq.stp rfl rfl (fl_bo rfl) rfl ?_
    refine fl_Tq.stp rfl rfl (fl_bo rfl) rfl ?_
    refine fl_Tq.stp rfl rfl (fl_bo rfl) rfl ?_
    refine fl_Tq.stp rfl rfl (fl_bo rfl) rfl ?_
    refine fl_Tq.stp rfl rfl (fl_bo rfl) rfl ?_
    refine fl_Tq.stp rfl rfl (fl_bo rfl) rfl ?_
    refine fl_Tq.stp rfl rfl (fl_bo rfl) rfl ?_
    refine fl_Tq.cal rfl rfl (fl_bo rfl) rfl ?_
    refine x_minq (x := b + c) (y := (1152921504606846976 : Int64)) ?_
    refine fl_Tq.svJ (p := 276) (τ := 75) (n := 325) (z := (0, 0, 0)) (k := i) rfl (fl_bo rfl) rfl ei bi (by decide) ?_
    exact fl_Tq.ret rfl rfl rfl hQ
  refine fl_Tq.stp rfl rfl (fl_bo rfl) rfl ?_
  refine fl_Tq.stp rfl rfl (fl_bo rfl) rfl ?_
  refine fl_Tq.stp rfl rfl (fl_bo rfl) rfl ?_
  refine fl_Tq.stp rfl rfl (fl_bo rfl) rfl ?_
  refine fl_Tq.stp rfl rfl (fl_bo rfl) rfl ?_
  refine fl_Tq.stp rfl rfl (fl_bo rfl) rfl ?_
  refine fl_Tq.ldJ (p := 275) (τ := 75) (n := 325) (z := (0, 0, 0)) (k := i) rfl (fl_bo rfl) rfl ei bi (by decide) ?_
  refine fl_Tq.stp rfl rfl (fl_bo rfl) rfl ?_
  refine fl_Tq.stp rfl rfl (fl_bo rfl) rfl ?_
  refine fl_Tq.stp rfl rfl (fl_bo rfl) rfl ?_
  refine fl_Tq.ldJ (p := 276) (τ := 75) (n := 325) (z := (0, 0, 0)) (k := i) rfl (fl_bo rfl) rfl ei bi (by decide) ?_
  refine fl_Tq.cal rfl rfl (fl_bo rfl) rfl ?_
  refine x_minq (x := m.2.1 275 i) (y := m.2.1 276 i) ?_
  refine fl_Tq.svJ (p := 275) (τ := 75) (n := 325) (z := (0, 0, 0)) (k := i) rfl (fl_bo rfl) rfl ei bi (by decide) ?_
  show fl_Tq (pw_P L xs) 172 32 [some (.inr (.inr (.inl (0, 0)))), some (.inl (Int32.ofNat t)), some (.inl (Int32.ofNat s)), some (fl_j c), none, some (.inl iv), none, none, none] [] (m.1, ch_o1 m.2.1 i, m.2.2) Q
  generalize ch_o1 m.2.1 i = J at k ⊢
  refine fl_Tq.stp rfl rfl (fl_bo rfl) rfl ?_
  refine fl_Tq.stp rfl rfl (fl_bo rfl) rfl ?_
  refine fl_Tq.stp rfl rfl (fl_bo rfl) rfl ?_
  by_cases ht : 0 < t
  case neg =>
    rw [if_neg (fun h => ht h.1)] at k
    refine fl_Tq.zt rfl (fl_bo rfl) ?_ rfl ?_
    · rw [at_c1, et]
      exact decide_eq_true (show (t : Int) ≤ 0 by omega)
    exact after _ _ _ k
  refine fl_Tq.zf rfl (fl_bo rfl) ?_ rfl ?_
  · rw [at_c1, et]
    exact decide_eq_false (show ¬ (t : Int) ≤ 0 by omega)
  refine fl_Tq.stp rfl rfl (fl_bo rfl) rfl ?_
  by_cases hs : 0 < s
  case neg =>
    rw [if_neg (fun h => hs h.2)] at k
    refine fl_Tq.zt rfl (fl_bo rfl) ?_ rfl ?_
    · rw [at_c1, es]
      exact decide_eq_true (show (s : Int) ≤ 0 by omega)
    exact after _ _ _ k
  rw [if_pos ⟨ht, hs⟩] at k
  refine fl_Tq.zf rfl (fl_bo rfl) ?_ rfl ?_
  · rw [at_c1, es]
    exact decide_eq_false (show ¬ (s : Int) ≤ 0 by omega)
  have el : (iv - (Int8.ofInt 13).toInt32).toInt = ((i - 13 : Nat) : Int) := by
    rw [at_sub32] <;> rw [ei, e13] <;> omega
  have el1 : (iv - (Int8.ofInt 13).toInt32 - Int32.ofInt 1).toInt = ((i - 14 : Nat) : Int) := by
    rw [at_sub32] <;> rw [el, e1] <;> omega
  refine fl_Tq.stp rfl rfl (fl_bo rfl) rfl ?_
  refine fl_Tq.stp rfl rfl (fl_bo rfl) rfl ?_
  refine fl_Tq.stp rfl rfl (fl_bo rfl) rfl ?_
  refine fl_Tq.stp rfl rfl (fl_bo rfl) rfl ?_
  show fl_Tq (pw_P L xs) 172 52 [some (.inr (.inr (.inl (0, 0)))), some (.inl (Int32.ofNat t)), some (.inl (Int32.ofNat s)), some (fl_j c), none, some (.inl iv), some (fl_j (1152921504606846976 : Int64)), none, some (.inl (iv - (Int8.ofInt 13).toInt32))] [] (m.1, J, m.2.2) Q
  refine fl_Tq.stp rfl rfl (fl_bo rfl) rfl ?_
  refine fl_Tq.stp rfl rfl (fl_bo rfl) rfl ?_
  refine fl_Tq.stp rfl rfl (fl_bo rfl) rfl ?_
  refine fl_Tq.ldJ (p := 276) (τ := 75) (n := 325) (z := (0, 0, 0)) (k := i - 13) rfl (fl_bo rfl) rfl el (by omega) (by decide) ?_
  refine fl_Tq.stp rfl rfl (fl_bo rfl) rfl ?_
  refine fl_Tq.stp rfl rfl (fl_bo rfl) rfl ?_
  refine fl_Tq.stp rfl rfl (fl_bo rfl) rfl ?_
  refine fl_Tq.stp rfl rfl (fl_bo rfl) rfl ?_
  refine fl_Tq.stp rfl rfl (fl_bo rfl) rfl ?_
  refine fl_Tq.ldJ (p := 275) (τ := 75) (n := 325) (z := (0, 0, 0)) (k := i - 14) rfl (fl_bo rfl) rfl el1 (by omega) (by decide) ?_
  refine fl_Tq.cal rfl rfl (fl_bo rfl) rfl ?_
  refine x_minq (x := J 276 (i - 13)) (y := J 275 (i - 14)) ?_
  refine fl_Tq.stp rfl rfl (fl_bo rfl) rfl ?_
  exact after _ _ _ k
/-- both rows, the places from (t, s) on of the hour h + 1, those below still of h -/
def ch_T (p : Nat → Int) (K M h t s : Nat) (J : Nat → Nat → Int64) : Prop := ∀ T S : Nat, T ≤ K → S ≤ M → (J 275 (T * 13 + S)).toInt = (ch_p p (if t < T ∨ (T = t ∧ s ≤ S) then h + 1 else h) T S).1 ∧ (J 276 (T * 13 + S)).toInt = (ch_p p (if t < T ∨ (T = t ∧ s ≤ S) then h + 1 else h) T S).2
theorem ch_upL_s {f : Nat → Nat → Int64} {q k : Nat} {v : Int64} : fl_upL f q k v q k = v := by
  unfold fl_upL
  rw [if_pos ⟨rfl, rfl⟩]
theorem ch_upL_n {f : Nat → Nat → Int64} {q k a b : Nat} {v : Int64} (h : ¬ (a = q ∧ b = k)) : fl_upL f q k v a b = f a b := by
  unfold fl_upL
  rw [if_neg h]
theorem ch_T_step (hp : ∀ h, 0 ≤ p h ∧ p h ≤ 999) {K M h t s : Nat} {c : Int64} (bM : M ≤ 12) (bt : t ≤ K) (bs : s ≤ M) (bh : h < 24) (hc : c.toInt = ch_c p h) (H : ch_T p K M h t (s + 1) J) : ch_T p K M h t s (ch_o2 J t s c) := by
  intro T S hT hS
  have cb : 0 ≤ ch_c p h ∧ ch_c p h ≤ 16777216 * 1000 := by
    obtain ⟨w1, w2, w3⟩ := ch_pw h bh
    have := hp h
    unfold ch_c
    omega
  by_cases e : T = t ∧ S = s
  · obtain ⟨rfl, rfl⟩ := e
    rw [if_pos (Or.inr ⟨rfl, Nat.le_refl _⟩)]
    obtain ⟨o1, o2⟩ := H T S hT hS
    rw [if_neg (by omega)] at o1 o2
    refine ⟨?_, ?_⟩
    · show (fl_upL (ch_o1 J (T * 13 + S)) 276 (T * 13 + S) _ 275 (T * 13 + S)).toInt = _
      rw [ch_upL_n (fun q => absurd q.1 (by decide))]
      show (fl_upL J 275 (T * 13 + S) _ 275 (T * 13 + S)).toInt = _
      rw [ch_upL_s, ch_min_i, o1, o2]
      rfl
    · show (fl_upL (ch_o1 J (T * 13 + S)) 276 (T * 13 + S) _ 276 (T * 13 + S)).toInt = min ((if T = 0 ∨ S = 0 then ch_B else min (ch_p p h (T - 1) S).2 (ch_p p h (T - 1) (S - 1)).1) + ch_c p h) ch_B
      rw [ch_upL_s, ch_min_i]
      have eB : (1152921504606846976 : Int64).toInt = ch_B := by decide +kernel
      have bfe : (ch_bf (ch_o1 J (T * 13 + S)) T S (T * 13 + S)).toInt = (if T = 0 ∨ S = 0 then ch_B else min (ch_p p h (T - 1) S).2 (ch_p p h (T - 1) (S - 1)).1) := by
        unfold ch_bf
        by_cases g : 0 < T ∧ 0 < S
        · rw [if_pos g, if_neg (by omega), ch_min_i]
          unfold ch_o1
          rw [ch_upL_n (fun q => absurd q.1 (by decide)), ch_upL_n (fun q => by omega)]
          have b1 := (H (T - 1) S (by omega) hS).2
          have b2 := (H (T - 1) (S - 1) (by omega) (by omega)).1
          rw [if_neg (by omega)] at b1 b2
          rw [show (T - 1) * 13 + S = T * 13 + S - 13 by omega] at b1
          rw [show (T - 1) * 13 + (S - 1) = T * 13 + S - 14 by omega] at b2
          rw [b1, b2]
        · rw [if_neg g, if_pos (by omega), eB]
      have bb : 0 ≤ (if T = 0 ∨ S = 0 then ch_B else min (ch_p p h (T - 1) S).2 (ch_p p h (T - 1) (S - 1)).1) ∧ (if T = 0 ∨ S = 0 then ch_B else min (ch_p p h (T - 1) S).2 (ch_p p h (T - 1) (S - 1)).1) ≤ ch_B := by
        have q1 := ch_p_b hp h (T - 1) S
        have q2 := ch_p_b hp h (T - 1) (S - 1)
        split
        · unfold ch_B
          omega
        · omega
      have eBv : ch_B = 1152921504606846976 := rfl
      rw [ch_add64 (by rw [bfe, hc]; omega) (by rw [bfe, hc]; omega), bfe, hc, eB]
  · have ne : T * 13 + S ≠ t * 13 + s := by omega
    have e1 : ch_o2 J t s c 275 (T * 13 + S) = J 275 (T * 13 + S) := by
      unfold ch_o2 ch_o1
      rw [ch_upL_n (fun q => absurd q.1 (by decide)), ch_upL_n (fun q => ne q.2)]
    have e2 : ch_o2 J t s c 276 (T * 13 + S) = J 276 (T * 13 + S) := by
      unfold ch_o2 ch_o1
      rw [ch_upL_n (fun q => ne q.2), ch_upL_n (fun q => absurd q.1 (by decide))]
    rw [e1, e2]
    have := H T S hT hS
    by_cases g : t < T ∨ (T = t ∧ s ≤ S)
    · rw [if_pos g]
      rw [if_pos (by omega)] at this
      exact this
    · rw [if_neg g]
      rw [if_neg (by omega)] at this
      exact this
theorem ch_T_row {K M h t : Nat} (H : ch_T p K M h (t + 1) 0 J) : ch_T p K M h t (M + 1) J := by
  intro T S hT hS
  have := H T S hT hS
  by_cases g : t < T ∨ (T = t ∧ M + 1 ≤ S)
  · rw [if_pos g]
    rw [if_pos (by omega)] at this
    exact this
  · rw [if_neg g]
    rw [if_neg (by omega)] at this
    exact this
theorem ch_T_hour {K M h : Nat} (H : ch_T p K M h 0 0 J) : ch_T p K M (h + 1) K (M + 1) J := by
  intro T S hT hS
  have := H T S hT hS
  rw [if_neg (by omega)]
  rw [if_pos (by omega)] at this
  exact this
theorem ch_cost1 : (List.range 1000).all (fun n => decide (((Int32.ofNat n).toInt64 <<< ((Int8.ofInt 24).toInt32.toInt64 &&& 63)).toInt = (n : Int) * 16777216)) = true := by decide +kernel
theorem ch_cost2 : (List.range 24).all (fun n => decide ((Int64.ofNat 1 <<< ((Int32.ofNat n).toInt64 &&& 63)).toInt = 2 ^ n)) = true := by decide +kernel
theorem ch_cost {x : Int32} {h : Nat} (bh : h < 24) (hx : 0 ≤ x.toInt ∧ x.toInt ≤ 999) : ((x.toInt64 <<< ((Int8.ofInt 24).toInt32.toInt64 &&& 63)) + (Int64.ofNat 1 <<< ((Int32.ofNat h).toInt64 &&& 63))).toInt = x.toInt * 16777216 + 2 ^ h := by
  obtain ⟨n, hn⟩ : ∃ n : Nat, x.toInt = n := ⟨x.toInt.toNat, by omega⟩
  have e : x = Int32.ofNat n := Int32.toInt.inj (by rw [at_ofN (by omega)]; exact hn)
  subst e
  have a := of_decide_eq_true (List.all_eq_true.mp ch_cost1 n (List.mem_range.mpr (by omega)))
  have b := of_decide_eq_true (List.all_eq_true.mp ch_cost2 h (List.mem_range.mpr bh))
  obtain ⟨w1, w2, w3⟩ := ch_pw h bh
  rw [ch_add64 (by rw [a, b]; omega) (by rw [a, b]; omega), a, b, hn]
theorem ch_edn {s : Nat} (h : s < 1000) : Int32.ofNat (s + 1) + Int32.ofInt (-1) = Int32.ofNat s := by
  have em1 : (Int32.ofInt (-1)).toInt = -1 := rfl
  have e := at_ofN (k := s + 1) (by omega)
  refine Int32.toInt.inj ?_
  rw [at_add32 (by omega) (by omega), e, em1, at_ofN (by omega)]
  omega
theorem x_plan_q {K M : Nat} (hp : ∀ h, 0 ≤ p h ∧ p h ≤ 999) (hpr : ∀ h : Nat, h < 24 → (m.1 6 h).toInt = p h) (bK : K ≤ 24) (bM : M ≤ 12) (k : ∀ J : Nat → Nat → Int64, ch_T p K M 24 K (M + 1) J → Q none (m.1, J, m.2.2)) : fl_Tq (pw_P L xs) 171 0 (fl_args (am_mxl (pw_P L xs) 171) [lx_x, .inl (Int32.ofNat K), .inl (Int32.ofNat M)]) [] m Q := by
  have row : ∀ (h t : Nat) (c : Int64), h < 24 → t ≤ K → c.toInt = ch_c p h → ∀ (s : Nat), s ≤ M → ∀ (J : Nat → Nat → Int64), ch_T p K M h t (s + 1) J → (∀ (J : Nat → Nat → Int64) (o7 : Option fl_V), ch_T p K M h t 0 J → fl_Tq (pw_P L xs) 171 89 [some (.inr (.inr (.inl (0, 0)))), some (.inl (Int32.ofNat K)), some (.inl (Int32.ofNat M)), some (.inl (Int32.ofNat h)), some (fl_j c), none, some (.inl (Int32.ofNat t)), o7] [] (m.1, J, m.2.2) Q) → fl_Tq (pw_P L xs) 171 68 [some (.inr (.inr (.inl (0, 0)))), some (.inl (Int32.ofNat K)), some (.inl (Int32.ofNat M)), some (.inl (Int32.ofNat h)), some (fl_j c), none, some (.inl (Int32.ofNat t)), some (.inl (Int32.ofNat s))] [] (m.1, J, m.2.2) Q := by
    intro h t c bh bt hc s
    induction s with
    | zero =>
      intro bs J hJ kk
      refine fl_Tq.stp rfl rfl (fl_bo rfl) rfl ?_
      refine fl_Tq.zf rfl (fl_bo rfl) (by decide +kernel) rfl ?_
      refine fl_Tq.stp rfl rfl (fl_bo rfl) rfl ?_
      refine fl_Tq.stp rfl rfl (fl_bo rfl) rfl ?_
      refine fl_Tq.stp rfl rfl (fl_bo rfl) rfl ?_
      refine fl_Tq.stp rfl rfl (fl_bo rfl) rfl ?_
      refine fl_Tq.cal rfl rfl (fl_bo rfl) rfl ?_
      refine x_one_q (m := (m.1, J, m.2.2)) (t := t) (s := 0) (c := c) (by omega) (by omega) ?_
      refine fl_Tq.stp rfl rfl (fl_bo rfl) rfl ?_
      refine fl_Tq.stp rfl rfl (fl_bo rfl) rfl ?_
      refine fl_Tq.stp rfl rfl (fl_bo rfl) rfl ?_
      refine fl_Tq.zt rfl (fl_bo rfl) (by decide +kernel) rfl ?_
      exact kk _ _ (ch_T_step hp bM bt (by omega) bh hc hJ)
    | succ s ih =>
      intro bs J hJ kk
      have es := at_ofN (k := s + 1) (by omega)
      refine fl_Tq.stp rfl rfl (fl_bo rfl) rfl ?_
      refine fl_Tq.zf rfl (fl_bo rfl) ?_ rfl ?_
      · rw [at_c1, es]
        exact decide_eq_false (show ¬ (((s + 1 : Nat) : Int) < 0) by omega)
      refine fl_Tq.stp rfl rfl (fl_bo rfl) rfl ?_
      refine fl_Tq.stp rfl rfl (fl_bo rfl) rfl ?_
      refine fl_Tq.stp rfl rfl (fl_bo rfl) rfl ?_
      refine fl_Tq.stp rfl rfl (fl_bo rfl) rfl ?_
      refine fl_Tq.cal rfl rfl (fl_bo rfl) rfl ?_
      refine x_one_q (m := (m.1, J, m.2.2)) (t := t) (s := s + 1) (c := c) (by omega) (by omega) ?_
      refine fl_Tq.stp rfl rfl (fl_bo rfl) rfl ?_
      refine fl_Tq.stp rfl rfl (fl_bo rfl) rfl ?_
      have := ih (by omega) (ch_o2 J t (s + 1) c) (ch_T_step hp bM bt (by omega) bh hc hJ) kk
      rw [← ch_edn (s := s) (by omega)] at this
      exact this
  have rows : ∀ (h : Nat) (c : Int64), h < 24 → c.toInt = ch_c p h → ∀ (t : Nat), t ≤ K → ∀ (J : Nat → Nat → Int64) (o7 : Option fl_V), ch_T p K M h t (M + 1) J → (∀ (J : Nat → Nat → Int64) (o6 o7 : Option fl_V), ch_T p K M h 0 0 J → fl_Tq (pw_P L xs) 171 95 [some (.inr (.inr (.inl (0, 0)))), some (.inl (Int32.ofNat K)), some (.inl (Int32.ofNat M)), some (.inl (Int32.ofNat h)), some (fl_j c), none, o6, o7] [] (m.1, J, m.2.2) Q) → fl_Tq (pw_P L xs) 171 60 [some (.inr (.inr (.inl (0, 0)))), some (.inl (Int32.ofNat K)), some (.inl (Int32.ofNat M)), some (.inl (Int32.ofNat h)), some (fl_j c), none, some (.inl (Int32.ofNat t)), o7] [] (m.1, J, m.2.2) Q := by
    intro h c bh hc t
    induction t with
    | zero =>
      intro bt J o7 hJ kk
      refine fl_Tq.stp rfl rfl (fl_bo rfl) rfl ?_
      refine fl_Tq.zf rfl (fl_bo rfl) (by decide +kernel) rfl ?_
      refine fl_Tq.stp rfl rfl (fl_bo rfl) rfl ?_
      refine fl_Tq.stp rfl rfl (fl_bo rfl) rfl ?_
      refine row h 0 c bh bt hc M (Nat.le_refl _) J hJ (fun J o7 hJ => ?_)
      refine fl_Tq.stp rfl rfl (fl_bo rfl) rfl ?_
      refine fl_Tq.stp rfl rfl (fl_bo rfl) rfl ?_
      refine fl_Tq.stp rfl rfl (fl_bo rfl) rfl ?_
      refine fl_Tq.zt rfl (fl_bo rfl) (by decide +kernel) rfl ?_
      exact kk J _ o7 hJ
    | succ t ih =>
      intro bt J o7 hJ kk
      have et := at_ofN (k := t + 1) (by omega)
      refine fl_Tq.stp rfl rfl (fl_bo rfl) rfl ?_
      refine fl_Tq.zf rfl (fl_bo rfl) ?_ rfl ?_
      · rw [at_c1, et]
        exact decide_eq_false (show ¬ (((t + 1 : Nat) : Int) < 0) by omega)
      refine fl_Tq.stp rfl rfl (fl_bo rfl) rfl ?_
      refine fl_Tq.stp rfl rfl (fl_bo rfl) rfl ?_
      refine row h (t + 1) c bh bt hc M (Nat.le_refl _) J hJ (fun J o7 hJ => ?_)
      refine fl_Tq.stp rfl rfl (fl_bo rfl) rfl ?_
      refine fl_Tq.stp rfl rfl (fl_bo rfl) rfl ?_
      have := ih (by omega) J o7 (ch_T_row hJ) kk
      rw [← ch_edn (s := t) (by omega)] at this
      exact this
  have hours : ∀ (d h : Nat) (J : Nat → Nat → Int64) (o4 o6 o7 : Option fl_V), h + d = 24 → ch_T p K M h K (M + 1) J → fl_Tq (pw_P L xs) 171 29 [some (.inr (.inr (.inl (0, 0)))), some (.inl (Int32.ofNat K)), some (.inl (Int32.ofNat M)), some (.inl (Int32.ofNat h)), o4, none, o6, o7] [] (m.1, J, m.2.2) Q := by
    intro d
    induction d with
    | zero =>
      intro h J o4 o6 o7 hd hJ
      have hd : h = 24 := by omega
      subst hd
      refine fl_Tq.stp rfl rfl (fl_bo rfl) rfl ?_
      refine fl_Tq.stp rfl rfl (fl_bo rfl) rfl ?_
      refine fl_Tq.jt rfl (fl_bo rfl) (by decide +kernel) rfl ?_
      exact fl_Tq.ret rfl rfl rfl (k J hJ)
    | succ d ih =>
      intro h J o4 o6 o7 hd hJ
      have eh := at_ofN (k := h) (by omega)
      refine fl_Tq.stp rfl rfl (fl_bo rfl) rfl ?_
      refine fl_Tq.stp rfl rfl (fl_bo rfl) rfl ?_
      refine fl_Tq.jf rfl (fl_bo rfl) ?_ rfl ?_
      · rw [at_c2, eh]
        exact decide_eq_false (by show ¬ (0 ≤ (h : Int) - 24); omega)
      refine fl_Tq.stp rfl rfl (fl_bo rfl) rfl ?_
      refine fl_Tq.stp rfl rfl (fl_bo rfl) rfl ?_
      refine fl_Tq.stp rfl rfl (fl_bo rfl) rfl ?_
      refine fl_Tq.stp rfl rfl (fl_bo rfl) rfl ?_
      refine fl_Tq.stp rfl rfl (fl_bo rfl) rfl ?_
      refine fl_Tq.ld (p := 6) (τ := 6) (n := 24) (z := (0, 0, 0)) (k := h) rfl (fl_bo rfl) rfl eh (by omega) ?_
      refine fl_Tq.stp rfl rfl (fl_bo rfl) rfl ?_
      refine fl_Tq.stp rfl rfl (fl_bo rfl) rfl ?_
      refine fl_Tq.stp rfl rfl (fl_bo rfl) rfl ?_
      refine fl_Tq.stp rfl rfl (fl_bo rfl) rfl ?_
      refine fl_Tq.stp rfl rfl (fl_bo rfl) rfl ?_
      refine fl_Tq.stp rfl rfl (fl_bo rfl) rfl ?_
      refine fl_Tq.stp rfl rfl (fl_bo rfl) rfl ?_
      refine fl_Tq.stp rfl rfl (fl_bo rfl) rfl ?_
      have hc : ((m.1 6 h).toInt64 <<< ((Int8.ofInt 24).toInt32.toInt64 &&& 63) + Int64.ofNat 1 <<< ((Int32.ofNat h).toInt64 &&& 63)).toInt = ch_c p h := by
        have b := hpr h (by omega)
        rw [ch_cost (by omega) (by rw [b]; exact hp h), b]
        rfl
      show fl_Tq (pw_P L xs) 171 57 [some (.inr (.inr (.inl (0, 0)))), some (.inl (Int32.ofNat K)), some (.inl (Int32.ofNat M)), some (.inl (Int32.ofNat h)), some (fl_j ((m.1 6 h).toInt64 <<< ((Int8.ofInt 24).toInt32.toInt64 &&& 63) + Int64.ofNat 1 <<< ((Int32.ofNat h).toInt64 &&& 63))), none, o6, o7] [] (m.1, J, m.2.2) Q
      generalize (m.1 6 h).toInt64 <<< ((Int8.ofInt 24).toInt32.toInt64 &&& 63) + Int64.ofNat 1 <<< ((Int32.ofNat h).toInt64 &&& 63) = c at hc ⊢
      refine fl_Tq.stp rfl rfl (fl_bo rfl) rfl ?_
      refine fl_Tq.stp rfl rfl (fl_bo rfl) rfl ?_
      refine rows h c (by omega) hc K (Nat.le_refl _) J o7 hJ (fun J o6 o7 hJ => ?_)
      refine fl_Tq.stp rfl rfl (fl_bo rfl) rfl ?_
      refine fl_Tq.stp rfl rfl (fl_bo rfl) rfl ?_
      have := ih (h + 1) J (some (fl_j c)) o6 o7 (by omega) (ch_T_hour hJ)
      rw [← at_inc (by omega)] at this
      exact this
  show fl_Tq (pw_P L xs) 171 0 [some (.inr (.inr (.inl (0, 0)))), some (.inl (Int32.ofNat K)), some (.inl (Int32.ofNat M)), none, none, none, none, none] [] m Q
  refine fl_Tq.stp rfl rfl (fl_bo rfl) rfl ?_
  refine fl_Tq.stp rfl rfl (fl_bo rfl) rfl ?_
  refine fl_Tq.stp rfl rfl (fl_bo rfl) rfl ?_
  refine fl_Tq.cal rfl rfl (fl_bo rfl) rfl ?_
  refine x_fill275_q (x := (1152921504606846976 : Int64)) ?_
  refine fl_Tq.stp rfl rfl (fl_bo rfl) rfl ?_
  refine fl_Tq.stp rfl rfl (fl_bo rfl) rfl ?_
  refine fl_Tq.stp rfl rfl (fl_bo rfl) rfl ?_
  refine fl_Tq.cal rfl rfl (fl_bo rfl) rfl ?_
  refine x_fill276_q (x := (1152921504606846976 : Int64)) ?_
  refine fl_Tq.stp rfl rfl (fl_bo rfl) rfl ?_
  refine fl_Tq.stp rfl rfl (fl_bo rfl) rfl ?_
  refine fl_Tq.stp rfl rfl (fl_bo rfl) rfl ?_
  refine fl_Tq.stp rfl rfl (fl_bo rfl) rfl ?_
  refine fl_Tq.svJ (p := 275) (τ := 75) (n := 325) (z := (0, 0, 0)) (k := 0) rfl (fl_bo rfl) rfl rfl (by decide) (by decide) ?_
  refine fl_Tq.stp rfl rfl (fl_bo rfl) rfl ?_
  refine fl_Tq.stp rfl rfl (fl_bo rfl) rfl ?_
  refine hours 24 0 (fl_upL (ch_fl (ch_fl m.2.1 275 325 (1152921504606846976 : Int64)) 276 325 (1152921504606846976 : Int64)) 275 0 (Int64.ofNat 0)) none none none (by omega) (fun T S hT hS => ?_)
  have eB : (1152921504606846976 : Int64).toInt = ch_B := by decide +kernel
  rw [if_neg (by omega)]
  refine ⟨?_, ?_⟩
  · show _ = (if T = 0 ∧ S = 0 then (0 : Int) else ch_B)
    by_cases e : T = 0 ∧ S = 0
    · obtain ⟨rfl, rfl⟩ := e
      rw [if_pos ⟨rfl, rfl⟩, ch_upL_s]
      rfl
    · rw [if_neg e, ch_upL_n (fun q => by omega)]
      unfold ch_fl
      rw [if_neg (fun q => absurd q.1 (by decide)), if_pos ⟨rfl, by omega⟩, eB]
  · show _ = ch_B
    rw [ch_upL_n (fun q => absurd q.1 (by decide))]
    unfold ch_fl
    rw [if_pos ⟨rfl, by omega⟩, eB]
/-! what is answered of the least -/
theorem ch_shr {x : Int64} : (x >>> ((Int8.ofInt 24).toInt32.toInt64 &&& 63)).toInt = x.toInt / 16777216 := by
  have e : (Int8.ofInt 24).toInt32.toInt64 &&& 63 = (24 : Int64) := by decide +kernel
  have e2 : ((24 : Int64).toBitVec.smod 64).toNat = 24 := by decide +kernel
  rw [e]
  show ((x >>> (24 : Int64)).toBitVec).toInt = _
  rw [Int64.toBitVec_shiftRight, BitVec.toInt_sshiftRight', e2, Int.shiftRight_eq_div_pow]
  rfl
theorem ch_pos64 {x : Int64} (h : 0 ≤ x.toInt) : x.toInt = x.toBitVec.toNat := by
  show x.toBitVec.toInt = _
  have h : 0 ≤ x.toBitVec.toInt := h
  have := x.toBitVec.isLt
  rw [BitVec.toInt_eq_toNat_cond] at h ⊢
  split at h
  · rw [if_pos (by assumption)]
  · omega
theorem ch_msk {x : Int64} (h : 0 ≤ x.toInt) : (x &&& (16777215 : Int64)).toInt = x.toInt % 16777216 := by
  have e : (x &&& (16777215 : Int64)).toBitVec.toNat = x.toBitVec.toNat % 16777216 := by
    rw [Int64.toBitVec_and, BitVec.toNat_and]
    have : ((16777215 : Int64).toBitVec).toNat = 2 ^ 24 - 1 := by decide +kernel
    rw [this, Nat.and_two_pow_sub_one_eq_mod]
  have a := ch_pos64 h
  show (x &&& (16777215 : Int64)).toBitVec.toInt = _
  rw [BitVec.toInt_eq_toNat_cond, e, if_pos (by omega), a]
  omega
theorem ch_low {x : Int64} (h1 : 0 ≤ x.toInt) (h2 : x.toInt < 2147483648) : x.toInt32.toInt = x.toInt := by
  rw [Int64.toInt_toInt32]
  exact Int.bmod_eq_of_le (by omega) (by omega)
/-- the class's answer -/
theorem x_cheap_q {f : t2_F} {l : t2_L} {K M : Nat} {w : Int32} (hp : ∀ h, 0 ≤ p h ∧ p h ≤ 999) (hpr : ∀ h : Nat, h < 24 → (f 6 h).toInt = p h) (bK : K ≤ 24) (bM1 : 1 ≤ M) (bM : M ≤ 12) (hw : w.toInt = 0 ∨ w.toInt = 1) (k : ∀ (J : Nat → Nat → Int64) (y : Int32), y.toInt = (if w.toInt = 0 then ch_r p 24 K M 0 else ch_g p 24 K M 0) → Q (some (.inl y)) (f, J, l.2)) : fl_Tq (pw_P L xs) 142 31 [some (.inr (.inr (.inl (0, 0)))), some (.inl (Int32.ofNat K)), some (.inl (Int32.ofNat M)), some (.inl w), none, none, none, none] [] (f, l) Q := by
  have eK := at_ofN (k := K) (by omega)
  have eM := at_ofN (k := M) (by omega)
  have e13 : (Int8.ofInt 13).toInt32.toInt = 13 := by decide +kernel
  have eB : (1152921504606846976 : Int64).toInt = ch_B := by decide +kernel
  refine fl_Tq.stp rfl rfl (fl_bo rfl) rfl ?_
  refine fl_Tq.stp rfl rfl (fl_bo rfl) rfl ?_
  refine fl_Tq.stp rfl rfl (fl_bo rfl) rfl ?_
  refine fl_Tq.cal rfl rfl (fl_bo rfl) rfl ?_
  refine x_plan_q (m := (f, l)) (p := p) (K := K) (M := M) hp hpr bK bM (fun J hJ => ?_)
  have hJ : ∀ S : Nat, S ≤ M → (J 275 (K * 13 + S)).toInt = (ch_p p 24 K S).1 ∧ (J 276 (K * 13 + S)).toInt = (ch_p p 24 K S).2 := fun S hS => by
    have := hJ K S (Nat.le_refl _) hS
    rw [if_neg (by omega)] at this
    exact this
  obtain ⟨r0, r1, g0, g1, hm⟩ := ch_fin hp bK bM1
  generalize hF : (fun s => min (ch_p p 24 K s).1 (ch_p p 24 K s).2) = F at hm
  have bF : ∀ s, F s ≤ ch_B := fun s => by
    have := ch_p_b hp 24 K s
    rw [← hF]
    show min (ch_p p 24 K s).1 (ch_p p 24 K s).2 ≤ ch_B
    omega
  have eF : ∀ s, min (ch_p p 24 K s).1 (ch_p p 24 K s).2 = F s := fun s => by rw [← hF]
  refine fl_Tq.stp rfl rfl (fl_bo rfl) rfl ?_
  refine fl_Tq.stp rfl rfl (fl_bo rfl) rfl ?_
  show fl_Tq (pw_P L xs) 142 42 [some (.inr (.inr (.inl (0, 0)))), some (.inl (Int32.ofNat K)), some (.inl (Int32.ofNat M)), some (.inl w), some (fl_j (1152921504606846976 : Int64)), none, none, none] [] (f, J, l.2) Q
  -- from the loop on
  have fin : ∀ (b : Int64) (o6 o7 : Option fl_V), b.toInt = ch_mn F M → fl_Tq (pw_P L xs) 142 90 [some (.inr (.inr (.inl (0, 0)))), some (.inl (Int32.ofNat K)), some (.inl (Int32.ofNat M)), some (.inl w), some (fl_j b), none, o6, o7] [] (f, J, l.2) Q := by
    intro b o6 o7 hb
    rw [hm] at hb
    refine fl_Tq.stp rfl rfl (fl_bo rfl) rfl ?_
    refine fl_Tq.stp rfl rfl (fl_bo rfl) rfl ?_
    refine fl_Tq.stp rfl rfl (fl_bo rfl) rfl ?_
    have lt : ¬ (1152921504606846976 : Int64).toInt ≤ b.toInt := by
      rw [eB, hb]
      unfold ch_B
      omega
    have hl : lg_cmp b (1152921504606846976 : Int64) = -1 := by
      unfold lg_cmp
      rw [if_neg (fun q => lt (Int.le_of_lt (Int64.lt_iff_toInt_lt.mp q))), if_neg (fun q => lt (by rw [q]; exact Int.le_refl _))]
    refine fl_Tq.zt rfl (fl_bo rfl) (by rw [hl]; decide +kernel) rfl ?_
    refine fl_Tq.stp rfl rfl (fl_bo rfl) rfl ?_
    rcases hw with w0 | w1
    · refine fl_Tq.zf rfl (fl_bo rfl) (by rw [at_c1, w0]; rfl) rfl ?_
      refine fl_Tq.stp rfl rfl (fl_bo rfl) rfl ?_
      refine fl_Tq.stp rfl rfl (fl_bo rfl) rfl ?_
      refine fl_Tq.stp rfl rfl (fl_bo rfl) rfl ?_
      refine fl_Tq.stp rfl rfl (fl_bo rfl) rfl ?_
      refine fl_Tq.stp rfl rfl (fl_bo rfl) rfl ?_
      refine fl_Tq.ret rfl rfl rfl (k J _ ?_)
      rw [if_pos w0, ch_low, ch_shr, hb]
      · omega
      · rw [ch_shr, hb]
        omega
      · rw [ch_shr, hb]
        omega
    · refine fl_Tq.zt rfl (fl_bo rfl) (by rw [at_c1, w1]; rfl) rfl ?_
      refine fl_Tq.stp rfl rfl (fl_bo rfl) rfl ?_
      refine fl_Tq.stp rfl rfl (fl_bo rfl) rfl ?_
      refine fl_Tq.stp rfl rfl (fl_bo rfl) rfl ?_
      refine fl_Tq.stp rfl rfl (fl_bo rfl) rfl ?_
      have b0 : 0 ≤ b.toInt := by omega
      refine fl_Tq.ret rfl rfl rfl (k J _ ?_)
      rw [if_neg (by omega), ch_low, ch_msk b0, hb]
      · omega
      · rw [ch_msk b0]
        omega
      · rw [ch_msk b0]
        omega
  have loop : ∀ (d s : Nat) (b : Int64) (o7 : Option fl_V), s + d = M + 1 → b.toInt = (if s = 0 then ch_B else ch_mn F (s - 1)) → fl_Tq (pw_P L xs) 142 45 [some (.inr (.inr (.inl (0, 0)))), some (.inl (Int32.ofNat K)), some (.inl (Int32.ofNat M)), some (.inl w), some (fl_j b), none, some (.inl (Int32.ofNat s)), o7] [] (f, J, l.2) Q := by
    intro d
    induction d with
    | zero =>
      intro s b o7 hs hb
      have hs : s = M + 1 := by omega
      subst hs
      have es := at_ofN (k := M + 1) (by omega)
      refine fl_Tq.stp rfl rfl (fl_bo rfl) rfl ?_
      refine fl_Tq.stp rfl rfl (fl_bo rfl) rfl ?_
      refine fl_Tq.jt rfl (fl_bo rfl) ?_ rfl ?_
      · rw [at_c2, es, eM]
        exact decide_eq_true (by show 0 < (((M + 1 : Nat) : Int) - (M : Int)); omega)
      rw [if_neg (by omega), Nat.add_sub_cancel] at hb
      exact fin b _ o7 hb
    | succ d ih =>
      intro s b o7 hs hb
      have es := at_ofN (k := s) (by omega)
      have a1 : (Int32.ofNat K * (Int8.ofInt 13).toInt32).toInt = (K : Int) * 13 := by rw [at_mul32] <;> rw [eK, e13] <;> omega
      have ei : (Int32.ofNat K * (Int8.ofInt 13).toInt32 + Int32.ofNat s).toInt = ((K * 13 + s : Nat) : Int) := by rw [at_add32] <;> rw [a1, es] <;> omega
      refine fl_Tq.stp rfl rfl (fl_bo rfl) rfl ?_
      refine fl_Tq.stp rfl rfl (fl_bo rfl) rfl ?_
      refine fl_Tq.jf rfl (fl_bo rfl) ?_ rfl ?_
      · rw [at_c2, es, eM]
        exact decide_eq_false (by show ¬ (0 < ((s : Int) - (M : Int))); omega)
      refine fl_Tq.stp rfl rfl (fl_bo rfl) rfl ?_
      refine fl_Tq.stp rfl rfl (fl_bo rfl) rfl ?_
      refine fl_Tq.stp rfl rfl (fl_bo rfl) rfl ?_
      refine fl_Tq.stp rfl rfl (fl_bo rfl) rfl ?_
      refine fl_Tq.stp rfl rfl (fl_bo rfl) rfl ?_
      refine fl_Tq.stp rfl rfl (fl_bo rfl) rfl ?_
      show fl_Tq (pw_P L xs) 142 60 [some (.inr (.inr (.inl (0, 0)))), some (.inl (Int32.ofNat K)), some (.inl (Int32.ofNat M)), some (.inl w), some (fl_j b), none, some (.inl (Int32.ofNat s)), some (.inl (Int32.ofNat K * (Int8.ofInt 13).toInt32 + Int32.ofNat s))] [] (f, J, l.2) Q
      generalize Int32.ofNat K * (Int8.ofInt 13).toInt32 + Int32.ofNat s = iv at ei ⊢
      refine fl_Tq.stp rfl rfl (fl_bo rfl) rfl ?_
      refine fl_Tq.stp rfl rfl (fl_bo rfl) rfl ?_
      refine fl_Tq.stp rfl rfl (fl_bo rfl) rfl ?_
      refine fl_Tq.stp rfl rfl (fl_bo rfl) rfl ?_
      refine fl_Tq.ldJ (p := 275) (τ := 75) (n := 325) (z := (0, 0, 0)) (k := K * 13 + s) rfl (fl_bo rfl) rfl ei (by omega) (by decide) ?_
      refine fl_Tq.stp rfl rfl (fl_bo rfl) rfl ?_
      refine fl_Tq.stp rfl rfl (fl_bo rfl) rfl ?_
      refine fl_Tq.stp rfl rfl (fl_bo rfl) rfl ?_
      refine fl_Tq.ldJ (p := 276) (τ := 75) (n := 325) (z := (0, 0, 0)) (k := K * 13 + s) rfl (fl_bo rfl) rfl ei (by omega) (by decide) ?_
      refine fl_Tq.cal rfl rfl (fl_bo rfl) rfl ?_
      refine x_minq (x := J 275 (K * 13 + s)) (y := J 276 (K * 13 + s)) ?_
      refine fl_Tq.cal rfl rfl (fl_bo rfl) rfl ?_
      refine x_minq (x := b) (y := ch_min (J 275 (K * 13 + s)) (J 276 (K * 13 + s))) ?_
      refine fl_Tq.stp rfl rfl (fl_bo rfl) rfl ?_
      refine fl_Tq.stp rfl rfl (fl_bo rfl) rfl ?_
      refine fl_Tq.stp rfl rfl (fl_bo rfl) rfl ?_
      have hb2 : (ch_min b (ch_min (J 275 (K * 13 + s)) (J 276 (K * 13 + s)))).toInt = (if s + 1 = 0 then ch_B else ch_mn F (s + 1 - 1)) := by
        obtain ⟨j1, j2⟩ := hJ s (by omega)
        rw [ch_min_i, ch_min_i, j1, j2, eF, hb, if_neg (Nat.succ_ne_zero s), Nat.add_sub_cancel]
        cases s with
        | zero =>
          rw [if_pos rfl]
          have := bF 0
          show min ch_B (F 0) = F 0
          omega
        | succ s =>
          rw [if_neg (Nat.succ_ne_zero s), Nat.add_sub_cancel]
          rfl
      have := ih (s + 1) _ (some (.inl iv)) (by omega) hb2
      rw [← at_inc (by omega)] at this
      exact this
  refine fl_Tq.stp rfl rfl (fl_bo rfl) rfl ?_
  refine fl_Tq.stp rfl rfl (fl_bo rfl) rfl ?_
  exact loop (M + 1) 0 (1152921504606846976 : Int64) none (by omega) (by rw [if_pos rfl]; exact eB)
end CHR
/-! ===== cheapest: the reference's run, with its table's values ===== -/
section CHS
variable {L : Nat} {xs : Nat → Int32} {m : fl_M} {Q : Option fl_V → fl_M → Prop} {p : Nat → Int}
theorem ch_up (hp : ∀ h, 0 ≤ p h ∧ p h ≤ 999) {h : Nat} (bh : h ≤ 24) (k mm x : Nat) : ch_r p h k mm x ≤ 23976 := by
  rcases ch_ok hp h bh k mm x with ⟨-, e⟩ | ⟨e, -, -⟩
  · omega
  · omega
theorem ch_r_s {h : Nat} (bh : 1 ≤ h) (k mm x : Nat) : ch_r p h k mm x = if ch_tk p (h - 1) k mm x (ch_r p (h - 1) (k - 1) (ch_s mm x) 1) ≠ -1 ∧ (ch_r p (h - 1) k mm 0 = -1 ∨ ch_tk p (h - 1) k mm x (ch_r p (h - 1) (k - 1) (ch_s mm x) 1) < ch_r p (h - 1) k mm 0) then ch_tk p (h - 1) k mm x (ch_r p (h - 1) (k - 1) (ch_s mm x) 1) else ch_r p (h - 1) k mm 0 := by
  cases h with
  | zero => omega
  | succ h => rfl
theorem ch_g_nn : ∀ h k mm x : Nat, 0 ≤ ch_g p h k mm x := by
  intro h
  induction h with
  | zero => intro k mm x; exact Int.le_refl _
  | succ h ih =>
    intro k mm x
    have a := ih k mm 0
    have b := ih (k - 1) (ch_s mm x) 1
    have c : (0 : Int) ≤ 2 ^ h := Int.pow_nonneg (by decide)
    unfold ch_g
    split <;> omega
def ch_RV (p : Nat → Int) (n : Nat) (m : fl_M) : Prop := ∀ h k x : Nat, h ≤ 24 → k < 25 → x < 26 → (h * 25 + k) * 26 + x < n → (m.1 284 ((h * 25 + k) * 26 + x)).toInt = ch_r p h k (x / 2) (x % 2)
theorem ch_RV.at {n h k mm t : Nat} (H : ch_RV p n m) (bh : h ≤ 24) (bk : k < 25) (bm : mm ≤ 12) (bt : t ≤ 1) (lt : at_px h k mm t < n) : (m.1 284 (at_px h k mm t)).toInt = ch_r p h k mm t := by
  have e : (h * 25 + k) * 26 + (2 * mm + t) = at_px h k mm t := by unfold at_px; omega
  have := H h k (2 * mm + t) bh bk (by omega) (by omega)
  rw [e, show (2 * mm + t) / 2 = mm by omega, show (2 * mm + t) % 2 = t by omega] at this
  exact this
theorem r_taken_q {h k mm t : Nat} {hi ki mi_ ti : Int32} (hp : ∀ h, 0 ≤ p h ∧ p h ≤ 999) (eh : hi.toInt = h) (ek : ki.toInt = k) (em : mi_.toInt = mm) (et : ti.toInt = t) (bh : h ≤ 24) (bh1 : 1 ≤ h) (bk : k ≤ 24) (bm : mm ≤ 12) (bt : t ≤ 1) (R : ∀ s : Nat, s ≤ 12 → ¬ k = 0 → (m.1 284 (at_px (h - 1) (k - 1) s 1)).toInt = ch_r p (h - 1) (k - 1) s 1) (pr : (m.1 280 (315 + h - 1)).toInt = p (h - 1)) (kk : ∀ v : Int32, v.toInt = ch_tk p (h - 1) k mm t (ch_r p (h - 1) (k - 1) (ch_s mm t) 1) → Q (some (.inl v)) m) : fl_Tq (pw_P L xs) 306 0 (fl_args (am_mxl (pw_P L xs) 306) [at_this, .inl hi, .inl ki, .inl mi_, .inl ti]) [] m Q := by
  have e1 : (Int32.ofInt 1).toInt = 1 := rfl
  have em1 : (Int32.ofInt (-1)).toInt = -1 := rfl
  unfold ch_tk at kk
  have from13 : ∀ (s : Int32), s.toInt = (if t = 1 then (mm : Int) else (mm : Int) - 1) → fl_Tq (pw_P L xs) 306 13 [some at_this, some (.inl hi), some (.inl ki), some (.inl mi_), some (.inl ti), none, none] [.inl s] m Q := by
    intro s hs
    refine fl_Tq.stp rfl rfl (fl_bo rfl) rfl ?_
    refine fl_Tq.stp rfl rfl (fl_bo rfl) rfl ?_
    by_cases hk : k = 0
    · refine fl_Tq.zt rfl (fl_bo rfl) (by rw [at_c1, ek, hk]; rfl) rfl ?_
      refine fl_Tq.stp rfl rfl (fl_bo rfl) rfl ?_
      refine fl_Tq.ret rfl rfl rfl (kk _ ?_)
      rw [if_pos (Or.inl hk)]
      exact em1
    refine fl_Tq.zf rfl (fl_bo rfl) (by rw [at_c1, ek]; exact decide_eq_false (by omega)) rfl ?_
    refine fl_Tq.stp rfl rfl (fl_bo rfl) rfl ?_
    by_cases hs0 : s.toInt < 0
    · refine fl_Tq.zf rfl (fl_bo rfl) (by rw [at_c1]; exact decide_eq_false (by omega)) rfl ?_
      refine fl_Tq.stp rfl rfl (fl_bo rfl) rfl ?_
      refine fl_Tq.ret rfl rfl rfl (kk _ ?_)
      rw [if_pos (Or.inr (by split at hs <;> omega))]
      exact em1
    have hns : ¬ (k = 0 ∨ (t = 0 ∧ mm = 0)) := by
      rintro (h | ⟨h, h'⟩)
      · exact hk h
      · rw [if_neg (by omega)] at hs; omega
    refine fl_Tq.zt rfl (fl_bo rfl) (by rw [at_c1]; exact decide_eq_true (by omega)) rfl ?_
    have hsn : s.toInt = (ch_s mm t : Nat) := by
      unfold ch_s
      split at hs
      · rw [if_pos (by assumption)]
        exact hs
      · rw [if_neg (by assumption)]
        omega
    have bs : ch_s mm t ≤ 12 := by unfold ch_s; split <;> omega
    have rb := R (ch_s mm t) bs hk
    have lo := ch_lo hp (h - 1) (k - 1) (ch_s mm t) 1
    have up := ch_up hp (h := h - 1) (by omega) (k - 1) (ch_s mm t) 1
    rw [if_neg hns] at kk
    generalize ch_r p (h - 1) (k - 1) (ch_s mm t) 1 = rr at rb kk lo up
    generalize ch_s mm t = sn at hsn bs rb
    refine fl_Tq.stp rfl rfl (fl_bo rfl) rfl ?_
    refine fl_Tq.stp rfl rfl (fl_bo rfl) rfl ?_
    refine fl_Tq.stp rfl rfl (fl_bo rfl) rfl ?_
    refine fl_Tq.stp rfl rfl (fl_bo rfl) rfl ?_
    refine fl_Tq.stp rfl rfl (fl_bo rfl) rfl ?_
    refine fl_Tq.stp rfl rfl (fl_bo rfl) rfl ?_
    refine fl_Tq.stp rfl rfl (fl_bo rfl) rfl ?_
    refine fl_Tq.stp rfl rfl (fl_bo rfl) rfl ?_
    refine fl_Tq.stp rfl rfl (fl_bo rfl) rfl ?_
    refine fl_Tq.stp rfl rfl (fl_bo rfl) rfl ?_
    refine fl_Tq.cal rfl rfl (fl_bo rfl) rfl ?_
    refine at_price (h := h - 1) (k := k - 1) (mm := sn) (t := 1) (at_dec eh bh1) (at_dec ek (by omega)) hsn e1 (by omega) (by omega) bs (by omega) (fun v hv => ?_)
    refine fl_Tq.ld (p := 284) (τ := 83) (n := 16250) (z := (0, 0, 0)) (k := at_px (h - 1) (k - 1) sn 1) rfl (fl_bo rfl) rfl hv (by unfold at_px; omega) ?_
    refine fl_Tq.stp rfl rfl (fl_bo rfl) rfl ?_
    refine fl_Tq.stp rfl rfl (fl_bo rfl) rfl ?_
    refine fl_Tq.stp rfl rfl (fl_bo rfl) rfl ?_
    have rup := at_i32 (m.1 284 (at_px (h - 1) (k - 1) sn 1))
    generalize m.1 284 (at_px (h - 1) (k - 1) sn 1) = rv at rb rup ⊢
    by_cases hr : rv.toInt = -1
    · refine fl_Tq.jf rfl (fl_bo rfl) ?_ rfl ?_
      · rw [at_c2, hr]; rfl
      refine fl_Tq.stp rfl rfl (fl_bo rfl) rfl ?_
      refine fl_Tq.stp rfl rfl (fl_bo rfl) rfl ?_
      refine fl_Tq.ret rfl rfl rfl (kk _ ?_)
      rw [if_pos (by omega)]
      exact em1
    · refine fl_Tq.jt rfl (fl_bo rfl) ?_ rfl ?_
      · rw [at_c2]
        show (!decide (rv.toInt - -1 = 0)) = true
        rw [decide_eq_false (by omega)]; rfl
      refine fl_Tq.stp rfl rfl (fl_bo rfl) rfl ?_
      refine fl_Tq.stp rfl rfl (fl_bo rfl) rfl ?_
      refine fl_Tq.stp rfl rfl (fl_bo rfl) rfl ?_
      refine fl_Tq.stp rfl rfl (fl_bo rfl) rfl ?_
      refine fl_Tq.stp rfl rfl (fl_bo rfl) rfl ?_
      refine fl_Tq.stp rfl rfl (fl_bo rfl) rfl ?_
      refine fl_Tq.stp rfl rfl (fl_bo rfl) rfl ?_
      refine fl_Tq.stp rfl rfl (fl_bo rfl) rfl ?_
      have ei : ((Int16.ofInt 315).toInt32 + hi - Int32.ofInt 1).toInt = ((315 + h - 1 : Nat) : Int) := by
        have e3 : (Int16.ofInt 315).toInt32.toInt = 315 := by decide +kernel
        have e4 : ((Int16.ofInt 315).toInt32 + hi).toInt = 315 + (h : Int) := by rw [at_add32] <;> rw [e3, eh] <;> omega
        rw [at_sub32] <;> rw [e4, e1] <;> omega
      refine fl_Tq.ld (p := 280) (τ := 79) (n := 29780) (z := (0, 0, 0)) (k := 315 + h - 1) rfl (fl_bo rfl) rfl ei (by omega) ?_
      refine fl_Tq.stp rfl rfl (fl_bo rfl) rfl ?_
      refine fl_Tq.ret rfl rfl rfl (kk _ ?_)
      have pb := hp (h - 1)
      rw [if_neg (by omega)]
      show (rv + m.1 280 (315 + h - 1)).toInt = _
      rw [at_add32 (by rw [pr]; omega) (by rw [pr]; omega), pr, rb]
  refine fl_Tq.stp rfl rfl (fl_bo rfl) rfl ?_
  refine fl_Tq.stp rfl rfl (fl_bo rfl) rfl ?_
  by_cases ht : t = 1
  · refine fl_Tq.jf rfl (fl_bo rfl) ?_ rfl ?_
    · rw [at_c2, et, ht]; rfl
    refine fl_Tq.stp rfl rfl (fl_bo rfl) rfl ?_
    refine fl_Tq.stp rfl rfl (fl_bo rfl) rfl ?_
    exact from13 mi_ (by rw [if_pos ht]; exact em)
  · refine fl_Tq.jt rfl (fl_bo rfl) ?_ rfl ?_
    · rw [at_c2, et]
      have : t = 0 := by omega
      rw [this]; rfl
    refine fl_Tq.stp rfl rfl (fl_bo rfl) rfl ?_
    refine fl_Tq.stp rfl rfl (fl_bo rfl) rfl ?_
    refine fl_Tq.stp rfl rfl (fl_bo rfl) rfl ?_
    exact from13 _ (by rw [if_neg ht, at_sub32] <;> rw [em, e1] <;> omega)
theorem r_lay1_q {h k x : Nat} (hp : ∀ h, 0 ≤ p h ∧ p h ≤ 999) (hpr : ∀ h : Nat, h < 24 → (m.1 280 (315 + h)).toInt = p h) (bh : h ≤ 24) (bk : k < 25) (bx : x < 26) {m1 : fl_M} (hT : at_TL m m1) (hP : ch_RV p ((h * 25 + k) * 26 + x) m1) (o4 o5 : Option fl_V)
    (kk : ∀ (m2 : fl_M) (o4 o5 : Option fl_V), at_TL m m2 → ch_RV p ((h * 25 + k) * 26 + x + 1) m2 → fl_Tq (pw_P L xs) 307 18 [some at_this, some (.inl (Int32.ofNat h)), some (.inl (Int32.ofNat k)), some (.inl (Int32.ofNat (x + 1))), o4, o5] [] m2 Q) :
    fl_Tq (pw_P L xs) 307 24 [some at_this, some (.inl (Int32.ofNat h)), some (.inl (Int32.ofNat k)), some (.inl (Int32.ofNat x)), o4, o5] [] m1 Q := by
  have eh := at_ofN (k := h) (by omega)
  have ek := at_ofN (k := k) (by omega)
  have ex := at_ofN (k := x) (by omega)
  have em1 : (Int32.ofInt (-1)).toInt = -1 := rfl
  have e0 : (Int32.ofInt 0).toInt = 0 := rfl
  obtain ⟨exd, exm⟩ := at_half ex
  have hN : at_px h k (x / 2) (x % 2) = (h * 25 + k) * 26 + x := by unfold at_px; omega
  have bN : (h * 25 + k) * 26 + x < 16250 := by omega
  have lowN : 1 ≤ h → ∀ k' s t : Nat, k' < 25 → s ≤ 12 → t ≤ 1 → at_px (h - 1) k' s t < (h * 25 + k) * 26 + x := fun b k' s t b1 b2 b3 => by unfold at_px; omega
  generalize hNg : (h * 25 + k) * 26 + x = N at *
  have p98 : ∀ (ai tv : Int32) (m2 : fl_M) (O T : Int), ai.toInt = N → at_TL m m2 → (∀ j : Nat, j ≠ N → m2.1 284 j = m1.1 284 j) → (m2.1 284 N).toInt = O → tv.toInt = T → ch_r p h k (x / 2) (x % 2) = (if T ≠ -1 ∧ (O = -1 ∨ T < O) then T else O) → fl_Tq (pw_P L xs) 307 98 [some at_this, some (.inl (Int32.ofNat h)), some (.inl (Int32.ofNat k)), some (.inl (Int32.ofNat x)), some (.inl ai), some (.inl tv)] [] m2 Q := by
    intro ai tv m2 O T ea hT2 hs hO hTv hR
    have old : ∀ m3 : fl_M, (∀ j : Nat, j ≠ N → m3.1 284 j = m1.1 284 j) → (m3.1 284 N).toInt = ch_r p h k (x / 2) (x % 2) → ch_RV p (N + 1) m3 := by
      intro m3 h3 h4 h' k' x' b2 b3 b4 b5
      by_cases e : (h' * 25 + k') * 26 + x' = N
      · have e1 : h' = h ∧ k' = k ∧ x' = x := by omega
        rw [e, e1.1, e1.2.1, e1.2.2]
        exact h4
      · rw [h3 _ e]
        exact hP h' k' x' b2 b3 b4 (by omega)
    have go : ∀ (m3 : fl_M), at_TL m m3 → ch_RV p (N + 1) m3 → fl_Tq (pw_P L xs) 307 136 [some at_this, some (.inl (Int32.ofNat h)), some (.inl (Int32.ofNat k)), some (.inl (Int32.ofNat x)), some (.inl ai), some (.inl tv)] [] m3 Q := by
      intro m3 hT3 hP3
      refine fl_Tq.stp rfl rfl (fl_bo rfl) rfl ?_
      refine fl_Tq.stp rfl rfl (fl_bo rfl) rfl ?_
      have := kk m3 (some (.inl ai)) (some (.inl tv)) hT3 hP3
      rw [← at_inc (by omega)] at this
      exact this
    refine fl_Tq.stp rfl rfl (fl_bo rfl) rfl ?_
    refine fl_Tq.stp rfl rfl (fl_bo rfl) rfl ?_
    by_cases h1 : tv.toInt = -1
    · refine fl_Tq.jt rfl (fl_bo rfl) ?_ rfl ?_
      · rw [at_c2, h1]; rfl
      exact go m2 hT2 (old m2 hs (by rw [hR, if_neg (fun q => q.1 (by omega))]; exact hO))
    refine fl_Tq.jf rfl (fl_bo rfl) ?_ rfl ?_
    · rw [at_c2]
      exact decide_eq_false (by show ¬ (tv.toInt - -1 = 0); omega)
    have put : (O = -1 ∨ T < O) → fl_Tq (pw_P L xs) 307 127 [some at_this, some (.inl (Int32.ofNat h)), some (.inl (Int32.ofNat k)), some (.inl (Int32.ofNat x)), some (.inl ai), some (.inl tv)] [] m2 Q := by
      intro hput
      refine fl_Tq.stp rfl rfl (fl_bo rfl) rfl ?_
      refine fl_Tq.stp rfl rfl (fl_bo rfl) rfl ?_
      refine fl_Tq.stp rfl rfl (fl_bo rfl) rfl ?_
      refine fl_Tq.stp rfl rfl (fl_bo rfl) rfl ?_
      refine fl_Tq.sv (p := 284) (τ := 83) (n := 16250) (z := (0, 0, 0)) (k := N) rfl (fl_bo rfl) rfl ea bN ?_
      refine go _ (hT2.up bN) (old _ (fun j hj => ?_) ?_)
      · show fl_up m2.1 284 N tv 284 j = _
        rw [bl_un (fun _ => hj)]
        exact hs j hj
      · show (fl_up m2.1 284 N tv 284 N).toInt = _
        rw [bl_ue, hR, if_pos ⟨by omega, hput⟩]
        exact hTv
    refine fl_Tq.stp rfl rfl (fl_bo rfl) rfl ?_
    refine fl_Tq.stp rfl rfl (fl_bo rfl) rfl ?_
    refine fl_Tq.stp rfl rfl (fl_bo rfl) rfl ?_
    refine fl_Tq.ld (p := 284) (τ := 83) (n := 16250) (z := (0, 0, 0)) (k := N) rfl (fl_bo rfl) rfl ea bN ?_
    refine fl_Tq.stp rfl rfl (fl_bo rfl) rfl ?_
    by_cases h2 : (m2.1 284 N).toInt = -1
    · refine fl_Tq.jt rfl (fl_bo rfl) ?_ rfl ?_
      · rw [at_c2, h2]; rfl
      exact put (Or.inl (by omega))
    refine fl_Tq.jf rfl (fl_bo rfl) ?_ rfl ?_
    · rw [at_c2]
      exact decide_eq_false (by show ¬ ((m2.1 284 N).toInt - -1 = 0); omega)
    refine fl_Tq.stp rfl rfl (fl_bo rfl) rfl ?_
    refine fl_Tq.stp rfl rfl (fl_bo rfl) rfl ?_
    refine fl_Tq.stp rfl rfl (fl_bo rfl) rfl ?_
    refine fl_Tq.stp rfl rfl (fl_bo rfl) rfl ?_
    refine fl_Tq.ld (p := 284) (τ := 83) (n := 16250) (z := (0, 0, 0)) (k := N) rfl (fl_bo rfl) rfl ea bN ?_
    by_cases h3 : tv.toInt < (m2.1 284 N).toInt
    · refine fl_Tq.jf rfl (fl_bo rfl) (by rw [at_c2]; exact decide_eq_false (by omega)) rfl ?_
      exact put (Or.inr (by omega))
    · refine fl_Tq.jt rfl (fl_bo rfl) (by rw [at_c2]; exact decide_eq_true (by omega)) rfl ?_
      exact go m2 hT2 (old m2 hs (by rw [hR, if_neg (fun q => by omega)]; exact hO))
  have p75 : ∀ (ai v : Int32), ai.toInt = N → v.toInt = (if h = 0 then (if k = 0 then 0 else -1) else ch_r p (h - 1) k (x / 2) 0) → fl_Tq (pw_P L xs) 307 75 [some at_this, some (.inl (Int32.ofNat h)), some (.inl (Int32.ofNat k)), some (.inl (Int32.ofNat x)), some (.inl ai), o5] [.inl v, .inl ai, .inr (.inr (.inl (83, 284)))] m1 Q := by
    intro ai v ea hv
    refine fl_Tq.sv (p := 284) (τ := 83) (n := 16250) (z := (0, 0, 0)) (k := N) rfl (fl_bo rfl) rfl ea bN ?_
    have hT2 := hT.up (x := v) bN
    have hs : ∀ j : Nat, j ≠ N → fl_up m1.1 284 N v 284 j = m1.1 284 j := fun j hj => bl_un (fun _ => hj)
    have hn : (fl_up m1.1 284 N v 284 N).toInt = v.toInt := by rw [bl_ue]
    refine fl_Tq.stp rfl rfl (fl_bo rfl) rfl ?_
    by_cases h0 : h = 0
    · refine fl_Tq.zf rfl (fl_bo rfl) (by rw [at_c1, eh, h0]; rfl) rfl ?_
      refine fl_Tq.stp rfl rfl (fl_bo rfl) rfl ?_
      refine fl_Tq.stp rfl rfl (fl_bo rfl) rfl ?_
      refine fl_Tq.stp rfl rfl (fl_bo rfl) rfl ?_
      refine p98 ai _ _ _ (-1) ea hT2 hs (hn.trans hv) em1 ?_
      rw [if_pos h0, if_neg (fun q => q.1 rfl), h0]
      rfl
    refine fl_Tq.zt rfl (fl_bo rfl) ?_ rfl ?_
    · rw [at_c1, eh]
      show (!decide ((h : Int) = 0)) = true
      rw [decide_eq_false (by omega)]; rfl
    rw [if_neg h0] at hv
    refine fl_Tq.stp rfl rfl (fl_bo rfl) rfl ?_
    refine fl_Tq.stp rfl rfl (fl_bo rfl) rfl ?_
    refine fl_Tq.stp rfl rfl (fl_bo rfl) rfl ?_
    refine fl_Tq.stp rfl rfl (fl_bo rfl) rfl ?_
    refine fl_Tq.stp rfl rfl (fl_bo rfl) rfl ?_
    refine fl_Tq.dv rfl (fl_bo rfl) (by decide +kernel) ?_
    refine fl_Tq.stp rfl rfl (fl_bo rfl) rfl ?_
    refine fl_Tq.stp rfl rfl (fl_bo rfl) rfl ?_
    refine fl_Tq.rm rfl (fl_bo rfl) (by decide +kernel) ?_
    refine fl_Tq.cal rfl rfl (fl_bo rfl) rfl ?_
    refine r_taken_q (p := p) (h := h) (k := k) (mm := x / 2) (t := x % 2) hp eh ek exd exm bh (by omega) (by omega) (by omega) (by omega) (fun s bs hk => ?_) ?_ (fun tv htv => ?_)
    · have lt := lowN (by omega) (k - 1) s 1 (by omega) bs (by omega)
      show (fl_up m1.1 284 N v 284 (at_px (h - 1) (k - 1) s 1)).toInt = _
      rw [hs _ (by omega)]
      exact hP.at (by omega) (by omega) bs (by omega) lt
    · have := hT2.2 280 (315 + h - 1) (fun e => by omega)
      rw [this, show 315 + h - 1 = 315 + (h - 1) by omega]
      exact hpr (h - 1) (by omega)
    refine fl_Tq.stp rfl rfl (fl_bo rfl) rfl ?_
    exact p98 ai tv _ _ _ ea hT2 hs (hn.trans hv) htv (ch_r_s (by omega) k (x / 2) (x % 2))
  refine fl_Tq.stp rfl rfl (fl_bo rfl) rfl ?_
  refine fl_Tq.stp rfl rfl (fl_bo rfl) rfl ?_
  refine fl_Tq.stp rfl rfl (fl_bo rfl) rfl ?_
  refine fl_Tq.stp rfl rfl (fl_bo rfl) rfl ?_
  refine fl_Tq.dv rfl (fl_bo rfl) (by decide +kernel) ?_
  refine fl_Tq.stp rfl rfl (fl_bo rfl) rfl ?_
  refine fl_Tq.stp rfl rfl (fl_bo rfl) rfl ?_
  refine fl_Tq.rm rfl (fl_bo rfl) (by decide +kernel) ?_
  refine fl_Tq.cal rfl rfl (fl_bo rfl) rfl ?_
  refine at_price (h := h) (k := k) (mm := x / 2) (t := x % 2) eh ek exd exm bh (by omega) (by omega) (by omega) (fun ai ea => ?_)
  rw [hN] at ea
  refine fl_Tq.stp rfl rfl (fl_bo rfl) rfl ?_
  refine fl_Tq.stp rfl rfl (fl_bo rfl) rfl ?_
  refine fl_Tq.stp rfl rfl (fl_bo rfl) rfl ?_
  refine fl_Tq.stp rfl rfl (fl_bo rfl) rfl ?_
  refine fl_Tq.stp rfl rfl (fl_bo rfl) rfl ?_
  by_cases h0 : h = 0
  · refine fl_Tq.zf rfl (fl_bo rfl) (by rw [at_c1, eh, h0]; rfl) rfl ?_
    refine fl_Tq.stp rfl rfl (fl_bo rfl) rfl ?_
    by_cases k0 : k = 0
    · refine fl_Tq.zf rfl (fl_bo rfl) (by rw [at_c1, ek, k0]; rfl) rfl ?_
      refine fl_Tq.stp rfl rfl (fl_bo rfl) rfl ?_
      refine fl_Tq.stp rfl rfl (fl_bo rfl) rfl ?_
      exact p75 ai _ ea (by rw [if_pos h0, if_pos k0]; exact e0)
    · refine fl_Tq.zt rfl (fl_bo rfl) ?_ rfl ?_
      · rw [at_c1, ek]
        show (!decide ((k : Int) = 0)) = true
        rw [decide_eq_false (by omega)]; rfl
      refine fl_Tq.stp rfl rfl (fl_bo rfl) rfl ?_
      refine fl_Tq.stp rfl rfl (fl_bo rfl) rfl ?_
      exact p75 ai _ ea (by rw [if_pos h0, if_neg k0]; exact em1)
  · refine fl_Tq.zt rfl (fl_bo rfl) ?_ rfl ?_
    · rw [at_c1, eh]
      show (!decide ((h : Int) = 0)) = true
      rw [decide_eq_false (by omega)]; rfl
    refine fl_Tq.stp rfl rfl (fl_bo rfl) rfl ?_
    refine fl_Tq.stp rfl rfl (fl_bo rfl) rfl ?_
    refine fl_Tq.stp rfl rfl (fl_bo rfl) rfl ?_
    refine fl_Tq.stp rfl rfl (fl_bo rfl) rfl ?_
    refine fl_Tq.stp rfl rfl (fl_bo rfl) rfl ?_
    refine fl_Tq.stp rfl rfl (fl_bo rfl) rfl ?_
    refine fl_Tq.stp rfl rfl (fl_bo rfl) rfl ?_
    refine fl_Tq.stp rfl rfl (fl_bo rfl) rfl ?_
    refine fl_Tq.dv rfl (fl_bo rfl) (by decide +kernel) ?_
    refine fl_Tq.stp rfl rfl (fl_bo rfl) rfl ?_
    refine fl_Tq.cal rfl rfl (fl_bo rfl) rfl ?_
    refine at_price (h := h - 1) (k := k) (mm := x / 2) (t := 0) (at_dec eh (by omega)) ek exd rfl (by omega) (by omega) (by omega) (by omega) (fun v hv => ?_)
    refine fl_Tq.ld (p := 284) (τ := 83) (n := 16250) (z := (0, 0, 0)) (k := at_px (h - 1) k (x / 2) 0) rfl (fl_bo rfl) rfl hv (by unfold at_px; omega) ?_
    exact p75 ai _ ea (by rw [if_neg h0]; exact hP.at (by omega) (by omega) (by omega) (by omega) (lowN (by omega) k (x / 2) 0 (by omega) (by omega) (by omega)))
theorem r_lay_q (hp : ∀ h, 0 ≤ p h ∧ p h ≤ 999) (hpr : ∀ h : Nat, h < 24 → (m.1 280 (315 + h)).toInt = p h) (hg : at_TL m m) (kk : ∀ m2 : fl_M, at_TL m m2 → ch_RV p 16250 m2 → Q none m2) : fl_Tq (pw_P L xs) 307 0 (fl_args (am_mxl (pw_P L xs) 307) [at_this]) [] m Q := by
  have lx : ∀ (h k : Nat), h ≤ 24 → k < 25 → ∀ (d x : Nat) (m1 : fl_M) (o4 o5 : Option fl_V), x + d = 26 → at_TL m m1 → ch_RV p ((h * 25 + k) * 26 + x) m1 → (∀ (m2 : fl_M) (o4 o5 : Option fl_V), at_TL m m2 → ch_RV p ((h * 25 + k) * 26 + 26) m2 → fl_Tq (pw_P L xs) 307 142 [some at_this, some (.inl (Int32.ofNat h)), some (.inl (Int32.ofNat k)), some (.inl (Int32.ofNat 26)), o4, o5] [] m2 Q) → fl_Tq (pw_P L xs) 307 18 [some at_this, some (.inl (Int32.ofNat h)), some (.inl (Int32.ofNat k)), some (.inl (Int32.ofNat x)), o4, o5] [] m1 Q := by
    intro h k bh bk d
    induction d with
    | zero =>
      intro x m1 o4 o5 hx hT hP kn
      have hx : x = 26 := by omega
      subst hx
      refine fl_Tq.stp rfl rfl (fl_bo rfl) rfl ?_
      refine fl_Tq.stp rfl rfl (fl_bo rfl) rfl ?_
      refine fl_Tq.jt rfl (fl_bo rfl) (by decide +kernel) rfl ?_
      exact kn m1 o4 o5 hT hP
    | succ d ih =>
      intro x m1 o4 o5 hx hT hP kn
      have ex := at_ofN (k := x) (by omega)
      refine fl_Tq.stp rfl rfl (fl_bo rfl) rfl ?_
      refine fl_Tq.stp rfl rfl (fl_bo rfl) rfl ?_
      refine fl_Tq.jf rfl (fl_bo rfl) ?_ rfl ?_
      · rw [at_c2, ex]
        exact decide_eq_false (by show ¬ (0 ≤ (x : Int) - 26); omega)
      exact r_lay1_q hp hpr bh bk (by omega) hT hP o4 o5 (fun m2 o4 o5 hT2 hP2 => ih (x + 1) m2 o4 o5 (by omega) hT2 hP2 kn)
  have lk : ∀ (h : Nat), h ≤ 24 → ∀ (d k : Nat) (m1 : fl_M) (o3 o4 o5 : Option fl_V), k + d = 25 → at_TL m m1 → ch_RV p ((h * 25 + k) * 26) m1 → (∀ (m2 : fl_M) (o3 o4 o5 : Option fl_V), at_TL m m2 → ch_RV p ((h * 25 + 25) * 26) m2 → fl_Tq (pw_P L xs) 307 148 [some at_this, some (.inl (Int32.ofNat h)), some (.inl (Int32.ofNat 25)), o3, o4, o5] [] m2 Q) → fl_Tq (pw_P L xs) 307 10 [some at_this, some (.inl (Int32.ofNat h)), some (.inl (Int32.ofNat k)), o3, o4, o5] [] m1 Q := by
    intro h bh d
    induction d with
    | zero =>
      intro k m1 o3 o4 o5 hk hT hP kn
      have hk : k = 25 := by omega
      subst hk
      refine fl_Tq.stp rfl rfl (fl_bo rfl) rfl ?_
      refine fl_Tq.stp rfl rfl (fl_bo rfl) rfl ?_
      refine fl_Tq.jt rfl (fl_bo rfl) (by decide +kernel) rfl ?_
      exact kn m1 o3 o4 o5 hT hP
    | succ d ih =>
      intro k m1 o3 o4 o5 hk hT hP kn
      have ek := at_ofN (k := k) (by omega)
      refine fl_Tq.stp rfl rfl (fl_bo rfl) rfl ?_
      refine fl_Tq.stp rfl rfl (fl_bo rfl) rfl ?_
      refine fl_Tq.jf rfl (fl_bo rfl) ?_ rfl ?_
      · rw [at_c2, ek]
        exact decide_eq_false (by show ¬ (0 ≤ (k : Int) - 25); omega)
      refine fl_Tq.stp rfl rfl (fl_bo rfl) rfl ?_
      refine fl_Tq.stp rfl rfl (fl_bo rfl) rfl ?_
      refine lx h k bh (by omega) 26 0 m1 o4 o5 (by omega) hT hP (fun m2 o4 o5 hT2 hP2 => ?_)
      refine fl_Tq.stp rfl rfl (fl_bo rfl) rfl ?_
      refine fl_Tq.stp rfl rfl (fl_bo rfl) rfl ?_
      have := ih (k + 1) m2 (some (.inl (Int32.ofNat 26))) o4 o5 (by omega) hT2 (by rw [show (h * 25 + (k + 1)) * 26 = (h * 25 + k) * 26 + 26 by omega]; exact hP2) kn
      rw [← at_inc (by omega)] at this
      exact this
  have lh : ∀ (d h : Nat) (m1 : fl_M) (o2 o3 o4 o5 : Option fl_V), h + d = 25 → at_TL m m1 → ch_RV p (h * 25 * 26) m1 → fl_Tq (pw_P L xs) 307 2 [some at_this, some (.inl (Int32.ofNat h)), o2, o3, o4, o5] [] m1 Q := by
    intro d
    induction d with
    | zero =>
      intro h m1 o2 o3 o4 o5 hh hT hP
      have hh : h = 25 := by omega
      subst hh
      refine fl_Tq.stp rfl rfl (fl_bo rfl) rfl ?_
      refine fl_Tq.stp rfl rfl (fl_bo rfl) rfl ?_
      refine fl_Tq.jt rfl (fl_bo rfl) (by decide +kernel) rfl ?_
      exact fl_Tq.ret rfl rfl rfl (kk m1 hT hP)
    | succ d ih =>
      intro h m1 o2 o3 o4 o5 hh hT hP
      have eh := at_ofN (k := h) (by omega)
      refine fl_Tq.stp rfl rfl (fl_bo rfl) rfl ?_
      refine fl_Tq.stp rfl rfl (fl_bo rfl) rfl ?_
      refine fl_Tq.jf rfl (fl_bo rfl) ?_ rfl ?_
      · rw [at_c2, eh]
        exact decide_eq_false (by show ¬ (0 < (h : Int) - 24); omega)
      refine fl_Tq.stp rfl rfl (fl_bo rfl) rfl ?_
      refine fl_Tq.stp rfl rfl (fl_bo rfl) rfl ?_
      refine lk h (by omega) 25 0 m1 o3 o4 o5 (by omega) hT (by rw [show (h * 25 + 0) * 26 = h * 25 * 26 by omega]; exact hP) (fun m2 o3 o4 o5 hT2 hP2 => ?_)
      refine fl_Tq.stp rfl rfl (fl_bo rfl) rfl ?_
      refine fl_Tq.stp rfl rfl (fl_bo rfl) rfl ?_
      have := ih (h + 1) m2 (some (.inl (Int32.ofNat 25))) o3 o4 o5 (by omega) hT2 (by rw [show (h + 1) * 25 * 26 = (h * 25 + 25) * 26 by omega]; exact hP2)
      rw [← at_inc (by omega)] at this
      exact this
  refine fl_Tq.stp rfl rfl (fl_bo rfl) rfl ?_
  refine fl_Tq.stp rfl rfl (fl_bo rfl) rfl ?_
  exact lh 25 0 m none none none none (by omega) hg (fun h k x _ _ _ b => by omega)
theorem ch_or_all : (List.range 24).all (fun h => decide ((Int32.ofInt 1 <<< ((Int32.ofNat (h + 1) - Int32.ofInt 1) &&& 31)).toBitVec.toNat = 2 ^ h)) = true := by decide +kernel
theorem ch_pos32 {x : Int32} (h : 0 ≤ x.toInt) : x.toInt = x.toBitVec.toNat := by
  show x.toBitVec.toInt = _
  have h : 0 ≤ x.toBitVec.toInt := h
  have := x.toBitVec.isLt
  rw [BitVec.toInt_eq_toNat_cond] at h ⊢
  split at h
  · rw [if_pos (by assumption)]
  · omega
theorem ch_or {b : Int32} {h q : Nat} (bh : h < 24) (hb : b.toInt = ((2 ^ (h + 1) * q : Nat) : Int)) (lt : b.toInt < 16777216) : (b ||| (Int32.ofInt 1 <<< ((Int32.ofNat (h + 1) - Int32.ofInt 1) &&& 31))).toInt = ((2 ^ h * (2 * q + 1) : Nat) : Int) := by
  have s := of_decide_eq_true (List.all_eq_true.mp ch_or_all h (List.mem_range.mpr bh))
  have pb := ch_pos32 (x := b) (by omega)
  have eb : b.toBitVec.toNat = 2 ^ (h + 1) * q := by omega
  have e : (b ||| (Int32.ofInt 1 <<< ((Int32.ofNat (h + 1) - Int32.ofInt 1) &&& 31))).toBitVec.toNat = 2 ^ h * (2 * q + 1) := by
    rw [Int32.toBitVec_or, BitVec.toNat_or, s, eb, ← Nat.two_pow_add_eq_or_of_lt (Nat.pow_lt_pow_right (by decide) (by omega)), Nat.pow_succ, Nat.mul_add, Nat.mul_assoc, Nat.mul_one]
  have w : (2 : Nat) ^ h ≤ 8388608 := Nat.pow_le_pow_right (n := 2) (by decide) (show h ≤ 23 by omega)
  have e2 : 2 ^ h * (2 * q + 1) = 2 ^ (h + 1) * q + 2 ^ h := by rw [Nat.pow_succ, Nat.mul_add, Nat.mul_assoc, Nat.mul_one]
  show (b ||| (Int32.ofInt 1 <<< ((Int32.ofNat (h + 1) - Int32.ofInt 1) &&& 31))).toBitVec.toInt = _
  rw [BitVec.toInt_eq_toNat_cond, e, if_pos (by omega)]
theorem r_cheap_q {ki mi_ wi : Int32} {k mm : Nat} (hp : ∀ h, 0 ≤ p h ∧ p h ≤ 999) (hpr : ∀ h : Nat, h < 24 → (m.1 280 (315 + h)).toInt = p h) (hk : ki.toInt = k) (hm : mi_.toInt = mm) (k2 : k ≤ 24) (m1 : 1 ≤ mm) (m2 : mm ≤ 12) (hw : wi.toInt = 0 ∨ wi.toInt = 1) (fin : ∀ (v : Int32) (m2 : fl_M), v.toInt = (if wi.toInt = 0 then ch_r p 24 k mm 0 else ch_g p 24 k mm 0) → Q (some (.inl v)) m2) : fl_Tq (pw_P L xs) 308 31 [some at_this, some (.inl ki), some (.inl mi_), some (.inl wi), none, none, none, none, none, none] [] m Q := by
  have e24 : (Int8.ofInt 24).toInt32.toInt = 24 := by decide +kernel
  have e1 : (Int32.ofInt 1).toInt = 1 := rfl
  have e0 : (Int32.ofInt 0).toInt = 0 := rfl
  have em1 : (Int32.ofInt (-1)).toInt = -1 := rfl
  obtain ⟨-, -, g0, g1, -⟩ := ch_fin hp k2 m1
  refine fl_Tq.stp rfl rfl (fl_bo rfl) rfl ?_
  refine fl_Tq.cal rfl rfl (fl_bo rfl) rfl ?_
  refine r_lay_q (m := m) hp hpr ⟨rfl, fun p j _ => rfl⟩ (fun m2' hT hP => ?_)
  refine fl_Tq.stp rfl rfl (fl_bo rfl) rfl ?_
  rcases hw with w0 | w1
  · refine fl_Tq.zf rfl (fl_bo rfl) (by rw [at_c1, w0]; rfl) rfl ?_
    refine fl_Tq.stp rfl rfl (fl_bo rfl) rfl ?_
    refine fl_Tq.stp rfl rfl (fl_bo rfl) rfl ?_
    refine fl_Tq.stp rfl rfl (fl_bo rfl) rfl ?_
    refine fl_Tq.stp rfl rfl (fl_bo rfl) rfl ?_
    refine fl_Tq.stp rfl rfl (fl_bo rfl) rfl ?_
    refine fl_Tq.stp rfl rfl (fl_bo rfl) rfl ?_
    refine fl_Tq.cal rfl rfl (fl_bo rfl) rfl ?_
    refine at_price (h := 24) (k := k) (mm := mm) (t := 0) e24 hk hm e0 (by omega) (by omega) (by omega) (by omega) (fun v hv => ?_)
    refine fl_Tq.ld (p := 284) (τ := 83) (n := 16250) (z := (0, 0, 0)) (k := at_px 24 k mm 0) rfl (fl_bo rfl) rfl hv (by unfold at_px; omega) ?_
    refine fl_Tq.ret rfl rfl rfl (fin _ _ ?_)
    rw [if_pos w0]
    exact hP.at (by omega) (by omega) (by omega) (by omega) (by unfold at_px; omega)
  · refine fl_Tq.zt rfl (fl_bo rfl) (by rw [at_c1, w1]; rfl) rfl ?_
    rw [if_neg (by omega)] at fin
    have loop : ∀ (h : Nat) (left str tk q : Nat) (b li si ti : Int32) (o9 : Option fl_V), h ≤ 24 → left ≤ 24 → str ≤ 12 → tk ≤ 1 → li.toInt = left → si.toInt = str → ti.toInt = tk → b.toInt = ((2 ^ h * q : Nat) : Int) → b.toInt + ch_g p h left str tk = ch_g p 24 k mm 0 → fl_Tq (pw_P L xs) 308 69 [some at_this, some (.inl ki), some (.inl mi_), some (.inl wi), some (.inl b), some (.inl li), some (.inl si), some (.inl ti), some (.inl (Int32.ofNat h)), o9] [] m2' Q := by
      intro h
      induction h with
      | zero =>
        intro left str tk q b li si ti o9 bh bl bs bt el es et eb eg
        refine fl_Tq.stp rfl rfl (fl_bo rfl) rfl ?_
        refine fl_Tq.zt rfl (fl_bo rfl) (by decide +kernel) rfl ?_
        refine fl_Tq.stp rfl rfl (fl_bo rfl) rfl ?_
        refine fl_Tq.ret rfl rfl rfl (fin _ _ ?_)
        rw [← eg]
        show b.toInt = b.toInt + 0
        omega
      | succ h ih =>
        intro left str tk q b li si ti o9 bh bl bs bt el es et eb eg
        have eh := at_ofN (k := h + 1) (by omega)
        have edn : Int32.ofNat (h + 1) + Int32.ofInt (-1) = Int32.ofNat h := ch_edn (by omega)
        have gn : ch_g p (h + 1) left str tk = if ch_r p h left str 0 = ch_r p (h + 1) left str tk then ch_g p h left str 0 else 2 ^ h + ch_g p h (left - 1) (ch_s str tk) 1 := rfl
        have nn := ch_g_nn (p := p) (h + 1) left str tk
        have v1 := hP.at (h := h) (k := left) (mm := str) (t := 0) (by omega) (by omega) bs (by omega) (by unfold at_px; omega)
        have v2 := hP.at (h := h + 1) (k := left) (mm := str) (t := tk) bh (by omega) bs bt (by unfold at_px; omega)
        refine fl_Tq.stp rfl rfl (fl_bo rfl) rfl ?_
        refine fl_Tq.zf rfl (fl_bo rfl) ?_ rfl ?_
        · rw [at_c1, eh]
          exact decide_eq_false (show ¬ (((h + 1 : Nat) : Int) ≤ 0) by omega)
        refine fl_Tq.stp rfl rfl (fl_bo rfl) rfl ?_
        refine fl_Tq.stp rfl rfl (fl_bo rfl) rfl ?_
        refine fl_Tq.stp rfl rfl (fl_bo rfl) rfl ?_
        refine fl_Tq.stp rfl rfl (fl_bo rfl) rfl ?_
        refine fl_Tq.stp rfl rfl (fl_bo rfl) rfl ?_
        refine fl_Tq.stp rfl rfl (fl_bo rfl) rfl ?_
        refine fl_Tq.stp rfl rfl (fl_bo rfl) rfl ?_
        refine fl_Tq.stp rfl rfl (fl_bo rfl) rfl ?_
        refine fl_Tq.cal rfl rfl (fl_bo rfl) rfl ?_
        refine at_price (h := h + 1 - 1) (k := left) (mm := str) (t := 0) (at_dec eh (by omega)) el es e0 (by omega) (by omega) (by omega) (by omega) (fun v hv => ?_)
        refine fl_Tq.ld (p := 284) (τ := 83) (n := 16250) (z := (0, 0, 0)) (k := at_px (h + 1 - 1) left str 0) rfl (fl_bo rfl) rfl hv (by unfold at_px; omega) ?_
        refine fl_Tq.stp rfl rfl (fl_bo rfl) rfl ?_
        refine fl_Tq.stp rfl rfl (fl_bo rfl) rfl ?_
        refine fl_Tq.stp rfl rfl (fl_bo rfl) rfl ?_
        refine fl_Tq.stp rfl rfl (fl_bo rfl) rfl ?_
        refine fl_Tq.stp rfl rfl (fl_bo rfl) rfl ?_
        refine fl_Tq.stp rfl rfl (fl_bo rfl) rfl ?_
        refine fl_Tq.cal rfl rfl (fl_bo rfl) rfl ?_
        refine at_price (h := h + 1) (k := left) (mm := str) (t := tk) eh el es et (by omega) (by omega) (by omega) (by omega) (fun u hu => ?_)
        refine fl_Tq.ld (p := 284) (τ := 83) (n := 16250) (z := (0, 0, 0)) (k := at_px (h + 1) left str tk) rfl (fl_bo rfl) rfl hu (by unfold at_px; omega) ?_
        rw [show h + 1 - 1 = h by omega]
        have back : ∀ (tk' left' str' q' : Nat) (b' li' si' ti' : Int32) (o9 : Option fl_V), left' ≤ 24 → str' ≤ 12 → tk' ≤ 1 → li'.toInt = left' → si'.toInt = str' → ti'.toInt = tk' → b'.toInt = ((2 ^ h * q' : Nat) : Int) → b'.toInt + ch_g p h left' str' tk' = ch_g p 24 k mm 0 → fl_Tq (pw_P L xs) 308 157 [some at_this, some (.inl ki), some (.inl mi_), some (.inl wi), some (.inl b'), some (.inl li'), some (.inl si'), some (.inl ti'), some (.inl (Int32.ofNat (h + 1))), o9] [] m2' Q := by
          intro tk' left' str' q' b' li' si' ti' o9 c1 c2 c3 c4 c5 c6 c7 c8
          refine fl_Tq.stp rfl rfl (fl_bo rfl) rfl ?_
          refine fl_Tq.stp rfl rfl (fl_bo rfl) rfl ?_
          have := ih left' str' tk' q' b' li' si' ti' o9 (by omega) c1 c2 c3 c4 c5 c6 c7 c8
          rw [← edn] at this
          exact this
        by_cases heq : (m2'.1 284 (at_px h left str 0)).toInt = (m2'.1 284 (at_px (h + 1) left str tk)).toInt
        · rw [if_pos (by rw [← v1, ← v2]; exact heq)] at gn
          refine fl_Tq.jf rfl (fl_bo rfl) ?_ rfl ?_
          · rw [at_c2]
            show (!decide _) = false
            rw [decide_eq_true (by omega)]; rfl
          refine fl_Tq.stp rfl rfl (fl_bo rfl) rfl ?_
          refine fl_Tq.stp rfl rfl (fl_bo rfl) rfl ?_
          refine fl_Tq.stp rfl rfl (fl_bo rfl) rfl ?_
          refine fl_Tq.stp rfl rfl (fl_bo rfl) rfl ?_
          refine fl_Tq.zt rfl (fl_bo rfl) (by decide +kernel) rfl ?_
          refine fl_Tq.stp rfl rfl (fl_bo rfl) rfl ?_
          refine fl_Tq.zf rfl (fl_bo rfl) (by decide +kernel) rfl ?_
          refine fl_Tq.stp rfl rfl (fl_bo rfl) rfl ?_
          refine fl_Tq.stp rfl rfl (fl_bo rfl) rfl ?_
          refine fl_Tq.stp rfl rfl (fl_bo rfl) rfl ?_
          exact back 0 left str (2 * q) _ _ _ _ _ bl bs (by omega) el es e0 (by rw [eb, Nat.pow_succ, Nat.mul_assoc]) (by rw [← gn]; exact eg)
        · rw [if_neg (by rw [← v1, ← v2]; exact heq)] at gn
          have hnc : ¬ (left = 0 ∨ (tk = 0 ∧ str = 0)) := by
            intro hc
            refine heq ?_
            have e := ch_r_s (p := p) (h := h + 1) (by omega) left str tk
            rw [Nat.add_sub_cancel] at e
            have et : ∀ r : Int, ch_tk p h left str tk r = -1 := fun r => by
              unfold ch_tk
              rw [if_pos hc]
            rw [et, if_neg (fun q => q.1 rfl)] at e
            rw [v1, v2, e]
          refine fl_Tq.jt rfl (fl_bo rfl) ?_ rfl ?_
          · rw [at_c2]
            show (!decide _) = true
            rw [decide_eq_false (by omega)]; rfl
          refine fl_Tq.stp rfl rfl (fl_bo rfl) rfl ?_
          refine fl_Tq.stp rfl rfl (fl_bo rfl) rfl ?_
          refine fl_Tq.stp rfl rfl (fl_bo rfl) rfl ?_
          refine fl_Tq.zf rfl (fl_bo rfl) (by decide +kernel) rfl ?_
          refine fl_Tq.stp rfl rfl (fl_bo rfl) rfl ?_
          refine fl_Tq.stp rfl rfl (fl_bo rfl) rfl ?_
          refine fl_Tq.stp rfl rfl (fl_bo rfl) rfl ?_
          refine fl_Tq.stp rfl rfl (fl_bo rfl) rfl ?_
          refine fl_Tq.stp rfl rfl (fl_bo rfl) rfl ?_
          refine fl_Tq.stp rfl rfl (fl_bo rfl) rfl ?_
          refine fl_Tq.stp rfl rfl (fl_bo rfl) rfl ?_
          refine fl_Tq.stp rfl rfl (fl_bo rfl) rfl ?_
          refine fl_Tq.stp rfl rfl (fl_bo rfl) rfl ?_
          refine fl_Tq.stp rfl rfl (fl_bo rfl) rfl ?_
          refine fl_Tq.stp rfl rfl (fl_bo rfl) rfl ?_
          refine fl_Tq.stp rfl rfl (fl_bo rfl) rfl ?_
          refine fl_Tq.stp rfl rfl (fl_bo rfl) rfl ?_
          refine fl_Tq.stp rfl rfl (fl_bo rfl) rfl ?_
          refine fl_Tq.stp rfl rfl (fl_bo rfl) rfl ?_
          refine fl_Tq.stp rfl rfl (fl_bo rfl) rfl ?_
          have cl : (li + Int32.ofInt (-1)).toInt = ((left - 1 : Nat) : Int) := by
            rw [at_add32] <;> rw [el, em1] <;> omega
          have c1 : (Int32.ofInt 1 - ti).toInt = 1 - (tk : Int) := by
            rw [at_sub32] <;> rw [et, e1] <;> omega
          have es2 : ch_s str tk = str - (1 - tk) := by
            unfold ch_s
            split <;> omega
          have cs : (si - (Int32.ofInt 1 - ti)).toInt = ((ch_s str tk : Nat) : Int) := by
            rw [es2, at_sub32] <;> rw [es, c1] <;> omega
          have cb := ch_or (b := b) (h := h) (q := q) (by omega) eb (by omega)
          refine fl_Tq.zt rfl (fl_bo rfl) (by decide +kernel) rfl ?_
          refine fl_Tq.stp rfl rfl (fl_bo rfl) rfl ?_
          refine fl_Tq.stp rfl rfl (fl_bo rfl) rfl ?_
          refine back 1 (left - 1) (ch_s str tk) (2 * q + 1) _ _ _ _ _ (by omega) (by omega) (by omega) cl cs e1 cb ?_
          rw [cb]
          have e3 : ((2 ^ h * (2 * q + 1) : Nat) : Int) = ((2 ^ (h + 1) * q : Nat) : Int) + 2 ^ h := by
            have : 2 ^ h * (2 * q + 1) = 2 ^ (h + 1) * q + 2 ^ h := by rw [Nat.pow_succ, Nat.mul_add, Nat.mul_assoc, Nat.mul_one]
            rw [this, Int.natCast_add, Int.natCast_pow]
            rfl
          rw [e3, ← eb]
          omega
    refine fl_Tq.stp rfl rfl (fl_bo rfl) rfl ?_
    refine fl_Tq.stp rfl rfl (fl_bo rfl) rfl ?_
    show fl_Tq (pw_P L xs) 308 56 [some at_this, some (.inl ki), some (.inl mi_), some (.inl wi), some (.inl (Int32.ofInt 0)), none, none, none, none, none] [] m2' _
    refine fl_Tq.stp rfl rfl (fl_bo rfl) rfl ?_
    refine fl_Tq.stp rfl rfl (fl_bo rfl) rfl ?_
    show fl_Tq (pw_P L xs) 308 59 [some at_this, some (.inl ki), some (.inl mi_), some (.inl wi), some (.inl (Int32.ofInt 0)), some (.inl ki), none, none, none, none] [] m2' _
    refine fl_Tq.stp rfl rfl (fl_bo rfl) rfl ?_
    refine fl_Tq.stp rfl rfl (fl_bo rfl) rfl ?_
    show fl_Tq (pw_P L xs) 308 62 [some at_this, some (.inl ki), some (.inl mi_), some (.inl wi), some (.inl (Int32.ofInt 0)), some (.inl ki), some (.inl mi_), none, none, none] [] m2' _
    refine fl_Tq.stp rfl rfl (fl_bo rfl) rfl ?_
    refine fl_Tq.stp rfl rfl (fl_bo rfl) rfl ?_
    show fl_Tq (pw_P L xs) 308 65 [some at_this, some (.inl ki), some (.inl mi_), some (.inl wi), some (.inl (Int32.ofInt 0)), some (.inl ki), some (.inl mi_), some (.inl (Int32.ofInt 0)), none, none] [] m2' _
    refine fl_Tq.stp rfl rfl (fl_bo rfl) rfl ?_
    refine fl_Tq.stp rfl rfl (fl_bo rfl) rfl ?_
    rw [show (Int8.ofInt 24).toInt32 = Int32.ofNat 24 from by decide +kernel]
    exact loop 24 k mm 0 0 (Int32.ofInt 0) ki mi_ (Int32.ofInt 0) none (by omega) (by omega) (by omega) (by omega) hk hm e0 (by rw [Nat.mul_zero]; rfl) (by show (0 : Int) + _ = _; omega)
end CHS

end

/-! 95.05.00p21.lean.txt -/
section
theorem x_is {L : Nat} {xs : Nat → Int32} {f : t2_F} {l : t2_L} {Q : Option fl_V → fl_M → Prop} {a : Int32} (hc : 0 ≤ (f 1 5).toInt ∧ (f 1 5).toInt ≤ 16) (k : Q (some (.inl (c0_tell_v f a))) (f, l)) : fl_Tq (pw_P L xs) 122 0 [some (.inr (.inr (.inl (0, 0)))), some (.inl a)] [] (f, l) Q := by
  refine fl_Tq.stp (pc' := 1) (lv' := [some (.inr (.inr (.inl (0, 0)))), some (.inl a)]) (st' := [.inr (.inr (.inl (0, 0)))]) (m' := (f, l)) rfl rfl (fl_bo rfl) rfl ?_
  refine fl_Tq.stp (pc' := 4) (lv' := [some (.inr (.inr (.inl (0, 0)))), some (.inl a)]) (st' := [.inr (.inr (.inl (1, 1)))]) (m' := (f, l)) rfl rfl (fl_bo rfl) rfl ?_
  refine fl_Tq.stp (pc' := 5) (lv' := [some (.inr (.inr (.inl (0, 0)))), some (.inl a)]) (st' := [.inl a, .inr (.inr (.inl (1, 1)))]) (m' := (f, l)) rfl rfl (fl_bo rfl) rfl ?_
  refine fl_Tq.cal rfl rfl (fl_bo rfl) rfl ?_
  refine c0_tell_q hc ?_
  show fl_Tq _ 122 8 [some (.inr (.inr (.inl (0, 0)))), some (.inl a)] [.inl (c0_tell_v f a)] (f, l) _
  exact fl_Tq.ret rfl rfl rfl k
/-! ===== is, on both sides ===== -/
theorem t2_cmp_21 {L : Nat} {xs : Nat → Int32} {f : t2_F} {l : t2_L} {a : Int32} (_hall : ∀ c ∈ at_CM ++ at_CA, at_Valid at_XI (pw_P L xs) c) (hg : t2_Z (f, l)) : fl_Tq (pw_P L xs) 122 0 (fl_args (am_mxl (pw_P L xs) 122) [lx_x, .inl a]) [] (f, l) (t2_End L xs 268 [at_this, .inl a]) := by
  have I : c0_I f f := hg.2.1
  refine t2_qq (y := r_is_v f a) hg (fun Q k => x_is I.hc ?_) (fun Q k => r_is_q I.rhu.1 (t2_Good.RS hg.1) I.rhu.2 k)
  rw [I.tell]
  exact k

end

/-! 95.05.01p22.lean.txt -/
section
theorem x_setting_A {L : Nat} {xs : Nat → Int32} {f : t2_F} {l : t2_L} {Q : Option fl_V → fl_M → Prop} {a : Int32}  (k : ((t2_within_v a (0 : Int32) (29 : Int32)).toInt = 0) → Q (some (.inl (-1000000000 : Int32))) (f, l)) (k1 : (¬ ((t2_within_v a (0 : Int32) (29 : Int32)).toInt = 0)) → fl_Tq (pw_P L xs) 123 10 [some (.inr (.inr (.inl (0, 0)))), some (.inl a)] [] (f, l) Q) : fl_Tq (pw_P L xs) 123 0 [some (.inr (.inr (.inl (0, 0)))), some (.inl a)] [] (f, l) Q := by
  refine fl_Tq.stp (pc' := 1) (lv' := [some (.inr (.inr (.inl (0, 0)))), some (.inl a)]) (st' := [.inl a]) (m' := (f, l)) rfl rfl (fl_bo rfl) rfl ?_
  refine fl_Tq.cI (c := (0 : Int32)) rfl (by decide +kernel) (fl_bo rfl) ?_
  refine fl_Tq.cB (c := (29 : Int32)) rfl (by decide +kernel) (fl_bo rfl) ?_
  refine fl_Tq.cal rfl rfl (fl_bo rfl) rfl ?_
  refine t2_within_q  ?_
  show fl_Tq _ 123 7 [some (.inr (.inr (.inl (0, 0)))), some (.inl a)] [.inl (t2_within_v a (0 : Int32) (29 : Int32))] (f, l) _
  by_cases h1 : (t2_within_v a (0 : Int32) (29 : Int32)).toInt = 0
  · refine fl_Tq.zt rfl (fl_bo rfl) (c1_eq_t h1) rfl ?_
    refine fl_Tq.stp (pc' := 27) (lv' := [some (.inr (.inr (.inl (0, 0)))), some (.inl a)]) (st' := [.inl (-1000000000 : Int32)]) (m' := (f, l)) rfl rfl (fl_bo rfl) rfl ?_
    exact fl_Tq.ret rfl rfl rfl (k h1)
  · refine fl_Tq.zf rfl (fl_bo rfl) (c1_eq_f h1) rfl ?_
    exact k1 h1
theorem x_setting_B {L : Nat} {xs : Nat → Int32} {f : t2_F} {l : t2_L} {Q : Option fl_V → fl_M → Prop} {a : Int32} {A : Nat} (hA : a.toInt = (A : Int)) (hA1 : A < 30) (k : Q (some (.inl (f 4 A))) (f, l)) : fl_Tq (pw_P L xs) 123 10 [some (.inr (.inr (.inl (0, 0)))), some (.inl a)] [] (f, l) Q := by
  refine fl_Tq.stp (pc' := 11) (lv' := [some (.inr (.inr (.inl (0, 0)))), some (.inl a)]) (st' := [.inr (.inr (.inl (0, 0)))]) (m' := (f, l)) rfl rfl (fl_bo rfl) rfl ?_
  refine fl_Tq.stp (pc' := 14) (lv' := [some (.inr (.inr (.inl (0, 0)))), some (.inl a)]) (st' := [.inr (.inr (.inl (1, 1)))]) (m' := (f, l)) rfl rfl (fl_bo rfl) rfl ?_
  refine fl_Tq.stp (pc' := 17) (lv' := [some (.inr (.inr (.inl (0, 0)))), some (.inl a)]) (st' := [.inr (.inr (.inl (3, 3)))]) (m' := (f, l)) rfl rfl (fl_bo rfl) rfl ?_
  refine fl_Tq.stp (pc' := 20) (lv' := [some (.inr (.inr (.inl (0, 0)))), some (.inl a)]) (st' := [.inr (.inr (.inl (4, 4)))]) (m' := (f, l)) rfl rfl (fl_bo rfl) rfl ?_
  refine fl_Tq.stp (pc' := 21) (lv' := [some (.inr (.inr (.inl (0, 0)))), some (.inl a)]) (st' := [.inl a, .inr (.inr (.inl (4, 4)))]) (m' := (f, l)) rfl rfl (fl_bo rfl) rfl ?_
  refine fl_Tq.ldV (p := 4) (τ := 4) (n := 30) (z := (0, 0, 0)) (k := A) (v := f 4 A) rfl (fl_bo rfl) rfl hA hA1 rfl ?_
  refine fl_Tq.stp (pc' := 27) (lv' := [some (.inr (.inr (.inl (0, 0)))), some (.inl a)]) (st' := [.inl (f 4 A)]) (m' := (f, l)) rfl rfl (fl_bo rfl) rfl ?_
  exact fl_Tq.ret rfl rfl rfl k
theorem y_setting_A {L : Nat} {xs : Nat → Int32} {f : t2_F} {l : t2_L} {Q : Option fl_V → fl_M → Prop} {a : Int32}  (k : ((r_isIn_v a (0 : Int32) (29 : Int32)).toInt = 0) → Q (some (.inl (-1000000000 : Int32))) (f, l)) (k1 : (¬ ((r_isIn_v a (0 : Int32) (29 : Int32)).toInt = 0)) → fl_Tq (pw_P L xs) 269 10 [some (.inr (.inr (.inl (76, 277)))), some (.inl a)] [] (f, l) Q) : fl_Tq (pw_P L xs) 269 0 [some (.inr (.inr (.inl (76, 277)))), some (.inl a)] [] (f, l) Q := by
  refine fl_Tq.stp (pc' := 1) (lv' := [some (.inr (.inr (.inl (76, 277)))), some (.inl a)]) (st' := [.inl a]) (m' := (f, l)) rfl rfl (fl_bo rfl) rfl ?_
  refine fl_Tq.cI (c := (0 : Int32)) rfl (by decide +kernel) (fl_bo rfl) ?_
  refine fl_Tq.cB (c := (29 : Int32)) rfl (by decide +kernel) (fl_bo rfl) ?_
  refine fl_Tq.cal rfl rfl (fl_bo rfl) rfl ?_
  refine r_isIn_q  ?_
  show fl_Tq _ 269 7 [some (.inr (.inr (.inl (76, 277)))), some (.inl a)] [.inl (r_isIn_v a (0 : Int32) (29 : Int32))] (f, l) _
  by_cases h1 : (r_isIn_v a (0 : Int32) (29 : Int32)).toInt = 0
  · refine fl_Tq.zt rfl (fl_bo rfl) (c1_eq_t h1) rfl ?_
    refine fl_Tq.stp (pc' := 21) (lv' := [some (.inr (.inr (.inl (76, 277)))), some (.inl a)]) (st' := [.inl (-1000000000 : Int32)]) (m' := (f, l)) rfl rfl (fl_bo rfl) rfl ?_
    exact fl_Tq.ret rfl rfl rfl (k h1)
  · refine fl_Tq.zf rfl (fl_bo rfl) (c1_eq_f h1) rfl ?_
    exact k1 h1
theorem y_setting_B {L : Nat} {xs : Nat → Int32} {f : t2_F} {l : t2_L} {Q : Option fl_V → fl_M → Prop} {a : Int32} {A : Nat} (hA : a.toInt = (A : Int)) (hA1 : A < 30) (k : Q (some (.inl (f 280 (34 + A)))) (f, l)) : fl_Tq (pw_P L xs) 269 10 [some (.inr (.inr (.inl (76, 277)))), some (.inl a)] [] (f, l) Q := by
  refine fl_Tq.stp (pc' := 11) (lv' := [some (.inr (.inr (.inl (76, 277)))), some (.inl a)]) (st' := [.inr (.inr (.inl (76, 277)))]) (m' := (f, l)) rfl rfl (fl_bo rfl) rfl ?_
  refine fl_Tq.stp (pc' := 12) (lv' := [some (.inr (.inr (.inl (76, 277)))), some (.inl a)]) (st' := [.inl a, .inr (.inr (.inl (76, 277)))]) (m' := (f, l)) rfl rfl (fl_bo rfl) rfl ?_
  refine fl_Tq.cal rfl rfl (fl_bo rfl) rfl ?_
  refine fl_Tq.stp (pc' := 1) (lv' := [some (.inr (.inr (.inl (76, 277)))), some (.inl a)]) (st' := [.inr (.inr (.inl (76, 277)))]) (m' := (f, l)) rfl rfl (fl_bo rfl) rfl ?_
  refine fl_Tq.stp (pc' := 4) (lv' := [some (.inr (.inr (.inl (76, 277)))), some (.inl a)]) (st' := [.inr (.inr (.inl (79, 280)))]) (m' := (f, l)) rfl rfl (fl_bo rfl) rfl ?_
  refine fl_Tq.cB (c := (34 : Int32)) rfl (by decide +kernel) (fl_bo rfl) ?_
  refine fl_Tq.stp (pc' := 7) (lv' := [some (.inr (.inr (.inl (76, 277)))), some (.inl a)]) (st' := [.inl a, .inl (34 : Int32), .inr (.inr (.inl (79, 280)))]) (m' := (f, l)) rfl rfl (fl_bo rfl) rfl ?_
  refine fl_Tq.stp (pc' := 8) (lv' := [some (.inr (.inr (.inl (76, 277)))), some (.inl a)]) (st' := [.inl ((34 : Int32) + a), .inr (.inr (.inl (79, 280)))]) (m' := (f, l)) rfl rfl (fl_bo rfl) rfl ?_
  refine fl_Tq.ldV (p := 280) (τ := 79) (n := 29780) (z := (0, 0, 0)) (k := 34 + A) (v := f 280 (34 + A)) rfl (fl_bo rfl) rfl (t2_ia (by decide +kernel) hA (by omega)) (by omega) rfl ?_
  refine fl_Tq.ret rfl rfl rfl ?_
  show fl_Tq _ 269 15 [some (.inr (.inr (.inl (76, 277)))), some (.inl a)] [.inl (f 280 (34 + A))] (f, l) _
  refine fl_Tq.stp (pc' := 21) (lv' := [some (.inr (.inr (.inl (76, 277)))), some (.inl a)]) (st' := [.inl (f 280 (34 + A))]) (m' := (f, l)) rfl rfl (fl_bo rfl) rfl ?_
  exact fl_Tq.ret rfl rfl rfl k
/-! ===== setting, on both sides ===== -/
theorem t2_cmp_22 {L : Nat} {xs : Nat → Int32} {f : t2_F} {l : t2_L} {a : Int32} (_hall : ∀ c ∈ at_CM ++ at_CA, at_Valid at_XI (pw_P L xs) c) (hg : t2_Z (f, l)) : fl_Tq (pw_P L xs) 123 0 (fl_args (am_mxl (pw_P L xs) 123) [lx_x, .inl a]) [] (f, l) (t2_End L xs 269 [at_this, .inl a]) := by
  have I : c0_I f f := hg.2.1
  have c0 : (0 : Int32).toInt = 0 := rfl
  have ct : (29 : Int32).toInt = 29 := by decide +kernel
  by_cases h : 0 ≤ a.toInt ∧ a.toInt ≤ 29
  · obtain ⟨A, hA⟩ := t2_nat h.1
    have hA1 : A < 30 := by omega
    have e : f 4 A = f 280 (34 + A) := I.2.1 A hA1
    refine t2_qq (y := f 280 (34 + A)) hg (fun Q k => ?_) (fun Q k => ?_)
    · show fl_Tq (pw_P L xs) 123 0 [some (.inr (.inr (.inl (0, 0)))), some (.inl a)] [] (f, l) Q
      refine x_setting_A (fun h1 => ?_) (fun _ => x_setting_B hA hA1 ?_)
      · rw [t2_w0, c0, ct] at h1
        exact absurd h h1
      · rw [e]
        exact k
    · show fl_Tq (pw_P L xs) 269 0 [some (.inr (.inr (.inl (76, 277)))), some (.inl a)] [] (f, l) Q
      refine y_setting_A (fun h1 => ?_) (fun _ => y_setting_B hA hA1 k)
      rw [r_i0, c0, ct] at h1
      exact absurd h h1
  · refine t2_qq (y := (-1000000000 : Int32)) hg (fun Q k => ?_) (fun Q k => ?_)
    · show fl_Tq (pw_P L xs) 123 0 [some (.inr (.inr (.inl (0, 0)))), some (.inl a)] [] (f, l) Q
      refine x_setting_A (fun _ => k) (fun h1 => ?_)
      rw [t2_w0, c0, ct] at h1
      exact absurd h h1
    · show fl_Tq (pw_P L xs) 269 0 [some (.inr (.inr (.inl (76, 277)))), some (.inl a)] [] (f, l) Q
      refine y_setting_A (fun _ => k) (fun h1 => ?_)
      rw [r_i0, c0, ct] at h1
      exact absurd h h1

end

/-! 95.05.02p23.lean.txt -/
section
theorem x_of_A {L : Nat} {xs : Nat → Int32} {f : t2_F} {l : t2_L} {Q : Option fl_V → fl_M → Prop} {a b : Int32}  (k : fl_Tq (pw_P L xs) 124 6 [some (.inr (.inr (.inl (0, 0)))), some (.inl a), some (.inl b)] [.inl b, .inl a, .inr (.inr (.inl (1, 1)))] (f, l) Q) : fl_Tq (pw_P L xs) 124 0 [some (.inr (.inr (.inl (0, 0)))), some (.inl a), some (.inl b)] [] (f, l) Q := by
  refine fl_Tq.stp (pc' := 1) (lv' := [some (.inr (.inr (.inl (0, 0)))), some (.inl a), some (.inl b)]) (st' := [.inr (.inr (.inl (0, 0)))]) (m' := (f, l)) rfl rfl (fl_bo rfl) rfl ?_
  refine fl_Tq.stp (pc' := 4) (lv' := [some (.inr (.inr (.inl (0, 0)))), some (.inl a), some (.inl b)]) (st' := [.inr (.inr (.inl (1, 1)))]) (m' := (f, l)) rfl rfl (fl_bo rfl) rfl ?_
  refine fl_Tq.stp (pc' := 5) (lv' := [some (.inr (.inr (.inl (0, 0)))), some (.inl a), some (.inl b)]) (st' := [.inl a, .inr (.inr (.inl (1, 1)))]) (m' := (f, l)) rfl rfl (fl_bo rfl) rfl ?_
  refine fl_Tq.stp (pc' := 6) (lv' := [some (.inr (.inr (.inl (0, 0)))), some (.inl a), some (.inl b)]) (st' := [.inl b, .inl a, .inr (.inr (.inl (1, 1)))]) (m' := (f, l)) rfl rfl (fl_bo rfl) rfl ?_
  exact k
theorem x_of_B {L : Nat} {xs : Nat → Int32} {f : t2_F} {l : t2_L} {Q : Option fl_V → fl_M → Prop} {a b z : Int32}  (k : Q (some (.inl z)) (f, l)) : fl_Tq (pw_P L xs) 124 9 [some (.inr (.inr (.inl (0, 0)))), some (.inl a), some (.inl b)] [.inl z] (f, l) Q := by
  exact fl_Tq.ret rfl rfl rfl k
theorem x_tof_A {L : Nat} {xs : Nat → Int32} {f : t2_F} {l : t2_L} {Q : Option fl_V → fl_M → Prop} {a b : Int32}  (k : ((c0_hasCell_v f a).toInt = 0) → Q (some (.inl (-1000000000 : Int32))) (f, l)) (k1 : (¬ ((c0_hasCell_v f a).toInt = 0)) → fl_Tq (pw_P L xs) 73 8 [some (.inr (.inr (.inl (1, 1)))), some (.inl a), some (.inl b)] [] (f, l) Q) : fl_Tq (pw_P L xs) 73 0 [some (.inr (.inr (.inl (1, 1)))), some (.inl a), some (.inl b)] [] (f, l) Q := by
  refine fl_Tq.stp (pc' := 1) (lv' := [some (.inr (.inr (.inl (1, 1)))), some (.inl a), some (.inl b)]) (st' := [.inr (.inr (.inl (1, 1)))]) (m' := (f, l)) rfl rfl (fl_bo rfl) rfl ?_
  refine fl_Tq.stp (pc' := 2) (lv' := [some (.inr (.inr (.inl (1, 1)))), some (.inl a), some (.inl b)]) (st' := [.inl a, .inr (.inr (.inl (1, 1)))]) (m' := (f, l)) rfl rfl (fl_bo rfl) rfl ?_
  refine fl_Tq.cal rfl rfl (fl_bo rfl) rfl ?_
  refine c0_hasCell_q  ?_
  show fl_Tq _ 73 5 [some (.inr (.inr (.inl (1, 1)))), some (.inl a), some (.inl b)] [.inl (c0_hasCell_v f a)] (f, l) _
  by_cases h1 : (c0_hasCell_v f a).toInt = 0
  · refine fl_Tq.zt rfl (fl_bo rfl) (c1_eq_t h1) rfl ?_
    refine fl_Tq.stp (pc' := 28) (lv' := [some (.inr (.inr (.inl (1, 1)))), some (.inl a), some (.inl b)]) (st' := [.inl (-1000000000 : Int32)]) (m' := (f, l)) rfl rfl (fl_bo rfl) rfl ?_
    exact fl_Tq.ret rfl rfl rfl (k h1)
  · refine fl_Tq.zf rfl (fl_bo rfl) (c1_eq_f h1) rfl ?_
    exact k1 h1
theorem x_tof_B {L : Nat} {xs : Nat → Int32} {f : t2_F} {l : t2_L} {Q : Option fl_V → fl_M → Prop} {a b : Int32} {A : Nat} (hA : a.toInt = (A : Int)) (hA1 : A < 16) (k : Q (some (.inl (c0_tellWhat_v f A b (f 1 9)))) (f, l)) : fl_Tq (pw_P L xs) 73 8 [some (.inr (.inr (.inl (1, 1)))), some (.inl a), some (.inl b)] [] (f, l) Q := by
  refine fl_Tq.stp (pc' := 9) (lv' := [some (.inr (.inr (.inl (1, 1)))), some (.inl a), some (.inl b)]) (st' := [.inr (.inr (.inl (1, 1)))]) (m' := (f, l)) rfl rfl (fl_bo rfl) rfl ?_
  refine fl_Tq.stp (pc' := 12) (lv' := [some (.inr (.inr (.inl (1, 1)))), some (.inl a), some (.inl b)]) (st' := [.inr (.inr (.inl (2, 2)))]) (m' := (f, l)) rfl rfl (fl_bo rfl) rfl ?_
  refine fl_Tq.stp (pc' := 13) (lv' := [some (.inr (.inr (.inl (1, 1)))), some (.inl a), some (.inl b)]) (st' := [.inl a, .inr (.inr (.inl (2, 2)))]) (m' := (f, l)) rfl rfl (fl_bo rfl) rfl ?_
  refine fl_Tq.qld (p := 2) (τ := 2) (n := 16) (t := 18) (b := 16) (d := 3) (k := A) rfl (fl_bo rfl) rfl hA hA1 ?_
  show fl_Tq _ 73 14 [some (.inr (.inr (.inl (1, 1)))), some (.inl a), some (.inl b)] [.inr (.inr (.inl (18, 18 + 4 * A)))] (f, l) _
  refine fl_Tq.stp (pc' := 15) (lv' := [some (.inr (.inr (.inl (1, 1)))), some (.inl a), some (.inl b)]) (st' := [.inl b, .inr (.inr (.inl (18, 18 + 4 * A)))]) (m' := (f, l)) rfl rfl (fl_oks_ok ⟨(t2_kc0 hA1), True.intro⟩) rfl ?_
  refine fl_Tq.stp (pc' := 16) (lv' := [some (.inr (.inr (.inl (1, 1)))), some (.inl a), some (.inl b)]) (st' := [.inr (.inr (.inl (1, 1))), .inl b, .inr (.inr (.inl (18, 18 + 4 * A)))]) (m' := (f, l)) rfl rfl (fl_oks_ok ⟨True.intro, (t2_kc0 hA1), True.intro⟩) rfl ?_
  refine fl_Tq.gfV (k := 9) (v := f 1 9) rfl (fl_oks_ok ⟨fl_okp (by decide +kernel) (by decide), True.intro, (t2_kc0 hA1), True.intro⟩) rfl rfl ?_
  refine fl_Tq.cal rfl rfl (fl_oks_ok ⟨True.intro, True.intro, (t2_kc0 hA1), True.intro⟩) rfl ?_
  refine c0_tellWhat_q (by omega) ?_
  show fl_Tq _ 73 22 [some (.inr (.inr (.inl (1, 1)))), some (.inl a), some (.inl b)] [.inl (c0_tellWhat_v f A b (f 1 9))] (f, l) _
  refine fl_Tq.stp (pc' := 28) (lv' := [some (.inr (.inr (.inl (1, 1)))), some (.inl a), some (.inl b)]) (st' := [.inl (c0_tellWhat_v f A b (f 1 9))]) (m' := (f, l)) rfl rfl (fl_bo rfl) rfl ?_
  exact fl_Tq.ret rfl rfl rfl k
theorem y_of_A {L : Nat} {xs : Nat → Int32} {f : t2_F} {l : t2_L} {Q : Option fl_V → fl_M → Prop} {a b : Int32}  (k : ((r_isCell_v f a).toInt = 0) → Q (some (.inl (-1000000000 : Int32))) (f, l)) (k1 : (¬ ((r_isCell_v f a).toInt = 0)) → fl_Tq (pw_P L xs) 271 8 [some (.inr (.inr (.inl (76, 277)))), some (.inl a), some (.inl b)] [] (f, l) Q) : fl_Tq (pw_P L xs) 271 0 [some (.inr (.inr (.inl (76, 277)))), some (.inl a), some (.inl b)] [] (f, l) Q := by
  refine fl_Tq.stp (pc' := 1) (lv' := [some (.inr (.inr (.inl (76, 277)))), some (.inl a), some (.inl b)]) (st' := [.inr (.inr (.inl (76, 277)))]) (m' := (f, l)) rfl rfl (fl_bo rfl) rfl ?_
  refine fl_Tq.stp (pc' := 2) (lv' := [some (.inr (.inr (.inl (76, 277)))), some (.inl a), some (.inl b)]) (st' := [.inl a, .inr (.inr (.inl (76, 277)))]) (m' := (f, l)) rfl rfl (fl_bo rfl) rfl ?_
  refine fl_Tq.cal rfl rfl (fl_bo rfl) rfl ?_
  refine r_isCell_q  ?_
  show fl_Tq _ 271 5 [some (.inr (.inr (.inl (76, 277)))), some (.inl a), some (.inl b)] [.inl (r_isCell_v f a)] (f, l) _
  by_cases h1 : (r_isCell_v f a).toInt = 0
  · refine fl_Tq.zt rfl (fl_bo rfl) (c1_eq_t h1) rfl ?_
    refine fl_Tq.stp (pc' := 20) (lv' := [some (.inr (.inr (.inl (76, 277)))), some (.inl a), some (.inl b)]) (st' := [.inl (-1000000000 : Int32)]) (m' := (f, l)) rfl rfl (fl_bo rfl) rfl ?_
    exact fl_Tq.ret rfl rfl rfl (k h1)
  · refine fl_Tq.zf rfl (fl_bo rfl) (c1_eq_f h1) rfl ?_
    exact k1 h1
theorem y_of_B {L : Nat} {xs : Nat → Int32} {f : t2_F} {l : t2_L} {Q : Option fl_V → fl_M → Prop} {a b : Int32}  (k : fl_Tq (pw_P L xs) 271 11 [some (.inr (.inr (.inl (76, 277)))), some (.inl a), some (.inl b)] [.inl b, .inl a, .inr (.inr (.inl (76, 277)))] (f, l) Q) : fl_Tq (pw_P L xs) 271 8 [some (.inr (.inr (.inl (76, 277)))), some (.inl a), some (.inl b)] [] (f, l) Q := by
  refine fl_Tq.stp (pc' := 9) (lv' := [some (.inr (.inr (.inl (76, 277)))), some (.inl a), some (.inl b)]) (st' := [.inr (.inr (.inl (76, 277)))]) (m' := (f, l)) rfl rfl (fl_bo rfl) rfl ?_
  refine fl_Tq.stp (pc' := 10) (lv' := [some (.inr (.inr (.inl (76, 277)))), some (.inl a), some (.inl b)]) (st' := [.inl a, .inr (.inr (.inl (76, 277)))]) (m' := (f, l)) rfl rfl (fl_bo rfl) rfl ?_
  refine fl_Tq.stp (pc' := 11) (lv' := [some (.inr (.inr (.inl (76, 277)))), some (.inl a), some (.inl b)]) (st' := [.inl b, .inl a, .inr (.inr (.inl (76, 277)))]) (m' := (f, l)) rfl rfl (fl_bo rfl) rfl ?_
  exact k
theorem y_of_C {L : Nat} {xs : Nat → Int32} {f : t2_F} {l : t2_L} {Q : Option fl_V → fl_M → Prop} {a b z : Int32}  (k : Q (some (.inl z)) (f, l)) : fl_Tq (pw_P L xs) 271 14 [some (.inr (.inr (.inl (76, 277)))), some (.inl a), some (.inl b)] [.inl z] (f, l) Q := by
  refine fl_Tq.stp (pc' := 20) (lv' := [some (.inr (.inr (.inl (76, 277)))), some (.inl a), some (.inl b)]) (st' := [.inl z]) (m' := (f, l)) rfl rfl (fl_bo rfl) rfl ?_
  exact fl_Tq.ret rfl rfl rfl k
noncomputable def y_ofCell_v (f : t2_F) (a b : Int32) (A : Nat) : Int32 := if b.toInt = 0 then f 280 (444 + 61 * A + 0) else (if b.toInt = 1 then f 280 (444 + 61 * A + 1) else (if b.toInt = 2 then f 280 (444 + 61 * A + 2) else (if b.toInt = 3 then f 280 (444 + 61 * A + 3) else (if b.toInt = 4 then r_partOf_v f a A else (if b.toInt = 5 then t2_rb (r_partOf_v f a A) else (if b.toInt = 6 then r_voltsOf_v f a A else (if b.toInt = 7 then (((1000 : Int64) * ((f 280 (444 + 61 * A + 4)).toInt64)) / (((3600 : Int32) * (f 280 (444 + 61 * A + 0))).toInt64)).toInt32 else (if b.toInt = 8 then f 280 (444 + 61 * A + 4) else (if b.toInt = 9 then f 280 (444 + 61 * A + 5) else (if b.toInt = 10 then ((1000 : Int32) * (f 280 (444 + 61 * A + 0))) / (f 280 (444 + 61 * A + 6)) else (if b.toInt = 11 then (if (f 280 (444 + 61 * A + 15)).toInt = 0 then (-1 : Int32) else f 280 (444 + 61 * A + 7)) else (if b.toInt = 12 then (if (f 280 (444 + 61 * A + 15)).toInt = 0 then (-1 : Int32) else f 280 (444 + 61 * A + 8)) else (if b.toInt = 13 then f 280 (444 + 61 * A + 9) else (if b.toInt = 14 then f 280 (444 + 61 * A + 10) else (if b.toInt = 15 then f 280 (444 + 61 * A + 11) else (if b.toInt = 16 then f 280 (444 + 61 * A + 12) else (if b.toInt = 17 then f 280 (444 + 61 * A + 13) else (if b.toInt = 18 then f 280 (444 + 61 * A + 60) else (-1000000000 : Int32)))))))))))))))))))
theorem y_ofCell_q {L : Nat} {xs : Nat → Int32} {f : t2_F} {l : t2_L} {Q : Option fl_V → fl_M → Prop} {a b : Int32} {A : Nat} (hA : a.toInt = (A : Int)) (hA1 : A < 16) (hAn : (A : Int) < (f 280 2).toInt) (hr : t2_RS f) (hk : ∀ C : Nat, (C : Int) < (f 280 2).toInt → t2_ck f C) (ht : f 280 (444 + 61 * A + 6) ≠ 0) (k : Q (some (.inl (y_ofCell_v f a b A))) (f, l)) : fl_Tq (pw_P L xs) 270 0 (fl_args (am_mxl (pw_P L xs) 270) [.inr (.inr (.inl (76, 277))), .inl a, .inl b]) [] (f, l) Q := by
  refine fl_Tq.stp (pc' := 1) (lv' := [some (.inr (.inr (.inl (76, 277)))), some (.inl a), some (.inl b)]) (st' := [.inl b]) (m' := (f, l)) rfl rfl (fl_bo rfl) rfl ?_
  by_cases h1 : b.toInt = 0
  · refine fl_Tq.swI (k := 0) rfl (fl_bo rfl) h1 rfl rfl ?_
    refine fl_Tq.stp (pc' := 93) (lv' := [some (.inr (.inr (.inl (76, 277)))), some (.inl a), some (.inl b)]) (st' := [.inr (.inr (.inl (76, 277)))]) (m' := (f, l)) rfl rfl (fl_bo rfl) rfl ?_
    refine fl_Tq.stp (pc' := 94) (lv' := [some (.inr (.inr (.inl (76, 277)))), some (.inl a), some (.inl b)]) (st' := [.inl a, .inr (.inr (.inl (76, 277)))]) (m' := (f, l)) rfl rfl (fl_bo rfl) rfl ?_
    refine fl_Tq.cI (c := (0 : Int32)) rfl (by decide +kernel) (fl_bo rfl) ?_
    refine fl_Tq.cal rfl rfl (fl_bo rfl) rfl ?_
    refine t2_get (C := A) (W := 0) (v := f 280 (444 + 61 * A + 0)) hA (by decide +kernel) hA1 (by decide) rfl ?_
    show fl_Tq _ 270 98 [some (.inr (.inr (.inl (76, 277)))), some (.inl a), some (.inl b)] [.inl (f 280 (444 + 61 * A + 0))] (f, l) _
    refine fl_Tq.ret rfl rfl rfl ?_
    unfold y_ofCell_v at k
    simp only [if_pos h1] at k
    exact k
  by_cases h2 : b.toInt = 1
  · refine fl_Tq.swI (k := 1) rfl (fl_bo rfl) h2 rfl rfl ?_
    refine fl_Tq.stp (pc' := 100) (lv' := [some (.inr (.inr (.inl (76, 277)))), some (.inl a), some (.inl b)]) (st' := [.inr (.inr (.inl (76, 277)))]) (m' := (f, l)) rfl rfl (fl_bo rfl) rfl ?_
    refine fl_Tq.stp (pc' := 101) (lv' := [some (.inr (.inr (.inl (76, 277)))), some (.inl a), some (.inl b)]) (st' := [.inl a, .inr (.inr (.inl (76, 277)))]) (m' := (f, l)) rfl rfl (fl_bo rfl) rfl ?_
    refine fl_Tq.cI (c := (1 : Int32)) rfl (by decide +kernel) (fl_bo rfl) ?_
    refine fl_Tq.cal rfl rfl (fl_bo rfl) rfl ?_
    refine t2_get (C := A) (W := 1) (v := f 280 (444 + 61 * A + 1)) hA (by decide +kernel) hA1 (by decide) rfl ?_
    show fl_Tq _ 270 105 [some (.inr (.inr (.inl (76, 277)))), some (.inl a), some (.inl b)] [.inl (f 280 (444 + 61 * A + 1))] (f, l) _
    refine fl_Tq.ret rfl rfl rfl ?_
    unfold y_ofCell_v at k
    simp only [if_neg h1, if_pos h2] at k
    exact k
  by_cases h3 : b.toInt = 2
  · refine fl_Tq.swI (k := 2) rfl (fl_bo rfl) h3 rfl rfl ?_
    refine fl_Tq.stp (pc' := 107) (lv' := [some (.inr (.inr (.inl (76, 277)))), some (.inl a), some (.inl b)]) (st' := [.inr (.inr (.inl (76, 277)))]) (m' := (f, l)) rfl rfl (fl_bo rfl) rfl ?_
    refine fl_Tq.stp (pc' := 108) (lv' := [some (.inr (.inr (.inl (76, 277)))), some (.inl a), some (.inl b)]) (st' := [.inl a, .inr (.inr (.inl (76, 277)))]) (m' := (f, l)) rfl rfl (fl_bo rfl) rfl ?_
    refine fl_Tq.cI (c := (2 : Int32)) rfl (by decide +kernel) (fl_bo rfl) ?_
    refine fl_Tq.cal rfl rfl (fl_bo rfl) rfl ?_
    refine t2_get (C := A) (W := 2) (v := f 280 (444 + 61 * A + 2)) hA (by decide +kernel) hA1 (by decide) rfl ?_
    show fl_Tq _ 270 112 [some (.inr (.inr (.inl (76, 277)))), some (.inl a), some (.inl b)] [.inl (f 280 (444 + 61 * A + 2))] (f, l) _
    refine fl_Tq.ret rfl rfl rfl ?_
    unfold y_ofCell_v at k
    simp only [if_neg h1, if_neg h2, if_pos h3] at k
    exact k
  by_cases h4 : b.toInt = 3
  · refine fl_Tq.swI (k := 3) rfl (fl_bo rfl) h4 rfl rfl ?_
    refine fl_Tq.stp (pc' := 114) (lv' := [some (.inr (.inr (.inl (76, 277)))), some (.inl a), some (.inl b)]) (st' := [.inr (.inr (.inl (76, 277)))]) (m' := (f, l)) rfl rfl (fl_bo rfl) rfl ?_
    refine fl_Tq.stp (pc' := 115) (lv' := [some (.inr (.inr (.inl (76, 277)))), some (.inl a), some (.inl b)]) (st' := [.inl a, .inr (.inr (.inl (76, 277)))]) (m' := (f, l)) rfl rfl (fl_bo rfl) rfl ?_
    refine fl_Tq.cI (c := (3 : Int32)) rfl (by decide +kernel) (fl_bo rfl) ?_
    refine fl_Tq.cal rfl rfl (fl_bo rfl) rfl ?_
    refine t2_get (C := A) (W := 3) (v := f 280 (444 + 61 * A + 3)) hA (by decide +kernel) hA1 (by decide) rfl ?_
    show fl_Tq _ 270 119 [some (.inr (.inr (.inl (76, 277)))), some (.inl a), some (.inl b)] [.inl (f 280 (444 + 61 * A + 3))] (f, l) _
    refine fl_Tq.ret rfl rfl rfl ?_
    unfold y_ofCell_v at k
    simp only [if_neg h1, if_neg h2, if_neg h3, if_pos h4] at k
    exact k
  by_cases h5 : b.toInt = 4
  · refine fl_Tq.swI (k := 4) rfl (fl_bo rfl) h5 rfl rfl ?_
    refine fl_Tq.stp (pc' := 121) (lv' := [some (.inr (.inr (.inl (76, 277)))), some (.inl a), some (.inl b)]) (st' := [.inr (.inr (.inl (76, 277)))]) (m' := (f, l)) rfl rfl (fl_bo rfl) rfl ?_
    refine fl_Tq.stp (pc' := 122) (lv' := [some (.inr (.inr (.inl (76, 277)))), some (.inl a), some (.inl b)]) (st' := [.inl a, .inr (.inr (.inl (76, 277)))]) (m' := (f, l)) rfl rfl (fl_bo rfl) rfl ?_
    refine fl_Tq.cal rfl rfl (fl_bo rfl) rfl ?_
    refine r_partOf_q hA hA1 (hk A (by omega)) ?_
    show fl_Tq _ 270 125 [some (.inr (.inr (.inl (76, 277)))), some (.inl a), some (.inl b)] [.inl (r_partOf_v f a A)] (f, l) _
    refine fl_Tq.ret rfl rfl rfl ?_
    unfold y_ofCell_v at k
    simp only [if_neg h1, if_neg h2, if_neg h3, if_neg h4, if_pos h5] at k
    exact k
  by_cases h6 : b.toInt = 5
  · refine fl_Tq.swI (k := 5) rfl (fl_bo rfl) h6 rfl rfl ?_
    refine fl_Tq.stp (pc' := 127) (lv' := [some (.inr (.inr (.inl (76, 277)))), some (.inl a), some (.inl b)]) (st' := [.inr (.inr (.inl (76, 277)))]) (m' := (f, l)) rfl rfl (fl_bo rfl) rfl ?_
    refine fl_Tq.stp (pc' := 128) (lv' := [some (.inr (.inr (.inl (76, 277)))), some (.inl a), some (.inl b)]) (st' := [.inr (.inr (.inl (76, 277))), .inr (.inr (.inl (76, 277)))]) (m' := (f, l)) rfl rfl (fl_bo rfl) rfl ?_
    refine fl_Tq.stp (pc' := 129) (lv' := [some (.inr (.inr (.inl (76, 277)))), some (.inl a), some (.inl b)]) (st' := [.inl a, .inr (.inr (.inl (76, 277))), .inr (.inr (.inl (76, 277)))]) (m' := (f, l)) rfl rfl (fl_bo rfl) rfl ?_
    refine fl_Tq.cal rfl rfl (fl_bo rfl) rfl ?_
    refine r_partOf_q hA hA1 (hk A (by omega)) ?_
    show fl_Tq _ 270 132 [some (.inr (.inr (.inl (76, 277)))), some (.inl a), some (.inl b)] [.inl (r_partOf_v f a A), .inr (.inr (.inl (76, 277)))] (f, l) _
    refine fl_Tq.cal rfl rfl (fl_bo rfl) rfl ?_
    refine r_restOf_q hr (t2_ckp (hk A (by omega))).1 (t2_ckp (hk A (by omega))).2 ?_
    show fl_Tq _ 270 135 [some (.inr (.inr (.inl (76, 277)))), some (.inl a), some (.inl b)] [.inl (t2_rb (r_partOf_v f a A))] (f, l) _
    refine fl_Tq.ret rfl rfl rfl ?_
    unfold y_ofCell_v at k
    simp only [if_neg h1, if_neg h2, if_neg h3, if_neg h4, if_neg h5, if_pos h6] at k
    exact k
  by_cases h7 : b.toInt = 6
  · refine fl_Tq.swI (k := 6) rfl (fl_bo rfl) h7 rfl rfl ?_
    refine fl_Tq.stp (pc' := 137) (lv' := [some (.inr (.inr (.inl (76, 277)))), some (.inl a), some (.inl b)]) (st' := [.inr (.inr (.inl (76, 277)))]) (m' := (f, l)) rfl rfl (fl_bo rfl) rfl ?_
    refine fl_Tq.stp (pc' := 138) (lv' := [some (.inr (.inr (.inl (76, 277)))), some (.inl a), some (.inl b)]) (st' := [.inl a, .inr (.inr (.inl (76, 277)))]) (m' := (f, l)) rfl rfl (fl_bo rfl) rfl ?_
    refine fl_Tq.cal rfl rfl (fl_bo rfl) rfl ?_
    refine r_voltsOf_q hA hA1 hr (hk A (by omega)) ?_
    show fl_Tq _ 270 141 [some (.inr (.inr (.inl (76, 277)))), some (.inl a), some (.inl b)] [.inl (r_voltsOf_v f a A)] (f, l) _
    refine fl_Tq.ret rfl rfl rfl ?_
    unfold y_ofCell_v at k
    simp only [if_neg h1, if_neg h2, if_neg h3, if_neg h4, if_neg h5, if_neg h6, if_pos h7] at k
    exact k
  by_cases h8 : b.toInt = 7
  · refine fl_Tq.swI (k := 7) rfl (fl_bo rfl) h8 rfl rfl ?_
    refine fl_Tq.stp (pc' := 143) (lv' := [some (.inr (.inr (.inl (76, 277)))), some (.inl a), some (.inl b)]) (st' := [.inr (.inr (.inl (76, 277)))]) (m' := (f, l)) rfl rfl (fl_bo rfl) rfl ?_
    refine fl_Tq.stp (pc' := 144) (lv' := [some (.inr (.inr (.inl (76, 277)))), some (.inl a), some (.inl b)]) (st' := [.inl a, .inr (.inr (.inl (76, 277)))]) (m' := (f, l)) rfl rfl (fl_bo rfl) rfl ?_
    refine fl_Tq.stp (pc' := 145) (lv' := [some (.inr (.inr (.inl (76, 277)))), some (.inl a), some (.inl b)]) (st' := [.inr (.inr (.inl (76, 277))), .inl a, .inr (.inr (.inl (76, 277)))]) (m' := (f, l)) rfl rfl (fl_bo rfl) rfl ?_
    refine fl_Tq.stp (pc' := 146) (lv' := [some (.inr (.inr (.inl (76, 277)))), some (.inl a), some (.inl b)]) (st' := [.inl a, .inr (.inr (.inl (76, 277))), .inl a, .inr (.inr (.inl (76, 277)))]) (m' := (f, l)) rfl rfl (fl_bo rfl) rfl ?_
    refine fl_Tq.cI (c := (4 : Int32)) rfl (by decide +kernel) (fl_bo rfl) ?_
    refine fl_Tq.cal rfl rfl (fl_bo rfl) rfl ?_
    refine t2_get (C := A) (W := 4) (v := f 280 (444 + 61 * A + 4)) hA (by decide +kernel) hA1 (by decide) rfl ?_
    show fl_Tq _ 270 150 [some (.inr (.inr (.inl (76, 277)))), some (.inl a), some (.inl b)] [.inl (f 280 (444 + 61 * A + 4)), .inl a, .inr (.inr (.inl (76, 277)))] (f, l) _
    refine fl_Tq.cal rfl rfl (fl_bo rfl) rfl ?_
    refine fl_Tq.stp (pc' := 3) (lv' := [some (.inr (.inr (.inl (76, 277)))), some (.inl a), some (.inl (f 280 (444 + 61 * A + 4)))]) (st' := [.inr (.inl (1000 : Int64))]) (m' := (f, l)) rfl rfl (fl_bo rfl) rfl ?_
    refine fl_Tq.stp (pc' := 4) (lv' := [some (.inr (.inr (.inl (76, 277)))), some (.inl a), some (.inl (f 280 (444 + 61 * A + 4)))]) (st' := [.inl (f 280 (444 + 61 * A + 4)), .inr (.inl (1000 : Int64))]) (m' := (f, l)) rfl rfl (fl_bo rfl) rfl ?_
    refine fl_Tq.stp (pc' := 5) (lv' := [some (.inr (.inr (.inl (76, 277)))), some (.inl a), some (.inl (f 280 (444 + 61 * A + 4)))]) (st' := [.inr (.inl ((f 280 (444 + 61 * A + 4)).toInt64)), .inr (.inl (1000 : Int64))]) (m' := (f, l)) rfl rfl (fl_bo rfl) rfl ?_
    refine fl_Tq.stp (pc' := 6) (lv' := [some (.inr (.inr (.inl (76, 277)))), some (.inl a), some (.inl (f 280 (444 + 61 * A + 4)))]) (st' := [.inr (.inl ((1000 : Int64) * ((f 280 (444 + 61 * A + 4)).toInt64)))]) (m' := (f, l)) rfl rfl (fl_bo rfl) rfl ?_
    refine fl_Tq.stp (pc' := 7) (lv' := [some (.inr (.inr (.inl (76, 277)))), some (.inl a), some (.inl (f 280 (444 + 61 * A + 4)))]) (st' := [.inr (.inr (.inl (76, 277))), .inr (.inl ((1000 : Int64) * ((f 280 (444 + 61 * A + 4)).toInt64)))]) (m' := (f, l)) rfl rfl (fl_bo rfl) rfl ?_
    refine fl_Tq.stp (pc' := 8) (lv' := [some (.inr (.inr (.inl (76, 277)))), some (.inl a), some (.inl (f 280 (444 + 61 * A + 4)))]) (st' := [.inl a, .inr (.inr (.inl (76, 277))), .inr (.inl ((1000 : Int64) * ((f 280 (444 + 61 * A + 4)).toInt64)))]) (m' := (f, l)) rfl rfl (fl_bo rfl) rfl ?_
    refine fl_Tq.cal rfl rfl (fl_bo rfl) rfl ?_
    refine fl_Tq.cS (c := (3600 : Int32)) rfl (by decide +kernel) (fl_bo rfl) ?_
    refine fl_Tq.stp (pc' := 4) (lv' := [some (.inr (.inr (.inl (76, 277)))), some (.inl a)]) (st' := [.inr (.inr (.inl (76, 277))), .inl (3600 : Int32)]) (m' := (f, l)) rfl rfl (fl_bo rfl) rfl ?_
    refine fl_Tq.stp (pc' := 5) (lv' := [some (.inr (.inr (.inl (76, 277)))), some (.inl a)]) (st' := [.inl a, .inr (.inr (.inl (76, 277))), .inl (3600 : Int32)]) (m' := (f, l)) rfl rfl (fl_bo rfl) rfl ?_
    refine fl_Tq.cI (c := (0 : Int32)) rfl (by decide +kernel) (fl_bo rfl) ?_
    refine fl_Tq.cal rfl rfl (fl_bo rfl) rfl ?_
    refine t2_get (C := A) (W := 0) (v := f 280 (444 + 61 * A + 0)) hA (by decide +kernel) hA1 (by decide) rfl ?_
    show fl_Tq _ 195 9 [some (.inr (.inr (.inl (76, 277)))), some (.inl a)] [.inl (f 280 (444 + 61 * A + 0)), .inl (3600 : Int32)] (f, l) _
    refine fl_Tq.stp (pc' := 10) (lv' := [some (.inr (.inr (.inl (76, 277)))), some (.inl a)]) (st' := [.inl ((3600 : Int32) * (f 280 (444 + 61 * A + 0)))]) (m' := (f, l)) rfl rfl (fl_bo rfl) rfl ?_
    refine fl_Tq.ret rfl rfl rfl ?_
    show fl_Tq _ 196 11 [some (.inr (.inr (.inl (76, 277)))), some (.inl a), some (.inl (f 280 (444 + 61 * A + 4)))] [.inl ((3600 : Int32) * (f 280 (444 + 61 * A + 0))), .inr (.inl ((1000 : Int64) * ((f 280 (444 + 61 * A + 4)).toInt64)))] (f, l) _
    refine fl_Tq.stp (pc' := 12) (lv' := [some (.inr (.inr (.inl (76, 277)))), some (.inl a), some (.inl (f 280 (444 + 61 * A + 4)))]) (st' := [.inr (.inl (((3600 : Int32) * (f 280 (444 + 61 * A + 0))).toInt64)), .inr (.inl ((1000 : Int64) * ((f 280 (444 + 61 * A + 4)).toInt64)))]) (m' := (f, l)) rfl rfl (fl_bo rfl) rfl ?_
    refine fl_Tq.dvJ rfl (fl_bo rfl) (t2_nzf (hk A (by omega)).1) ?_
    refine fl_Tq.stp (pc' := 14) (lv' := [some (.inr (.inr (.inl (76, 277)))), some (.inl a), some (.inl (f 280 (444 + 61 * A + 4)))]) (st' := [.inl ((((1000 : Int64) * ((f 280 (444 + 61 * A + 4)).toInt64)) / (((3600 : Int32) * (f 280 (444 + 61 * A + 0))).toInt64)).toInt32)]) (m' := (f, l)) rfl rfl (fl_bo rfl) rfl ?_
    refine fl_Tq.ret rfl rfl rfl ?_
    show fl_Tq _ 270 153 [some (.inr (.inr (.inl (76, 277)))), some (.inl a), some (.inl b)] [.inl ((((1000 : Int64) * ((f 280 (444 + 61 * A + 4)).toInt64)) / (((3600 : Int32) * (f 280 (444 + 61 * A + 0))).toInt64)).toInt32)] (f, l) _
    refine fl_Tq.ret rfl rfl rfl ?_
    unfold y_ofCell_v at k
    simp only [if_neg h1, if_neg h2, if_neg h3, if_neg h4, if_neg h5, if_neg h6, if_neg h7, if_pos h8] at k
    exact k
  by_cases h9 : b.toInt = 8
  · refine fl_Tq.swI (k := 8) rfl (fl_bo rfl) h9 rfl rfl ?_
    refine fl_Tq.stp (pc' := 155) (lv' := [some (.inr (.inr (.inl (76, 277)))), some (.inl a), some (.inl b)]) (st' := [.inr (.inr (.inl (76, 277)))]) (m' := (f, l)) rfl rfl (fl_bo rfl) rfl ?_
    refine fl_Tq.stp (pc' := 156) (lv' := [some (.inr (.inr (.inl (76, 277)))), some (.inl a), some (.inl b)]) (st' := [.inl a, .inr (.inr (.inl (76, 277)))]) (m' := (f, l)) rfl rfl (fl_bo rfl) rfl ?_
    refine fl_Tq.cI (c := (4 : Int32)) rfl (by decide +kernel) (fl_bo rfl) ?_
    refine fl_Tq.cal rfl rfl (fl_bo rfl) rfl ?_
    refine t2_get (C := A) (W := 4) (v := f 280 (444 + 61 * A + 4)) hA (by decide +kernel) hA1 (by decide) rfl ?_
    show fl_Tq _ 270 160 [some (.inr (.inr (.inl (76, 277)))), some (.inl a), some (.inl b)] [.inl (f 280 (444 + 61 * A + 4))] (f, l) _
    refine fl_Tq.ret rfl rfl rfl ?_
    unfold y_ofCell_v at k
    simp only [if_neg h1, if_neg h2, if_neg h3, if_neg h4, if_neg h5, if_neg h6, if_neg h7, if_neg h8, if_pos h9] at k
    exact k
  by_cases h10 : b.toInt = 9
  · refine fl_Tq.swI (k := 9) rfl (fl_bo rfl) h10 rfl rfl ?_
    refine fl_Tq.stp (pc' := 162) (lv' := [some (.inr (.inr (.inl (76, 277)))), some (.inl a), some (.inl b)]) (st' := [.inr (.inr (.inl (76, 277)))]) (m' := (f, l)) rfl rfl (fl_bo rfl) rfl ?_
    refine fl_Tq.stp (pc' := 163) (lv' := [some (.inr (.inr (.inl (76, 277)))), some (.inl a), some (.inl b)]) (st' := [.inl a, .inr (.inr (.inl (76, 277)))]) (m' := (f, l)) rfl rfl (fl_bo rfl) rfl ?_
    refine fl_Tq.cI (c := (5 : Int32)) rfl (by decide +kernel) (fl_bo rfl) ?_
    refine fl_Tq.cal rfl rfl (fl_bo rfl) rfl ?_
    refine t2_get (C := A) (W := 5) (v := f 280 (444 + 61 * A + 5)) hA (by decide +kernel) hA1 (by decide) rfl ?_
    show fl_Tq _ 270 167 [some (.inr (.inr (.inl (76, 277)))), some (.inl a), some (.inl b)] [.inl (f 280 (444 + 61 * A + 5))] (f, l) _
    refine fl_Tq.ret rfl rfl rfl ?_
    unfold y_ofCell_v at k
    simp only [if_neg h1, if_neg h2, if_neg h3, if_neg h4, if_neg h5, if_neg h6, if_neg h7, if_neg h8, if_neg h9, if_pos h10] at k
    exact k
  by_cases h11 : b.toInt = 10
  · refine fl_Tq.swI (k := 10) rfl (fl_bo rfl) h11 rfl rfl ?_
    refine fl_Tq.cS (c := (1000 : Int32)) rfl (by decide +kernel) (fl_bo rfl) ?_
    refine fl_Tq.stp (pc' := 172) (lv' := [some (.inr (.inr (.inl (76, 277)))), some (.inl a), some (.inl b)]) (st' := [.inr (.inr (.inl (76, 277))), .inl (1000 : Int32)]) (m' := (f, l)) rfl rfl (fl_bo rfl) rfl ?_
    refine fl_Tq.stp (pc' := 173) (lv' := [some (.inr (.inr (.inl (76, 277)))), some (.inl a), some (.inl b)]) (st' := [.inl a, .inr (.inr (.inl (76, 277))), .inl (1000 : Int32)]) (m' := (f, l)) rfl rfl (fl_bo rfl) rfl ?_
    refine fl_Tq.cI (c := (0 : Int32)) rfl (by decide +kernel) (fl_bo rfl) ?_
    refine fl_Tq.cal rfl rfl (fl_bo rfl) rfl ?_
    refine t2_get (C := A) (W := 0) (v := f 280 (444 + 61 * A + 0)) hA (by decide +kernel) hA1 (by decide) rfl ?_
    show fl_Tq _ 270 177 [some (.inr (.inr (.inl (76, 277)))), some (.inl a), some (.inl b)] [.inl (f 280 (444 + 61 * A + 0)), .inl (1000 : Int32)] (f, l) _
    refine fl_Tq.stp (pc' := 178) (lv' := [some (.inr (.inr (.inl (76, 277)))), some (.inl a), some (.inl b)]) (st' := [.inl ((1000 : Int32) * (f 280 (444 + 61 * A + 0)))]) (m' := (f, l)) rfl rfl (fl_bo rfl) rfl ?_
    refine fl_Tq.stp (pc' := 179) (lv' := [some (.inr (.inr (.inl (76, 277)))), some (.inl a), some (.inl b)]) (st' := [.inr (.inr (.inl (76, 277))), .inl ((1000 : Int32) * (f 280 (444 + 61 * A + 0)))]) (m' := (f, l)) rfl rfl (fl_bo rfl) rfl ?_
    refine fl_Tq.stp (pc' := 180) (lv' := [some (.inr (.inr (.inl (76, 277)))), some (.inl a), some (.inl b)]) (st' := [.inl a, .inr (.inr (.inl (76, 277))), .inl ((1000 : Int32) * (f 280 (444 + 61 * A + 0)))]) (m' := (f, l)) rfl rfl (fl_bo rfl) rfl ?_
    refine fl_Tq.cB (c := (6 : Int32)) rfl (by decide +kernel) (fl_bo rfl) ?_
    refine fl_Tq.cal rfl rfl (fl_bo rfl) rfl ?_
    refine t2_get (C := A) (W := 6) (v := f 280 (444 + 61 * A + 6)) hA (by decide +kernel) hA1 (by decide) rfl ?_
    show fl_Tq _ 270 185 [some (.inr (.inr (.inl (76, 277)))), some (.inl a), some (.inl b)] [.inl (f 280 (444 + 61 * A + 6)), .inl ((1000 : Int32) * (f 280 (444 + 61 * A + 0)))] (f, l) _
    refine fl_Tq.dv rfl (fl_bo rfl) ht ?_
    refine fl_Tq.ret rfl rfl rfl ?_
    unfold y_ofCell_v at k
    simp only [if_neg h1, if_neg h2, if_neg h3, if_neg h4, if_neg h5, if_neg h6, if_neg h7, if_neg h8, if_neg h9, if_neg h10, if_pos h11] at k
    exact k
  by_cases h12 : b.toInt = 11
  · refine fl_Tq.swI (k := 11) rfl (fl_bo rfl) h12 rfl rfl ?_
    refine fl_Tq.stp (pc' := 188) (lv' := [some (.inr (.inr (.inl (76, 277)))), some (.inl a), some (.inl b)]) (st' := [.inr (.inr (.inl (76, 277)))]) (m' := (f, l)) rfl rfl (fl_bo rfl) rfl ?_
    refine fl_Tq.stp (pc' := 189) (lv' := [some (.inr (.inr (.inl (76, 277)))), some (.inl a), some (.inl b)]) (st' := [.inl a, .inr (.inr (.inl (76, 277)))]) (m' := (f, l)) rfl rfl (fl_bo rfl) rfl ?_
    refine fl_Tq.cB (c := (15 : Int32)) rfl (by decide +kernel) (fl_bo rfl) ?_
    refine fl_Tq.cal rfl rfl (fl_bo rfl) rfl ?_
    refine t2_get (C := A) (W := 15) (v := f 280 (444 + 61 * A + 15)) hA (by decide +kernel) hA1 (by decide) rfl ?_
    show fl_Tq _ 270 194 [some (.inr (.inr (.inl (76, 277)))), some (.inl a), some (.inl b)] [.inl (f 280 (444 + 61 * A + 15))] (f, l) _
    have hj190 : fl_Tq (pw_P L xs) 270 208 [some (.inr (.inr (.inl (76, 277)))), some (.inl a), some (.inl b)] [.inl (if (f 280 (444 + 61 * A + 15)).toInt = 0 then (-1 : Int32) else f 280 (444 + 61 * A + 7))] (f, l) Q → fl_Tq (pw_P L xs) 270 194 [some (.inr (.inr (.inl (76, 277)))), some (.inl a), some (.inl b)] [.inl (f 280 (444 + 61 * A + 15))] (f, l) Q := by
      intro hJ
      by_cases h13 : (f 280 (444 + 61 * A + 15)).toInt = 0
      · refine fl_Tq.zf rfl (fl_bo rfl) (c1_ne_f h13) rfl ?_
        refine fl_Tq.cI (c := (-1 : Int32)) rfl (by decide +kernel) (fl_bo rfl) ?_
        refine fl_Tq.stp (pc' := 208) (lv' := [some (.inr (.inr (.inl (76, 277)))), some (.inl a), some (.inl b)]) (st' := [.inl (-1 : Int32)]) (m' := (f, l)) rfl rfl (fl_bo rfl) rfl ?_
        have e0 : (if (f 280 (444 + 61 * A + 15)).toInt = 0 then (-1 : Int32) else f 280 (444 + 61 * A + 7)) = (-1 : Int32) := by simp only [if_pos h13]
        rw [e0] at hJ
        exact hJ
      · refine fl_Tq.zt rfl (fl_bo rfl) (c1_ne_t h13) rfl ?_
        refine fl_Tq.stp (pc' := 202) (lv' := [some (.inr (.inr (.inl (76, 277)))), some (.inl a), some (.inl b)]) (st' := [.inr (.inr (.inl (76, 277)))]) (m' := (f, l)) rfl rfl (fl_bo rfl) rfl ?_
        refine fl_Tq.stp (pc' := 203) (lv' := [some (.inr (.inr (.inl (76, 277)))), some (.inl a), some (.inl b)]) (st' := [.inl a, .inr (.inr (.inl (76, 277)))]) (m' := (f, l)) rfl rfl (fl_bo rfl) rfl ?_
        refine fl_Tq.cB (c := (7 : Int32)) rfl (by decide +kernel) (fl_bo rfl) ?_
        refine fl_Tq.cal rfl rfl (fl_bo rfl) rfl ?_
        refine t2_get (C := A) (W := 7) (v := f 280 (444 + 61 * A + 7)) hA (by decide +kernel) hA1 (by decide) rfl ?_
        show fl_Tq _ 270 208 [some (.inr (.inr (.inl (76, 277)))), some (.inl a), some (.inl b)] [.inl (f 280 (444 + 61 * A + 7))] (f, l) _
        have e0 : (if (f 280 (444 + 61 * A + 15)).toInt = 0 then (-1 : Int32) else f 280 (444 + 61 * A + 7)) = f 280 (444 + 61 * A + 7) := by simp only [if_neg h13]
        rw [e0] at hJ
        exact hJ
    refine hj190 ?_
    show fl_Tq _ 270 208 [some (.inr (.inr (.inl (76, 277)))), some (.inl a), some (.inl b)] [.inl (if (f 280 (444 + 61 * A + 15)).toInt = 0 then (-1 : Int32) else f 280 (444 + 61 * A + 7))] (f, l) _
    refine fl_Tq.ret rfl rfl rfl ?_
    unfold y_ofCell_v at k
    simp only [if_neg h1, if_neg h2, if_neg h3, if_neg h4, if_neg h5, if_neg h6, if_neg h7, if_neg h8, if_neg h9, if_neg h10, if_neg h11, if_pos h12] at k
    exact k
  by_cases h14 : b.toInt = 12
  · refine fl_Tq.swI (k := 12) rfl (fl_bo rfl) h14 rfl rfl ?_
    refine fl_Tq.stp (pc' := 210) (lv' := [some (.inr (.inr (.inl (76, 277)))), some (.inl a), some (.inl b)]) (st' := [.inr (.inr (.inl (76, 277)))]) (m' := (f, l)) rfl rfl (fl_bo rfl) rfl ?_
    refine fl_Tq.stp (pc' := 211) (lv' := [some (.inr (.inr (.inl (76, 277)))), some (.inl a), some (.inl b)]) (st' := [.inl a, .inr (.inr (.inl (76, 277)))]) (m' := (f, l)) rfl rfl (fl_bo rfl) rfl ?_
    refine fl_Tq.cB (c := (15 : Int32)) rfl (by decide +kernel) (fl_bo rfl) ?_
    refine fl_Tq.cal rfl rfl (fl_bo rfl) rfl ?_
    refine t2_get (C := A) (W := 15) (v := f 280 (444 + 61 * A + 15)) hA (by decide +kernel) hA1 (by decide) rfl ?_
    show fl_Tq _ 270 216 [some (.inr (.inr (.inl (76, 277)))), some (.inl a), some (.inl b)] [.inl (f 280 (444 + 61 * A + 15))] (f, l) _
    have hj191 : fl_Tq (pw_P L xs) 270 230 [some (.inr (.inr (.inl (76, 277)))), some (.inl a), some (.inl b)] [.inl (if (f 280 (444 + 61 * A + 15)).toInt = 0 then (-1 : Int32) else f 280 (444 + 61 * A + 8))] (f, l) Q → fl_Tq (pw_P L xs) 270 216 [some (.inr (.inr (.inl (76, 277)))), some (.inl a), some (.inl b)] [.inl (f 280 (444 + 61 * A + 15))] (f, l) Q := by
      intro hJ
      by_cases h15 : (f 280 (444 + 61 * A + 15)).toInt = 0
      · refine fl_Tq.zf rfl (fl_bo rfl) (c1_ne_f h15) rfl ?_
        refine fl_Tq.cI (c := (-1 : Int32)) rfl (by decide +kernel) (fl_bo rfl) ?_
        refine fl_Tq.stp (pc' := 230) (lv' := [some (.inr (.inr (.inl (76, 277)))), some (.inl a), some (.inl b)]) (st' := [.inl (-1 : Int32)]) (m' := (f, l)) rfl rfl (fl_bo rfl) rfl ?_
        have e0 : (if (f 280 (444 + 61 * A + 15)).toInt = 0 then (-1 : Int32) else f 280 (444 + 61 * A + 8)) = (-1 : Int32) := by simp only [if_pos h15]
        rw [e0] at hJ
        exact hJ
      · refine fl_Tq.zt rfl (fl_bo rfl) (c1_ne_t h15) rfl ?_
        refine fl_Tq.stp (pc' := 224) (lv' := [some (.inr (.inr (.inl (76, 277)))), some (.inl a), some (.inl b)]) (st' := [.inr (.inr (.inl (76, 277)))]) (m' := (f, l)) rfl rfl (fl_bo rfl) rfl ?_
        refine fl_Tq.stp (pc' := 225) (lv' := [some (.inr (.inr (.inl (76, 277)))), some (.inl a), some (.inl b)]) (st' := [.inl a, .inr (.inr (.inl (76, 277)))]) (m' := (f, l)) rfl rfl (fl_bo rfl) rfl ?_
        refine fl_Tq.cB (c := (8 : Int32)) rfl (by decide +kernel) (fl_bo rfl) ?_
        refine fl_Tq.cal rfl rfl (fl_bo rfl) rfl ?_
        refine t2_get (C := A) (W := 8) (v := f 280 (444 + 61 * A + 8)) hA (by decide +kernel) hA1 (by decide) rfl ?_
        show fl_Tq _ 270 230 [some (.inr (.inr (.inl (76, 277)))), some (.inl a), some (.inl b)] [.inl (f 280 (444 + 61 * A + 8))] (f, l) _
        have e0 : (if (f 280 (444 + 61 * A + 15)).toInt = 0 then (-1 : Int32) else f 280 (444 + 61 * A + 8)) = f 280 (444 + 61 * A + 8) := by simp only [if_neg h15]
        rw [e0] at hJ
        exact hJ
    refine hj191 ?_
    show fl_Tq _ 270 230 [some (.inr (.inr (.inl (76, 277)))), some (.inl a), some (.inl b)] [.inl (if (f 280 (444 + 61 * A + 15)).toInt = 0 then (-1 : Int32) else f 280 (444 + 61 * A + 8))] (f, l) _
    refine fl_Tq.ret rfl rfl rfl ?_
    unfold y_ofCell_v at k
    simp only [if_neg h1, if_neg h2, if_neg h3, if_neg h4, if_neg h5, if_neg h6, if_neg h7, if_neg h8, if_neg h9, if_neg h10, if_neg h11, if_neg h12, if_pos h14] at k
    exact k
  by_cases h16 : b.toInt = 13
  · refine fl_Tq.swI (k := 13) rfl (fl_bo rfl) h16 rfl rfl ?_
    refine fl_Tq.stp (pc' := 232) (lv' := [some (.inr (.inr (.inl (76, 277)))), some (.inl a), some (.inl b)]) (st' := [.inr (.inr (.inl (76, 277)))]) (m' := (f, l)) rfl rfl (fl_bo rfl) rfl ?_
    refine fl_Tq.stp (pc' := 233) (lv' := [some (.inr (.inr (.inl (76, 277)))), some (.inl a), some (.inl b)]) (st' := [.inl a, .inr (.inr (.inl (76, 277)))]) (m' := (f, l)) rfl rfl (fl_bo rfl) rfl ?_
    refine fl_Tq.cB (c := (9 : Int32)) rfl (by decide +kernel) (fl_bo rfl) ?_
    refine fl_Tq.cal rfl rfl (fl_bo rfl) rfl ?_
    refine t2_get (C := A) (W := 9) (v := f 280 (444 + 61 * A + 9)) hA (by decide +kernel) hA1 (by decide) rfl ?_
    show fl_Tq _ 270 238 [some (.inr (.inr (.inl (76, 277)))), some (.inl a), some (.inl b)] [.inl (f 280 (444 + 61 * A + 9))] (f, l) _
    refine fl_Tq.ret rfl rfl rfl ?_
    unfold y_ofCell_v at k
    simp only [if_neg h1, if_neg h2, if_neg h3, if_neg h4, if_neg h5, if_neg h6, if_neg h7, if_neg h8, if_neg h9, if_neg h10, if_neg h11, if_neg h12, if_neg h14, if_pos h16] at k
    exact k
  by_cases h17 : b.toInt = 14
  · refine fl_Tq.swI (k := 14) rfl (fl_bo rfl) h17 rfl rfl ?_
    refine fl_Tq.stp (pc' := 240) (lv' := [some (.inr (.inr (.inl (76, 277)))), some (.inl a), some (.inl b)]) (st' := [.inr (.inr (.inl (76, 277)))]) (m' := (f, l)) rfl rfl (fl_bo rfl) rfl ?_
    refine fl_Tq.stp (pc' := 241) (lv' := [some (.inr (.inr (.inl (76, 277)))), some (.inl a), some (.inl b)]) (st' := [.inl a, .inr (.inr (.inl (76, 277)))]) (m' := (f, l)) rfl rfl (fl_bo rfl) rfl ?_
    refine fl_Tq.cB (c := (10 : Int32)) rfl (by decide +kernel) (fl_bo rfl) ?_
    refine fl_Tq.cal rfl rfl (fl_bo rfl) rfl ?_
    refine t2_get (C := A) (W := 10) (v := f 280 (444 + 61 * A + 10)) hA (by decide +kernel) hA1 (by decide) rfl ?_
    show fl_Tq _ 270 246 [some (.inr (.inr (.inl (76, 277)))), some (.inl a), some (.inl b)] [.inl (f 280 (444 + 61 * A + 10))] (f, l) _
    refine fl_Tq.ret rfl rfl rfl ?_
    unfold y_ofCell_v at k
    simp only [if_neg h1, if_neg h2, if_neg h3, if_neg h4, if_neg h5, if_neg h6, if_neg h7, if_neg h8, if_neg h9, if_neg h10, if_neg h11, if_neg h12, if_neg h14, if_neg h16, if_pos h17] at k
    exact k
  by_cases h18 : b.toInt = 15
  · refine fl_Tq.swI (k := 15) rfl (fl_bo rfl) h18 rfl rfl ?_
    refine fl_Tq.stp (pc' := 248) (lv' := [some (.inr (.inr (.inl (76, 277)))), some (.inl a), some (.inl b)]) (st' := [.inr (.inr (.inl (76, 277)))]) (m' := (f, l)) rfl rfl (fl_bo rfl) rfl ?_
    refine fl_Tq.stp (pc' := 249) (lv' := [some (.inr (.inr (.inl (76, 277)))), some (.inl a), some (.inl b)]) (st' := [.inl a, .inr (.inr (.inl (76, 277)))]) (m' := (f, l)) rfl rfl (fl_bo rfl) rfl ?_
    refine fl_Tq.cB (c := (11 : Int32)) rfl (by decide +kernel) (fl_bo rfl) ?_
    refine fl_Tq.cal rfl rfl (fl_bo rfl) rfl ?_
    refine t2_get (C := A) (W := 11) (v := f 280 (444 + 61 * A + 11)) hA (by decide +kernel) hA1 (by decide) rfl ?_
    show fl_Tq _ 270 254 [some (.inr (.inr (.inl (76, 277)))), some (.inl a), some (.inl b)] [.inl (f 280 (444 + 61 * A + 11))] (f, l) _
    refine fl_Tq.ret rfl rfl rfl ?_
    unfold y_ofCell_v at k
    simp only [if_neg h1, if_neg h2, if_neg h3, if_neg h4, if_neg h5, if_neg h6, if_neg h7, if_neg h8, if_neg h9, if_neg h10, if_neg h11, if_neg h12, if_neg h14, if_neg h16, if_neg h17, if_pos h18] at k
    exact k
  by_cases h19 : b.toInt = 16
  · refine fl_Tq.swI (k := 16) rfl (fl_bo rfl) h19 rfl rfl ?_
    refine fl_Tq.stp (pc' := 256) (lv' := [some (.inr (.inr (.inl (76, 277)))), some (.inl a), some (.inl b)]) (st' := [.inr (.inr (.inl (76, 277)))]) (m' := (f, l)) rfl rfl (fl_bo rfl) rfl ?_
    refine fl_Tq.stp (pc' := 257) (lv' := [some (.inr (.inr (.inl (76, 277)))), some (.inl a), some (.inl b)]) (st' := [.inl a, .inr (.inr (.inl (76, 277)))]) (m' := (f, l)) rfl rfl (fl_bo rfl) rfl ?_
    refine fl_Tq.cB (c := (12 : Int32)) rfl (by decide +kernel) (fl_bo rfl) ?_
    refine fl_Tq.cal rfl rfl (fl_bo rfl) rfl ?_
    refine t2_get (C := A) (W := 12) (v := f 280 (444 + 61 * A + 12)) hA (by decide +kernel) hA1 (by decide) rfl ?_
    show fl_Tq _ 270 262 [some (.inr (.inr (.inl (76, 277)))), some (.inl a), some (.inl b)] [.inl (f 280 (444 + 61 * A + 12))] (f, l) _
    refine fl_Tq.ret rfl rfl rfl ?_
    unfold y_ofCell_v at k
    simp only [if_neg h1, if_neg h2, if_neg h3, if_neg h4, if_neg h5, if_neg h6, if_neg h7, if_neg h8, if_neg h9, if_neg h10, if_neg h11, if_neg h12, if_neg h14, if_neg h16, if_neg h17, if_neg h18, if_pos h19] at k
    exact k
  by_cases h20 : b.toInt = 17
  · refine fl_Tq.swI (k := 17) rfl (fl_bo rfl) h20 rfl rfl ?_
    refine fl_Tq.stp (pc' := 264) (lv' := [some (.inr (.inr (.inl (76, 277)))), some (.inl a), some (.inl b)]) (st' := [.inr (.inr (.inl (76, 277)))]) (m' := (f, l)) rfl rfl (fl_bo rfl) rfl ?_
    refine fl_Tq.stp (pc' := 265) (lv' := [some (.inr (.inr (.inl (76, 277)))), some (.inl a), some (.inl b)]) (st' := [.inl a, .inr (.inr (.inl (76, 277)))]) (m' := (f, l)) rfl rfl (fl_bo rfl) rfl ?_
    refine fl_Tq.cB (c := (13 : Int32)) rfl (by decide +kernel) (fl_bo rfl) ?_
    refine fl_Tq.cal rfl rfl (fl_bo rfl) rfl ?_
    refine t2_get (C := A) (W := 13) (v := f 280 (444 + 61 * A + 13)) hA (by decide +kernel) hA1 (by decide) rfl ?_
    show fl_Tq _ 270 270 [some (.inr (.inr (.inl (76, 277)))), some (.inl a), some (.inl b)] [.inl (f 280 (444 + 61 * A + 13))] (f, l) _
    refine fl_Tq.ret rfl rfl rfl ?_
    unfold y_ofCell_v at k
    simp only [if_neg h1, if_neg h2, if_neg h3, if_neg h4, if_neg h5, if_neg h6, if_neg h7, if_neg h8, if_neg h9, if_neg h10, if_neg h11, if_neg h12, if_neg h14, if_neg h16, if_neg h17, if_neg h18, if_neg h19, if_pos h20] at k
    exact k
  by_cases h21 : b.toInt = 18
  · refine fl_Tq.swI (k := 18) rfl (fl_bo rfl) h21 rfl rfl ?_
    refine fl_Tq.stp (pc' := 272) (lv' := [some (.inr (.inr (.inl (76, 277)))), some (.inl a), some (.inl b)]) (st' := [.inr (.inr (.inl (76, 277)))]) (m' := (f, l)) rfl rfl (fl_bo rfl) rfl ?_
    refine fl_Tq.stp (pc' := 273) (lv' := [some (.inr (.inr (.inl (76, 277)))), some (.inl a), some (.inl b)]) (st' := [.inl a, .inr (.inr (.inl (76, 277)))]) (m' := (f, l)) rfl rfl (fl_bo rfl) rfl ?_
    refine fl_Tq.cB (c := (60 : Int32)) rfl (by decide +kernel) (fl_bo rfl) ?_
    refine fl_Tq.cal rfl rfl (fl_bo rfl) rfl ?_
    refine t2_get (C := A) (W := 60) (v := f 280 (444 + 61 * A + 60)) hA (by decide +kernel) hA1 (by decide) rfl ?_
    show fl_Tq _ 270 278 [some (.inr (.inr (.inl (76, 277)))), some (.inl a), some (.inl b)] [.inl (f 280 (444 + 61 * A + 60))] (f, l) _
    refine fl_Tq.ret rfl rfl rfl ?_
    unfold y_ofCell_v at k
    simp only [if_neg h1, if_neg h2, if_neg h3, if_neg h4, if_neg h5, if_neg h6, if_neg h7, if_neg h8, if_neg h9, if_neg h10, if_neg h11, if_neg h12, if_neg h14, if_neg h16, if_neg h17, if_neg h18, if_neg h19, if_neg h20, if_pos h21] at k
    exact k
  refine fl_Tq.swD rfl (fl_bo rfl) (by omega) rfl ?_
  refine fl_Tq.stp (pc' := 282) (lv' := [some (.inr (.inr (.inl (76, 277)))), some (.inl a), some (.inl b)]) (st' := [.inl (-1000000000 : Int32)]) (m' := (f, l)) rfl rfl (fl_bo rfl) rfl ?_
  refine fl_Tq.ret rfl rfl rfl ?_
  unfold y_ofCell_v at k
  simp only [if_neg h1, if_neg h2, if_neg h3, if_neg h4, if_neg h5, if_neg h6, if_neg h7, if_neg h8, if_neg h9, if_neg h10, if_neg h11, if_neg h12, if_neg h14, if_neg h16, if_neg h17, if_neg h18, if_neg h19, if_neg h20, if_neg h21] at k
  exact k
theorem x_of_e {f : t2_F} {a b : Int32} {A : Nat} (I : c0_I f f) (hC : A < (f 280 2).toInt.toNat) (h6 : 100 ≤ (f 280 (444 + 61 * A + 6)).toInt) : c0_tellWhat_v f A b (f 1 9) = y_ofCell_v f a b A := by
  have cur : f 1 9 = f 280 5 := I.1.2.1.1
  obtain ⟨⟨rc, gc⟩, oc⟩ := I.cell hC
  have far := I.far hC
  obtain ⟨⟨m14, m15, m16, m17⟩, ⟨s10, -⟩, rh, ti⟩ := gc
  have ev : c0_voltsAt_v f A (f 1 9) = r_voltsOf_v f a A := by
    rw [cur]
    exact c0_volts_eq rc far
  have e4 : f (18 + 4 * A) 4 = t2_rb (r_partOf_v f a A) := rc.2.1.2
  have e3 : f (18 + 4 * A) 3 = r_partOf_v f a A := rc.2.1.1
  obtain ⟨⟨e0, e1, e2⟩, -, ⟨e5, e6, e7⟩, e8, e9, e18⟩ := rc
  have er : c0_reckonedPart_v f A = (((1000 : Int64) * ((f 280 (444 + 61 * A + 4)).toInt64)) / (((3600 : Int32) * (f 280 (444 + 61 * A + 0))).toInt64)).toInt32 := by
    unfold c0_reckonedPart_v
    rw [e8, e0]
    exact (t2_partAt_eq oc.1.1).symm
  have e10 : c0_tellWhat_j147_0 f A b (f 1 9) = ((1000 : Int32) * (f 280 (444 + 61 * A + 0))) / (f 280 (444 + 61 * A + 6)) := by
    unfold c0_tellWhat_j147_0
    rw [e1, if_pos (by omega), e0, Int32.mul_comm]
  have z0 : (0 : Int32).toInt = 0 := rfl
  have z1 : ¬ ((1 : Int32).toInt = 0) := by decide +kernel
  have e11 : c0_tellWhat_j172_0 f A b (f 1 9) = (if (f 280 (444 + 61 * A + 15)).toInt = 0 then (-1 : Int32) else f 280 (444 + 61 * A + 7)) := by
    unfold c0_tellWhat_j172_0
    rw [← s10]
    rcases rh with ⟨r, -, -⟩ | ⟨r, r7, r8⟩
    · rw [r, if_pos z0, if_pos z0]
    · rw [r, if_neg z1, if_neg z1, r7]
  have e12 : c0_tellWhat_j188_0 f A b (f 1 9) = (if (f 280 (444 + 61 * A + 15)).toInt = 0 then (-1 : Int32) else f 280 (444 + 61 * A + 8)) := by
    unfold c0_tellWhat_j188_0
    rw [← s10]
    rcases rh with ⟨r, -, -⟩ | ⟨r, r7, r8⟩
    · rw [r, if_pos z0, if_pos z0]
    · rw [r, if_neg z1, if_neg z1, r8]
  have et : f (19 + 4 * A) 2 = f 280 (444 + 61 * A + 10) := ti.1
  unfold c0_tellWhat_v y_ofCell_v
  rw [ev, e3, e4, er, e10, e11, e12, et, e0, e2, e5, e6, e7, e8, e9, e18, m14, m15, m16]
/-! ===== of, on both sides ===== -/
theorem t2_cmp_23 {L : Nat} {xs : Nat → Int32} {f : t2_F} {l : t2_L} {a b : Int32} (_hall : ∀ c ∈ at_CM ++ at_CA, at_Valid at_XI (pw_P L xs) c) (hg : t2_Z (f, l)) : fl_Tq (pw_P L xs) 124 0 (fl_args (am_mxl (pw_P L xs) 124) [lx_x, .inl a, .inl b]) [] (f, l) (t2_End L xs 271 [at_this, .inl a, .inl b]) := by
  have I : c0_I f f := hg.2.1
  have e5 : f 1 5 = f 280 2 := I.1.1.1
  have n16 := I.rhu.1
  have n5 : 0 ≤ (f 1 5).toInt ∧ (f 1 5).toInt ≤ 16 := I.hc
  by_cases h : 0 ≤ a.toInt ∧ a.toInt < (f 280 2).toInt
  · obtain ⟨A, hA⟩ := t2_nat h.1
    have hA1 : A < 16 := by omega
    have h6 : 100 ≤ (f 280 (444 + 61 * A + 6)).toInt := by
      have hh := ((hg.1.AK).2.1 A hA1 (by show (A : Int) < (f 280 2).toInt; omega)).2.1
      rw [show 444 + 61 * A + 6 = 450 + 61 * A by omega]
      exact hh
    have ht : f 280 (444 + 61 * A + 6) ≠ 0 := fun e => by
      rw [e] at h6
      exact absurd h6 (by decide +kernel)
    refine t2_qq (y := y_ofCell_v f a b A) hg (fun Q k => ?_) (fun Q k => ?_)
    · show fl_Tq (pw_P L xs) 124 0 [some (.inr (.inr (.inl (0, 0)))), some (.inl a), some (.inl b)] [] (f, l) Q
      refine x_of_A ?_
      refine fl_Tq.cal rfl rfl (fl_bo rfl) rfl ?_
      show fl_Tq (pw_P L xs) 73 0 [some (.inr (.inr (.inl (1, 1)))), some (.inl a), some (.inl b)] [] (f, l) _
      refine x_tof_A (fun h1 => ?_) (fun _ => x_tof_B hA hA1 ?_)
      · rw [t2_isc n5, e5] at h1
        exact absurd h h1
      · rw [x_of_e (a := a) I (by omega) h6]
        exact x_of_B k
    · show fl_Tq (pw_P L xs) 271 0 [some (.inr (.inr (.inl (76, 277)))), some (.inl a), some (.inl b)] [] (f, l) Q
      refine y_of_A (fun h1 => ?_) (fun _ => y_of_B ?_)
      · rw [r_isc n16] at h1
        exact absurd h h1
      · refine fl_Tq.cal rfl rfl (fl_bo rfl) rfl ?_
        exact y_ofCell_q hA hA1 (by omega) (t2_Good.RS hg.1) I.rhu.2 ht (y_of_C k)
  · refine t2_qq (y := (-1000000000 : Int32)) hg (fun Q k => ?_) (fun Q k => ?_)
    · show fl_Tq (pw_P L xs) 124 0 [some (.inr (.inr (.inl (0, 0)))), some (.inl a), some (.inl b)] [] (f, l) Q
      refine x_of_A ?_
      refine fl_Tq.cal rfl rfl (fl_bo rfl) rfl ?_
      show fl_Tq (pw_P L xs) 73 0 [some (.inr (.inr (.inl (1, 1)))), some (.inl a), some (.inl b)] [] (f, l) _
      refine x_tof_A (fun _ => x_of_B k) (fun h1 => ?_)
      rw [t2_isc n5, e5, Classical.not_not] at h1
      exact absurd h1 h
    · show fl_Tq (pw_P L xs) 271 0 [some (.inr (.inr (.inl (76, 277)))), some (.inl a), some (.inl b)] [] (f, l) Q
      refine y_of_A (fun _ => k) (fun h1 => ?_)
      rw [r_isc n16, Classical.not_not] at h1
      exact absurd h1 h

end

/-! 95.05.03p24.lean.txt -/
section
theorem x_ruleOf_A {L : Nat} {xs : Nat → Int32} {f : t2_F} {l : t2_L} {Q : Option fl_V → fl_M → Prop} {a b : Int32}  (k : (a.toInt = (-1 : Int32).toInt) → Q (some (.inl (f 3 8))) (f, l)) (k1 : (¬ (a.toInt = (-1 : Int32).toInt)) → ((t2_within_v a (0 : Int32) ((f 3 8) - (1 : Int32))).toInt = 0) → Q (some (.inl (-1000000000 : Int32))) (f, l)) (k2 : (¬ (a.toInt = (-1 : Int32).toInt)) → (¬ ((t2_within_v a (0 : Int32) ((f 3 8) - (1 : Int32))).toInt = 0)) → ((t2_within_v b (0 : Int32) (4 : Int32)).toInt = 0) → Q (some (.inl (-1000000000 : Int32))) (f, l)) (k3 : (¬ (a.toInt = (-1 : Int32).toInt)) → (¬ ((t2_within_v a (0 : Int32) ((f 3 8) - (1 : Int32))).toInt = 0)) → (¬ ((t2_within_v b (0 : Int32) (4 : Int32)).toInt = 0)) → fl_Tq (pw_P L xs) 125 48 [some (.inr (.inr (.inl (0, 0)))), some (.inl a), some (.inl b)] [] (f, l) Q) : fl_Tq (pw_P L xs) 125 0 [some (.inr (.inr (.inl (0, 0)))), some (.inl a), some (.inl b)] [] (f, l) Q := by
  refine fl_Tq.stp (pc' := 1) (lv' := [some (.inr (.inr (.inl (0, 0)))), some (.inl a), some (.inl b)]) (st' := [.inl a]) (m' := (f, l)) rfl rfl (fl_bo rfl) rfl ?_
  refine fl_Tq.cI (c := (-1 : Int32)) rfl (by decide +kernel) (fl_bo rfl) ?_
  by_cases h1 : a.toInt = (-1 : Int32).toInt
  · refine fl_Tq.jf rfl (fl_bo rfl) (c2_ne_f h1) rfl ?_
    refine fl_Tq.stp (pc' := 6) (lv' := [some (.inr (.inr (.inl (0, 0)))), some (.inl a), some (.inl b)]) (st' := [.inr (.inr (.inl (0, 0)))]) (m' := (f, l)) rfl rfl (fl_bo rfl) rfl ?_
    refine fl_Tq.stp (pc' := 9) (lv' := [some (.inr (.inr (.inl (0, 0)))), some (.inl a), some (.inl b)]) (st' := [.inr (.inr (.inl (1, 1)))]) (m' := (f, l)) rfl rfl (fl_bo rfl) rfl ?_
    refine fl_Tq.stp (pc' := 12) (lv' := [some (.inr (.inr (.inl (0, 0)))), some (.inl a), some (.inl b)]) (st' := [.inr (.inr (.inl (3, 3)))]) (m' := (f, l)) rfl rfl (fl_bo rfl) rfl ?_
    refine fl_Tq.gfV (k := 8) (v := f 3 8) rfl (fl_bo rfl) rfl rfl ?_
    exact fl_Tq.ret rfl rfl rfl (k h1)
  · refine fl_Tq.jt rfl (fl_bo rfl) (c2_ne_t h1) rfl ?_
    refine fl_Tq.stp (pc' := 17) (lv' := [some (.inr (.inr (.inl (0, 0)))), some (.inl a), some (.inl b)]) (st' := [.inl a]) (m' := (f, l)) rfl rfl (fl_bo rfl) rfl ?_
    refine fl_Tq.cI (c := (0 : Int32)) rfl (by decide +kernel) (fl_bo rfl) ?_
    refine fl_Tq.stp (pc' := 19) (lv' := [some (.inr (.inr (.inl (0, 0)))), some (.inl a), some (.inl b)]) (st' := [.inr (.inr (.inl (0, 0))), .inl (0 : Int32), .inl a]) (m' := (f, l)) rfl rfl (fl_bo rfl) rfl ?_
    refine fl_Tq.stp (pc' := 22) (lv' := [some (.inr (.inr (.inl (0, 0)))), some (.inl a), some (.inl b)]) (st' := [.inr (.inr (.inl (1, 1))), .inl (0 : Int32), .inl a]) (m' := (f, l)) rfl rfl (fl_bo rfl) rfl ?_
    refine fl_Tq.stp (pc' := 25) (lv' := [some (.inr (.inr (.inl (0, 0)))), some (.inl a), some (.inl b)]) (st' := [.inr (.inr (.inl (3, 3))), .inl (0 : Int32), .inl a]) (m' := (f, l)) rfl rfl (fl_bo rfl) rfl ?_
    refine fl_Tq.gfV (k := 8) (v := f 3 8) rfl (fl_bo rfl) rfl rfl ?_
    refine fl_Tq.cI (c := (1 : Int32)) rfl (by decide +kernel) (fl_bo rfl) ?_
    refine fl_Tq.stp (pc' := 30) (lv' := [some (.inr (.inr (.inl (0, 0)))), some (.inl a), some (.inl b)]) (st' := [.inl ((f 3 8) - (1 : Int32)), .inl (0 : Int32), .inl a]) (m' := (f, l)) rfl rfl (fl_bo rfl) rfl ?_
    refine fl_Tq.cal rfl rfl (fl_bo rfl) rfl ?_
    refine t2_within_q  ?_
    show fl_Tq _ 125 33 [some (.inr (.inr (.inl (0, 0)))), some (.inl a), some (.inl b)] [.inl (t2_within_v a (0 : Int32) ((f 3 8) - (1 : Int32)))] (f, l) _
    by_cases h2 : (t2_within_v a (0 : Int32) ((f 3 8) - (1 : Int32))).toInt = 0
    · refine fl_Tq.zt rfl (fl_bo rfl) (c1_eq_t h2) rfl ?_
      refine fl_Tq.stp (pc' := 47) (lv' := [some (.inr (.inr (.inl (0, 0)))), some (.inl a), some (.inl b)]) (st' := [.inl (-1000000000 : Int32)]) (m' := (f, l)) rfl rfl (fl_bo rfl) rfl ?_
      exact fl_Tq.ret rfl rfl rfl (k1 h1 h2)
    · refine fl_Tq.zf rfl (fl_bo rfl) (c1_eq_f h2) rfl ?_
      refine fl_Tq.stp (pc' := 37) (lv' := [some (.inr (.inr (.inl (0, 0)))), some (.inl a), some (.inl b)]) (st' := [.inl b]) (m' := (f, l)) rfl rfl (fl_bo rfl) rfl ?_
      refine fl_Tq.cI (c := (0 : Int32)) rfl (by decide +kernel) (fl_bo rfl) ?_
      refine fl_Tq.cI (c := (4 : Int32)) rfl (by decide +kernel) (fl_bo rfl) ?_
      refine fl_Tq.cal rfl rfl (fl_bo rfl) rfl ?_
      refine t2_within_q  ?_
      show fl_Tq _ 125 42 [some (.inr (.inr (.inl (0, 0)))), some (.inl a), some (.inl b)] [.inl (t2_within_v b (0 : Int32) (4 : Int32))] (f, l) _
      by_cases h3 : (t2_within_v b (0 : Int32) (4 : Int32)).toInt = 0
      · refine fl_Tq.zf rfl (fl_bo rfl) (c1_ne_f h3) rfl ?_
        refine fl_Tq.stp (pc' := 47) (lv' := [some (.inr (.inr (.inl (0, 0)))), some (.inl a), some (.inl b)]) (st' := [.inl (-1000000000 : Int32)]) (m' := (f, l)) rfl rfl (fl_bo rfl) rfl ?_
        exact fl_Tq.ret rfl rfl rfl (k2 h1 h2 h3)
      · refine fl_Tq.zt rfl (fl_bo rfl) (c1_ne_t h3) rfl ?_
        exact k3 h1 h2 h3
theorem x_ruleOf_B {L : Nat} {xs : Nat → Int32} {f : t2_F} {l : t2_L} {Q : Option fl_V → fl_M → Prop} {a b : Int32} {A B : Nat} (hA : a.toInt = (A : Int)) (hA1 : A < 8) (hB : b.toInt = (B : Int)) (hB1 : B < 5) (k : Q (some (.inl (f 9 (A * 5 + B)))) (f, l)) : fl_Tq (pw_P L xs) 125 48 [some (.inr (.inr (.inl (0, 0)))), some (.inl a), some (.inl b)] [] (f, l) Q := by
  refine fl_Tq.stp (pc' := 49) (lv' := [some (.inr (.inr (.inl (0, 0)))), some (.inl a), some (.inl b)]) (st' := [.inr (.inr (.inl (0, 0)))]) (m' := (f, l)) rfl rfl (fl_bo rfl) rfl ?_
  refine fl_Tq.stp (pc' := 52) (lv' := [some (.inr (.inr (.inl (0, 0)))), some (.inl a), some (.inl b)]) (st' := [.inr (.inr (.inl (1, 1)))]) (m' := (f, l)) rfl rfl (fl_bo rfl) rfl ?_
  refine fl_Tq.stp (pc' := 55) (lv' := [some (.inr (.inr (.inl (0, 0)))), some (.inl a), some (.inl b)]) (st' := [.inr (.inr (.inl (3, 3)))]) (m' := (f, l)) rfl rfl (fl_bo rfl) rfl ?_
  refine fl_Tq.stp (pc' := 58) (lv' := [some (.inr (.inr (.inl (0, 0)))), some (.inl a), some (.inl b)]) (st' := [.inr (.inr (.inl (9, 9)))]) (m' := (f, l)) rfl rfl (fl_bo rfl) rfl ?_
  refine fl_Tq.stp (pc' := 59) (lv' := [some (.inr (.inr (.inl (0, 0)))), some (.inl a), some (.inl b)]) (st' := [.inl a, .inr (.inr (.inl (9, 9)))]) (m' := (f, l)) rfl rfl (fl_bo rfl) rfl ?_
  refine fl_Tq.cI (c := (5 : Int32)) rfl (by decide +kernel) (fl_bo rfl) ?_
  refine fl_Tq.stp (pc' := 61) (lv' := [some (.inr (.inr (.inl (0, 0)))), some (.inl a), some (.inl b)]) (st' := [.inl (a * (5 : Int32)), .inr (.inr (.inl (9, 9)))]) (m' := (f, l)) rfl rfl (fl_bo rfl) rfl ?_
  refine fl_Tq.stp (pc' := 62) (lv' := [some (.inr (.inr (.inl (0, 0)))), some (.inl a), some (.inl b)]) (st' := [.inl b, .inl (a * (5 : Int32)), .inr (.inr (.inl (9, 9)))]) (m' := (f, l)) rfl rfl (fl_bo rfl) rfl ?_
  refine fl_Tq.stp (pc' := 63) (lv' := [some (.inr (.inr (.inl (0, 0)))), some (.inl a), some (.inl b)]) (st' := [.inl ((a * (5 : Int32)) + b), .inr (.inr (.inl (9, 9)))]) (m' := (f, l)) rfl rfl (fl_bo rfl) rfl ?_
  refine fl_Tq.ldV (p := 9) (τ := 9) (n := 40) (z := (0, 0, 0)) (k := A * 5 + B) (v := f 9 (A * 5 + B)) rfl (fl_bo rfl) rfl (t2_mc (M := 5) (by decide +kernel) (by decide) hA hB (by omega) (by omega)) (by omega) rfl ?_
  exact fl_Tq.ret rfl rfl rfl k
theorem y_ruleOf_A {L : Nat} {xs : Nat → Int32} {f : t2_F} {l : t2_L} {Q : Option fl_V → fl_M → Prop} {a b : Int32}  (k : (a.toInt = (-1 : Int32).toInt) → Q (some (.inl (f 280 18))) (f, l)) (k1 : (¬ (a.toInt = (-1 : Int32).toInt)) → ((r_isIn_v a (0 : Int32) ((f 280 18) - (1 : Int32))).toInt = 0) → Q (some (.inl (-1000000000 : Int32))) (f, l)) (k2 : (¬ (a.toInt = (-1 : Int32).toInt)) → (¬ ((r_isIn_v a (0 : Int32) ((f 280 18) - (1 : Int32))).toInt = 0)) → ((r_isIn_v b (0 : Int32) (4 : Int32)).toInt = 0) → Q (some (.inl (-1000000000 : Int32))) (f, l)) (k3 : (¬ (a.toInt = (-1 : Int32).toInt)) → (¬ ((r_isIn_v a (0 : Int32) ((f 280 18) - (1 : Int32))).toInt = 0)) → (¬ ((r_isIn_v b (0 : Int32) (4 : Int32)).toInt = 0)) → fl_Tq (pw_P L xs) 272 39 [some (.inr (.inr (.inl (76, 277)))), some (.inl a), some (.inl b)] [] (f, l) Q) : fl_Tq (pw_P L xs) 272 0 [some (.inr (.inr (.inl (76, 277)))), some (.inl a), some (.inl b)] [] (f, l) Q := by
  refine fl_Tq.stp (pc' := 1) (lv' := [some (.inr (.inr (.inl (76, 277)))), some (.inl a), some (.inl b)]) (st' := [.inl a]) (m' := (f, l)) rfl rfl (fl_bo rfl) rfl ?_
  refine fl_Tq.cI (c := (-1 : Int32)) rfl (by decide +kernel) (fl_bo rfl) ?_
  by_cases h1 : a.toInt = (-1 : Int32).toInt
  · refine fl_Tq.jf rfl (fl_bo rfl) (c2_ne_f h1) rfl ?_
    refine fl_Tq.stp (pc' := 6) (lv' := [some (.inr (.inr (.inl (76, 277)))), some (.inl a), some (.inl b)]) (st' := [.inr (.inr (.inl (76, 277)))]) (m' := (f, l)) rfl rfl (fl_bo rfl) rfl ?_
    refine fl_Tq.stp (pc' := 9) (lv' := [some (.inr (.inr (.inl (76, 277)))), some (.inl a), some (.inl b)]) (st' := [.inr (.inr (.inl (79, 280)))]) (m' := (f, l)) rfl rfl (fl_bo rfl) rfl ?_
    refine fl_Tq.cB (c := (18 : Int32)) rfl (by decide +kernel) (fl_bo rfl) ?_
    refine fl_Tq.ldV (p := 280) (τ := 79) (n := 29780) (z := (0, 0, 0)) (k := 18) (v := f 280 18) rfl (fl_bo rfl) rfl (by decide +kernel) (by decide) rfl ?_
    exact fl_Tq.ret rfl rfl rfl (k h1)
  · refine fl_Tq.jt rfl (fl_bo rfl) (c2_ne_t h1) rfl ?_
    refine fl_Tq.stp (pc' := 14) (lv' := [some (.inr (.inr (.inl (76, 277)))), some (.inl a), some (.inl b)]) (st' := [.inl a]) (m' := (f, l)) rfl rfl (fl_bo rfl) rfl ?_
    refine fl_Tq.cI (c := (0 : Int32)) rfl (by decide +kernel) (fl_bo rfl) ?_
    refine fl_Tq.stp (pc' := 16) (lv' := [some (.inr (.inr (.inl (76, 277)))), some (.inl a), some (.inl b)]) (st' := [.inr (.inr (.inl (76, 277))), .inl (0 : Int32), .inl a]) (m' := (f, l)) rfl rfl (fl_bo rfl) rfl ?_
    refine fl_Tq.stp (pc' := 19) (lv' := [some (.inr (.inr (.inl (76, 277)))), some (.inl a), some (.inl b)]) (st' := [.inr (.inr (.inl (79, 280))), .inl (0 : Int32), .inl a]) (m' := (f, l)) rfl rfl (fl_bo rfl) rfl ?_
    refine fl_Tq.cB (c := (18 : Int32)) rfl (by decide +kernel) (fl_bo rfl) ?_
    refine fl_Tq.ldV (p := 280) (τ := 79) (n := 29780) (z := (0, 0, 0)) (k := 18) (v := f 280 18) rfl (fl_bo rfl) rfl (by decide +kernel) (by decide) rfl ?_
    refine fl_Tq.cI (c := (1 : Int32)) rfl (by decide +kernel) (fl_bo rfl) ?_
    refine fl_Tq.stp (pc' := 24) (lv' := [some (.inr (.inr (.inl (76, 277)))), some (.inl a), some (.inl b)]) (st' := [.inl ((f 280 18) - (1 : Int32)), .inl (0 : Int32), .inl a]) (m' := (f, l)) rfl rfl (fl_bo rfl) rfl ?_
    refine fl_Tq.cal rfl rfl (fl_bo rfl) rfl ?_
    refine r_isIn_q  ?_
    show fl_Tq _ 272 27 [some (.inr (.inr (.inl (76, 277)))), some (.inl a), some (.inl b)] [.inl (r_isIn_v a (0 : Int32) ((f 280 18) - (1 : Int32)))] (f, l) _
    by_cases h2 : (r_isIn_v a (0 : Int32) ((f 280 18) - (1 : Int32))).toInt = 0
    · refine fl_Tq.zt rfl (fl_bo rfl) (c1_eq_t h2) rfl ?_
      refine fl_Tq.stp (pc' := 58) (lv' := [some (.inr (.inr (.inl (76, 277)))), some (.inl a), some (.inl b)]) (st' := [.inl (-1000000000 : Int32)]) (m' := (f, l)) rfl rfl (fl_bo rfl) rfl ?_
      exact fl_Tq.ret rfl rfl rfl (k1 h1 h2)
    · refine fl_Tq.zf rfl (fl_bo rfl) (c1_eq_f h2) rfl ?_
      refine fl_Tq.stp (pc' := 31) (lv' := [some (.inr (.inr (.inl (76, 277)))), some (.inl a), some (.inl b)]) (st' := [.inl b]) (m' := (f, l)) rfl rfl (fl_bo rfl) rfl ?_
      refine fl_Tq.cI (c := (0 : Int32)) rfl (by decide +kernel) (fl_bo rfl) ?_
      refine fl_Tq.cI (c := (4 : Int32)) rfl (by decide +kernel) (fl_bo rfl) ?_
      refine fl_Tq.cal rfl rfl (fl_bo rfl) rfl ?_
      refine r_isIn_q  ?_
      show fl_Tq _ 272 36 [some (.inr (.inr (.inl (76, 277)))), some (.inl a), some (.inl b)] [.inl (r_isIn_v b (0 : Int32) (4 : Int32))] (f, l) _
      by_cases h3 : (r_isIn_v b (0 : Int32) (4 : Int32)).toInt = 0
      · refine fl_Tq.zt rfl (fl_bo rfl) (c1_eq_t h3) rfl ?_
        refine fl_Tq.stp (pc' := 58) (lv' := [some (.inr (.inr (.inl (76, 277)))), some (.inl a), some (.inl b)]) (st' := [.inl (-1000000000 : Int32)]) (m' := (f, l)) rfl rfl (fl_bo rfl) rfl ?_
        exact fl_Tq.ret rfl rfl rfl (k2 h1 h2 h3)
      · refine fl_Tq.zf rfl (fl_bo rfl) (c1_eq_f h3) rfl ?_
        exact k3 h1 h2 h3
theorem y_ruleOf_B {L : Nat} {xs : Nat → Int32} {f : t2_F} {l : t2_L} {Q : Option fl_V → fl_M → Prop} {a b : Int32} {A B : Nat} (hA : a.toInt = (A : Int)) (hA1 : A < 8) (hB : b.toInt = (B : Int)) (hB1 : B < 5) (k : Q (some (.inl (f 280 (79 + 5 * A + B)))) (f, l)) : fl_Tq (pw_P L xs) 272 39 [some (.inr (.inr (.inl (76, 277)))), some (.inl a), some (.inl b)] [] (f, l) Q := by
  refine fl_Tq.stp (pc' := 40) (lv' := [some (.inr (.inr (.inl (76, 277)))), some (.inl a), some (.inl b)]) (st' := [.inr (.inr (.inl (76, 277)))]) (m' := (f, l)) rfl rfl (fl_bo rfl) rfl ?_
  refine fl_Tq.stp (pc' := 43) (lv' := [some (.inr (.inr (.inl (76, 277)))), some (.inl a), some (.inl b)]) (st' := [.inr (.inr (.inl (79, 280)))]) (m' := (f, l)) rfl rfl (fl_bo rfl) rfl ?_
  refine fl_Tq.cB (c := (79 : Int32)) rfl (by decide +kernel) (fl_bo rfl) ?_
  refine fl_Tq.cI (c := (5 : Int32)) rfl (by decide +kernel) (fl_bo rfl) ?_
  refine fl_Tq.stp (pc' := 47) (lv' := [some (.inr (.inr (.inl (76, 277)))), some (.inl a), some (.inl b)]) (st' := [.inl a, .inl (5 : Int32), .inl (79 : Int32), .inr (.inr (.inl (79, 280)))]) (m' := (f, l)) rfl rfl (fl_bo rfl) rfl ?_
  refine fl_Tq.stp (pc' := 48) (lv' := [some (.inr (.inr (.inl (76, 277)))), some (.inl a), some (.inl b)]) (st' := [.inl ((5 : Int32) * a), .inl (79 : Int32), .inr (.inr (.inl (79, 280)))]) (m' := (f, l)) rfl rfl (fl_bo rfl) rfl ?_
  refine fl_Tq.stp (pc' := 49) (lv' := [some (.inr (.inr (.inl (76, 277)))), some (.inl a), some (.inl b)]) (st' := [.inl ((79 : Int32) + ((5 : Int32) * a)), .inr (.inr (.inl (79, 280)))]) (m' := (f, l)) rfl rfl (fl_bo rfl) rfl ?_
  refine fl_Tq.stp (pc' := 50) (lv' := [some (.inr (.inr (.inl (76, 277)))), some (.inl a), some (.inl b)]) (st' := [.inl b, .inl ((79 : Int32) + ((5 : Int32) * a)), .inr (.inr (.inl (79, 280)))]) (m' := (f, l)) rfl rfl (fl_bo rfl) rfl ?_
  refine fl_Tq.stp (pc' := 51) (lv' := [some (.inr (.inr (.inl (76, 277)))), some (.inl a), some (.inl b)]) (st' := [.inl (((79 : Int32) + ((5 : Int32) * a)) + b), .inr (.inr (.inl (79, 280)))]) (m' := (f, l)) rfl rfl (fl_bo rfl) rfl ?_
  refine fl_Tq.ldV (p := 280) (τ := 79) (n := 29780) (z := (0, 0, 0)) (k := 79 + 5 * A + B) (v := f 280 (79 + 5 * A + B)) rfl (fl_bo rfl) rfl (t2_mr (M := 5) (K := 79) (by decide +kernel) (by decide +kernel) (by decide) (by decide) hA hB (by omega) (by omega)) (by omega) rfl ?_
  refine fl_Tq.stp (pc' := 58) (lv' := [some (.inr (.inr (.inl (76, 277)))), some (.inl a), some (.inl b)]) (st' := [.inl (f 280 (79 + 5 * A + B))]) (m' := (f, l)) rfl rfl (fl_bo rfl) rfl ?_
  exact fl_Tq.ret rfl rfl rfl k
/-! ===== ruleOf, on both sides ===== -/
theorem t2_cmp_24 {L : Nat} {xs : Nat → Int32} {f : t2_F} {l : t2_L} {a b : Int32} (_hall : ∀ c ∈ at_CM ++ at_CA, at_Valid at_XI (pw_P L xs) c) (hg : t2_Z (f, l)) : fl_Tq (pw_P L xs) 125 0 (fl_args (am_mxl (pw_P L xs) 125) [lx_x, .inl a, .inl b]) [] (f, l) (t2_End L xs 272 [at_this, .inl a, .inl b]) := by
  have I : c0_I f f := hg.2.1
  have c0 : (0 : Int32).toInt = 0 := rfl
  have c4 : (4 : Int32).toInt = 4 := by decide +kernel
  have cm : (-1 : Int32).toInt = -1 := by decide +kernel
  have z : f 3 8 = f 280 18 := I.2.2.1.1.2.2.1.1
  have hn : 0 ≤ (f 280 18).toInt ∧ (f 280 18).toInt ≤ 8 := I.2.2.1.1.2.2.1.2.1
  have ed : (f 280 18 - (1 : Int32)).toInt = (f 280 18).toInt - 1 := t2_dec (by omega)
  by_cases hN : a.toInt = -1
  · refine t2_qq (y := f 280 18) hg (fun Q k => ?_) (fun Q k => ?_)
    · show fl_Tq (pw_P L xs) 125 0 [some (.inr (.inr (.inl (0, 0)))), some (.inl a), some (.inl b)] [] (f, l) Q
      refine x_ruleOf_A (fun _ => by rw [z]; exact k) (fun h => ?_) (fun h => ?_) (fun h => ?_) <;> exact absurd (hN.trans cm.symm) h
    · show fl_Tq (pw_P L xs) 272 0 [some (.inr (.inr (.inl (76, 277)))), some (.inl a), some (.inl b)] [] (f, l) Q
      refine y_ruleOf_A (fun _ => k) (fun h => ?_) (fun h => ?_) (fun h => ?_) <;> exact absurd (hN.trans cm.symm) h
  by_cases h : (0 ≤ a.toInt ∧ a.toInt ≤ (f 280 18).toInt - 1) ∧ 0 ≤ b.toInt ∧ b.toInt ≤ 4
  · obtain ⟨A, hA⟩ := t2_nat h.1.1
    obtain ⟨B, hB⟩ := t2_nat h.2.1
    have hA1 : A < 8 := by omega
    have hB1 : B < 5 := by omega
    have e : f 9 (A * 5 + B) = f 280 (79 + 5 * A + B) := by
      rw [I.2.2.1.1.2.2.1.2.2 (A * 5 + B) (by omega)]
      exact congrArg _ (by omega)
    refine t2_qq (y := f 280 (79 + 5 * A + B)) hg (fun Q k => ?_) (fun Q k => ?_)
    · show fl_Tq (pw_P L xs) 125 0 [some (.inr (.inr (.inl (0, 0)))), some (.inl a), some (.inl b)] [] (f, l) Q
      refine x_ruleOf_A (fun h1 => ?_) (fun _ h1 => ?_) (fun _ _ h1 => ?_) (fun _ _ _ => x_ruleOf_B hA hA1 hB hB1 ?_)
      · exact absurd (h1.trans cm) hN
      · rw [t2_w0, z, c0, ed] at h1
        exact absurd h.1 h1
      · rw [t2_w0, c0, c4] at h1
        exact absurd h.2 h1
      · rw [e]
        exact k
    · show fl_Tq (pw_P L xs) 272 0 [some (.inr (.inr (.inl (76, 277)))), some (.inl a), some (.inl b)] [] (f, l) Q
      refine y_ruleOf_A (fun h1 => ?_) (fun _ h1 => ?_) (fun _ _ h1 => ?_) (fun _ _ _ => y_ruleOf_B hA hA1 hB hB1 k)
      · exact absurd (h1.trans cm) hN
      · rw [r_i0, c0, ed] at h1
        exact absurd h.1 h1
      · rw [r_i0, c0, c4] at h1
        exact absurd h.2 h1
  · refine t2_qq (y := (-1000000000 : Int32)) hg (fun Q k => ?_) (fun Q k => ?_)
    · show fl_Tq (pw_P L xs) 125 0 [some (.inr (.inr (.inl (0, 0)))), some (.inl a), some (.inl b)] [] (f, l) Q
      refine x_ruleOf_A (fun h1 => absurd (h1.trans cm) hN) (fun _ _ => k) (fun _ _ _ => k) (fun _ h1 h2 => ?_)
      rw [t2_w0, z, c0, ed, Classical.not_not] at h1
      rw [t2_w0, c0, c4, Classical.not_not] at h2
      exact absurd ⟨h1, h2⟩ h
    · show fl_Tq (pw_P L xs) 272 0 [some (.inr (.inr (.inl (76, 277)))), some (.inl a), some (.inl b)] [] (f, l) Q
      refine y_ruleOf_A (fun h1 => absurd (h1.trans cm) hN) (fun _ _ => k) (fun _ _ _ => k) (fun _ h1 h2 => ?_)
      rw [r_i0, c0, ed, Classical.not_not] at h1
      rw [r_i0, c0, c4, Classical.not_not] at h2
      exact absurd ⟨h1, h2⟩ h

end
