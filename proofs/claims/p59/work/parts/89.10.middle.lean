/-! ===== rank, middle: some cell has the place ===== -/
theorem at_php : ∀ (n : Nat) (f : Nat → Nat), (∀ c, c < n → f c < n) → (∀ c d, c < n → d < n → f c = f d → c = d) → ∀ i, i < n → ∃ c, c < n ∧ f c = i := by
  intro n
  induction n with
  | zero => intro f _ _ i hi; omega
  | succ n ih =>
    intro f h1 h2 i hi
    have hg1 : ∀ c, c < n → (if f c = n then f n else f c) < n := by
      intro c hc
      have := h1 c (by omega)
      have := h1 n (by omega)
      split
      · rename_i e
        have : f n ≠ n := fun e2 => by have := h2 c n (by omega) (by omega) (by omega); omega
        omega
      · omega
    have hg2 : ∀ c d, c < n → d < n → (if f c = n then f n else f c) = (if f d = n then f n else f d) → c = d := by
      intro c d hc hd e
      split at e
      · split at e
        · exact h2 c d (by omega) (by omega) (by omega)
        · have := h2 n d (by omega) (by omega) e; omega
      · split at e
        · have := h2 c n (by omega) (by omega) e; omega
        · exact h2 c d (by omega) (by omega) e
    by_cases hin : i = f n
    · exact ⟨n, by omega, hin.symm⟩
    by_cases hi2 : i < n
    · obtain ⟨c, hc, e⟩ := ih (fun c => if f c = n then f n else f c) hg1 hg2 i hi2
      try dsimp only at e
      split at e
      · exact absurd e.symm hin
      · exact ⟨c, by omega, e⟩
    · have hi3 : i = n := by omega
      subst hi3
      have hfn : f i < i := by have := h1 i (by omega); omega
      obtain ⟨c, hc, e⟩ := ih (fun c => if f c = i then f i else f c) hg1 hg2 (f i) hfn
      try dsimp only at e
      split at e
      · rename_i e2
        exact ⟨c, by omega, e2⟩
      · have := h2 c i (by omega) (by omega) e; omega
/-- how many below n are so -/
def at_ct (P : Nat → Bool) : Nat → Nat
  | 0 => 0
  | n + 1 => at_ct P n + (if P n then 1 else 0)
theorem at_ct_le (P : Nat → Bool) : ∀ n, at_ct P n ≤ n := by
  intro n
  induction n with
  | zero => exact Nat.le_refl 0
  | succ n ih => unfold at_ct; split <;> omega
theorem at_ct_mono {P R : Nat → Bool} (h : ∀ e, P e = true → R e = true) : ∀ n, at_ct P n ≤ at_ct R n := by
  intro n
  induction n with
  | zero => exact Nat.le_refl 0
  | succ n ih =>
    unfold at_ct
    cases hp : P n with
    | true => rw [if_pos rfl, if_pos (h n hp)]; omega
    | false => rw [if_neg (by decide)]; omega
theorem at_ct_lt {P R : Nat → Bool} (h : ∀ e, P e = true → R e = true) {d : Nat} (h1 : P d = false) (h2 : R d = true) : ∀ n, d < n → at_ct P n < at_ct R n := by
  intro n
  induction n with
  | zero => intro hd; omega
  | succ n ih =>
    intro hd
    unfold at_ct
    by_cases e : d = n
    · subst e
      rw [h1, h2, if_neg (by decide), if_pos rfl]
      have := at_ct_mono h d
      omega
    · have := ih (by omega)
      cases hp : P n with
      | true => rw [if_pos rfl, if_pos (h n hp)]; omega
      | false => rw [if_neg (by decide)]; omega
theorem at_ct_tt {P : Nat → Bool} {d : Nat} (h1 : P d = false) (n : Nat) (hd : d < n) : at_ct P n < n := by
  have h := at_ct_lt (P := P) (R := fun _ => true) (fun _ _ => rfl) h1 rfl n hd
  have := at_ct_le (fun _ => true) n
  omega
/-- e comes ahead of c -/
def at_bf (f : Nat → Int) (c e : Nat) : Bool := decide (f c < f e) || (decide (f e = f c) && decide (e < c))
theorem at_bf_tr {f : Nat → Int} {a b c : Nat} (h1 : at_bf f c b = true) (h2 : at_bf f b a = true) : at_bf f c a = true := by
  unfold at_bf at h1 h2 ⊢
  simp only [Bool.or_eq_true, Bool.and_eq_true, decide_eq_true_eq] at h1 h2 ⊢
  omega
theorem at_bf_ir (f : Nat → Int) (c : Nat) : at_bf f c c = false := by
  unfold at_bf
  simp
theorem at_bf_to {f : Nat → Int} {c d : Nat} (h : c ≠ d) : at_bf f c d = true ∨ at_bf f d c = true := by
  unfold at_bf
  simp only [Bool.or_eq_true, Bool.and_eq_true, decide_eq_true_eq]
  omega
theorem at_rank_ex (f : Nat → Int) (n i : Nat) (hi : i < n) : ∃ c, c < n ∧ at_ct (at_bf f c) n = i := by
  refine at_php n (fun c => at_ct (at_bf f c) n) (fun c hc => at_ct_tt (at_bf_ir f c) n hc) (fun c d hc hd e => ?_) i hi
  try dsimp only at e
  rcases Classical.em (c = d) with h | h
  · exact h
  · exfalso
    rcases at_bf_to (f := f) h with h1 | h1
    · have := at_ct_lt (P := at_bf f d) (R := at_bf f c) (fun x hx => at_bf_tr h1 hx) (at_bf_ir f d) h1 n hd
      omega
    · have := at_ct_lt (P := at_bf f c) (R := at_bf f d) (fun x hx => at_bf_tr h1 hx) (at_bf_ir f c) h1 n hc
      omega
section ATMI
variable {L : Nat} {xs : Nat → Int32} {m : fl_M} {Q : Option fl_V → fl_M → Prop}
def at_pv (m : fl_M) (c : Nat) : Int32 := (((1000 : Int64) * (m.1 280 (444 + 61 * c + 1)).toInt64) / ((Int16.ofInt 3600).toInt32 * m.1 280 (444 + 61 * c + 0)).toInt64).toInt32
theorem at_fullx {c : Nat} {ci : Int32} (hc : ci.toInt = c) (hc2 : c < 16) (k : Q (some (.inl ((Int16.ofInt 3600).toInt32 * m.1 280 (444 + 61 * c + 0)))) m) : fl_Tq (pw_P L xs) 195 0 (fl_args (am_mxl (pw_P L xs) 195) [at_this, .inl ci]) [] m Q := by
  refine fl_Tq.stp rfl rfl (fl_bo rfl) rfl ?_
  refine fl_Tq.stp rfl rfl (fl_bo rfl) rfl ?_
  refine fl_Tq.stp rfl rfl (fl_bo rfl) rfl ?_
  refine fl_Tq.stp rfl rfl (fl_bo rfl) rfl ?_
  refine fl_Tq.cal rfl rfl (fl_bo rfl) rfl ?_
  refine at_get (w := 0) hc (by decide) hc2 (by decide) ?_
  refine fl_Tq.stp rfl rfl (fl_bo rfl) rfl ?_
  exact fl_Tq.ret rfl rfl rfl k
theorem fl_Tq.dvJ {P : am_Pg} {mi pc : Nat} {lv : fl_L} {r : List fl_V} {x y : Int64} (hc : am_code P mi pc = some .ldiv) (hok : ∀ v ∈ (.inr (.inl y) :: .inr (.inl x) :: r : List fl_V), fl_ok m.2.2 v) (hy : y ≠ 0) (q : fl_Tq P mi (pc + 1) lv (.inr (.inl (x / y)) :: r) m Q) : fl_Tq P mi pc lv (.inr (.inl y) :: .inr (.inl x) :: r) m Q := fl_Tq.stp hc rfl hok (show (if y = 0 then none else some (pc + 1, lv, Sum.inr (Sum.inl (x / y)) :: r, m) : Option fl_C) = _ from if_neg hy) q
theorem at_pof {c : Nat} {ci : Int32} (hc : ci.toInt = c) (hc2 : c < 16) (hr : 100 ≤ at_w m (444 + 61 * c) ∧ at_w m (444 + 61 * c) ≤ 9999) (k : Q (some (.inl (at_pv m c))) m) : fl_Tq (pw_P L xs) 197 0 (fl_args (am_mxl (pw_P L xs) 197) [at_this, .inl ci]) [] m Q := by
  have e1 : (Int16.ofInt 3600).toInt32.toInt = 3600 := by decide +kernel
  have e2 : (m.1 280 (444 + 61 * c + 0)).toInt = at_w m (444 + 61 * c) := rfl
  have e3 : ((Int16.ofInt 3600).toInt32 * m.1 280 (444 + 61 * c + 0)).toInt = 3600 * at_w m (444 + 61 * c) := by
    rw [at_mul32] <;> rw [e1, e2] <;> omega
  refine fl_Tq.stp rfl rfl (fl_bo rfl) rfl ?_
  refine fl_Tq.stp rfl rfl (fl_bo rfl) rfl ?_
  refine fl_Tq.stp rfl rfl (fl_bo rfl) rfl ?_
  refine fl_Tq.stp rfl rfl (fl_bo rfl) rfl ?_
  refine fl_Tq.stp rfl rfl (fl_bo rfl) rfl ?_
  refine fl_Tq.cal rfl rfl (fl_bo rfl) rfl ?_
  refine at_get (w := 1) hc (by decide) hc2 (by decide) ?_
  refine fl_Tq.cal rfl rfl (fl_bo rfl) rfl ?_
  refine fl_Tq.stp rfl rfl (fl_bo rfl) rfl ?_
  refine fl_Tq.stp rfl rfl (fl_bo rfl) rfl ?_
  refine fl_Tq.stp rfl rfl (fl_bo rfl) rfl ?_
  refine fl_Tq.stp rfl rfl (fl_bo rfl) rfl ?_
  refine fl_Tq.stp rfl rfl (fl_bo rfl) rfl ?_
  refine fl_Tq.stp rfl rfl (fl_bo rfl) rfl ?_
  refine fl_Tq.cal rfl rfl (fl_bo rfl) rfl ?_
  refine at_fullx hc hc2 ?_
  refine fl_Tq.stp rfl rfl (fl_bo rfl) rfl ?_
  refine fl_Tq.dvJ rfl (fl_bo rfl) ?_ ?_
  · intro h
    have h2 : ((Int16.ofInt 3600).toInt32 * m.1 280 (444 + 61 * c + 0)).toInt64.toInt = 0 := by rw [h]; rfl
    rw [Int32.toInt_toInt64, e3] at h2
    omega
  refine fl_Tq.stp rfl rfl (fl_bo rfl) rfl ?_
  refine fl_Tq.ret rfl rfl rfl ?_
  exact fl_Tq.ret rfl rfl rfl k
theorem at_rank {i n : Nat} {ii : Int32} (hg : at_Good at_XI m) (hi : ii.toInt = i) (hn : (m.1 280 2).toInt = n) (hin : i < n) (k : ∀ c : Nat, c < n → Q (some (.inl (Int32.ofNat c))) m) : fl_Tq (pw_P L xs) 295 0 (fl_args (am_mxl (pw_P L xs) 295) [at_this, .inl ii]) [] m Q := by
  have w2 : 0 ≤ (m.1 280 2).toInt ∧ (m.1 280 2).toInt ≤ 16 := hg.w2
  have hA := hg.AK
  have cap : ∀ c : Nat, c < n → 100 ≤ at_w m (444 + 61 * c) ∧ at_w m (444 + 61 * c) ≤ 9999 := by
    intro c hc
    have h16 : c < 16 := by omega
    obtain ⟨x1, -⟩ := hA.2.1 c h16 (by show (c : Int) < (m.1 280 2).toInt; omega)
    have := hA.1 (1, 444, 61, 16, 1, 0, 9999) (by decide +kernel) (444 + 61 * c) (by omega) ⟨c, 0, by omega, by show (c : Int) ≤ 16 - 1; omega, by decide, by decide, by show ((444 + 61 * c : Nat) : Int) = 444 + 61 * (c : Int) + 0; omega⟩
    exact ⟨x1, this.2⟩
  obtain ⟨c0, hc0, e0⟩ := at_rank_ex (fun c => (at_pv m c).toInt) n i hin
  have inner : ∀ (c : Nat), c < n → ∀ (d e : Nat), e + d = n → (∀ (v : Int32), v.toInt = at_ct (at_bf (fun c => (at_pv m c).toInt) c) n → fl_Tq (pw_P L xs) 295 76 [some at_this, some (.inl ii), some (.inl (Int32.ofNat c)), some (.inl v), some (.inl (Int32.ofNat n))] [] m Q) → ∀ v : Int32, v.toInt = at_ct (at_bf (fun c => (at_pv m c).toInt) c) e → fl_Tq (pw_P L xs) 295 17 [some at_this, some (.inl ii), some (.inl (Int32.ofNat c)), some (.inl v), some (.inl (Int32.ofNat e))] [] m Q := by
    intro c hc d
    have ec := at_ofN (k := c) (by omega)
    induction d with
    | zero =>
      intro e he kk v hv
      have he : e = n := by omega
      subst he
      have ee := at_ofN (k := e) (by omega)
      refine fl_Tq.stp rfl rfl (fl_bo rfl) rfl ?_
      refine fl_Tq.stp rfl rfl (fl_bo rfl) rfl ?_
      refine fl_Tq.stp rfl rfl (fl_bo rfl) rfl ?_
      refine fl_Tq.stp rfl rfl (fl_bo rfl) rfl ?_
      refine fl_Tq.ld (p := 280) (τ := 79) (n := 29780) (z := (0, 0, 0)) (k := 2) rfl (fl_bo rfl) rfl rfl (by decide) ?_
      refine fl_Tq.jt rfl (fl_bo rfl) ?_ rfl ?_
      · rw [at_c2, ee]
        exact decide_eq_true (by omega)
      exact kk v hv
    | succ d ih =>
      intro e he kk v hv
      have ee := at_ofN (k := e) (by omega)
      have hle := at_ct_le (at_bf (fun c => (at_pv m c).toInt) c) e
      refine fl_Tq.stp rfl rfl (fl_bo rfl) rfl ?_
      refine fl_Tq.stp rfl rfl (fl_bo rfl) rfl ?_
      refine fl_Tq.stp rfl rfl (fl_bo rfl) rfl ?_
      refine fl_Tq.stp rfl rfl (fl_bo rfl) rfl ?_
      refine fl_Tq.ld (p := 280) (τ := 79) (n := 29780) (z := (0, 0, 0)) (k := 2) rfl (fl_bo rfl) rfl rfl (by decide) ?_
      refine fl_Tq.jf rfl (fl_bo rfl) ?_ rfl ?_
      · rw [at_c2, ee]
        exact decide_eq_false (by omega)
      have fin : ∀ b : Int32, (b.toInt = if at_bf (fun c => (at_pv m c).toInt) c e = true then 1 else 0) → fl_Tq (pw_P L xs) 295 68 [some at_this, some (.inl ii), some (.inl (Int32.ofNat c)), some (.inl v), some (.inl (Int32.ofNat e))] [.inl b, .inl v] m Q := by
        intro b hb
        refine fl_Tq.stp rfl rfl (fl_bo rfl) rfl ?_
        refine fl_Tq.stp rfl rfl (fl_bo rfl) rfl ?_
        refine fl_Tq.stp rfl rfl (fl_bo rfl) rfl ?_
        refine fl_Tq.stp rfl rfl (fl_bo rfl) rfl ?_
        have hv2 : (v + b).toInt = at_ct (at_bf (fun c => (at_pv m c).toInt) c) (e + 1) := by
          unfold at_ct
          rw [at_add32] <;> rw [hv, hb] <;> split <;> omega
        have := ih (e + 1) (by omega) kk (v + b) hv2
        rw [← at_inc (by omega)] at this
        exact this
      have t1 : ∀ b : Int32, b = Int32.ofInt 1 → b.toInt = 1 := fun b h => by rw [h]; rfl
      have t0 : ∀ b : Int32, b = Int32.ofInt 0 → b.toInt = 0 := fun b h => by rw [h]; rfl
      refine fl_Tq.stp rfl rfl (fl_bo rfl) rfl ?_
      refine fl_Tq.stp rfl rfl (fl_bo rfl) rfl ?_
      refine fl_Tq.stp rfl rfl (fl_bo rfl) rfl ?_
      refine fl_Tq.cal rfl rfl (fl_bo rfl) rfl ?_
      refine at_pof ee (by omega) (cap e (by omega)) ?_
      refine fl_Tq.stp rfl rfl (fl_bo rfl) rfl ?_
      refine fl_Tq.stp rfl rfl (fl_bo rfl) rfl ?_
      refine fl_Tq.cal rfl rfl (fl_bo rfl) rfl ?_
      refine at_pof ec (by omega) (cap c hc) ?_
      by_cases h1 : (at_pv m c).toInt < (at_pv m e).toInt
      · refine fl_Tq.jt rfl (fl_bo rfl) ?_ rfl ?_
        · rw [at_c2]
          exact decide_eq_true (by omega)
        refine fl_Tq.stp rfl rfl (fl_bo rfl) rfl ?_
        refine fl_Tq.stp rfl rfl (fl_bo rfl) rfl ?_
        refine fin _ ?_
        rw [t1 _ rfl, if_pos]
        unfold at_bf
        simp [h1]
      refine fl_Tq.jf rfl (fl_bo rfl) ?_ rfl ?_
      · rw [at_c2]
        exact decide_eq_false (by omega)
      refine fl_Tq.stp rfl rfl (fl_bo rfl) rfl ?_
      refine fl_Tq.stp rfl rfl (fl_bo rfl) rfl ?_
      refine fl_Tq.cal rfl rfl (fl_bo rfl) rfl ?_
      refine at_pof ee (by omega) (cap e (by omega)) ?_
      refine fl_Tq.stp rfl rfl (fl_bo rfl) rfl ?_
      refine fl_Tq.stp rfl rfl (fl_bo rfl) rfl ?_
      refine fl_Tq.cal rfl rfl (fl_bo rfl) rfl ?_
      refine at_pof ec (by omega) (cap c hc) ?_
      by_cases h2 : (at_pv m e).toInt = (at_pv m c).toInt
      · refine fl_Tq.jf rfl (fl_bo rfl) ?_ rfl ?_
        · rw [at_c2]
          show (!decide _) = false
          rw [decide_eq_true (by omega)]
          rfl
        refine fl_Tq.stp rfl rfl (fl_bo rfl) rfl ?_
        refine fl_Tq.stp rfl rfl (fl_bo rfl) rfl ?_
        by_cases h3 : e < c
        · refine fl_Tq.jf rfl (fl_bo rfl) ?_ rfl ?_
          · rw [at_c2, ee, ec]
            exact decide_eq_false (by omega)
          refine fl_Tq.stp rfl rfl (fl_bo rfl) rfl ?_
          refine fl_Tq.stp rfl rfl (fl_bo rfl) rfl ?_
          refine fin _ ?_
          rw [t1 _ rfl, if_pos]
          unfold at_bf
          simp [h2, h3]
        · refine fl_Tq.jt rfl (fl_bo rfl) ?_ rfl ?_
          · rw [at_c2, ee, ec]
            exact decide_eq_true (by omega)
          refine fl_Tq.stp rfl rfl (fl_bo rfl) rfl ?_
          refine fin _ ?_
          rw [t0 _ rfl, if_neg]
          unfold at_bf
          simp [h2, h3]
      · refine fl_Tq.jt rfl (fl_bo rfl) ?_ rfl ?_
        · rw [at_c2]
          show (!decide _) = true
          rw [decide_eq_false (by omega)]
          rfl
        refine fl_Tq.stp rfl rfl (fl_bo rfl) rfl ?_
        refine fin _ ?_
        rw [t0 _ rfl, if_neg]
        unfold at_bf
        simp [h1, h2]
  have outer : ∀ (d c : Nat) (o3 o4 : Option fl_V), c + d = c0 → fl_Tq (pw_P L xs) 295 2 [some at_this, some (.inl ii), some (.inl (Int32.ofNat c)), o3, o4] [] m Q := by
    intro d
    induction d with
    | zero =>
      intro c o3 o4 hc
      have hc : c = c0 := by omega
      subst hc
      have ec := at_ofN (k := c) (by omega)
      refine fl_Tq.stp rfl rfl (fl_bo rfl) rfl ?_
      refine fl_Tq.stp rfl rfl (fl_bo rfl) rfl ?_
      refine fl_Tq.stp rfl rfl (fl_bo rfl) rfl ?_
      refine fl_Tq.stp rfl rfl (fl_bo rfl) rfl ?_
      refine fl_Tq.ld (p := 280) (τ := 79) (n := 29780) (z := (0, 0, 0)) (k := 2) rfl (fl_bo rfl) rfl rfl (by decide) ?_
      refine fl_Tq.jf rfl (fl_bo rfl) ?_ rfl ?_
      · rw [at_c2, ec]
        exact decide_eq_false (by omega)
      refine fl_Tq.stp rfl rfl (fl_bo rfl) rfl ?_
      refine fl_Tq.stp rfl rfl (fl_bo rfl) rfl ?_
      refine fl_Tq.stp rfl rfl (fl_bo rfl) rfl ?_
      refine fl_Tq.stp rfl rfl (fl_bo rfl) rfl ?_
      refine inner c hc0 n 0 (by omega) (fun v hv => ?_) _ rfl
      refine fl_Tq.stp rfl rfl (fl_bo rfl) rfl ?_
      refine fl_Tq.stp rfl rfl (fl_bo rfl) rfl ?_
      refine fl_Tq.jf rfl (fl_bo rfl) ?_ rfl ?_
      · rw [at_c2, hv, e0, hi]
        show (!decide _) = false
        rw [decide_eq_true (by omega)]
        rfl
      refine fl_Tq.stp rfl rfl (fl_bo rfl) rfl ?_
      exact fl_Tq.ret rfl rfl rfl (k c hc0)
    | succ d ih =>
      intro c o3 o4 hc
      have ec := at_ofN (k := c) (by omega)
      refine fl_Tq.stp rfl rfl (fl_bo rfl) rfl ?_
      refine fl_Tq.stp rfl rfl (fl_bo rfl) rfl ?_
      refine fl_Tq.stp rfl rfl (fl_bo rfl) rfl ?_
      refine fl_Tq.stp rfl rfl (fl_bo rfl) rfl ?_
      refine fl_Tq.ld (p := 280) (τ := 79) (n := 29780) (z := (0, 0, 0)) (k := 2) rfl (fl_bo rfl) rfl rfl (by decide) ?_
      refine fl_Tq.jf rfl (fl_bo rfl) ?_ rfl ?_
      · rw [at_c2, ec]
        exact decide_eq_false (by omega)
      refine fl_Tq.stp rfl rfl (fl_bo rfl) rfl ?_
      refine fl_Tq.stp rfl rfl (fl_bo rfl) rfl ?_
      refine fl_Tq.stp rfl rfl (fl_bo rfl) rfl ?_
      refine fl_Tq.stp rfl rfl (fl_bo rfl) rfl ?_
      refine inner c (by omega) n 0 (by omega) (fun v hv => ?_) _ rfl
      refine fl_Tq.stp rfl rfl (fl_bo rfl) rfl ?_
      refine fl_Tq.stp rfl rfl (fl_bo rfl) rfl ?_
      by_cases hvi : v.toInt = ii.toInt
      · refine fl_Tq.jf rfl (fl_bo rfl) ?_ rfl ?_
        · rw [at_c2]
          show (!decide _) = false
          rw [decide_eq_true (by omega)]
          rfl
        refine fl_Tq.stp rfl rfl (fl_bo rfl) rfl ?_
        exact fl_Tq.ret rfl rfl rfl (k c (by omega))
      · refine fl_Tq.jt rfl (fl_bo rfl) ?_ rfl ?_
        · rw [at_c2]
          show (!decide _) = true
          rw [decide_eq_false (by omega)]
          rfl
        refine fl_Tq.stp rfl rfl (fl_bo rfl) rfl ?_
        refine fl_Tq.stp rfl rfl (fl_bo rfl) rfl ?_
        have := ih (c + 1) (some (.inl v)) (some (.inl (Int32.ofNat n))) (by omega)
        rw [← at_inc (by omega)] at this
        exact this
  refine fl_Tq.stp rfl rfl (fl_bo rfl) rfl ?_
  refine fl_Tq.stp rfl rfl (fl_bo rfl) rfl ?_
  exact outer c0 0 none none (by omega)
def at_cPO2 : at_C := (197, [.inl (76, some 277), .inr (false, 0, 15)], [(1, 0)], some (.inr (false, 0, 1000)), false, [])
set_option maxRecDepth 1000000 in
theorem at_cPO2_k : at_chk [] at_JT 4000 at_cPO2 = true := by decide +kernel
theorem at_v296 : at_Valid at_XI (pw_P L xs) (296, [.inl (76, some 277)], [], some (.inr (false, -1, 1000)), false, []) := by
  intro m vs hg hk _
  obtain ⟨r, rfl, hk2⟩ := at_ag277 hk
  have hr0 := at_agnil (vs := r) hk2
  subst hr0
  have w2 : 0 ≤ (m.1 280 2).toInt ∧ (m.1 280 2).toInt ≤ 16 := hg.w2
  obtain ⟨n, hn⟩ : ∃ n : Nat, (m.1 280 2).toInt = n := ⟨(m.1 280 2).toInt.toNat, by omega⟩
  refine fl_Tq.stp rfl rfl (fl_bo rfl) rfl ?_
  refine fl_Tq.stp rfl rfl (fl_bo rfl) rfl ?_
  refine fl_Tq.stp rfl rfl (fl_bo rfl) rfl ?_
  refine fl_Tq.ld (p := 280) (τ := 79) (n := 29780) (z := (0, 0, 0)) (k := 2) rfl (fl_bo rfl) rfl rfl (by decide) ?_
  by_cases h0 : n = 0
  · refine fl_Tq.zf rfl (fl_bo rfl) ?_ rfl ?_
    · rw [at_c1, hn]
      show (!decide _) = false
      rw [decide_eq_true (by omega)]
      rfl
    refine fl_Tq.stp rfl rfl (fl_bo rfl) rfl ?_
    refine fl_Tq.stp rfl rfl (fl_bo rfl) rfl ?_
    refine fl_Tq.ret rfl rfl rfl ⟨hg, at_MD.rf, ⟨_, rfl, by decide +kernel, by decide +kernel, fun h => by cases h⟩⟩
  · refine fl_Tq.zt rfl (fl_bo rfl) ?_ rfl ?_
    · rw [at_c1, hn]
      show (!decide _) = true
      rw [decide_eq_false (by omega)]
      rfl
    refine fl_Tq.stp rfl rfl (fl_bo rfl) rfl ?_
    refine fl_Tq.stp rfl rfl (fl_bo rfl) rfl ?_
    refine fl_Tq.stp rfl rfl (fl_bo rfl) rfl ?_
    refine fl_Tq.stp rfl rfl (fl_bo rfl) rfl ?_
    refine fl_Tq.stp rfl rfl (fl_bo rfl) rfl ?_
    refine fl_Tq.ld (p := 280) (τ := 79) (n := 29780) (z := (0, 0, 0)) (k := 2) rfl (fl_bo rfl) rfl rfl (by decide) ?_
    refine fl_Tq.stp rfl rfl (fl_bo rfl) rfl ?_
    refine fl_Tq.dv rfl (fl_bo rfl) (by decide +kernel) ?_
    have e2 : (Int32.ofInt 2).toInt = 2 := rfl
    have eh : (m.1 280 2 / Int32.ofInt 2).toInt = ((n / 2 : Nat) : Int) := by
      rw [Int32.toInt_div, e2, hn, Int.tdiv_eq_ediv_of_nonneg (by omega)]
      rw [Int.bmod_eq_of_le (by omega) (by omega)]
      omega
    refine fl_Tq.cal rfl rfl (fl_bo rfl) rfl ?_
    refine at_rank hg eh hn (by omega) (fun c hc => ?_)
    have ec := at_ofN (k := c) (by omega)
    refine fl_Tq.cal rfl rfl (fl_bo rfl) rfl ?_
    refine fl_Tq.mono (at_vok at_cPO2_k m [at_this, .inl (Int32.ofNat c)] hg ⟨at_k277 _, ⟨_, rfl, by omega, by omega⟩, True.intro⟩ (fun q hq => by cases List.mem_singleton.mp hq; exact ⟨_, rfl, by unfold at_w; rw [ec]; omega⟩)) (fun v m1 ⟨hg1, hm1, hv1⟩ => ?_)
    obtain ⟨x, rfl, x1, x2, -⟩ := hv1
    exact fl_Tq.ret rfl rfl rfl ⟨hg1, hm1, ⟨x, rfl, by omega, x2, fun h => by cases h⟩⟩
end ATMI
