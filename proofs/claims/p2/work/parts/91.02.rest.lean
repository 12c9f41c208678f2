/-! ===== the rest curve: both programs' one function of the part; the part by volts ===== -/
def t2_RS (f : Nat → Nat → Int32) : Prop := ∀ j : Nat, f 279 j = (at_i0 279).getD j 0
theorem at_XI.rs {m : fl_M} (h : at_XI m) : t2_RS m.1 := fun j => h.2.2.2.2.2.2.2 279 j (Or.inr rfl)
def t2_T (k : Nat) : Int := (pw_tbl 1 k).toInt
def t2_rv (p : Nat) : Int := if 10 ≤ p / 100 then t2_T 10 else t2_T (p / 100) + (t2_T (p / 100 + 1) - t2_T (p / 100)) * ((p % 100 : Nat) : Int) / 100
theorem t2_Tb : ∀ k : Fin 11, 3000 ≤ t2_T k.val ∧ t2_T k.val ≤ 4200 ∧ ((at_i0 279).getD k.val 0) = pw_tbl 1 k.val := by decide +kernel
theorem t2_Td : ∀ k : Fin 10, 0 ≤ t2_T (k.val + 1) - t2_T k.val ∧ t2_T (k.val + 1) - t2_T k.val ≤ 450 := by decide +kernel
theorem t2_mn1 : ∀ p : Fin 1000, t2_rv p.val ≤ t2_rv (p.val + 1) := by decide +kernel
theorem t2_mn {p q : Nat} (h : p ≤ q) (hq : q ≤ 1000) : t2_rv p ≤ t2_rv q := by
  obtain ⟨d, rfl⟩ := Nat.exists_eq_add_of_le h
  clear h
  induction d with
  | zero => exact Int.le_refl _
  | succ d ih =>
    have h1 := ih (by omega)
    have h2 := t2_mn1 ⟨p + d, by omega⟩
    exact Int.le_trans h1 h2
theorem at_div32 {x y : Int32} (hx : 0 ≤ x.toInt) (hy : 0 < y.toInt) : (x / y).toInt = x.toInt / y.toInt := by
  have hb := at_i32 x
  have h1 : x.toInt / y.toInt ≤ x.toInt := Int.ediv_le_self _ hx
  have h2 : 0 ≤ x.toInt / y.toInt := Int.ediv_nonneg hx (by omega)
  rw [Int32.toInt_div, Int.tdiv_eq_ediv_of_nonneg hx]
  exact Int.bmod_eq_of_le (by omega) (by omega)
section T2R
variable {L : Nat} {xs : Nat → Int32} {m : fl_M} {Q : Option fl_V → fl_M → Prop}
/-- the last step of both: from the curve's two points and what is above -/
theorem t2_end {a b d s r : Int32} {p : Nat} (hp : p / 100 < 10) (ea : a.toInt = t2_T (p / 100)) (eb : b.toInt = t2_T (p / 100 + 1)) (er : r.toInt = ((p % 100 : Nat) : Int)) (es : s.toInt = 100) (ed : d = b - a) : (a + d * r / s).toInt = t2_rv p := by
  obtain ⟨t1, t2, -⟩ := t2_Tb ⟨p / 100, by omega⟩
  obtain ⟨t3, t4, -⟩ := t2_Tb ⟨p / 100 + 1, by omega⟩
  obtain ⟨t5, t6⟩ := t2_Td ⟨p / 100, hp⟩
  dsimp only at t1 t2 t3 t4 t5 t6
  have e1 : d.toInt = t2_T (p / 100 + 1) - t2_T (p / 100) := by rw [ed, at_sub32] <;> rw [ea, eb] <;> omega
  have hm : 0 ≤ (t2_T (p / 100 + 1) - t2_T (p / 100)) * ((p % 100 : Nat) : Int) ∧ (t2_T (p / 100 + 1) - t2_T (p / 100)) * ((p % 100 : Nat) : Int) ≤ 450 * 99 := by
    refine ⟨Int.mul_nonneg t5 (by omega), ?_⟩
    exact Int.mul_le_mul t6 (by omega) (by omega) (by omega)
  have e2 : (d * r).toInt = (t2_T (p / 100 + 1) - t2_T (p / 100)) * ((p % 100 : Nat) : Int) := by rw [at_mul32] <;> rw [e1, er] <;> omega
  have e3 : (d * r / s).toInt = (t2_T (p / 100 + 1) - t2_T (p / 100)) * ((p % 100 : Nat) : Int) / 100 := by
    rw [at_div32 (by omega) (by omega), e2, es]
  unfold t2_rv
  rw [if_neg (by omega), at_add32] <;> rw [ea, e3] <;> omega
theorem t2_restBy {x : Int32} {p : Nat} (hx : x.toInt = p) (k : ∀ v : Int32, v.toInt = t2_rv p → Q (some (.inl v)) m) : fl_Tq (pw_P L xs) 178 0 (fl_args (am_mxl (pw_P L xs) 178) [.inl x]) [] m Q := by
  have e100 : (Int8.ofInt 100).toInt32.toInt = 100 := by decide +kernel
  have e1 : (Int32.ofInt 1).toInt = 1 := rfl
  have hb := at_i32 x
  have ek : (x / (Int8.ofInt 100).toInt32).toInt = ((p / 100 : Nat) : Int) := by
    rw [at_div32 (by omega) (by omega), e100, hx]; omega
  have e10 : (Int32.ofNat 11 - Int32.ofInt 1).toInt = 10 := by decide +kernel
  refine fl_Tq.stp rfl rfl (fl_bo rfl) rfl ?_
  refine fl_Tq.zt rfl (fl_bo rfl) (by rw [at_c1, hx]; exact decide_eq_true (by omega)) rfl ?_
  refine fl_Tq.stp rfl rfl (fl_bo rfl) rfl ?_
  refine fl_Tq.stp rfl rfl (fl_bo rfl) rfl ?_
  refine fl_Tq.stp rfl rfl (fl_bo rfl) rfl ?_
  refine fl_Tq.stp rfl rfl (fl_bo rfl) rfl ?_
  refine fl_Tq.dv rfl (fl_bo rfl) (by decide +kernel) ?_
  refine fl_Tq.stp rfl rfl (fl_bo rfl) rfl ?_
  refine fl_Tq.stp rfl rfl (fl_bo rfl) rfl ?_
  refine fl_Tq.stp rfl rfl (fl_bo rfl) rfl ?_
  refine fl_Tq.stp rfl rfl (fl_bo rfl) rfl ?_
  refine fl_Tq.stp rfl rfl (fl_bo rfl) rfl ?_
  refine fl_Tq.stp rfl rfl (fl_bo rfl) rfl ?_
  by_cases hp : p / 100 < 10
  · refine fl_Tq.jt rfl (fl_bo rfl) ?_ rfl ?_
    · show am_c2 .lt (x / (Int8.ofInt 100).toInt32) (Int32.ofNat 11 - Int32.ofInt 1) = true
      rw [at_c2, ek, e10]
      exact decide_eq_true (by omega)
    have ek1 : (x / (Int8.ofInt 100).toInt32 + Int32.ofInt 1).toInt = ((p / 100 + 1 : Nat) : Int) := by rw [at_add32] <;> rw [ek, e1] <;> omega
    refine fl_Tq.stp rfl rfl (fl_bo rfl) rfl ?_
    refine fl_Tq.stp rfl rfl (fl_bo rfl) rfl ?_
    refine fl_Tq.tld (n := 11) (f := pw_tbl 1) (k := p / 100) rfl (fl_bo rfl) rfl ek (by omega) ?_
    refine fl_Tq.stp rfl rfl (fl_bo rfl) rfl ?_
    refine fl_Tq.stp rfl rfl (fl_bo rfl) rfl ?_
    refine fl_Tq.stp rfl rfl (fl_bo rfl) rfl ?_
    refine fl_Tq.stp rfl rfl (fl_bo rfl) rfl ?_
    refine fl_Tq.tld (n := 11) (f := pw_tbl 1) (k := p / 100 + 1) rfl (fl_bo rfl) rfl ek1 (by omega) ?_
    refine fl_Tq.stp rfl rfl (fl_bo rfl) rfl ?_
    refine fl_Tq.stp rfl rfl (fl_bo rfl) rfl ?_
    refine fl_Tq.tld (n := 11) (f := pw_tbl 1) (k := p / 100) rfl (fl_bo rfl) rfl ek (by omega) ?_
    refine fl_Tq.stp rfl rfl (fl_bo rfl) rfl ?_
    refine fl_Tq.stp rfl rfl (fl_bo rfl) rfl ?_
    refine fl_Tq.stp rfl rfl (fl_bo rfl) rfl ?_
    refine fl_Tq.rm rfl (fl_bo rfl) (by decide +kernel) ?_
    refine fl_Tq.stp rfl rfl (fl_bo rfl) rfl ?_
    refine fl_Tq.stp rfl rfl (fl_bo rfl) rfl ?_
    refine fl_Tq.dv rfl (fl_bo rfl) (by decide +kernel) ?_
    refine fl_Tq.stp rfl rfl (fl_bo rfl) rfl ?_
    refine fl_Tq.ret rfl rfl rfl (k _ ?_)
    have er : (x - x / (Int8.ofInt 100).toInt32 * (Int8.ofInt 100).toInt32).toInt = ((p % 100 : Nat) : Int) := by
      have q2 : (x / (Int8.ofInt 100).toInt32 * (Int8.ofInt 100).toInt32).toInt = ((p / 100 * 100 : Nat) : Int) := by
        rw [at_mul32] <;> rw [ek, e100] <;> omega
      rw [at_sub32] <;> rw [q2, hx] <;> omega
    exact t2_end hp rfl rfl er e100 rfl
  · refine fl_Tq.jf rfl (fl_bo rfl) ?_ rfl ?_
    · show am_c2 .lt (x / (Int8.ofInt 100).toInt32) (Int32.ofNat 11 - Int32.ofInt 1) = false
      rw [at_c2, ek, e10]
      exact decide_eq_false (by omega)
    refine fl_Tq.stp rfl rfl (fl_bo rfl) rfl ?_
    refine fl_Tq.stp rfl rfl (fl_bo rfl) rfl ?_
    refine fl_Tq.stp rfl rfl (fl_bo rfl) rfl ?_
    refine fl_Tq.stp rfl rfl (fl_bo rfl) rfl ?_
    refine fl_Tq.stp rfl rfl (fl_bo rfl) rfl ?_
    refine fl_Tq.tld (n := 11) (f := pw_tbl 1) (k := 10) rfl (fl_bo rfl) rfl e10 (by omega) ?_
    refine fl_Tq.ret rfl rfl rfl (k _ ?_)
    unfold t2_rv
    rw [if_pos (by omega)]
    rfl
theorem t2_restOf {x : Int32} {p : Nat} (hX : t2_RS m.1) (hx : x.toInt = p) (hp1 : p ≤ 1000) (k : ∀ v : Int32, v.toInt = t2_rv p → Q (some (.inl v)) m) : fl_Tq (pw_P L xs) 198 0 (fl_args (am_mxl (pw_P L xs) 198) [at_this, .inl x]) [] m Q := by
  have e100 : (Int8.ofInt 100).toInt32.toInt = 100 := by decide +kernel
  have e10 : (Int8.ofInt 10).toInt32.toInt = 10 := by decide +kernel
  have e1 : (Int32.ofInt 1).toInt = 1 := rfl
  have hb := at_i32 x
  have hw : ∀ j : Nat, j ≤ 10 → m.1 279 j = pw_tbl 1 j := fun j hj => by
    rw [hX j]
    exact (t2_Tb ⟨j, by omega⟩).2.2
  have ek : (x / (Int8.ofInt 100).toInt32).toInt = ((p / 100 : Nat) : Int) := by
    rw [at_div32 (by omega) (by omega), e100, hx]; omega
  refine fl_Tq.stp rfl rfl (fl_bo rfl) rfl ?_
  refine fl_Tq.stp rfl rfl (fl_bo rfl) rfl ?_
  refine fl_Tq.dv rfl (fl_bo rfl) (by decide +kernel) ?_
  refine fl_Tq.stp rfl rfl (fl_bo rfl) rfl ?_
  refine fl_Tq.stp rfl rfl (fl_bo rfl) rfl ?_
  refine fl_Tq.stp rfl rfl (fl_bo rfl) rfl ?_
  by_cases hp : p / 100 < 10
  · refine fl_Tq.jt rfl (fl_bo rfl) ?_ rfl ?_
    · rw [at_c2, ek, e10]
      show (!decide _) = true
      rw [decide_eq_false (by omega)]
      rfl
    have ek1 : (x / (Int8.ofInt 100).toInt32 + Int32.ofInt 1).toInt = ((p / 100 + 1 : Nat) : Int) := by rw [at_add32] <;> rw [ek, e1] <;> omega
    refine fl_Tq.stp rfl rfl (fl_bo rfl) rfl ?_
    refine fl_Tq.stp rfl rfl (fl_bo rfl) rfl ?_
    refine fl_Tq.stp rfl rfl (fl_bo rfl) rfl ?_
    refine fl_Tq.ld (p := 279) (τ := 78) (n := 11) (z := (0, 0, 0)) (k := p / 100) rfl (fl_bo rfl) rfl ek (by omega) ?_
    refine fl_Tq.stp rfl rfl (fl_bo rfl) rfl ?_
    refine fl_Tq.stp rfl rfl (fl_bo rfl) rfl ?_
    refine fl_Tq.stp rfl rfl (fl_bo rfl) rfl ?_
    refine fl_Tq.stp rfl rfl (fl_bo rfl) rfl ?_
    refine fl_Tq.stp rfl rfl (fl_bo rfl) rfl ?_
    refine fl_Tq.ld (p := 279) (τ := 78) (n := 11) (z := (0, 0, 0)) (k := p / 100 + 1) rfl (fl_bo rfl) rfl ek1 (by omega) ?_
    refine fl_Tq.stp rfl rfl (fl_bo rfl) rfl ?_
    refine fl_Tq.stp rfl rfl (fl_bo rfl) rfl ?_
    refine fl_Tq.stp rfl rfl (fl_bo rfl) rfl ?_
    refine fl_Tq.ld (p := 279) (τ := 78) (n := 11) (z := (0, 0, 0)) (k := p / 100) rfl (fl_bo rfl) rfl ek (by omega) ?_
    refine fl_Tq.stp rfl rfl (fl_bo rfl) rfl ?_
    refine fl_Tq.stp rfl rfl (fl_bo rfl) rfl ?_
    refine fl_Tq.stp rfl rfl (fl_bo rfl) rfl ?_
    refine fl_Tq.stp rfl rfl (fl_bo rfl) rfl ?_
    refine fl_Tq.stp rfl rfl (fl_bo rfl) rfl ?_
    refine fl_Tq.stp rfl rfl (fl_bo rfl) rfl ?_
    refine fl_Tq.stp rfl rfl (fl_bo rfl) rfl ?_
    refine fl_Tq.stp rfl rfl (fl_bo rfl) rfl ?_
    refine fl_Tq.dv rfl (fl_bo rfl) (by decide +kernel) ?_
    refine fl_Tq.stp rfl rfl (fl_bo rfl) rfl ?_
    refine fl_Tq.ret rfl rfl rfl (k _ ?_)
    have er : (x - (Int8.ofInt 100).toInt32 * (x / (Int8.ofInt 100).toInt32)).toInt = ((p % 100 : Nat) : Int) := by
      have q2 : ((Int8.ofInt 100).toInt32 * (x / (Int8.ofInt 100).toInt32)).toInt = ((p / 100 * 100 : Nat) : Int) := by
        rw [at_mul32] <;> rw [ek, e100] <;> omega
      rw [at_sub32] <;> rw [q2, hx] <;> omega
    exact t2_end hp (by rw [hw _ (by omega)]; rfl) (by rw [hw _ (by omega)]; rfl) er e100 rfl
  · have hp2 : p / 100 = 10 := by omega
    refine fl_Tq.jf rfl (fl_bo rfl) ?_ rfl ?_
    · rw [at_c2, ek, e10]
      show (!decide _) = false
      rw [decide_eq_true (by omega)]
      rfl
    refine fl_Tq.stp rfl rfl (fl_bo rfl) rfl ?_
    refine fl_Tq.stp rfl rfl (fl_bo rfl) rfl ?_
    refine fl_Tq.stp rfl rfl (fl_bo rfl) rfl ?_
    refine fl_Tq.ld (p := 279) (τ := 78) (n := 11) (z := (0, 0, 0)) (k := 10) rfl (fl_bo rfl) rfl e10 (by omega) ?_
    refine fl_Tq.stp rfl rfl (fl_bo rfl) rfl ?_
    refine fl_Tq.ret rfl rfl rfl (k _ ?_)
    rw [hw 10 (by omega)]
    unfold t2_rv
    rw [if_pos (by omega)]
    rfl
/-- the least part whose rest is so many volts -/
def t2_lp (v : Int) (n : Nat) : Prop := n ≤ 1000 ∧ (∀ p : Nat, p < n → t2_rv p < v) ∧ (n = 1000 ∨ v ≤ t2_rv n)
theorem t2_lp_u {v : Int} {n n' : Nat} (h : t2_lp v n) (h' : t2_lp v n') : n = n' := by
  obtain ⟨a1, a2, a3⟩ := h
  obtain ⟨b1, b2, b3⟩ := h'
  rcases Nat.lt_trichotomy n n' with q | q | q
  · have := b2 n q
    omega
  · exact q
  · have := a2 n' q
    omega
theorem t2_leastBy {v : Int32} (hX : t2_RS m.1) (k : ∀ (x : Int32) (n : Nat), x.toInt = n → t2_lp v.toInt n → Q (some (.inl x)) m) : fl_Tq (pw_P L xs) 223 0 (fl_args (am_mxl (pw_P L xs) 223) [at_this, .inl v]) [] m Q := by
  have loop : ∀ (d n : Nat), n + d = 1000 → (∀ p : Nat, p < n → t2_rv p < v.toInt) → fl_Tq (pw_P L xs) 223 2 [some at_this, some (.inl v), some (.inl (Int32.ofNat n))] [] m Q := by
    intro d
    induction d with
    | zero =>
      intro n hn hb
      have hn : n = 1000 := by omega
      subst hn
      refine fl_Tq.stp rfl rfl (fl_bo rfl) rfl ?_
      refine fl_Tq.stp rfl rfl (fl_bo rfl) rfl ?_
      refine fl_Tq.jt rfl (fl_bo rfl) (by decide +kernel) rfl ?_
      refine fl_Tq.stp rfl rfl (fl_bo rfl) rfl ?_
      exact fl_Tq.ret rfl rfl rfl (k _ 1000 (by decide +kernel) ⟨Nat.le_refl _, hb, Or.inl rfl⟩)
    | succ d ih =>
      intro n hn hb
      have en := at_ofN (k := n) (by omega)
      refine fl_Tq.stp rfl rfl (fl_bo rfl) rfl ?_
      refine fl_Tq.stp rfl rfl (fl_bo rfl) rfl ?_
      refine fl_Tq.jf rfl (fl_bo rfl) ?_ rfl ?_
      · rw [at_c2, en]
        exact decide_eq_false (by show ¬ (0 ≤ (n : Int) - 1000); omega)
      refine fl_Tq.stp rfl rfl (fl_bo rfl) rfl ?_
      refine fl_Tq.stp rfl rfl (fl_bo rfl) rfl ?_
      refine fl_Tq.cal rfl rfl (fl_bo rfl) rfl ?_
      refine t2_restOf hX en (by omega) (fun r er => ?_)
      refine fl_Tq.stp rfl rfl (fl_bo rfl) rfl ?_
      by_cases hv : v.toInt ≤ t2_rv n
      · refine fl_Tq.jt rfl (fl_bo rfl) (by rw [at_c2, er]; exact decide_eq_true (by omega)) rfl ?_
        refine fl_Tq.stp rfl rfl (fl_bo rfl) rfl ?_
        exact fl_Tq.ret rfl rfl rfl (k _ n en ⟨by omega, hb, Or.inr hv⟩)
      · refine fl_Tq.jf rfl (fl_bo rfl) (by rw [at_c2, er]; exact decide_eq_false (by omega)) rfl ?_
        refine fl_Tq.stp rfl rfl (fl_bo rfl) rfl ?_
        refine fl_Tq.stp rfl rfl (fl_bo rfl) rfl ?_
        have := ih (n + 1) (by omega) (fun p hp => by
          by_cases e : p = n
          · rw [e]; omega
          · exact hb p (by omega))
        rw [← at_inc (by omega)] at this
        exact this
  refine fl_Tq.stp rfl rfl (fl_bo rfl) rfl ?_
  refine fl_Tq.stp rfl rfl (fl_bo rfl) rfl ?_
  exact loop 1000 0 (by omega) (fun p hp => by omega)
theorem t2_byVolts {v : Int32} (k : ∀ (x : Int32) (n : Nat), x.toInt = n → t2_lp v.toInt n → Q (some (.inl x)) m) : fl_Tq (pw_P L xs) 179 0 (fl_args (am_mxl (pw_P L xs) 179) [.inl v]) [] m Q := by
  have e1 : (Int32.ofInt 1).toInt = 1 := rfl
  have e2 : (Int32.ofInt 2).toInt = 2 := rfl
  have e10 : (Int8.ofInt 10).toInt32.toInt = 10 := by decide +kernel
  have loop : ∀ (d i : Nat), i + d = 10 → ∀ (lo hi : Int32) (l h : Nat) (o4 : Option fl_V), lo.toInt = l → hi.toInt = h → l ≤ h → h ≤ 1000 → h - l < 2 ^ d → (∀ p : Nat, p < l → t2_rv p < v.toInt) → (h = 1000 ∨ v.toInt ≤ t2_rv h) → fl_Tq (pw_P L xs) 179 8 [some (.inl v), some (.inl lo), some (.inl hi), some (.inl (Int32.ofNat i)), o4] [] m Q := by
    intro d
    induction d with
    | zero =>
      intro i hi10 lo hi l h o4 el eh h1 h2 h3 h4 h5
      have hi10 : i = 10 := by omega
      subst hi10
      refine fl_Tq.stp rfl rfl (fl_bo rfl) rfl ?_
      refine fl_Tq.stp rfl rfl (fl_bo rfl) rfl ?_
      refine fl_Tq.jt rfl (fl_bo rfl) (by decide +kernel) rfl ?_
      refine fl_Tq.stp rfl rfl (fl_bo rfl) rfl ?_
      have : l = h := by simp at h3; omega
      subst this
      exact fl_Tq.ret rfl rfl rfl (k _ l el ⟨h2, h4, h5⟩)
    | succ d ih =>
      intro i hi10 lo hi l h o4 el eh h1 h2 h3 h4 h5
      have ei := at_ofN (k := i) (by omega)
      refine fl_Tq.stp rfl rfl (fl_bo rfl) rfl ?_
      refine fl_Tq.stp rfl rfl (fl_bo rfl) rfl ?_
      refine fl_Tq.jf rfl (fl_bo rfl) ?_ rfl ?_
      · rw [at_c2, ei, e10]
        exact decide_eq_false (by omega)
      refine fl_Tq.stp rfl rfl (fl_bo rfl) rfl ?_
      refine fl_Tq.stp rfl rfl (fl_bo rfl) rfl ?_
      by_cases hlh : l < h
      · refine fl_Tq.jf rfl (fl_bo rfl) (by rw [at_c2, el, eh]; exact decide_eq_false (by omega)) rfl ?_
        have es : (lo + hi).toInt = (l : Int) + h := by rw [at_add32] <;> rw [el, eh] <;> omega
        have ehf : ((lo + hi) / Int32.ofInt 2).toInt = (((l + h) / 2 : Nat) : Int) := by
          rw [at_div32 (by omega) (by omega), es, e2]; omega
        refine fl_Tq.stp rfl rfl (fl_bo rfl) rfl ?_
        refine fl_Tq.stp rfl rfl (fl_bo rfl) rfl ?_
        refine fl_Tq.stp rfl rfl (fl_bo rfl) rfl ?_
        refine fl_Tq.stp rfl rfl (fl_bo rfl) rfl ?_
        refine fl_Tq.dv rfl (fl_bo rfl) (by decide +kernel) ?_
        refine fl_Tq.stp rfl rfl (fl_bo rfl) rfl ?_
        refine fl_Tq.stp rfl rfl (fl_bo rfl) rfl ?_
        refine fl_Tq.cal rfl rfl (fl_bo rfl) rfl ?_
        refine t2_restBy ehf (fun r er => ?_)
        have hp2 : 2 ^ (d + 1) = 2 * 2 ^ d := by rw [Nat.pow_succ]; omega
        refine fl_Tq.stp rfl rfl (fl_bo rfl) rfl ?_
        by_cases hv : t2_rv ((l + h) / 2) < v.toInt
        · refine fl_Tq.jt rfl (fl_bo rfl) (by rw [at_c2, er]; exact decide_eq_true (by omega)) rfl ?_
          have eh1 : ((lo + hi) / Int32.ofInt 2 + Int32.ofInt 1).toInt = (((l + h) / 2 + 1 : Nat) : Int) := by rw [at_add32] <;> rw [ehf, e1] <;> omega
          refine fl_Tq.stp rfl rfl (fl_bo rfl) rfl ?_
          refine fl_Tq.stp rfl rfl (fl_bo rfl) rfl ?_
          refine fl_Tq.stp rfl rfl (fl_bo rfl) rfl ?_
          refine fl_Tq.stp rfl rfl (fl_bo rfl) rfl ?_
          refine fl_Tq.stp rfl rfl (fl_bo rfl) rfl ?_
          refine fl_Tq.stp rfl rfl (fl_bo rfl) rfl ?_
          have := ih (i + 1) (by omega) _ hi ((l + h) / 2 + 1) h (some (.inl ((lo + hi) / Int32.ofInt 2))) eh1 eh (by omega) h2 (by omega) (fun p hp => by
            have := t2_mn (p := p) (q := (l + h) / 2) (by omega) (by omega)
            omega) h5
          rw [← at_inc (by omega)] at this
          exact this
        · refine fl_Tq.jf rfl (fl_bo rfl) (by rw [at_c2, er]; exact decide_eq_false (by omega)) rfl ?_
          refine fl_Tq.stp rfl rfl (fl_bo rfl) rfl ?_
          refine fl_Tq.stp rfl rfl (fl_bo rfl) rfl ?_
          refine fl_Tq.stp rfl rfl (fl_bo rfl) rfl ?_
          refine fl_Tq.stp rfl rfl (fl_bo rfl) rfl ?_
          refine fl_Tq.stp rfl rfl (fl_bo rfl) rfl ?_
          have := ih (i + 1) (by omega) lo _ l ((l + h) / 2) (some (.inl ((lo + hi) / Int32.ofInt 2))) el ehf (by omega) (by omega) (by omega) h4 (Or.inr (by omega))
          rw [← at_inc (by omega)] at this
          exact this
      · refine fl_Tq.jt rfl (fl_bo rfl) (by rw [at_c2, el, eh]; exact decide_eq_true (by omega)) rfl ?_
        refine fl_Tq.stp rfl rfl (fl_bo rfl) rfl ?_
        have : l = h := by omega
        subst this
        exact fl_Tq.ret rfl rfl rfl (k _ l el ⟨h2, h4, h5⟩)
  refine fl_Tq.stp rfl rfl (fl_bo rfl) rfl ?_
  refine fl_Tq.stp rfl rfl (fl_bo rfl) rfl ?_
  refine fl_Tq.stp rfl rfl (fl_bo rfl) rfl ?_
  refine fl_Tq.stp rfl rfl (fl_bo rfl) rfl ?_
  refine fl_Tq.stp rfl rfl (fl_bo rfl) rfl ?_
  refine fl_Tq.stp rfl rfl (fl_bo rfl) rfl ?_
  exact loop 10 0 (by omega) _ _ 0 1000 none (by decide +kernel) (by decide +kernel) (by omega) (by omega) (by decide) (fun p hp => by omega) (Or.inl rfl)
end T2R
