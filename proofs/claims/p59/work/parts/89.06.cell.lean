/-! ===== a cell's words: get, let, its, full, hold ===== -/
theorem at_subw (x y : Int32) : (x - y).toInt = x.toInt - y.toInt ∨ (x.toInt - y.toInt > 2147483647 ∧ (x - y).toInt = x.toInt - y.toInt - 4294967296) ∨ (x.toInt - y.toInt < -2147483648 ∧ (x - y).toInt = x.toInt - y.toInt + 4294967296) := by
  have hx := at_i32 x
  have hy := at_i32 y
  have h : (x - y).toInt = Int.bmod (x.toInt - y.toInt) 4294967296 := Int32.toInt_sub x y
  rw [h, Int.bmod_def]
  split <;> omega
section ATCL
variable {L : Nat} {xs : Nat → Int32} {m : fl_M} {Q : Option fl_V → fl_M → Prop}
theorem at_ix {c w : Nat} {ci wi : Int32} (hc : ci.toInt = c) (hw : wi.toInt = w) (hc2 : c < 16) (hw2 : w < 61) : ((Int16.ofInt 444).toInt32 + (Int8.ofInt 61).toInt32 * ci + wi).toInt = ((444 + 61 * c + w : Nat) : Int) := by
  have e1 : (Int16.ofInt 444).toInt32.toInt = 444 := by decide +kernel
  have e2 : (Int8.ofInt 61).toInt32.toInt = 61 := by decide +kernel
  have e3 : ((Int8.ofInt 61).toInt32 * ci).toInt = 61 * (c : Int) := by rw [at_mul32] <;> rw [e2, hc] <;> omega
  have e4 : ((Int16.ofInt 444).toInt32 + (Int8.ofInt 61).toInt32 * ci).toInt = 444 + 61 * (c : Int) := by rw [at_add32] <;> rw [e1, e3] <;> omega
  rw [at_add32] <;> rw [e4, hw] <;> omega
theorem at_get {c w : Nat} {ci wi : Int32} (hc : ci.toInt = c) (hw : wi.toInt = w) (hc2 : c < 16) (hw2 : w < 61) (k : Q (some (.inl (m.1 280 (444 + 61 * c + w)))) m) : fl_Tq (pw_P L xs) 193 0 (fl_args (am_mxl (pw_P L xs) 193) [at_this, .inl ci, .inl wi]) [] m Q := by
  refine fl_Tq.stp rfl rfl (fl_bo rfl) rfl ?_
  refine fl_Tq.stp rfl rfl (fl_bo rfl) rfl ?_
  refine fl_Tq.stp rfl rfl (fl_bo rfl) rfl ?_
  refine fl_Tq.stp rfl rfl (fl_bo rfl) rfl ?_
  refine fl_Tq.stp rfl rfl (fl_bo rfl) rfl ?_
  refine fl_Tq.stp rfl rfl (fl_bo rfl) rfl ?_
  refine fl_Tq.stp rfl rfl (fl_bo rfl) rfl ?_
  refine fl_Tq.stp rfl rfl (fl_bo rfl) rfl ?_
  refine fl_Tq.stp rfl rfl (fl_bo rfl) rfl ?_
  refine fl_Tq.ld (p := 280) (τ := 79) (n := 29780) (z := (0, 0, 0)) (k := 444 + 61 * c + w) rfl (fl_bo rfl) rfl (at_ix hc hw hc2 hw2) (by omega) ?_
  exact fl_Tq.ret rfl rfl rfl k
theorem at_let {c w : Nat} {ci wi x : Int32} (hc : ci.toInt = c) (hw : wi.toInt = w) (hc2 : c < 16) (hw2 : w < 61) (k : ∀ m', m' = (fl_up m.1 280 (444 + 61 * c + w) x, m.2) → Q none m') : fl_Tq (pw_P L xs) 194 0 (fl_args (am_mxl (pw_P L xs) 194) [at_this, .inl ci, .inl wi, .inl x]) [] m Q := by
  refine fl_Tq.stp rfl rfl (fl_bo rfl) rfl ?_
  refine fl_Tq.stp rfl rfl (fl_bo rfl) rfl ?_
  refine fl_Tq.stp rfl rfl (fl_bo rfl) rfl ?_
  refine fl_Tq.stp rfl rfl (fl_bo rfl) rfl ?_
  refine fl_Tq.stp rfl rfl (fl_bo rfl) rfl ?_
  refine fl_Tq.stp rfl rfl (fl_bo rfl) rfl ?_
  refine fl_Tq.stp rfl rfl (fl_bo rfl) rfl ?_
  refine fl_Tq.stp rfl rfl (fl_bo rfl) rfl ?_
  refine fl_Tq.stp rfl rfl (fl_bo rfl) rfl ?_
  refine fl_Tq.stp rfl rfl (fl_bo rfl) rfl ?_
  refine fl_Tq.sv (p := 280) (τ := 79) (n := 29780) (z := (0, 0, 0)) (k := 444 + 61 * c + w) rfl (fl_bo rfl) rfl (at_ix hc hw hc2 hw2) (by omega) ?_
  exact fl_Tq.ret rfl rfl rfl (k _ rfl)
theorem at_its {w : Nat} {wi : Int32} (hw : wi.toInt = w) (hw2 : w < 30) (k : Q (some (.inl (m.1 280 (34 + w)))) m) : fl_Tq (pw_P L xs) 191 0 (fl_args (am_mxl (pw_P L xs) 191) [at_this, .inl wi]) [] m Q := by
  refine fl_Tq.stp rfl rfl (fl_bo rfl) rfl ?_
  refine fl_Tq.stp rfl rfl (fl_bo rfl) rfl ?_
  refine fl_Tq.stp rfl rfl (fl_bo rfl) rfl ?_
  refine fl_Tq.stp rfl rfl (fl_bo rfl) rfl ?_
  refine fl_Tq.stp rfl rfl (fl_bo rfl) rfl ?_
  have e1 : (Int8.ofInt 34).toInt32.toInt = 34 := by decide +kernel
  have e2 : ((Int8.ofInt 34).toInt32 + wi).toInt = ((34 + w : Nat) : Int) := by rw [at_add32] <;> rw [e1, hw] <;> omega
  refine fl_Tq.ld (p := 280) (τ := 79) (n := 29780) (z := (0, 0, 0)) (k := 34 + w) rfl (fl_bo rfl) rfl e2 (by omega) ?_
  exact fl_Tq.ret rfl rfl rfl k
theorem at_size {x : Int32} (k : ∀ v, Q (some (.inl v)) m) : fl_Tq (pw_P L xs) 188 0 (fl_args (am_mxl (pw_P L xs) 188) [.inl x]) [] m Q := by
  refine fl_Tq.stp rfl rfl (fl_bo rfl) rfl ?_
  cases hb : am_c1 .ge x with
  | true =>
    refine fl_Tq.zt rfl (fl_bo rfl) hb rfl ?_
    refine fl_Tq.stp rfl rfl (fl_bo rfl) rfl ?_
    exact fl_Tq.ret rfl rfl rfl (k _)
  | false =>
    refine fl_Tq.zf rfl (fl_bo rfl) hb rfl ?_
    refine fl_Tq.stp rfl rfl (fl_bo rfl) rfl ?_
    refine fl_Tq.stp rfl rfl (fl_bo rfl) rfl ?_
    refine fl_Tq.stp rfl rfl (fl_bo rfl) rfl ?_
    exact fl_Tq.ret rfl rfl rfl (k _)
theorem at_full {c : Nat} {ci : Int32} (hc : ci.toInt = c) (hc2 : c < 16) (hr : 0 ≤ at_w m (444 + 61 * c) ∧ at_w m (444 + 61 * c) ≤ 9999) (k : ∀ v : Int32, v.toInt = 3600 * at_w m (444 + 61 * c) → Q (some (.inl v)) m) : fl_Tq (pw_P L xs) 195 0 (fl_args (am_mxl (pw_P L xs) 195) [at_this, .inl ci]) [] m Q := by
  refine fl_Tq.stp rfl rfl (fl_bo rfl) rfl ?_
  refine fl_Tq.stp rfl rfl (fl_bo rfl) rfl ?_
  refine fl_Tq.stp rfl rfl (fl_bo rfl) rfl ?_
  refine fl_Tq.stp rfl rfl (fl_bo rfl) rfl ?_
  refine fl_Tq.cal rfl rfl (fl_bo rfl) rfl ?_
  refine at_get (w := 0) hc (by decide) hc2 (by decide) ?_
  refine fl_Tq.stp rfl rfl (fl_bo rfl) rfl ?_
  refine fl_Tq.ret rfl rfl rfl (k _ ?_)
  dsimp only
  have e1 : (Int16.ofInt 3600).toInt32.toInt = 3600 := by decide +kernel
  have e2 : (m.1 280 (444 + 61 * c + 0)).toInt = at_w m (444 + 61 * c) := rfl
  rw [at_mul32] <;> rw [e1, e2] <;> omega
/-- hold: the charge between 0 and what is full -/
theorem at_hold {c : Nat} {ci : Int32} (hc : ci.toInt = c) (hc2 : c < 16) (hr : 0 ≤ at_w m (444 + 61 * c) ∧ at_w m (444 + 61 * c) ≤ 9999) (k : ∀ (x y : Int32) (m' : fl_M), 0 ≤ x.toInt → x.toInt ≤ 3600 * at_w m (444 + 61 * c) → m' = (fl_up (fl_up m.1 280 (445 + 61 * c) x) 280 (448 + 61 * c) y, m.2) → Q none m') : fl_Tq (pw_P L xs) 214 0 (fl_args (am_mxl (pw_P L xs) 214) [at_this, .inl ci]) [] m Q := by
  refine fl_Tq.stp rfl rfl (fl_bo rfl) rfl ?_
  refine fl_Tq.stp rfl rfl (fl_bo rfl) rfl ?_
  refine fl_Tq.stp rfl rfl (fl_bo rfl) rfl ?_
  refine fl_Tq.stp rfl rfl (fl_bo rfl) rfl ?_
  refine fl_Tq.stp rfl rfl (fl_bo rfl) rfl ?_
  refine fl_Tq.stp rfl rfl (fl_bo rfl) rfl ?_
  refine fl_Tq.cal rfl rfl (fl_bo rfl) rfl ?_
  refine at_get (w := 1) hc (by decide) hc2 (by decide) ?_
  refine fl_Tq.stp rfl rfl (fl_bo rfl) rfl ?_
  refine fl_Tq.stp rfl rfl (fl_bo rfl) rfl ?_
  refine fl_Tq.stp rfl rfl (fl_bo rfl) rfl ?_
  refine fl_Tq.cal rfl rfl (fl_bo rfl) rfl ?_
  refine at_full hc hc2 hr (fun f ef => ?_)
  refine fl_Tq.cal rfl rfl (fl_bo rfl) rfl ?_
  refine at_held _ _ _ ?_
  have hx : 0 ≤ (if m.1 280 (444 + 61 * c + 1) < Int32.ofInt 0 then Int32.ofInt 0 else if f < m.1 280 (444 + 61 * c + 1) then f else m.1 280 (444 + 61 * c + 1)).toInt ∧ (if m.1 280 (444 + 61 * c + 1) < Int32.ofInt 0 then Int32.ofInt 0 else if f < m.1 280 (444 + 61 * c + 1) then f else m.1 280 (444 + 61 * c + 1)).toInt ≤ 3600 * at_w m (444 + 61 * c) := by
    generalize m.1 280 (444 + 61 * c + 1) = v
    have e0 : (Int32.ofInt 0).toInt = 0 := rfl
    by_cases h1 : v < Int32.ofInt 0
    · rw [if_pos h1, e0]; omega
    · have h1' : ¬ v.toInt < (Int32.ofInt 0).toInt := fun q => h1 (Int32.lt_iff_toInt_lt.mpr q)
      rw [if_neg h1]
      by_cases h2 : f < v
      · rw [if_pos h2]; omega
      · have h2' : ¬ f.toInt < v.toInt := fun q => h2 (Int32.lt_iff_toInt_lt.mpr q)
        rw [if_neg h2]; omega
  generalize (if m.1 280 (444 + 61 * c + 1) < Int32.ofInt 0 then Int32.ofInt 0 else if f < m.1 280 (444 + 61 * c + 1) then f else m.1 280 (444 + 61 * c + 1)) = x at hx
  refine fl_Tq.cal rfl rfl (fl_bo rfl) rfl ?_
  refine at_let (w := 1) hc (by decide) hc2 (by decide) (fun m1 e1 => ?_)
  have hr1 : at_w m1 (444 + 61 * c) = at_w m (444 + 61 * c) := by
    rw [e1]
    show (fl_up m.1 280 (444 + 61 * c + 1) x 280 (444 + 61 * c)).toInt = _
    rw [bl_un (fun _ => by omega)]
    rfl
  refine fl_Tq.stp rfl rfl (fl_bo rfl) rfl ?_
  refine fl_Tq.stp rfl rfl (fl_bo rfl) rfl ?_
  refine fl_Tq.stp rfl rfl (fl_bo rfl) rfl ?_
  refine fl_Tq.stp rfl rfl (fl_bo rfl) rfl ?_
  refine fl_Tq.stp rfl rfl (fl_bo rfl) rfl ?_
  refine fl_Tq.stp rfl rfl (fl_bo rfl) rfl ?_
  refine fl_Tq.cal rfl rfl (fl_bo rfl) rfl ?_
  refine at_get (w := 4) hc (by decide) hc2 (by decide) ?_
  refine fl_Tq.stp rfl rfl (fl_bo rfl) rfl ?_
  refine fl_Tq.stp rfl rfl (fl_bo rfl) rfl ?_
  refine fl_Tq.stp rfl rfl (fl_bo rfl) rfl ?_
  refine fl_Tq.cal rfl rfl (fl_bo rfl) rfl ?_
  refine at_full hc hc2 (by rw [hr1]; exact hr) (fun f2 ef2 => ?_)
  refine fl_Tq.cal rfl rfl (fl_bo rfl) rfl ?_
  refine at_held _ _ _ ?_
  generalize (if m1.1 280 (444 + 61 * c + 4) < Int32.ofInt 0 then Int32.ofInt 0 else if f2 < m1.1 280 (444 + 61 * c + 4) then f2 else m1.1 280 (444 + 61 * c + 4)) = y
  refine fl_Tq.cal rfl rfl (fl_bo rfl) rfl ?_
  refine at_let (w := 4) hc (by decide) hc2 (by decide) (fun m2 e2 => ?_)
  refine fl_Tq.ret rfl rfl rfl (k x y m2 hx.1 hx.2 ?_)
  rw [e2, e1]
  have q1 : 444 + 61 * c + 1 = 445 + 61 * c := by omega
  have q2 : 444 + 61 * c + 4 = 448 + 61 * c := by omega
  rw [q1, q2]
end ATCL
/-! ===== one cell's words are changed ===== -/
def at_memb (j : Int) (r : at_R) : Bool := (List.range r.2.2.2.1.toNat).any (fun o => decide (r.2.1 + r.2.2.1 * (o : Int) ≤ j ∧ j ≤ r.2.1 + r.2.2.1 * (o : Int) + (r.2.2.2.2.1 - 1)))
theorem at_memb_ok {j : Int} {r : at_R} (h : at_mem j r) : at_memb j r = true := by
  obtain ⟨o, i, h1, h2, h3, h4, h5⟩ := h
  refine List.any_eq_true.mpr ⟨o.toNat, List.mem_range.mpr (by omega), decide_eq_true ?_⟩
  have : ((o.toNat : Nat) : Int) = o := Int.toNat_of_nonneg h1
  rw [this]
  omega
def at_R0 : at_R := (1, 444, 61, 16, 1, 0, 9999)
def at_R1 : at_R := (2, 445, 61, 16, 1, -2147483648, 2147483647)
theorem at_cuck : (List.range 16).all (fun c => ([0, 1, 4, 5, 9] : List Nat).all (fun k => (at_rg at_TA).all (fun r => !at_memb (444 + 61 * (c : Int) + (k : Int)) r || (decide (k = 0) && decide (r = at_R0) || decide (k = 1) && decide (r = at_R1))))) = true := by decide +kernel
theorem at_cu1 {c k : Nat} (hc : c < 16) (hk : k = 0 ∨ k = 1 ∨ k = 4 ∨ k = 5 ∨ k = 9) {r : at_R} (hr : r ∈ at_rg at_TA) {j : Nat} (ej : j = 444 + 61 * c + k) (h : at_mem j r) : (k = 0 ∧ r = at_R0) ∨ (k = 1 ∧ r = at_R1) := by
  have h1 := List.all_eq_true.mp at_cuck c (List.mem_range.mpr hc)
  have h2 := List.all_eq_true.mp h1 k (by rcases hk with rfl | rfl | rfl | rfl | rfl <;> simp)
  have h3 := List.all_eq_true.mp h2 r hr
  have e : ((444 + 61 * (c : Int)) + (k : Int)) = (j : Int) := by omega
  rw [e, at_memb_ok h] at h3
  simp only [Bool.not_true, Bool.false_or, Bool.or_eq_true, Bool.and_eq_true, decide_eq_true_eq] at h3
  exact h3
def at_out (c j : Nat) : Prop := j ≠ 444 + 61 * c ∧ j ≠ 445 + 61 * c ∧ j ≠ 448 + 61 * c ∧ j ≠ 449 + 61 * c ∧ j ≠ 453 + 61 * c
theorem at_AK.cell {w w' : Nat → Int} (h : at_AK w) {c : Nat} (hc : c < 16) (hs : ∀ j : Nat, at_out c j → w' j = w j) (hb : ∀ j, -2147483648 ≤ w' j ∧ w' j ≤ 2147483647) (h1 : 100 ≤ w' (444 + 61 * c)) (h2 : w' (444 + 61 * c) ≤ 9999) (h3 : 0 ≤ w' (445 + 61 * c)) (h4 : w' (445 + 61 * c) ≤ 3600 * w' (444 + 61 * c)) : at_AK w' := by
  obtain ⟨a1, a2, a3⟩ := h
  refine ⟨fun r hr j hj hm => ?_, fun c' hc' hl => ?_, fun k hk => ?_⟩
  · by_cases ho : at_out c j
    · rw [hs j ho]
      exact a1 r hr j hj hm
    · have : ∃ k : Nat, (k = 0 ∨ k = 1 ∨ k = 4 ∨ k = 5 ∨ k = 9) ∧ j = 444 + 61 * c + k := by
        unfold at_out at ho
        by_cases e0 : j = 444 + 61 * c
        · exact ⟨0, Or.inl rfl, by omega⟩
        by_cases e1 : j = 445 + 61 * c
        · exact ⟨1, Or.inr (Or.inl rfl), by omega⟩
        by_cases e4 : j = 448 + 61 * c
        · exact ⟨4, Or.inr (Or.inr (Or.inl rfl)), by omega⟩
        by_cases e5 : j = 449 + 61 * c
        · exact ⟨5, Or.inr (Or.inr (Or.inr (Or.inl rfl))), by omega⟩
        by_cases e9 : j = 453 + 61 * c
        · exact ⟨9, Or.inr (Or.inr (Or.inr (Or.inr rfl))), by omega⟩
        exact absurd ⟨e0, e1, e4, e5, e9⟩ ho
      obtain ⟨k, hk, ej⟩ := this
      rcases at_cu1 hc hk hr ej hm with ⟨rfl, rfl⟩ | ⟨rfl, rfl⟩
      · have : j = 444 + 61 * c := by omega
        rw [this]
        exact ⟨by show (0 : Int) ≤ _; omega, h2⟩
      · exact hb j
  · have e2 : w' 2 = w 2 := hs 2 (by unfold at_out; omega)
    rw [e2] at hl
    obtain ⟨x1, x2, x3, x4, x5⟩ := a2 c' hc' hl
    by_cases e : c' = c
    · subst e
      rw [hs (450 + 61 * c') (by unfold at_out; omega), hs (454 + 61 * c') (by unfold at_out; omega)]
      exact ⟨h1, x2, x3, h3, h4⟩
    · rw [hs (444 + 61 * c') (by unfold at_out; omega), hs (445 + 61 * c') (by unfold at_out; omega), hs (450 + 61 * c') (by unfold at_out; omega), hs (454 + 61 * c') (by unfold at_out; omega)]
      exact ⟨x1, x2, x3, x4, x5⟩
  · rw [hs (341 + 35 * k) (by unfold at_out; omega), hs 2 (by unfold at_out; omega)]
    exact a3 k hk
/-- but one cell's words nothing is changed -/
def at_U (m : fl_M) (c : Nat) (m' : fl_M) : Prop := m'.2 = m.2 ∧ (∀ p j : Nat, (p = 280 → at_out c j) → m'.1 p j = m.1 p j) ∧ 100 ≤ at_w m' (444 + 61 * c) ∧ at_w m' (444 + 61 * c) ≤ 9999
theorem at_U.up {m m' : fl_M} {c j : Nat} {x : Int32} (h : at_U m c m') (hj : j = 445 + 61 * c ∨ j = 448 + 61 * c ∨ j = 449 + 61 * c ∨ j = 453 + 61 * c) : at_U m c (fl_up m'.1 280 j x, m'.2) := by
  obtain ⟨h1, h2, h3⟩ := h
  refine ⟨h1, fun p i hp => ?_, ?_⟩
  · show fl_up m'.1 280 j x p i = _
    rw [bl_un (fun e => by have := hp e; unfold at_out at this; omega)]
    exact h2 p i hp
  · have : at_w (fl_up m'.1 280 j x, m'.2) (444 + 61 * c) = at_w m' (444 + 61 * c) := by
      show (fl_up m'.1 280 j x 280 (444 + 61 * c)).toInt = _
      rw [bl_un (fun _ => by omega)]
      rfl
    rw [this]
    exact h3
theorem at_U.good {m m' : fl_M} {c : Nat} (hg : at_Good at_XI m) (hc : c < 16) (h : at_U m c m') (h3 : 0 ≤ at_w m' (445 + 61 * c)) (h4 : at_w m' (445 + 61 * c) ≤ 3600 * at_w m' (444 + 61 * c)) : at_Good at_XI m' ∧ at_MD m m' [(79, false, 444, 1419)] := by
  obtain ⟨e1, e2, e3, e4⟩ := h
  have ew : ∀ j : Nat, at_out c j → at_w m' j = at_w m j := fun j hj => by
    unfold at_w
    rw [e2 280 j (fun _ => hj)]
  have hX : at_XI m' := hg.2.2.keep (by rw [e1]) (fun p j hp => e2 p j (fun e => by unfold at_out; unfold fl_N at hp; omega))
  refine ⟨hg.mk (by rw [e1]) hX (fun p j hp _ hne => absurd (e2 p j (fun e => absurd e hp)) hne) (by rw [ew 0 (by unfold at_out; omega)]; exact hg.w0) (by rw [ew 1 (by unfold at_out; omega)]; exact hg.w1) (hg.AK.cell hc ew (fun j => at_i32 _) e3 e4 h3 h4), ⟨by rw [e1]; exact Nat.le_refl _, fun p j hne => ⟨_, List.mem_singleton.mpr rfl, ?_⟩⟩⟩
  by_cases e : p = 280
  · subst e
    refine ⟨fk_K_280.symm, ?_⟩
    rw [if_neg (by decide)]
    by_cases ho : at_out c j
    · exact absurd (e2 280 j (fun _ => ho)) hne
    · unfold at_out at ho
      show (444 : Int) ≤ j ∧ (j : Int) ≤ 1419
      omega
  · exact absurd (e2 p j (fun h => absurd h e)) hne
