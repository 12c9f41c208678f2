/-! ===== what a run of the pure machine comes to ===== -/
section AMT
variable {P : am_Pg} {mi : Nat} {pc pc' : Nat} {lv lv' : am_L} {st st' : List Value} {M M' : am_M}
/-- one turn of the machine, over any machine below it -/
def am_e1 (P : am_Pg) (ev : Nat → Nat → am_L → List Value → am_M → Option (Option Value × am_M)) (mi pc : Nat) (lv : am_L) (st : List Value) (M : am_M) : Option (Option Value × am_M) := match am_code P mi pc with
  | none => none
  | some ins => match am_cl P mi ins with
    | some (mj, n) => bif am_rc P mi ins mj n st M then (match ev mj 0 (lv_args 0 (st.take n).reverse) [] M with
        | some (v, M') => ev mi (pc + 3) lv (v.toList ++ st.drop n) M'
        | none => none) else none
    | none => match am_rt P mi ins st with
      | some v => some (v, M)
      | none => match am_st P mi ins pc lv st M with
        | some (pc', lv', st', M') => ev mi pc' lv' st' M'
        | none => none
theorem am_ev_s (f : Nat) : am_ev P (f + 1) = am_e1 P (am_ev P f) := by
  funext mi pc lv st M
  rfl
theorem am_e1m {ev ev' : Nat → Nat → am_L → List Value → am_M → Option (Option Value × am_M)} (he : ∀ mi pc lv st M r, ev mi pc lv st M = some r → ev' mi pc lv st M = some r) {r : Option Value × am_M} (h : am_e1 P ev mi pc lv st M = some r) : am_e1 P ev' mi pc lv st M = some r := by
  unfold am_e1 at h ⊢
  cases hc : am_code P mi pc with
  | none => rw [hc] at h; cases h
  | some ins =>
    rw [hc] at h
    dsimp only at h ⊢
    cases hcl : am_cl P mi ins with
    | some q =>
      obtain ⟨mj, n⟩ := q
      rw [hcl] at h
      dsimp only at h ⊢
      obtain ⟨h1, h⟩ := am_bif h
      rw [h1]
      dsimp only [cond_true]
      cases h2 : ev mj 0 (lv_args 0 (st.take n).reverse) [] M with
      | none => rw [h2] at h; cases h
      | some q =>
        obtain ⟨v, M1⟩ := q
        rw [h2] at h
        rw [he _ _ _ _ _ _ h2]
        exact he _ _ _ _ _ _ h
    | none =>
      rw [hcl] at h
      dsimp only at h ⊢
      cases hrt : am_rt P mi ins st with
      | some v =>
        rw [hrt] at h
        exact h
      | none =>
        rw [hrt] at h
        dsimp only at h ⊢
        cases hst : am_st P mi ins pc lv st M with
        | none => rw [hst] at h; cases h
        | some q =>
          obtain ⟨p1, l1, s1, m1⟩ := q
          rw [hst] at h
          exact he _ _ _ _ _ _ h
/-- more fuel, the same answer -/
theorem am_fuel1 : ∀ (f mi pc : Nat) (lv : am_L) (st : List Value) (M : am_M) (r : Option Value × am_M), am_ev P f mi pc lv st M = some r → am_ev P (f + 1) mi pc lv st M = some r := by
  intro f
  induction f with
  | zero => intro mi pc lv st M r h; cases h
  | succ f ih =>
    intro mi pc lv st M r h
    rw [am_ev_s] at h ⊢
    exact am_e1m ih h
theorem am_fuel (f mi pc : Nat) (lv : am_L) (st : List Value) (M : am_M) (r : Option Value × am_M) (h : am_ev P f mi pc lv st M = some r) (g : Nat) (hg : f ≤ g) : am_ev P g mi pc lv st M = some r := by
  obtain ⟨d, rfl⟩ := Nat.exists_eq_add_of_le hg
  clear hg
  induction d with
  | zero => exact h
  | succ d ih => exact am_fuel1 _ _ _ _ _ _ _ ih
/-- from here it comes to an end, with an answer and a memory of which Q holds -/
def am_To (P : am_Pg) (mi pc : Nat) (lv : am_L) (st : List Value) (M : am_M) (Q : Option Value → am_M → Prop) : Prop := ∃ (f : Nat) (v : Option Value) (M' : am_M), am_ev P f mi pc lv st M = some (v, M') ∧ Q v M'
theorem am_To.mono {Q Q' : Option Value → am_M → Prop} (h : am_To P mi pc lv st M Q) (hq : ∀ v M', Q v M' → Q' v M') : am_To P mi pc lv st M Q' := by
  obtain ⟨f, v, M', h1, h2⟩ := h
  exact ⟨f, v, M', h1, hq v M' h2⟩
theorem am_To.stp {ins : Instr} {Q : Option Value → am_M → Prop} (hc : am_code P mi pc = some ins) (hcl : am_cl P mi ins = none) (hrt : am_rt P mi ins st = none) (hst : am_st P mi ins pc lv st M = some (pc', lv', st', M')) (k : am_To P mi pc' lv' st' M' Q) : am_To P mi pc lv st M Q := by
  obtain ⟨f, v, M1, h1, h2⟩ := k
  refine ⟨f + 1, v, M1, ?_, h2⟩
  rw [am_ev_s]
  generalize am_ev P f = ev at h1
  unfold am_e1
  rw [hc]
  dsimp only
  rw [hcl]
  dsimp only
  rw [hrt]
  dsimp only
  rw [hst]
  exact h1
theorem am_To.ret {ins : Instr} {v : Option Value} {Q : Option Value → am_M → Prop} (hc : am_code P mi pc = some ins) (hcl : am_cl P mi ins = none) (hrt : am_rt P mi ins st = some v) (k : Q v M) : am_To P mi pc lv st M Q := by
  refine ⟨1, v, M, ?_, k⟩
  rw [am_ev_s]
  generalize am_ev P 0 = ev
  unfold am_e1
  rw [hc]
  dsimp only
  rw [hcl]
  dsimp only
  rw [hrt]
theorem am_To.cal {ins : Instr} {mj n : Nat} {Q : Option Value → am_M → Prop} (hc : am_code P mi pc = some ins) (hcl : am_cl P mi ins = some (mj, n)) (hrc : am_rc P mi ins mj n st M = true) (k : am_To P mj 0 (lv_args 0 (st.take n).reverse) [] M (fun v M' => am_To P mi (pc + 3) lv (v.toList ++ st.drop n) M' Q)) : am_To P mi pc lv st M Q := by
  obtain ⟨f, v, M1, h1, g, v2, M2, h2, h3⟩ := k
  refine ⟨max f g + 1, v2, M2, ?_, h3⟩
  have e1 := am_fuel _ _ _ _ _ _ _ h1 (max f g) (Nat.le_max_left _ _)
  have e2 := am_fuel _ _ _ _ _ _ _ h2 (max f g) (Nat.le_max_right _ _)
  rw [am_ev_s]
  generalize am_ev P (max f g) = ev at e1 e2
  unfold am_e1
  rw [hc]
  dsimp only
  rw [hcl]
  dsimp only
  rw [hrc, e1]
  exact e2
/-- a stretch of n instructions without calls and answers -/
def am_go_ (P : am_Pg) (mi : Nat) : Nat → am_C → Option am_C
  | 0, c => some c
  | n + 1, c => match am_code P mi c.1 with
    | none => none
    | some ins => match am_cl P mi ins with
      | some _ => none
      | none => match am_rt P mi ins c.2.2.1 with
        | some _ => none
        | none => match am_st P mi ins c.1 c.2.1 c.2.2.1 c.2.2.2 with
          | some c' => am_go_ P mi n c'
          | none => none
theorem am_To.run (n : Nat) {Q : Option Value → am_M → Prop} (h : am_go_ P mi n (pc, lv, st, M) = some (pc', lv', st', M')) (k : am_To P mi pc' lv' st' M' Q) : am_To P mi pc lv st M Q := by
  induction n generalizing pc lv st M with
  | zero => cases h; exact k
  | succ n ih =>
    unfold am_go_ at h
    dsimp only at h
    split at h
    · cases h
    · rename_i ins hc
      split at h
      · cases h
      · rename_i hcl
        split at h
        · cases h
        · rename_i hrt
          split at h
          · rename_i c' hst
            obtain ⟨p1, l1, s1, m1⟩ := c'
            exact am_To.stp hc hcl hrt hst (ih h)
          · cases h
/-- a method's contract -/
def am_Mt (P : am_Pg) (mj : Nat) (as_ : List Value) (M : am_M) (Q : Option Value → am_M → Prop) : Prop := am_To P mj 0 (lv_args 0 as_) [] M Q
theorem am_Mt.mono {mj : Nat} {as_ : List Value} {Q Q' : Option Value → am_M → Prop} (h : am_Mt P mj as_ M Q) (hq : ∀ v M', Q v M' → Q' v M') : am_Mt P mj as_ M Q' := am_To.mono h hq
/-- a call, by the callee's contract -/
theorem am_To.mt {ins : Instr} {mj n : Nat} {as_ rest : List Value} {Q R : Option Value → am_M → Prop} (hm : am_Mt P mj as_ M R) (hc : am_code P mi pc = some ins) (hcl : am_cl P mi ins = some (mj, n)) (hrc : am_rc P mi ins mj n st M = true) (ha : (st.take n).reverse = as_) (hr : st.drop n = rest)
    (k : ∀ v M', R v M' → am_To P mi (pc + 3) lv (v.toList ++ rest) M' Q) : am_To P mi pc lv st M Q := by
  refine am_To.cal hc hcl hrc ?_
  rw [ha, hr]
  exact am_To.mono hm k
end AMT
/-- the law's run, as a triple -/
theorem pw_Run_of {L : Nat} {xs : Nat → Int32} (h : am_To (pw_P L xs) 0 0 (lv_args 0 [.retAddr 0]) [] ([], 0) (fun v M => v = some (.int 1) ∧ M.1.length ≤ 600000 ∧ M.2 ≤ 7302250)) : pw_Run L xs := by
  obtain ⟨f, v, M, h1, rfl, h2, h3⟩ := h
  exact ⟨f, M, h1, h2, h3⟩
