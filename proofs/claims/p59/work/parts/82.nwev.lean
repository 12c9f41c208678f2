/-! ===== its runs: a whole call, a stretch up to a place ===== -/
def nw_rv (N mj : Nat) (as_ : List Value) (H : nw_H) : Bool := match as_ with
  | .ref a :: _ => match nw_at N H a with
    | some (.inr (.inr (.inr (cj, _)))) => decide (cj = pw_own mj)
    | _ => false
  | _ => false
def nw_rc (N : Nat) (ins : Instr) (mj n : Nat) (st : List Value) (H : nw_H) : Bool :=
  decide (n ≤ st.length) && (decide (am_sum (st.drop n) ≤ 8 ∧ am_sum (st.take n) ≤ pw_mxl mj) && (match ins with
  | .invokestatic _ => true
  | .invokespecial _ => am_rs (st.take n).reverse
  | .invokevirtual _ => nw_rv N mj (st.take n).reverse H
  | _ => false))
def nw_ev (N : Nat) : Nat → Nat → Nat → am_L → List Value → nw_H → Option (Option Value × nw_H)
  | 0, _, _, _, _, _ => none
  | f + 1, mi, pc, lv, st, H => match pw_code mi pc with
    | none => none
    | some ins => match am_cl nw_P0 mi ins with
      | some (mj, n) => bif nw_rc N ins mj n st H then (match nw_ev N f mj 0 (lv_args 0 (st.take n).reverse) [] H with
          | some (v, H') => nw_ev N f mi (pc + 3) lv (v.toList ++ st.drop n) H'
          | none => none) else none
      | none => match am_rt nw_P0 mi ins st with
        | some v => some (v, H)
        | none => match nw_st N mi ins pc lv st H with
          | some c => nw_ev N f mi c.1 c.2.1 c.2.2.1 c.2.2.2
          | none => none
def nw_to (N mi stop : Nat) : Nat → Nat → am_L → List Value → nw_H → Option (am_L × List Value × nw_H)
  | 0, _, _, _, _ => none
  | f + 1, pc, lv, st, H => bif Nat.beq pc stop then some (lv, st, H) else match pw_code mi pc with
    | none => none
    | some ins => match am_cl nw_P0 mi ins with
      | some (mj, n) => bif nw_rc N ins mj n st H then (match nw_ev N f mj 0 (lv_args 0 (st.take n).reverse) [] H with
          | some (v, H') => nw_to N mi stop f (pc + 3) lv (v.toList ++ st.drop n) H'
          | none => none) else none
      | none => match am_rt nw_P0 mi ins st with
        | some _ => none
        | none => match nw_st N mi ins pc lv st H with
          | some c => nw_to N mi stop f c.1 c.2.1 c.2.2.1 c.2.2.2
          | none => none
section NWE
variable {B : am_M} {L : Nat} {xs : Nat → Int32}
theorem nw_rc_ok {mi mj n : Nat} {ins : Instr} {st : List Value} {H : nw_H} (h : nw_rc B.1.length ins mj n st H = true) : am_rc (pw_P L xs) mi ins mj n st (nw_h B H) = true := by
  unfold nw_rc at h
  unfold am_rc
  simp only [Bool.and_eq_true] at h ⊢
  obtain ⟨h1, h2, h3⟩ := h
  refine ⟨h1, h2, ?_⟩
  cases ins <;> first
    | exact h3
    | skip
  case invokevirtual i =>
    replace h3 : nw_rv B.1.length mj (st.take n).reverse H = true := h3
    show am_rv (pw_P L xs) mj (st.take n).reverse (nw_h B H) = true
    unfold nw_rv at h3
    split at h3
    · rename_i a r er
      split at h3
      · rename_i cj fs e2
        obtain ⟨e3, -⟩ := nw_at_ok e2
        rw [er]
        show (match (nw_h B H).1[a]? with
          | some (.inr (cj, _)) => decide (cj = pw_own mj)
          | _ => false) = true
        rw [e3]
        exact h3
      · cases h3
    · cases h3
theorem nw_ev_ok : ∀ (f mi pc : Nat) (lv : am_L) (st : List Value) (H : nw_H) (v : Option Value) (H' : nw_H), nw_ev B.1.length f mi pc lv st H = some (v, H') → am_ev (pw_P L xs) f mi pc lv st (nw_h B H) = some (v, nw_h B H') := by
  intro f
  induction f with
  | zero => intro mi pc lv st H v H' h; cases h
  | succ f ih =>
    intro mi pc lv st H v H' h
    rw [am_ev_s]
    unfold nw_ev at h
    unfold am_e1
    show (match pw_code mi pc with
      | none => none
      | some ins => match am_cl nw_P0 mi ins with
        | some (mj, n) => bif am_rc (pw_P L xs) mi ins mj n st (nw_h B H) then (match am_ev (pw_P L xs) f mj 0 (lv_args 0 (st.take n).reverse) [] (nw_h B H) with
            | some (v, M') => am_ev (pw_P L xs) f mi (pc + 3) lv (v.toList ++ st.drop n) M'
            | none => none) else none
        | none => match am_rt nw_P0 mi ins st with
          | some v => some (v, nw_h B H)
          | none => match am_st (pw_P L xs) mi ins pc lv st (nw_h B H) with
            | some (pc', lv', st', M') => am_ev (pw_P L xs) f mi pc' lv' st' M'
            | none => none) = _
    cases hc : pw_code mi pc with
    | none => rw [hc] at h; cases h
    | some ins =>
      rw [hc] at h
      dsimp only at h ⊢
      cases hcl : am_cl nw_P0 mi ins with
      | some q =>
        obtain ⟨mj, n⟩ := q
        rw [hcl] at h
        dsimp only at h ⊢
        obtain ⟨h1, h2⟩ := am_bif h
        clear h
        rw [nw_rc_ok (L := L) (xs := xs) (mi := mi) h1]
        dsimp only [cond_true]
        cases h3 : nw_ev B.1.length f mj 0 (lv_args 0 (st.take n).reverse) [] H with
        | none => rw [h3] at h2; cases h2
        | some q =>
          obtain ⟨v1, H1⟩ := q
          rw [h3] at h2
          rw [ih _ _ _ _ _ _ _ h3]
          exact ih _ _ _ _ _ _ _ h2
      | none =>
        rw [hcl] at h
        dsimp only at h ⊢
        cases hrt : am_rt nw_P0 mi ins st with
        | some v1 =>
          rw [hrt] at h
          cases h
          rfl
        | none =>
          rw [hrt] at h
          dsimp only at h ⊢
          cases hst : nw_st B.1.length mi ins pc lv st H with
          | none => rw [hst] at h; cases h
          | some q =>
            obtain ⟨p1, l1, s1, m1⟩ := q
            rw [hst] at h
            rw [nw_st_ok (L := L) (xs := xs) hst]
            exact ih _ _ _ _ _ _ _ h
theorem nw_to_ok {mi stop : Nat} {Q : Option Value → am_M → Prop} : ∀ (f pc : Nat) (lv : am_L) (st : List Value) (H : nw_H) (lv' : am_L) (st' : List Value) (H' : nw_H), nw_to B.1.length mi stop f pc lv st H = some (lv', st', H') → am_To (pw_P L xs) mi stop lv' st' (nw_h B H') Q → am_To (pw_P L xs) mi pc lv st (nw_h B H) Q := by
  intro f
  induction f with
  | zero => intro pc lv st H lv' st' H' h; cases h
  | succ f ih =>
    intro pc lv st H lv' st' H' h k
    unfold nw_to at h
    cases hs : Nat.beq pc stop with
    | true =>
      rw [hs] at h
      cases h
      rw [Nat.eq_of_beq_eq_true hs]
      exact k
    | false =>
      rw [hs] at h
      dsimp only [cond_false] at h
      cases hc : pw_code mi pc with
      | none => rw [hc] at h; cases h
      | some ins =>
        rw [hc] at h
        dsimp only at h
        cases hcl : am_cl nw_P0 mi ins with
        | some q =>
          obtain ⟨mj, n⟩ := q
          rw [hcl] at h
          dsimp only at h
          obtain ⟨h1, h2⟩ := am_bif h
          clear h
          cases h3 : nw_ev B.1.length f mj 0 (lv_args 0 (st.take n).reverse) [] H with
          | none => rw [h3] at h2; cases h2
          | some q =>
            obtain ⟨v1, H1⟩ := q
            rw [h3] at h2
            exact am_To.cal (P := pw_P L xs) hc hcl (nw_rc_ok h1) ⟨f, v1, nw_h B H1, nw_ev_ok _ _ _ _ _ _ _ _ h3, ih _ _ _ _ _ _ _ h2 k⟩
        | none =>
          rw [hcl] at h
          dsimp only at h
          cases hrt : am_rt nw_P0 mi ins st with
          | some v1 => rw [hrt] at h; cases h
          | none =>
            rw [hrt] at h
            dsimp only at h
            cases hst : nw_st B.1.length mi ins pc lv st H with
            | none => rw [hst] at h; cases h
            | some q =>
              obtain ⟨p1, l1, s1, m1⟩ := q
              rw [hst] at h
              exact am_To.stp (P := pw_P L xs) hc hcl hrt (nw_st_ok hst) (ih _ _ _ _ _ _ _ h k)
end NWE
