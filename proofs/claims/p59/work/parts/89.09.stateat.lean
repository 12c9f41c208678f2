/-! ===== stateAt itself ===== -/
theorem nw_state1 {h : Nat} (hh : h < 40) : ∃ H : nw_H, nw_ev (285 + 90 * h) 2000 32 0 [(0, .ref (285 + 90 * h))] [] ([nw_obj0], 17) = some (none, H) ∧ H.1.length = 90 ∧ H.2 = 1564 ∧ nw_ckl (285 + 90 * h) (fun r => at_w0l.getD r []) 0 H.1 = true := by
  have e := nw_state h hh
  unfold nw_one at e
  generalize nw_ev (285 + 90 * h) 2000 32 0 [(0, .ref (285 + 90 * h))] [] ([nw_obj0], 17) = r at e
  unfold nw_ckst at e
  split at e
  · rename_i H
    simp only [Bool.and_eq_true] at e
    exact ⟨H, rfl, Nat.eq_of_beq_eq_true e.1, Nat.eq_of_beq_eq_true e.2.1, e.2.2⟩
  · cases e
section ATSA
variable {L : Nat} {xs : Nat → Int32} {m : fl_M} {Q : Option fl_V → fl_M → Prop}
theorem fl_Tq.retA {P : am_Pg} {mi pc : Nat} {lv : fl_L} {τ p : Nat} (hc : am_code P mi pc = some .areturn) (hrt : am_rt P mi .areturn [.ref p] = some (some (.ref p))) (k : Q (some (.inr (.inr (.inl (τ, p))))) m) : fl_Tq P mi pc lv [.inr (.inr (.inl (τ, p)))] m Q :=
  fun la hl => am_To.ret (ins := .areturn) (v := some (.ref p)) hc rfl hrt ⟨_, m, rfl, rfl, k⟩
theorem at_hrow {q : Nat} (hq : q = 272 ∨ q = 274) : (fl_H m).1[q]? = some (.inl (4, 20, .inr (.inr (.inr (.inr (fun i => if i < 20 then (if m.1 q i = 0 then none else some (m.1 q i).toNatClampNeg) else none)))))) := by
  have hkq : fk_K q = 74 := by rcases hq with rfl | rfl <;> decide +kernel
  rw [fl_get (by unfold fl_N; omega), hkq]
  rfl
/-- a row of a history: what its load gives -/
theorem at_row {q i pc : Nat} {ii : Int32} {la : am_L} {r : List Value} (hq : q = 272 ∨ q = 274) (hi : ii.toInt = i) (hi2 : i < 20) : am_qald pc la (.int ii :: .ref q :: r) (fl_H m) = some (pc + 1, la, va_rf (if m.1 q i = 0 then none else some (m.1 q i).toNatClampNeg) :: r, fl_H m) := by
  obtain ⟨h1, h2⟩ := at_in_ok (i := ii) (n := 20) (by omega) (by omega)
  have h3 : ii.toNatClampNeg = i := by omega
  show ((match (fl_H m).1[q]? with
    | some (.inl (t, n, .inr (.inr (.inr (.inr f))))) => bif decide (2 ≤ t ∧ t < 5) && am_in ii n then some (pc + 1, la, va_rf (f ii.toNatClampNeg) :: r, fl_H m) else none
    | _ => none) : Option am_C) = _
  rw [at_hrow hq]
  show ((bif decide (2 ≤ 4 ∧ 4 < 5) && am_in ii 20 then some (pc + 1, la, va_rf (if ii.toNatClampNeg < 20 then (if m.1 q ii.toNatClampNeg = 0 then none else some (m.1 q ii.toNatClampNeg).toNatClampNeg) else none) :: r, fl_H m) else none) : Option am_C) = _
  rw [h1, h3, if_pos hi2]
  rfl
theorem at_t22 {p i x : Nat} {ii : Int32} (hkp : fk_K p = 73) (hpl : p < 285) (hkq : fk_K (p + 1) = 74) (hq : p + 1 = 272 ∨ p + 1 = 274) (hi : ii.toInt = i) (hi2 : i < 20) (h0 : m.1 (p + 1) i ≠ 0) (hx : (m.1 (p + 1) i).toInt = x) (k : Q (some (.inr (.inr (.inl (25, x))))) m) : fl_Tq (pw_P L xs) 24 22 [some (.inr (.inr (.inl (73, p)))), some (.inl ii)] [] m Q := by
  refine fl_Tq.stp rfl rfl (fl_bo rfl) rfl ?_
  refine fl_Tq.stp rfl rfl (fl_oks_ok ⟨fl_okp hkp hpl, True.intro⟩) rfl ?_
  refine fl_Tq.stp rfl rfl (fl_oks_ok ⟨fl_okp hkq (by show p + 1 < 285; omega), True.intro⟩) rfl ?_
  have e := fun la => at_row (m := m) (pc := 26 + 1) (r := []) (la := la) hq hi hi2
  have ex : (m.1 (p + 1) i).toNatClampNeg = x := by
    have : (m.1 (p + 1) i).toNatClampNeg = (m.1 (p + 1) i).toInt.toNat := rfl
    omega
  rw [if_neg h0, ex] at e
  refine fl_Tq.gen (ins := .aaload) (st' := [.inr (.inr (.inl (25, x)))]) rfl rfl rfl (fun la hl => ⟨la, e la, hl⟩) ?_
  exact fl_Tq.retA rfl rfl k
theorem at_v24 : at_Valid at_XI (pw_P L xs) (24, [.inl (73, none), .inr (false, 0, 19)], [], some (.inl 25), false, [(74, false, 0, 19)]) := by
  intro m vs hg hk _
  cases vs with
  | nil => cases hk
  | cons v r =>
  obtain ⟨⟨p, rfl, hkp, -, -⟩, hr⟩ := hk
  cases r with
  | nil => cases hr
  | cons v r =>
  obtain ⟨⟨ii, rfl, i1, i2⟩, hr⟩ := hr
  have hr0 := at_agnil (vs := r) hr
  subst hr0
  have hp := at_K73 (h := 0) hkp
  have hpl : p < 285 := by omega
  have hq : p + 1 = 272 ∨ p + 1 = 274 := by omega
  have hkq : fk_K (p + 1) = 74 := by rcases hp with rfl | rfl <;> decide +kernel
  obtain ⟨i, hi⟩ : ∃ i : Nat, ii.toInt = i := ⟨ii.toInt.toNat, by omega⟩
  have hi2 : i < 20 := by omega
  refine fl_Tq.stp rfl rfl (fl_bo rfl) rfl ?_
  refine fl_Tq.stp rfl rfl (fl_oks_ok ⟨fl_okp hkp hpl, True.intro⟩) rfl ?_
  refine fl_Tq.stp rfl rfl (fl_oks_ok ⟨fl_okp hkq (by show p + 1 < 285; omega), True.intro⟩) rfl ?_
  have e := fun la => at_row (m := m) (pc := 4 + 1) (r := []) (la := la) hq hi hi2
  by_cases h0 : m.1 (p + 1) i = 0
  · -- made now
    rw [if_pos h0] at e
    have k9 : ∀ Q : Option fl_V → fl_M → Prop, fl_Tq (pw_P L xs) 24 9 [some (.inr (.inr (.inl (73, p)))), some (.inl ii)] [] m Q → fl_Tq (pw_P L xs) 24 5 [some (.inr (.inr (.inl (73, p)))), some (.inl ii)] [.inl ii, .inr (.inr (.inl (74, p + 1)))] m Q := fun Q k la hl =>
      am_To.stp (ins := .aaload) (pc := 5) (lv := la) (st := [.int ii, .ref (p + 1)]) (M := fl_H m) (pc' := 6) (lv' := la) (st' := [.null]) (M' := fl_H m) rfl rfl rfl (e la) (am_To.stp (ins := .ifnonnull 16) (pc := 6) (lv := la) (st := [.null]) (M := fl_H m) (pc' := 9) (lv' := la) (st' := []) (M' := fl_H m) rfl rfl rfl rfl (k la hl))
    refine k9 _ ?_
    refine fl_Tq.stp rfl rfl (fl_bo rfl) rfl ?_
    refine fl_Tq.stp rfl rfl (fl_oks_ok ⟨fl_okp hkp hpl, True.intro⟩) rfl ?_
    refine fl_Tq.stp rfl rfl (fl_oks_ok ⟨fl_okp hkq (by show p + 1 < 285; omega), True.intro⟩) rfl ?_
    have hN : (fl_H m).1.length = 285 + 90 * m.2.2 := by unfold fl_H fl_N; simp
    have hh40 := hg.2.2.h40
    obtain ⟨x, hx⟩ : ∃ x : Int32, x.toInt = 285 + 90 * (m.2.2 : Int) := ⟨Int32.ofNat (285 + 90 * m.2.2), by rw [at_ofN (by omega)]; omega⟩
    obtain ⟨g1, g2, g3⟩ := at_made hg hq hi2 h0 hx
    obtain ⟨H, eH, l1, l2, l3⟩ := nw_state1 g1
    have em := at_more hg.2.2 l1 l2 l3
    intro la hl
    refine am_To.stp (ins := .new 9) (pc' := 17) (lv' := la) (st' := [.ref (fl_H m).1.length, .int ii, .ref (p + 1)]) (M' := nw_h (fl_H m) ([nw_obj0], 17)) rfl rfl rfl rfl ?_
    refine am_To.stp (ins := .dup) (pc' := 18) (lv' := la) (st' := [.ref (fl_H m).1.length, .ref (fl_H m).1.length, .int ii, .ref (p + 1)]) (M' := nw_h (fl_H m) ([nw_obj0], 17)) rfl rfl rfl rfl ?_
    refine am_To.cal (ins := .invokespecial 36) (mj := 32) (n := 1) rfl rfl rfl ?_
    refine ⟨2000, none, nw_h (fl_H m) H, nw_ev_ok (B := fl_H m) 2000 32 0 _ [] _ none H ?_, ?_⟩
    · rw [hN]
      exact eH
    · rw [em]
      have hrow := at_hrow (m := ((m.1, m.2.1, m.2.2 + 1) : fl_M)) hq
      obtain ⟨n1, n2⟩ := at_in_ok (i := ii) (n := 20) (by omega) (by omega)
      have n3 : ii.toNatClampNeg = i := by omega
      have hN2 : (fl_H (m.1, m.2.1, m.2.2 + 1)).1[285 + 90 * m.2.2]? = some (fl_ob (fk_kd (fk_K (285 + 90 * m.2.2))) (285 + 90 * m.2.2) (m.1 (285 + 90 * m.2.2)) (m.2.1 (285 + 90 * m.2.2))) := fl_get (m := (m.1, m.2.1, m.2.2 + 1)) (by show _ < fl_N (m.2.2 + 1); unfold fl_N; omega)
      rw [at_K25] at hN2
      have exN : x.toNatClampNeg = 285 + 90 * m.2.2 := by
        have : x.toNatClampNeg = x.toInt.toNat := rfl
        omega
      have hxne : x ≠ 0 := fun h => by
        rw [h] at hx
        have : (0 : Int32).toInt = 0 := rfl
        omega
      have es : am_qast (pw_P L xs) 21 la [.ref (285 + 90 * m.2.2), .int ii, .ref (p + 1)] (fl_H (m.1, m.2.1, m.2.2 + 1)) = some (22, la, [], fl_H (fl_up m.1 (p + 1) i x, m.2.1, m.2.2 + 1)) := by
        show ((match (fl_H (m.1, m.2.1, m.2.2 + 1)).1[p + 1]?, (fl_H (m.1, m.2.1, m.2.2 + 1)).1[285 + 90 * m.2.2]? with
          | some (.inl (t, n, .inr (.inr (.inr (.inr f))))), some (.inr (cj, _)) => bif decide (2 ≤ t ∧ t < 5) && (decide (pw_elt t = cj) && am_in ii n) then some (21 + 1, la, [], ((fl_H (m.1, m.2.1, m.2.2 + 1)).1.set (p + 1) (.inl (t, n, .inr (.inr (.inr (.inr (va_up f ii.toNatClampNeg (some (285 + 90 * m.2.2)))))))), (fl_H (m.1, m.2.1, m.2.2 + 1)).2)) else none
          | _, _ => none) : Option am_C) = _
        rw [hrow, hN2]
        show ((bif decide (2 ≤ 4 ∧ 4 < 5) && (decide (pw_elt 4 = 4) && am_in ii 20) then some (21 + 1, la, [], ((fl_H (m.1, m.2.1, m.2.2 + 1)).1.set (p + 1) (.inl (4, 20, .inr (.inr (.inr (.inr (va_up (fun i => if i < 20 then (if m.1 (p + 1) i = 0 then none else some (m.1 (p + 1) i).toNatClampNeg) else none) ii.toNatClampNeg (some (285 + 90 * m.2.2)))))))), (fl_H (m.1, m.2.1, m.2.2 + 1)).2)) else none) : Option am_C) = _
        rw [n1, n3]
        have ef : va_up (fun i => if i < 20 then (if m.1 (p + 1) i = 0 then none else some (m.1 (p + 1) i).toNatClampNeg) else none) i (some (285 + 90 * m.2.2)) = (fun j => if j < 20 then (if upd (m.1 (p + 1)) i x j = 0 then none else some (upd (m.1 (p + 1)) i x j).toNatClampNeg) else none) := by
          funext j
          unfold va_up upd
          by_cases hj : j = i
          · rw [if_pos hj, if_pos hj, if_pos (by omega), if_neg hxne, exN]
          · rw [if_neg hj, if_neg hj]
        rw [ef]
        have hset := fl_setR (m := ((m.1, m.2.1, m.2.2 + 1) : fl_M)) (p := p + 1) (w := upd (m.1 (p + 1)) i x) (by show p + 1 < fl_N (m.2.2 + 1); unfold fl_N; omega)
        rw [hkq] at hset
        rw [fl_up_row]
        show some (22, la, [], ((fl_H (m.1, m.2.1, m.2.2 + 1)).1.set (p + 1) (fl_ob (fk_kd 74) (p + 1) (upd (m.1 (p + 1)) i x) (m.2.1 (p + 1))), (fl_H (m.1, m.2.1, m.2.2 + 1)).2)) = _
        rw [hset]
      refine am_To.stp (ins := .aastore) (pc' := 22) (lv' := la) (st' := []) (M' := fl_H (fl_up m.1 (p + 1) i x, m.2.1, m.2.2 + 1)) rfl rfl rfl ?_ ?_
      · rw [hN]
        exact es
      · refine at_t22 (m := (fl_up m.1 (p + 1) i x, m.2.1, m.2.2 + 1)) (x := 285 + 90 * m.2.2) hkp hpl hkq hq hi hi2 ?_ ?_ ⟨g2, g3, ⟨285 + 90 * m.2.2, rfl, at_K25 _, ?_, by omega⟩⟩ la hl
        · show fl_up m.1 (p + 1) i x (p + 1) i ≠ 0
          rw [bl_ue]
          exact hxne
        · show (fl_up m.1 (p + 1) i x (p + 1) i).toInt = _
          rw [bl_ue, hx]
          omega
        · show 285 + 90 * m.2.2 < fl_N (m.2.2 + 1)
          unfold fl_N
          omega
  · -- there already
    rw [if_neg h0] at e
    obtain ⟨j, hj, hx⟩ : ∃ j, j < m.2.2 ∧ (m.1 (p + 1) i).toInt = 285 + 90 * (j : Int) := by
      rcases hg.2.2.1 (p + 1) hq i hi2 with h | h
      · exact absurd h h0
      · exact h
    have ex : (m.1 (p + 1) i).toNatClampNeg = 285 + 90 * j := by
      have : (m.1 (p + 1) i).toNatClampNeg = (m.1 (p + 1) i).toInt.toNat := rfl
      omega
    rw [ex] at e
    refine fl_Tq.gen (ins := .aaload) (pc' := 6) (lv' := [some (.inr (.inr (.inl (73, p)))), some (.inl ii)]) (st' := [.inr (.inr (.inl (25, 285 + 90 * j)))]) rfl rfl rfl (fun la hl => ⟨la, e la, hl⟩) ?_
    refine fl_Tq.gen (ins := .ifnonnull 16) (pc' := 22) (lv' := [some (.inr (.inr (.inl (73, p)))), some (.inl ii)]) (st' := []) rfl rfl rfl (fun la hl => ⟨la, rfl, hl⟩) ?_
    have h40 := hg.2.2.h40
    refine at_t22 (x := 285 + 90 * j) hkp hpl hkq hq hi hi2 h0 (by omega) ⟨hg, at_MD.rf, ⟨285 + 90 * j, rfl, at_K25 _, by unfold fl_N; omega, by omega⟩⟩
end ATSA
