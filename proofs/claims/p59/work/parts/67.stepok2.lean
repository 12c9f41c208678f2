/-! ===== the looker's step: fields, arrays, copies, switches ===== -/
/-- what is asked of the rest of the memory: the looker's writes leave it alone -/
def at_XX (X : fl_M → Prop) : Prop := (∀ (m : fl_M) (p i : Nat) (x : Int32), X m → p < fl_N m.2.2 → ¬ at_prot (fk_K p) i → X (fl_up m.1 p i x, m.2)) ∧ (∀ (m : fl_M) (l : Nat → Nat → Int64), X m → X (m.1, l, m.2.2)) ∧ (∀ (m : fl_M) (p : Nat) (w : Nat → Int32), X m → p < fl_N m.2.2 → (∀ j : Nat, ¬ at_prot (fk_K p) j) → X (fl_row m.1 p w, m.2))
theorem at_in_ok {i : Int32} {n : Nat} (h1 : 0 ≤ i.toInt) (h2 : i.toInt ≤ n - 1) : am_in i n = true ∧ (i.toNatClampNeg : Int) = i.toInt := by
  have e : i.toNatClampNeg = i.toInt.toNat := rfl
  unfold am_in
  refine ⟨?_, by rw [e]; omega⟩
  have h0 : ¬ i < 0 := by
    rw [Int32.lt_iff_toInt_lt]
    show ¬ i.toInt < 0
    omega
  rw [decide_eq_false h0, e]
  simp only [Bool.not_false, Bool.true_and, decide_eq_true_eq]
  omega
section ATY
variable {X : fl_M → Prop} {m0 m : fl_M} {ν ν' : Nat → Int} {S : at_S} {lv : at_L} {st r : List at_V} {fl : fl_L} {fs : List fl_V} {L : Nat} {xs : Nat → Int32} {mi pc : Nat}
/-- a word that was read is pushed -/
theorem at_push_ld {t p i pc' : Nat} {pl idx : at_A} (h : at_G X m0 m ν S lv r fl fs) (wp : at_wf S.1.1.length pl) (wi : at_wf S.1.1.length idx) (ep : at_ev ν pl = p) (ei : at_ev ν idx = i) (hk : fk_K p = t) (hp : p < fl_N m.2.2) : at_Nx X m0 ν S.1.1.length [(pc', (at_ld S t pl idx).1, lv, .inl (at_ld S t pl idx).2 :: r)] (pc', fl, .inl (m.1 p i) :: fs, m) := by
  obtain ⟨ν1, ag1, le1, g1, w1, e1, -⟩ := at_ld_ok h.1 wp wi ep ei hk hp
  exact at_Nx.one (by rfl) ag1 le1 ((h.mem ag1 le1 (Nat.le_refl _) g1).push ⟨_, rfl, e1.symm⟩ w1)
theorem at_gf_ok {own idx : Nat} {alts : List at_N} (h : at_G X m0 m ν S lv st fl fs) (e : at_gf own idx pc S lv st = some alts) : ∃ c, fl_gf (pw_P L xs) own idx pc fl fs m = some c ∧ at_Nx X m0 ν S.1.1.length alts c := by
  unfold at_gf at e
  split at e
  · rename_i q r
    obtain ⟨t, a⟩ := q
    obtain ⟨v, s, rfl, ⟨p, rfl, ea, hk, hp⟩, hw, hG⟩ := h.pop
    dsimp only at e ea hk hw
    split at e
    · rename_i ci k cj fs0 e1 e2
      obtain ⟨hc, e3⟩ := am_bif e
      clear e
      have hc := Nat.eq_of_beq_eq_true hc
      subst hc
      have e := e3
      unfold fl_gf
      dsimp only
      have e1' : am_fld (pw_P L xs) own idx = some (ci, k) := e1
      rw [e1', e2]
      dsimp only
      rw [if_pos rfl]
      split at e
      · rename_i ef
        cases e
        rw [ef]
        exact ⟨_, rfl, at_push_ld hG hw at_wf_c ea (at_ev_c _ _) hk hp⟩
      · rename_i u ef
        cases e
        rw [ef]
        obtain ⟨f1, f2⟩ := fk_fld (h := m.2.2) hp (by rw [hk]; exact e2) ef
        refine ⟨_, rfl, at_Nx.one (by rfl) at_ag.rfl (Nat.le_refl _) (hG.push ⟨p + u.2, rfl, ?_, f1, f2⟩ (at_wf_add hw at_wf_c))⟩
        dsimp only
        rw [at_ev_add, at_ev_c, ea]
        omega
      · cases e
    · cases e
  · cases e
theorem at_pf_ok2 (hX : at_XX X) {own idx : Nat} {alts : List at_N} (h : at_G X m0 m ν S lv st fl fs) (e : at_pfd mi own idx pc S lv st = some alts) : ∃ c, fl_pf (pw_P L xs) mi own idx pc fl fs m = some c ∧ at_Nx X m0 ν S.1.1.length alts c := by
  unfold at_pfd at e
  split at e
  · rename_i a q r
    obtain ⟨t, pa⟩ := q
    obtain ⟨v, s, rfl, ⟨x, rfl, ex⟩, hw, hG⟩ := h.pop
    obtain ⟨v2, s2, rfl, ⟨p, rfl, ea, hk, hp⟩, hw2, hG2⟩ := hG.pop
    dsimp only at e ea hk hw2
    split at e
    · rename_i ci k cj fs0 e1 e2
      split at e
      · rename_i ef
        obtain ⟨hb, e3⟩ := am_bif e
        clear e
        simp only [Bool.and_eq_true] at hb
        obtain ⟨hc, hf, hz⟩ := hb
        have hc := Nat.eq_of_beq_eq_true hc
        subst hc
        have e := e3
        split at e
        · rename_i S' es
          cases e
          unfold fl_pf
          dsimp only
          have e1' : am_fld (pw_P L xs) own idx = some (ci, k) := e1
          rw [e1', e2]
          dsimp only
          rw [ef]
          dsimp only
          have hft : am_ft (pw_fty ci k) (.int x) = true := by
            unfold at_fok at hf
            split at hf
            · rename_i et; rw [et]; rfl
            · rename_i et
              rw [et]
              obtain ⟨b1, b2⟩ := at_inR_ok h.1.1.1 hf
              rw [← ex] at b1 b2
              have hx : x = 0 ∨ x = 1 := by
                rcases (show x.toInt = 0 ∨ x.toInt = 1 by omega) with h | h
                · exact Or.inl (Int32.toInt.inj h)
                · exact Or.inr (Int32.toInt.inj h)
              rcases hx with rfl | rfl <;> rfl
            · cases hf
          have hcond : (decide (ci = ci) && (am_ft (am_fty (pw_P L xs) ci k) (.int x) && (!am_fin (pw_P L xs) ci k || (am_ini (pw_P L xs) mi && decide (own = ci))))) = true := by
            simp only [Bool.and_eq_true, Bool.or_eq_true, decide_eq_true_eq]
            refine ⟨True.intro, hft, ?_⟩
            rcases (Bool.or_eq_true _ _).mp hz with hz | hz
            · exact Or.inl hz
            · simp only [Bool.and_eq_true] at hz
              exact Or.inr ⟨hz.1, Nat.eq_of_beq_eq_true hz.2⟩
          rw [hcond]
          dsimp only [cond_true]
          obtain ⟨ν1, ag1, le1, g1⟩ := at_sv_ok (fun m p i x => hX.1 m p i x) h.1 (x := x) hw2 (at_wf_c (k := k)) hw ea (at_ev_c _ _) ex hk hp es
          exact ⟨_, rfl, at_Nx.one (by rfl) ag1 le1 (hG2.mem (m' := (fl_up m.1 p k x, m.2)) ag1 le1 (Nat.le_refl _) g1)⟩
        · cases e
      · cases e
    · cases e
  · cases e
theorem at_ic_getD {l : List Int32} (k : Nat) : at_tmin l ≤ (l.getD k 0).toInt ∧ (l.getD k 0).toInt ≤ at_tmax l := by
  induction l generalizing k with
  | nil => simp [at_tmin, at_tmax]
  | cons x l ih =>
    have h0 : at_tmin (x :: l) = min x.toInt (at_tmin l) := rfl
    have h1 : at_tmax (x :: l) = max x.toInt (at_tmax l) := rfl
    rw [h0, h1]
    cases k with
    | zero =>
      show min _ _ ≤ x.toInt ∧ x.toInt ≤ max _ _
      omega
    | succ k =>
      have := ih k
      show min _ _ ≤ (l.getD k 0).toInt ∧ (l.getD k 0).toInt ≤ max _ _
      omega
theorem at_ald_ok {alts : List at_N} (h : at_G X m0 m ν S lv st fl fs) (e : at_ald pc S lv st = some alts) : ∃ c, fl_ald (pw_P L xs) pc fl fs m = some c ∧ at_Nx X m0 ν S.1.1.length alts c := by
  unfold at_ald at e
  split at e
  · rename_i a q r
    obtain ⟨t, pa⟩ := q
    obtain ⟨v, s, rfl, ⟨i, rfl, ei⟩, hw, hG⟩ := h.pop
    obtain ⟨v2, s2, rfl, ⟨p, rfl, ea, hk, hp⟩, hw2, hG2⟩ := hG.pop
    dsimp only at e ea hk hw2
    split at e
    · rename_i n z e2
      obtain ⟨hb, e⟩ := am_bif e
      cases e
      obtain ⟨b1, b2⟩ := at_inR_ok h.1.1.1 hb
      rw [← ei] at b1 b2
      obtain ⟨i1, i2⟩ := at_in_ok b1 b2
      unfold fl_ald
      dsimp only
      rw [e2]
      refine ⟨(pc + 1, fl, .inl (m.1 p i.toNatClampNeg) :: s2, m), ?_, at_push_ld hG2 hw2 hw ea (by rw [← ei, i2]) hk hp⟩
      show (bif am_in i n then _ else none) = _
      rw [i1]
      rfl
    · cases e
  · rename_i a c r
    obtain ⟨v, s, rfl, ⟨i, rfl, ei⟩, hw, hG⟩ := h.pop
    obtain ⟨v2, s2, rfl, hv2, hw2, hG2⟩ := hG.pop
    cases hv2
    dsimp only at e
    obtain ⟨hb, e⟩ := am_bif e
    obtain ⟨b1, b2⟩ := at_inR_ok h.1.1.1 hb
    rw [← ei] at b1 b2
    cases c with
    | zero =>
      have b2 : i.toInt ≤ 0 - 1 := b2
      omega
    | succ c =>
      have hct : c < pw_tab_l.length := by
        rcases Nat.lt_or_ge c pw_tab_l.length with h | h
        · exact h
        · exfalso
          have e0 : at_tab (c + 1) = [] := by
            show pw_tab_l.getD c [] = []
            rw [List.getD_eq_getElem?_getD, List.getElem?_eq_none h]
            rfl
          rw [e0] at b2
          have b2 : i.toInt ≤ 0 - 1 := b2
          omega
      have ecst : am_cst (pw_P L xs) (c + 1) = some ((at_tab (c + 1)).length, fun j => (at_tab (c + 1)).getD j 0) := by
        show pw_cst L xs (c + 1) = _
        unfold pw_cst
        dsimp only
        rw [if_pos hct]
        rfl
      obtain ⟨i1, i2⟩ := at_in_ok b1 b2
      unfold fl_ald
      dsimp only
      rw [ecst]
      refine ⟨(pc + 1, fl, .inl ((at_tab (c + 1)).getD i.toNatClampNeg 0) :: s2, m), ?_, ?_⟩
      · show (bif am_in i (at_tab (c + 1)).length then _ else none) = _
        rw [i1]
        rfl
      · split at e
        · rename_i k ek
          refine at_i_ok hG2 ?_ e
          have := at_ic_ok h.1.1.1.1 ek
          have ek2 : i.toNatClampNeg = k.toNat := by omega
          rw [ek2]
          exact at_Sp.c h.1.1 _
        · refine at_i_ok hG2 ?_ e
          obtain ⟨k1, k2⟩ := at_ic_getD (l := at_tab (c + 1)) i.toNatClampNeg
          exact at_fr_ok h.1.1 k1 k2
  · cases e
theorem at_ast_ok (hX : at_XX X) {alts : List at_N} (h : at_G X m0 m ν S lv st fl fs) (e : at_ast pc S lv st = some alts) : ∃ c, fl_ast pc fl fs m = some c ∧ at_Nx X m0 ν S.1.1.length alts c := by
  unfold at_ast at e
  split at e
  · rename_i xa a q r
    obtain ⟨t, pa⟩ := q
    obtain ⟨v0, s0, rfl, ⟨x, rfl, ex⟩, hw0, hG0⟩ := h.pop
    obtain ⟨v, s, rfl, ⟨i, rfl, ei⟩, hw, hG⟩ := hG0.pop
    obtain ⟨v2, s2, rfl, ⟨p, rfl, ea, hk, hp⟩, hw2, hG2⟩ := hG.pop
    dsimp only at e ea hk hw2
    split at e
    · rename_i n z e2
      obtain ⟨hb, e⟩ := am_bif e
      obtain ⟨b1, b2⟩ := at_inR_ok h.1.1.1 hb
      rw [← ei] at b1 b2
      obtain ⟨i1, i2⟩ := at_in_ok b1 b2
      split at e
      · rename_i S' es
        cases e
        unfold fl_ast
        dsimp only
        rw [e2]
        obtain ⟨ν1, ag1, le1, g1⟩ := at_sv_ok (fun m p i x => hX.1 m p i x) h.1 (x := x) (i := i.toNatClampNeg) hw2 hw hw0 ea (by rw [← ei, i2]) ex hk hp es
        refine ⟨(pc + 1, fl, s2, (fl_up m.1 p i.toNatClampNeg x, m.2)), ?_, at_Nx.one (by rfl) ag1 le1 (hG2.mem (m' := (fl_up m.1 p i.toNatClampNeg x, m.2)) ag1 le1 (Nat.le_refl _) g1)⟩
        show (bif am_in i n then _ else none) = _
        rw [i1]
        rfl
      · cases e
    · cases e
  · cases e
theorem at_lald_ok {alts : List at_N} (h : at_G X m0 m ν S lv st fl fs) (e : at_lald pc S lv st = some alts) : ∃ c, fl_lald pc fl fs m = some c ∧ at_Nx X m0 ν S.1.1.length alts c := by
  unfold at_lald at e
  split at e
  · rename_i a q r
    obtain ⟨t, pa⟩ := q
    obtain ⟨v, s, rfl, ⟨i, rfl, ei⟩, hw, hG⟩ := h.pop
    obtain ⟨v2, s2, rfl, ⟨p, rfl, ea, hk, hp⟩, hw2, hG2⟩ := hG.pop
    dsimp only at e ea hk hw2
    split at e
    · rename_i n z e2
      obtain ⟨hb, e⟩ := am_bif e
      obtain ⟨b1, b2⟩ := at_inR_ok h.1.1.1 hb
      rw [← ei] at b1 b2
      obtain ⟨i1, i2⟩ := at_in_ok b1 b2
      unfold fl_lald
      dsimp only
      rw [e2]
      obtain ⟨k1, k2⟩ := at_i64 (m.2.1 p i.toNatClampNeg)
      refine ⟨(pc + 1, fl, .inr (.inl (m.2.1 p i.toNatClampNeg)) :: s2, m), ?_, at_j_ok hG2 (at_fr_ok h.1.1 k1 k2) e⟩
      show (bif am_in i n then _ else none) = _
      rw [i1]
      rfl
    · cases e
  · cases e
theorem at_last_ok (hX : at_XX X) {alts : List at_N} (h : at_G X m0 m ν S lv st fl fs) (e : at_last pc S lv st = some alts) : ∃ c, fl_last pc fl fs m = some c ∧ at_Nx X m0 ν S.1.1.length alts c := by
  unfold at_last at e
  split at e
  · rename_i xa a q r
    obtain ⟨t, pa⟩ := q
    obtain ⟨v0, s0, rfl, ⟨x, rfl, ex⟩, hw0, hG0⟩ := h.pop
    obtain ⟨v, s, rfl, ⟨i, rfl, ei⟩, hw, hG⟩ := hG0.pop
    obtain ⟨v2, s2, rfl, ⟨p, rfl, ea, hk, hp⟩, hw2, hG2⟩ := hG.pop
    dsimp only at e ea hk hw2
    split at e
    · rename_i n z e2
      obtain ⟨hb, e⟩ := am_bif e
      cases e
      obtain ⟨b1, b2⟩ := at_inR_ok h.1.1.1 hb
      rw [← ei] at b1 b2
      obtain ⟨i1, i2⟩ := at_in_ok b1 b2
      unfold fl_last
      dsimp only
      rw [e2]
      refine ⟨(pc + 1, fl, s2, (m.1, fl_upL m.2.1 p i.toNatClampNeg x, m.2.2)), ?_, at_Nx.one (by rfl) at_ag.rfl (Nat.le_refl _) (hG2.mem (m' := (m.1, fl_upL m.2.1 p i.toNatClampNeg x, m.2.2)) at_ag.rfl (Nat.le_refl _) (Nat.le_refl _) (h.1.lng hX.2.1))⟩
      show (bif am_in i n then _ else none) = _
      rw [i1]
      rfl
    · cases e
  · cases e
theorem at_qald_ok {alts : List at_N} (h : at_G X m0 m ν S lv st fl fs) (e : at_qald pc S lv st = some alts) : ∃ c, fl_qald pc fl fs m = some c ∧ at_Nx X m0 ν S.1.1.length alts c := by
  unfold at_qald at e
  split at e
  · rename_i a q r
    obtain ⟨t0, pa⟩ := q
    obtain ⟨v, s, rfl, ⟨i, rfl, ei⟩, hw, hG⟩ := h.pop
    obtain ⟨v2, s2, rfl, ⟨p, rfl, ea, hk, hp⟩, hw2, hG2⟩ := hG.pop
    dsimp only at e ea hk hw2
    split at e
    · rename_i t n τ b d e2
      obtain ⟨hb, e⟩ := am_bif e
      cases e
      simp only [Bool.and_eq_true, Bool.not_eq_true'] at hb
      obtain ⟨h1, h2, h3, h4⟩ := hb
      have h1 := Nat.le_of_ble_eq_true h1
      have h2 : t < 5 := by unfold Nat.blt at h2; exact Nat.le_of_ble_eq_true h2
      have h3 : d ≠ 0 := fun q => by rw [q] at h3; cases h3
      obtain ⟨b1, b2⟩ := at_inR_ok h.1.1.1 h4
      rw [← ei] at b1 b2
      obtain ⟨i1, i2⟩ := at_in_ok b1 b2
      unfold fl_qald
      dsimp only
      rw [e2]
      dsimp only
      obtain ⟨f1, f2⟩ := fk_elt (h := m.2.2) (i := i.toNatClampNeg) hp (by rw [hk]; exact e2) h3 (by omega)
      refine ⟨(pc + 1, fl, .inr (.inr (.inl (τ, p + b + d * i.toNatClampNeg))) :: s2, m), ?_, at_Nx.one (by rfl) at_ag.rfl (Nat.le_refl _) (hG2.push ⟨p + b + d * i.toNatClampNeg, rfl, ?_, f1, f2⟩ (at_wf_add (at_wf_add hw2 at_wf_c) (at_wf_mul hw)))⟩
      · have hc : (decide (2 ≤ t ∧ t < 5) && (decide (d ≠ 0) && am_in i n)) = true := by
          simp only [Bool.and_eq_true, decide_eq_true_eq]
          exact ⟨⟨h1, h2⟩, h3, i1⟩
        rw [hc]
        rfl
      · dsimp only
        rw [at_ev_add, at_ev_add, at_ev_mul, at_ev_c, ea, ← ei, ← i2]
        simp only [Int.natCast_add, Int.natCast_mul]
    · cases e
  · cases e
theorem at_ofNat {n : Nat} (h : n < 2147483648) : (Int32.ofNat n).toInt = n := by
  have e : Int32.ofNat n = Int32.ofInt n := rfl
  rw [e, Int32.toInt_ofInt_of_le (by omega) (by omega)]
theorem at_len_ok {alts : List at_N} (h : at_G X m0 m ν S lv st fl fs) (e : at_len pc S lv st = some alts) : ∃ c, fl_len (pw_P L xs) pc fl fs m = some c ∧ at_Nx X m0 ν S.1.1.length alts c := by
  unfold at_len at e
  split at e
  · rename_i q r
    obtain ⟨t0, pa⟩ := q
    obtain ⟨v2, s2, rfl, ⟨p, rfl, ea, hk, hp⟩, hw2, hG2⟩ := h.pop
    dsimp only at e ea hk hw2
    split at e
    · rename_i t n z e2
      obtain ⟨hb, e⟩ := am_bif e
      simp only [Bool.and_eq_true] at hb
      obtain ⟨h1, h2⟩ := hb
      have h1 : t < 5 := by unfold Nat.blt at h1; exact Nat.le_of_ble_eq_true h1
      have h2 : n < 2147483648 := by unfold Nat.blt at h2; exact Nat.le_of_ble_eq_true h2
      unfold fl_len
      dsimp only
      rw [e2]
      dsimp only
      rw [if_pos h1]
      refine ⟨_, rfl, at_i_ok hG2 ?_ e⟩
      rw [at_ofNat h2]
      exact at_Sp.c h.1.1 _
    · cases e
  · rename_i c r
    obtain ⟨v2, s2, rfl, hv2, hw2, hG2⟩ := h.pop
    cases hv2
    obtain ⟨hb, e⟩ := am_bif e
    simp only [Bool.and_eq_true] at hb
    obtain ⟨hb1, hb2⟩ := hb
    have hct : c < pw_tab_l.length := by unfold Nat.blt at hb1; exact Nat.le_of_ble_eq_true hb1
    have h2 : (at_tab (c + 1)).length < 2147483648 := by unfold Nat.blt at hb2; exact Nat.le_of_ble_eq_true hb2
    have ecst : am_cst (pw_P L xs) (c + 1) = some ((at_tab (c + 1)).length, fun j => (at_tab (c + 1)).getD j 0) := by
      show pw_cst L xs (c + 1) = _
      unfold pw_cst
      dsimp only
      rw [if_pos hct]
      rfl
    unfold fl_len
    dsimp only
    rw [ecst]
    refine ⟨_, rfl, at_i_ok hG2 ?_ e⟩
    rw [at_ofNat h2]
    exact at_Sp.c h.1.1 _
  · cases e
end ATY
