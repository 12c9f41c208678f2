/-! ===== A WORD IS WRITTEN; rows that are copied ===== -/
section ATV
variable {X : fl_M → Prop} {m0 m : fl_M} {ν ν' : Nat → Int} {S : at_S}
theorem at_fin_wr {P : at_P} {t : Nat} {idx : at_A} {wr : List at_W} : (∀ w ∈ wr, w ∈ (fun e : at_W => bif wr.any (at_eqW e) then wr else e :: wr) (at_en P.1 t idx)) ∧ at_en P.1 t idx ∈ (fun e : at_W => bif wr.any (at_eqW e) then wr else e :: wr) (at_en P.1 t idx) := by
  dsimp only
  cases h : wr.any (at_eqW (at_en P.1 t idx)) with
  | true =>
    obtain ⟨b, hb, e⟩ := List.any_eq_true.mp h
    have := at_eqW_ok e
    exact ⟨fun w hw => hw, by rw [this]; exact hb⟩
  | false => exact ⟨fun w hw => List.mem_cons_of_mem _ hw, List.mem_cons_self⟩
theorem at_sv_ok (hX : ∀ (m : fl_M) (p i : Nat) (x : Int32), X m → p < fl_N m.2.2 → ¬ at_prot (fk_K p) i → X (fl_up m.1 p i x, m.2)) (h : at_GS X m0 m ν S) {t p i : Nat} {pl idx v : at_A} {x : Int32} (wp : at_wf S.1.1.length pl) (wi : at_wf S.1.1.length idx) (wv : at_wf S.1.1.length v) (ep : at_ev ν pl = p) (ei : at_ev ν idx = i) (ex : x.toInt = at_ev ν v) (hk : fk_K p = t) (hp : p < fl_N m.2.2) {S' : at_S} (hs : at_sv S t pl idx v = some S') : ∃ ν', at_ag S.1.1.length ν ν' ∧ S.1.1.length ≤ S'.1.1.length ∧ at_GS X m0 (fl_up m.1 p i x, m.2) ν' S' := by
  unfold at_sv at hs
  obtain ⟨hb, hs⟩ := am_bif hs
  simp only [Bool.and_eq_true] at hb
  obtain ⟨hb, hn⟩ := hb
  have hn := at_np_ok h.1.1.1 hn
  rw [ei] at hn
  have hXm := hX m p i x h.2.2.2.2.2.1 hp (hk ▸ hn)
  have hRG := h.2.2.2.1.up h.1.1 ei ex hk hb
  cases ht : Nat.beq t at_TA with
  | true =>
    rw [ht] at hs
    dsimp only [cond_true] at hs
    have ht := Nat.eq_of_beq_eq_true ht
    subst ht
    have h280 := at_isA hk
    subst h280
    obtain ⟨ν1, ag1, le1, g1, wf1, e1, same1⟩ := at_cs_ok h
    split at hs
    · rename_i brk hbk
      cases hs
      have ep1 : at_ev ν1 pl = (280 : Nat) := by rw [at_ev_ag ag1 wp]; exact ep
      have ei1 : at_ev ν1 idx = i := by rw [at_ev_ag ag1 wi]; exact ei
      have ex1 : x.toInt = at_ev ν1 v := by rw [at_ev_ag ag1 wv]; exact ex
      obtain ⟨k1, k2⟩ := at_svA_ok g1 wf1 e1 ep1 ei1 (wi.mono le1) ex1 hbk
      obtain ⟨q1, q2⟩ := at_fin_wr (P := (at_cs S).1.1) (t := at_TA) (idx := idx) (wr := (at_cs S).1.2.2.1)
      have hcv := at_en_ok g1.1.1.1 (t := at_TA) (idx := idx)
      rw [ei1] at hcv
      exact ⟨ν1, ag1, le1, g1.1, at_keep_ok g1 (wp.mono le1) (wi.mono le1) (wv.mono le1) ep1 ei1 ex1 hk, k2, hRG, k1, hXm, g1.2.2.2.2.2.2.up (hk ▸ hcv) q1 q2⟩
    · cases hs
  | false =>
    rw [ht] at hs
    cases hs
    obtain ⟨q1, q2⟩ := at_fin_wr (P := S.1) (t := t) (idx := idx) (wr := S.2.2.1)
    have hcv := at_en_ok h.1.1.1 (t := t) (idx := idx)
    rw [ei] at hcv
    have hne : p ≠ 280 := by
      rintro rfl
      rw [at_K280] at hk
      rw [← hk, Nat.beq_refl] at ht
      cases ht
    have hw : ∀ j, at_w (fl_up m.1 p i x, m.2) j = at_w m j := fun j => by
      unfold at_w
      dsimp only
      rw [at_up_ne (fun e => hne e.1.symm)]
    have hRL : at_RL ν S.2.2.2 (fl_up m.1 p i x, m.2) := by
      obtain ⟨r1, r2⟩ := h.2.2.2.2.1
      refine ⟨fun c hc hl => ?_, fun k hk => ?_⟩
      · rw [hw] at hl
        rw [hw, hw, hw, hw]
        exact r1 c hc hl
      · rw [hw, hw]
        exact r2 k hk
    exact ⟨ν, at_ag.rfl, Nat.le_refl _, h.1, at_keep_ok h wp wi wv ep ei ex hk, h.2.2.1, hRG, hRL, hXm, h.2.2.2.2.2.2.up (hk ▸ hcv) q1 q2⟩
/-- longs are written: nothing of this is told of them -/
theorem at_GS.lng {l : Nat → Nat → Int64} (hX2 : ∀ (m : fl_M) (l : Nat → Nat → Int64), X m → X (m.1, l, m.2.2)) (h : at_GS X m0 m ν S) : at_GS X m0 (m.1, l, m.2.2) ν S := ⟨h.1, h.2.1, h.2.2.1, h.2.2.2.1, h.2.2.2.2.1, hX2 m l h.2.2.2.2.2.1, h.2.2.2.2.2.2⟩
def at_eqR (a b : at_R) : Bool := Nat.beq a.1 b.1 && (decide (a.2.1 = b.2.1) && (decide (a.2.2.1 = b.2.2.1) && (decide (a.2.2.2.1 = b.2.2.2.1) && (decide (a.2.2.2.2.1 = b.2.2.2.2.1) && (decide (a.2.2.2.2.2.1 = b.2.2.2.2.2.1) && decide (a.2.2.2.2.2.2 = b.2.2.2.2.2.2))))))
theorem at_eqR_ok {a b : at_R} (h : at_eqR a b = true) : a = b := by
  obtain ⟨a1, a2, a3, a4, a5, a6, a7⟩ := a
  obtain ⟨b1, b2, b3, b4, b5, b6, b7⟩ := b
  unfold at_eqR at h
  simp only [Bool.and_eq_true, decide_eq_true_eq] at h
  obtain ⟨h1, h2, h3, h4, h5, h6, h7⟩ := h
  have h1 := Nat.eq_of_beq_eq_true h1
  subst h1 h2 h3 h4 h5 h6 h7
  rfl
/-- ints sp .. of a row are copied to dp .. of another one: n of them; N: how long the row is -/
def at_cp (S : at_S) (ta tb : Nat) (sp dp n N : Int) : Option at_S :=
  bif !(Nat.beq tb at_TA || (Nat.beq tb 80 || (Nat.beq tb 82 || (Nat.beq tb 74 || (Nat.beq tb 77 || Nat.beq tb 78))))) && ((at_rg tb).all (fun r => bif decide (sp = dp) then (at_rg ta).any (fun q => at_eqR q r) else (at_rg ta).any (fun q => at_eqR q r) && (decide (r.2.2.1 = 0 ∧ r.2.1 = 0 ∧ r.2.2.2.1 = 1) && decide (N ≤ r.2.2.2.2.1)))) then
    some (S.1, S.2.1.filter (fun f => !Nat.beq f.1 tb), (tb, false, dp, dp + n - 1) :: S.2.2.1, S.2.2.2)
  else none
theorem at_cp_ok (hX : ∀ (m : fl_M) (p : Nat) (w : Nat → Int32), X m → p < fl_N m.2.2 → (∀ j : Nat, ¬ at_prot (fk_K p) j) → X (fl_row m.1 p w, m.2)) (h : at_GS X m0 m ν S) {ta tb a b : Nat} {sp dp n N : Nat} (hka : fk_K a = ta) (hkb : fk_K b = tb) (ha : a < fl_N m.2.2) (hb : b < fl_N m.2.2) (hN : sp + n ≤ N) {S' : at_S} (hs : at_cp S ta tb sp dp n N = some S') : S'.1 = S.1 ∧ at_GS X m0 (fl_row m.1 b (va_cpy (m.1 a) (m.1 b) sp dp n), m.2) ν S' := by
  unfold at_cp at hs
  obtain ⟨hc, hs⟩ := am_bif hs
  cases hs
  simp only [Bool.and_eq_true, Bool.not_eq_true', Bool.or_eq_false_iff] at hc
  obtain ⟨⟨c1, c2, c3, c4, c6, c7⟩, c5⟩ := hc
  have hb280 : b ≠ 280 := by
    rintro rfl
    rw [at_K280] at hkb
    rw [← hkb, Nat.beq_refl] at c1
    cases c1
  have hpr : ∀ j : Nat, ¬ at_prot (fk_K b) j := by
    rw [hkb]
    rintro j (⟨e, -⟩ | e | e | e | e | e)
    · rw [e, Nat.beq_refl] at c1; cases c1
    · rw [e] at c2; cases c2
    · rw [e] at c3; cases c3
    · rw [e] at c4; cases c4
    · rw [e] at c6; cases c6
    · rw [e] at c7; cases c7
  have hw : ∀ j, at_w (fl_row m.1 b (va_cpy (m.1 a) (m.1 b) sp dp n), m.2) j = at_w m j := fun j => by
    unfold at_w
    dsimp only
    rw [fl_row_ne (Ne.symm hb280)]
  obtain ⟨h1, h2, h3, h4, h5, h6, h7⟩ := h
  refine ⟨rfl, h1, fun f hf => ?_, h3, ?_, ?_, hX m b _ h6 hb hpr, ?_⟩
  · obtain ⟨hf, hq⟩ := List.mem_filter.mp hf
    obtain ⟨⟨p, i, e1, e2, e3, e4⟩, hwf⟩ := h2 f hf
    refine ⟨⟨p, i, e1, e2, e3, ?_⟩, hwf⟩
    dsimp only
    rw [fl_row_ne]
    · exact e4
    · rintro rfl
      rw [hkb] at e3
      rw [← e3, Nat.beq_refl] at hq
      cases hq
  · intro p hp r hr j hj
    dsimp only at hp ⊢
    by_cases hpb : p = b
    · subst hpb
      rw [fl_row_self]
      unfold va_cpy
      split
      · rename_i hj2
        have c5 := List.all_eq_true.mp c5 r (hkb ▸ hr)
        cases hsd : decide ((sp : Int) = dp) with
        | true =>
          rw [hsd] at c5
          obtain ⟨q, hq, e⟩ := List.any_eq_true.mp c5
          have e := at_eqR_ok e
          subst e
          have hsd := of_decide_eq_true hsd
          have : sp + (j - dp) = j := by omega
          rw [this]
          exact h4 a ha q (hka ▸ hq) j hj
        | false =>
          rw [hsd] at c5
          simp only [cond_false, Bool.and_eq_true, decide_eq_true_eq] at c5
          obtain ⟨c6, ⟨c7, c8, c9⟩, c10⟩ := c5
          obtain ⟨q, hq, e⟩ := List.any_eq_true.mp c6
          have e := at_eqR_ok e
          subst e
          refine h4 a ha q (hka ▸ hq) _ ⟨0, ((sp + (j - dp) : Nat) : Int), by omega, by omega, by omega, by omega, ?_⟩
          rw [c7, c8]
          omega
      · exact h4 p hp r hr j hj
    · rw [fl_row_ne hpb]
      exact h4 p hp r hr j hj
  · obtain ⟨r1, r2⟩ := h5
    refine ⟨fun c hc hl => ?_, fun k hk => ?_⟩
    · rw [hw] at hl
      rw [hw, hw, hw, hw]
      exact r1 c hc hl
    · rw [hw, hw]
      exact r2 k hk
  · refine ⟨h7.1, fun p j hne => ?_⟩
    dsimp only at hne
    by_cases hpb : p = b
    · subst hpb
      rw [fl_row_self] at hne
      unfold va_cpy at hne
      split at hne
      · rename_i hj2
        refine ⟨_, List.mem_cons_self, hkb.symm, ?_⟩
        show (dp : Int) ≤ j ∧ (j : Int) ≤ dp + n - 1
        omega
      · obtain ⟨w, hw', hcv⟩ := h7.2 p j hne
        exact ⟨w, List.mem_cons_of_mem _ hw', hcv⟩
    · rw [fl_row_ne hpb] at hne
      obtain ⟨w, hw', hcv⟩ := h7.2 p j hne
      exact ⟨w, List.mem_cons_of_mem _ hw', hcv⟩
end ATV
