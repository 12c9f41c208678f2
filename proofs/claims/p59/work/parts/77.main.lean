/-! ===== WHAT THE LOOKER SAYS HOLDS ===== -/
theorem fl_st_h {P : am_Pg} {mi pc : Nat} {ins : Instr} {fl : fl_L} {fs : List fl_V} {m : fl_M} {c : fl_C} (e : fl_st P mi ins pc fl fs m = some c) : c.2.2.2.2.2 = m.2.2 := by
  cases ins
  all_goals first | (cases e; done) | (cases e; rfl) | skip
  all_goals (try dsimp only [fl_st] at e)
  all_goals (try unfold fl_pu at e)
  all_goals (try unfold fl_so at e)
  all_goals (try unfold fl_I at e)
  all_goals (try unfold fl_ID at e)
  all_goals (try unfold fl_J at e)
  all_goals (try unfold fl_JD at e)
  all_goals (try unfold fl_JI at e)
  all_goals (try unfold fl_br at e)
  all_goals (try unfold fl_go at e)
  all_goals (try unfold fl_gf at e)
  all_goals (try unfold fl_pf at e)
  all_goals (try unfold fl_ald at e)
  all_goals (try unfold fl_ast at e)
  all_goals (try unfold fl_lald at e)
  all_goals (try unfold fl_last at e)
  all_goals (try unfold fl_qald at e)
  all_goals (try unfold fl_len at e)
  all_goals (try unfold fl_n1 at e)
  all_goals (repeat' (first | (cases e; done) | (cases e; rfl; done) | (obtain ⟨-, e⟩ := am_bif e; cases e; rfl; done) | (obtain ⟨-, e⟩ := am_bif e; cases e; done) | split at e))
  all_goals (have hcb : ∀ (b : Bool) (u w : fl_C), u.2.2.2 = m → w.2.2.2 = m → (bif b then some u else some w) = some c → c.2.2.2.2.2 = m.2.2 := fun b u w h1 h2 e => by cases b <;> (cases e; first | rw [h1] | rw [h2]))
  all_goals exact hcb _ _ _ rfl rfl e
theorem at_jn_mem {α : Type} {l : List (Option (List α))} {q : List α} (h : at_jn l = some q) : ∀ x ∈ l, ∃ y, x = some y ∧ ∀ z ∈ y, z ∈ q := by
  induction l generalizing q with
  | nil => intro x hx; cases hx
  | cons a r ih =>
    intro x hx
    cases a with
    | none => cases h
    | some y =>
      unfold at_jn at h
      split at h
      · rename_i q' e
        cases h
        rcases List.mem_cons.mp hx with rfl | hx
        · exact ⟨y, rfl, fun z hz => List.mem_append_left _ hz⟩
        · obtain ⟨y', e1, e2⟩ := ih e x hx
          exact ⟨y', e1, fun z hz => List.mem_append_right _ (e2 z hz)⟩
      · cases h
section ATMN
variable {X : fl_M → Prop} {m0 m : fl_M} {ν ν' : Nat → Int} {S : at_S} {lv : at_L} {st : List at_V} {fl : fl_L} {fs : List fl_V} {L : Nat} {xs : Nat → Int32}
theorem at_rc_ok {h : Nat} {ins : Instr} {mj n : Nat} (hr : at_RS ν h st fs) (e : at_rc ins mj n st = true) : fl_rc (pw_P L xs) ins mj n fs = true := by
  unfold at_rc at e
  simp only [Bool.and_eq_true] at e
  obtain ⟨e1, e2, e3, e4⟩ := e
  have e1 := Nat.le_of_ble_eq_true e1
  have e2 := Nat.le_of_ble_eq_true e2
  have e3 := Nat.le_of_ble_eq_true e3
  obtain ⟨ht, hd⟩ := hr.take n
  unfold fl_rc
  simp only [Bool.and_eq_true, decide_eq_true_eq]
  refine ⟨by rw [hr.len]; exact e1, ⟨by rw [hd.sum]; exact e2, by rw [ht.sum]; exact e3⟩, ?_⟩
  have hrev := ht.rev
  split at e4
  · rfl
  · split at e4
    · rename_i q r eq
      rw [eq] at hrev
      obtain ⟨v, s', ev, ⟨p, rfl, -⟩, -⟩ := hrev.cons
      rw [ev]
    · cases e4
  · split at e4
    · rename_i q r eq
      rw [eq] at hrev
      obtain ⟨v, s', ev, ⟨p, rfl, -⟩, -⟩ := hrev.cons
      rw [ev]
      split at e4
      · rename_i cj fs0 ek
        show (match fk_kd q.1 with | .inl (cj, _) => decide (cj = am_own (pw_P L xs) mj) | _ => false) = true
        rw [ek]
        exact decide_eq_true (Nat.eq_of_beq_eq_true e4)
      · cases e4
    · cases e4
  · cases e4
theorem at_ar_LR {h : Nat} {as_ : List at_V} {vs : List fl_V} (hr : at_RS ν h as_ vs) : at_LR ν h (at_ar as_) (fl_ar vs) := by
  induction as_ generalizing vs with
  | nil => rw [hr.nil]; exact ⟨rfl, fun i a e => by simp [at_ar] at e⟩
  | cons a s ih =>
    obtain ⟨v, vs', rfl, hv, hr'⟩ := hr.cons
    obtain ⟨l1, l2⟩ := ih hr'
    unfold at_ar fl_ar
    rw [hv.cat]
    cases hc : Nat.beq (at_cat a) 2 with
    | true =>
      rw [if_pos (Nat.eq_of_beq_eq_true hc)]
      refine ⟨by simp [l1], fun i b e => ?_⟩
      match i, e with
      | 0, e => cases e; exact ⟨v, rfl, hv⟩
      | 1, e => cases e
      | i + 2, e => exact l2 i b e
    | false =>
      rw [if_neg (fun q => by rw [q] at hc; cases hc)]
      refine ⟨by simp [l1], fun i b e => ?_⟩
      match i, e with
      | 0, e => cases e; exact ⟨v, rfl, hv⟩
      | i + 1, e => exact l2 i b e
theorem at_args_LR {h n : Nat} {as_ : List at_V} {vs : List fl_V} (hr : at_RS ν h as_ vs) : at_LR ν h (at_args n as_) (fl_args n vs) := by
  obtain ⟨l1, l2⟩ := at_ar_LR hr
  unfold at_args fl_args
  refine ⟨by simp [l1], fun i b e => ?_⟩
  by_cases hi : i < (at_ar as_).length
  · rw [List.getElem?_append_left hi] at e
    obtain ⟨v, e1, e2⟩ := l2 i b e
    exact ⟨v, by rw [List.getElem?_append_left (by omega)]; exact e1, e2⟩
  · rw [List.getElem?_append_right (by omega), List.getElem?_replicate] at e
    split at e <;> cases e
theorem at_ar_mem {as_ : List at_V} {a : at_V} (h : some a ∈ at_ar as_) : a ∈ as_ := by
  induction as_ with
  | nil => simp [at_ar] at h
  | cons b s ih =>
    unfold at_ar at h
    cases hc : Nat.beq (at_cat b) 2 with
    | true =>
      rw [hc] at h
      simp only [cond_true, List.mem_cons, Option.some.injEq, reduceCtorEq, false_or] at h
      rcases h with rfl | h
      · exact List.mem_cons_self
      · exact List.mem_cons_of_mem _ (ih h)
    | false =>
      rw [hc] at h
      simp only [cond_false, List.mem_cons, Option.some.injEq] at h
      rcases h with rfl | h
      · exact List.mem_cons_self
      · exact List.mem_cons_of_mem _ (ih h)
theorem at_args_mem {n : Nat} {as_ : List at_V} {a : at_V} (h : some a ∈ at_args n as_) : a ∈ as_ := by
  unfold at_args at h
  rcases List.mem_append.mp h with h | h
  · exact at_ar_mem h
  · have := (List.mem_replicate.mp h).2
    cases this
theorem at_ret_ok {mi : Nat} {ins : Instr} {o : at_O} (h : at_G X m0 m ν S lv st fl fs) (e : at_ret mi ins S st = some o) : ∃ v, fl_rt (pw_P L xs) mi ins fs = some v ∧ o.1 = S ∧ at_RO ν m.2.2 S.1.1.length o.2 v := by
  unfold at_ret at e
  split at e
  · split at e
    · rename_i er
      cases e
      rw [h.2.2.2.1.nil]
      refine ⟨none, ?_, rfl, True.intro⟩
      show (match pw_ret mi with | none => some none | some _ => none) = _
      rw [er]
    · cases e
  · rename_i a
    obtain ⟨v, s, rfl, ⟨x, rfl, ex⟩, hw, hG⟩ := h.pop
    rw [hG.2.2.2.1.nil]
    split at e
    · rename_i er
      cases e
      refine ⟨some (.inl x), ?_, rfl, ⟨x, rfl, ex⟩, hw⟩
      show (match pw_ret mi with | some .int => some (some (Sum.inl x)) | some .boolean => if x = 0 ∨ x = 1 then some (some (Sum.inl x)) else none | _ => none) = _
      rw [er]
    · rename_i er
      obtain ⟨hb, e⟩ := am_bif e
      cases e
      obtain ⟨b1, b2⟩ := at_inR_ok h.1.1.1 hb
      rw [← ex] at b1 b2
      have hx : x = 0 ∨ x = 1 := by
        rcases (show x.toInt = 0 ∨ x.toInt = 1 by omega) with h | h
        · exact Or.inl (Int32.toInt.inj h)
        · exact Or.inr (Int32.toInt.inj h)
      refine ⟨some (.inl x), ?_, rfl, ⟨x, rfl, ex⟩, hw⟩
      show (match pw_ret mi with | some .int => some (some (Sum.inl x)) | some .boolean => if x = 0 ∨ x = 1 then some (some (Sum.inl x)) else none | _ => none) = _
      rw [er]
      show (if x = 0 ∨ x = 1 then some (some (Sum.inl x)) else none) = _
      rw [if_pos hx]
    · cases e
  · rename_i a
    obtain ⟨v, s, rfl, ⟨x, rfl, ex⟩, hw, hG⟩ := h.pop
    rw [hG.2.2.2.1.nil]
    split at e
    · rename_i er
      cases e
      refine ⟨some (.inr (.inl x)), ?_, rfl, ⟨x, rfl, ex⟩, hw⟩
      show (match pw_ret mi with | some .long => some (some (Sum.inr (Sum.inl x))) | _ => none) = _
      rw [er]
    · cases e
  · cases e
/-- what is known of a loop that is being gone through -/
def at_AcOK (X : fl_M → Prop) (m0 : fl_M) (P : am_Pg) (mi : Nat) (Q : Option fl_V → fl_M → Prop) (n : Nat) (ν : Nat → Int) (m : fl_M) (A : at_Ac) : Prop :=
  ∃ h0 P2 wr2 brk2 ν2 mF flF zsF, at_AO P2 wr2 brk2 A ∧ at_Ft X m0 h0 P2 wr2 brk2 A ν2 mF flF zsF ∧ P2.1.length ≤ n ∧ at_ag P2.1.length ν2 ν ∧ at_wf n A.2.2.2.2.2.2.2 ∧ h0 ≤ m.2.2 ∧
    ∀ m1 fl1 zs1, at_Ft X m0 h0 P2 wr2 brk2 A ν2 m1 fl1 zs1 → at_sm m1 fl1 zs1 A.2.1.2.2.2.2.2.2 ≤ at_ev ν A.2.2.2.2.2.2.2 - 1 → 1 ≤ at_ev ν A.2.2.2.2.2.2.2 → fl_Tq P mi A.1 fl1 [] m1 Q
theorem at_AcOK.mono {P : am_Pg} {mi : Nat} {Q : Option fl_V → fl_M → Prop} {n n' : Nat} {m' : fl_M} {A : at_Ac} (h : at_AcOK X m0 P mi Q n ν m A) (hag : at_ag n ν ν') (hn : n ≤ n') (hm : m.2.2 ≤ m'.2.2) : at_AcOK X m0 P mi Q n' ν' m' A := by
  obtain ⟨h0, P2, wr2, brk2, ν2, mF, flF, zsF, a1, a2, a3, a4, a5, a6, a7⟩ := h
  refine ⟨h0, P2, wr2, brk2, ν2, mF, flF, zsF, a1, a2, Nat.le_trans a3 hn, a4.trans (fun x hx => hag x (Nat.lt_of_lt_of_le hx a3)) (Nat.le_refl _), a5.mono hn, Nat.le_trans a6 hm, fun m1 fl1 zs1 h1 h2 h3 => ?_⟩
  rw [at_ev_ag hag a5] at h2 h3
  exact a7 m1 fl1 zs1 h1 h2 h3
theorem at_G.app {o : Option at_V} {v : Option fl_V} {S' : at_S} {m' : fl_M} (h : at_G X m0 m ν S lv st fl fs) (hag : at_ag S.1.1.length ν ν') (hle : S.1.1.length ≤ S'.1.1.length) (hh : m.2.2 ≤ m'.2.2) (hg : at_GS X m0 m' ν' S') (hr : at_RO ν' m'.2.2 S'.1.1.length o v) : at_G X m0 m' ν' S' lv (o.toList ++ st) fl (v.toList ++ fs) := by
  have h2 := h.mem (m' := m') hag hle hh hg
  cases o with
  | none =>
    cases v with
    | none => exact h2
    | some v => cases hr
  | some a =>
    cases v with
    | none => cases hr
    | some v => exact h2.push hr.1 hr.2
theorem at_G.drop (h : at_G X m0 m ν S lv st fl fs) (n : Nat) : at_G X m0 m ν S lv (st.drop n) fl (fs.drop n) := ⟨h.1, h.2.1, h.2.2.1, (h.2.2.2.1.take n).2, fun a ha => h.2.2.2.2 a (List.mem_of_mem_drop ha)⟩
theorem at_fj_pc {JT : List at_J} {mi pc : Nat} {k0 : Option Nat} {j : at_J} (e : at_fj JT mi pc k0 = some j) : j.1.2.1 = pc := by
  have := List.find?_some e
  simp only [Bool.and_eq_true] at this
  exact Nat.eq_of_beq_eq_true this.2.1
theorem at_ex_ok (hX : at_XX X) (CT : List at_C) (hC : ∀ c ∈ CT, at_Valid X (pw_P L xs) c) (JT : List at_J) : ∀ (f mi : Nat) (k0 : Option Nat) (pc : Nat) (hd : Bool) (S : at_S) (lv : at_L) (st : List at_V) (act : List at_Ac) (outs : List at_O), at_ex CT JT f mi k0 pc hd S lv st act = some outs → ∀ (ν : Nat → Int) (m : fl_M) (fl : fl_L) (fs : List fl_V) (Q : Option fl_V → fl_M → Prop), at_G X m0 m ν S lv st fl fs → (∀ A ∈ act, at_AcOK X m0 (pw_P L xs) mi Q S.1.1.length ν m A) →
    (∀ o ∈ outs, ∀ (ν' : Nat → Int) (m' : fl_M) (v : Option fl_V), at_ag S.1.1.length ν ν' → S.1.1.length ≤ o.1.1.1.length → at_GS X m0 m' ν' o.1 → m.2.2 ≤ m'.2.2 → at_RO ν' m'.2.2 o.1.1.1.length o.2 v → Q v m') → fl_Tq (pw_P L xs) mi pc fl fs m Q := by
  intro f
  induction f with
  | zero => intro mi k0 pc hd S lv st act outs e; cases e
  | succ f ih =>
    intro mi k0 pc hd S lv st act outs e ν m fl fs Q hG hA hO
    unfold at_ex at e
    split at e
    · cases e
    · -- back at a loop's head
      rename_i eh
      cases hb : (hd && st.isEmpty) with
      | false => rw [hb] at eh; cases eh
      | true =>
        rw [hb] at eh
        replace eh : at_head JT mi k0 pc S lv act = some (some none) := eh
        simp only [Bool.and_eq_true] at hb
        have hst := List.isEmpty_iff.mp hb.2
        subst hst
        have hfs := hG.2.2.2.1.nil
        subst hfs
        unfold at_head at eh
        split at eh
        · cases eh
        · rename_i j ej
          cases hs : at_skip S lv j with
          | true => rw [hs] at eh; cases eh
          | false =>
            rw [hs] at eh
            dsimp only [cond_false] at eh
            split at eh
            · rename_i A eA
              obtain ⟨hbk, -⟩ := am_bif eh
              have hAm := List.mem_of_find?_eq_some eA
              have hpc : A.1 = pc := Nat.eq_of_beq_eq_true (List.find?_some (p := fun A : at_Ac => Nat.beq A.1 pc) eA)
              obtain ⟨h0, P2, wr2, brk2, ν2, mF, flF, zsF, a1, a2, a3, a4, a5, a6, a7⟩ := hA A hAm
              obtain ⟨zs, b1, b2, b3⟩ := at_back_ok a1 a2 a4 hG a6 hbk
              rw [← hpc]
              exact a7 m fl zs b1 b2 b3
            · split at eh <;> cases eh
    · -- into a loop
      rename_i SJ lvJ A eh
      cases hb : (hd && st.isEmpty) with
      | false => rw [hb] at eh; cases eh
      | true =>
        rw [hb] at eh
        replace eh : at_head JT mi k0 pc S lv act = some (some (some (SJ, lvJ, A))) := eh
        simp only [Bool.and_eq_true] at hb
        have hst := List.isEmpty_iff.mp hb.2
        subst hst
        have hfs := hG.2.2.2.1.nil
        subst hfs
        unfold at_head at eh
        split at eh
        · cases eh
        · rename_i j ej
          cases hs : at_skip S lv j with
          | true => rw [hs] at eh; cases eh
          | false =>
            rw [hs] at eh
            dsimp only [cond_false] at eh
            split at eh
            · obtain ⟨-, eh⟩ := am_bif eh
              cases eh
            · split at eh
              · rename_i x ex
                cases eh
                obtain ⟨P2, wr2, brk2, ν2, zs, ag2, le2, hAO, hF, hpc, rfl, rfl⟩ := at_enter_ok hG ex
                have hpc2 : A.1 = pc := hpc.trans (at_fj_pc ej)
                have key : ∀ (k : Nat) (m1 : fl_M) (fl1 : fl_L) (zs1 : List Int), at_Ft X m0 m.2.2 P2 wr2 brk2 A ν2 m1 fl1 zs1 → (at_sm m1 fl1 zs1 A.2.1.2.2.2.2.2.2).toNat ≤ k → fl_Tq (pw_P L xs) mi pc fl1 [] m1 Q := by
                  intro k
                  induction k with
                  | zero =>
                    intro m1 fl1 zs1 hF1 hk
                    obtain ⟨νJ, agJ, leJ, GJ, wJ, eJ⟩ := at_fit_ok hAO hF1
                    have agS := ag2.trans agJ le2
                    refine ih mi k0 pc false _ _ [] (A :: act) outs e νJ m1 fl1 [] Q GJ (fun B hB => ?_) (fun o ho ν' m' v q1 q2 q3 q4 q5 => hO o ho ν' m' v (agS.trans q1 (Nat.le_trans le2 leJ)) (Nat.le_trans (Nat.le_trans le2 leJ) q2) q3 (Nat.le_trans hF1.1 q4) q5)
                    rcases List.mem_cons.mp hB with rfl | hB
                    · refine ⟨m.2.2, P2, wr2, brk2, ν2, m1, fl1, zs1, hAO, hF1, leJ, agJ, wJ, hF1.1, fun m2 fl2 zs2 _ _ h3 => ?_⟩
                      rw [eJ] at h3
                      omega
                    · exact (hA B hB).mono agS (Nat.le_trans le2 leJ) hF1.1
                  | succ k ihk =>
                    intro m1 fl1 zs1 hF1 hk
                    obtain ⟨νJ, agJ, leJ, GJ, wJ, eJ⟩ := at_fit_ok hAO hF1
                    have agS := ag2.trans agJ le2
                    refine ih mi k0 pc false _ _ [] (A :: act) outs e νJ m1 fl1 [] Q GJ (fun B hB => ?_) (fun o ho ν' m' v q1 q2 q3 q4 q5 => hO o ho ν' m' v (agS.trans q1 (Nat.le_trans le2 leJ)) (Nat.le_trans (Nat.le_trans le2 leJ) q2) q3 (Nat.le_trans hF1.1 q4) q5)
                    rcases List.mem_cons.mp hB with rfl | hB
                    · refine ⟨m.2.2, P2, wr2, brk2, ν2, m1, fl1, zs1, hAO, hF1, leJ, agJ, wJ, hF1.1, fun m2 fl2 zs2 hF2 h2 h3 => ?_⟩
                      rw [eJ] at h2 h3
                      rw [hpc2]
                      exact ihk m2 fl2 zs2 hF2 (by omega)
                    · exact (hA B hB).mono agS (Nat.le_trans le2 leJ) hF1.1
                exact key _ m fl zs hF (Nat.le_refl _)
              · cases eh
    · -- an instruction
      split at e
      · cases e
      · rename_i ins ei
        have hok := hG.2.2.2.1.ok
        split at e
        · -- a call
          rename_i mj n ecl
          obtain ⟨hrc, e⟩ := am_bif e
          have hargs : at_RS ν m.2.2 (st.take n).reverse (fs.take n).reverse := (hG.2.2.2.1.take n).1.rev
          have hwa : ∀ a ∈ (st.take n).reverse, at_wV S.1.1.length a := fun a ha => hG.2.2.2.2 a (List.mem_of_mem_take (List.mem_reverse.mp ha))
          have hGd := hG.drop n
          refine fl_Tq.cal (ins := ins) (mj := mj) (n := n) ei ecl hok (at_rc_ok hG.2.2.2.1 hrc) ?_
          split at e
          · cases e
          · rename_i o eo
            have hgo : ∀ (v : Option fl_V) (ν' : Nat → Int) (m' : fl_M), at_ag S.1.1.length ν ν' → S.1.1.length ≤ o.1.1.1.length → m.2.2 ≤ m'.2.2 → at_GS X m0 m' ν' o.1 → at_RO ν' m'.2.2 o.1.1.1.length o.2 v → fl_Tq (pw_P L xs) mi (pc + 3) fl (v.toList ++ fs.drop n) m' Q := by
              intro v ν' m' q1 q2 q3 q4 q5
              exact ih mi k0 (pc + 3) true o.1 lv (o.2.toList ++ st.drop n) act outs e ν' m' fl (v.toList ++ fs.drop n) Q (hGd.app q1 q2 q3 q4 q5) (fun A hAm => (hA A hAm).mono q1 q2 q3) (fun o' ho' ν'' m'' v' r1 r2 r3 r4 r5 => hO o' ho' ν'' m'' v' (q1.trans r1 q2) (Nat.le_trans q2 r2) r3 (Nat.le_trans q3 r4) r5)
            unfold at_call at eo
            split at eo
            · rename_i o' eo'
              cases eo
              exact at_prim_ok hG.1 hargs hwa eo' (fun v ν' q1 q2 q3 q4 => hgo v ν' m q1 q2 (Nat.le_refl _) q3 q4)
            · split at eo
              · rename_i c ec
                have eo := Option.some.inj eo
                have hcm := List.mem_of_find?_eq_some ec
                have hcp := List.find?_some ec
                simp only [Bool.and_eq_true] at hcp
                have hmj := Nat.eq_of_beq_eq_true hcp.1
                obtain ⟨u1, u2, u3, u4⟩ := at_use_ok hG.1 hargs hwa hcp.2 eo
                have hv := hC c hcm m _ u1 u2 u3
                rw [hmj] at hv
                refine hv.mono (fun v m' hpost => ?_)
                obtain ⟨ν', r1, r2, r3, r4⟩ := u4 m' v hpost.1 hpost.2.1 hpost.2.2
                exact hgo v ν' m' r1 r2 hpost.2.1.1 r3 r4
              · cases eo
          · split at e
            · cases e
            · rename_i outs1 e1
              have hGc : at_G X m0 m ν S (at_args (pw_mxl mj) (st.take n).reverse) [] (fl_args (am_mxl (pw_P L xs) mj) (fs.take n).reverse) [] := ⟨hG.1, at_args_LR hargs, fun a ha => hwa a (at_args_mem ha), True.intro, fun a ha => by cases ha⟩
              refine ih mj _ 0 true S _ [] [] outs1 e1 ν m _ [] _ hGc (fun A hA => by cases hA) (fun o ho ν' m' v q1 q2 q3 q4 q5 => ?_)
              obtain ⟨y, ey, hy⟩ := at_jn_mem e _ (List.mem_map.mpr ⟨o, ho, rfl⟩)
              exact ih mi k0 (pc + 3) true o.1 lv (o.2.toList ++ st.drop n) act y ey ν' m' fl (v.toList ++ fs.drop n) Q (hGd.app q1 q2 q4 q3 q5) (fun A hAm => (hA A hAm).mono q1 q2 q4) (fun o' ho' ν'' m'' v' r1 r2 r3 r4 r5 => hO o' (hy o' ho') ν'' m'' v' (q1.trans r1 q2) (Nat.le_trans q2 r2) r3 (Nat.le_trans q4 r4) r5)
        · rename_i ecl
          split at e
          · -- an answer
            rename_i o eo
            cases e
            obtain ⟨v, e1, e2, e3⟩ := at_ret_ok (L := L) (xs := xs) hG eo
            refine fl_Tq.ret (ins := ins) ei ecl e1 (hO o List.mem_cons_self ν m v at_ag.rfl (by rw [e2]; exact Nat.le_refl _) (by rw [e2]; exact hG.1) (Nat.le_refl _) (by rw [e2]; exact e3))
          · split at e
            · cases e
            · rename_i alts ea
              obtain ⟨c, e1, a, ha, ν', h1, h2, h3, h4⟩ := at_st_ok (L := L) (xs := xs) hX hG ea
              obtain ⟨pc', fl', fs', m'⟩ := c
              have hh := fl_st_h e1
              dsimp only at hh h1 h4
              refine fl_Tq.stp (ins := ins) ei ecl hok e1 ?_
              obtain ⟨y, ey, hy⟩ := at_jn_mem e _ (List.mem_map.mpr ⟨a, ha, rfl⟩)
              rw [← h1]
              have hmm : m.2.2 ≤ m'.2.2 := Nat.le_of_eq hh.symm
              exact ih mi k0 a.1 true a.2.1 a.2.2.1 a.2.2.2 act y ey ν' m' fl' fs' Q h4 (fun A hAm => (hA A hAm).mono h2 h3 hmm) (fun o' ho' ν'' m'' v' r1 r2 r3 r4 r5 => hO o' (hy o' ho') ν'' m'' v' (h2.trans r1 h3) (Nat.le_trans h3 r2) r3 (Nat.le_trans hmm r4) r5)
end ATMN
