/-! ===== fl_tie: a step over flat memory is the pure machine's step ===== -/
theorem fl_set_get {l : fl_L} {i j : Nat} {o : Option fl_V} {w : fl_V} (h : (l.set i o)[j]? = some (some w)) : (j = i ∧ o = some w) ∨ (j ≠ i ∧ l[j]? = some (some w)) := by
  by_cases hj : j = i
  · subst hj
    by_cases hl : j < l.length
    · rw [List.getElem?_set_self hl] at h
      exact Or.inl ⟨rfl, Option.some.inj h⟩
    · rw [List.getElem?_eq_none (by rw [List.length_set]; omega)] at h
      cases h
  · rw [List.getElem?_set_ne (Ne.symm hj)] at h
    exact Or.inr ⟨hj, h⟩
theorem fl_s0_get {lv : fl_L} {i j : Nat} {w : fl_V} (h : (fl_s0 lv i)[j]? = some (some w)) : lv[j]? = some (some w) ∧ (j + 1 = i → fl_cat w ≠ 2) := by
  cases i with
  | zero => exact ⟨h, fun e => absurd e (by omega)⟩
  | succ k =>
    unfold fl_s0 at h
    dsimp only at h
    split at h
    · rename_i u hu
      by_cases hc : fl_cat u = 2
      · rw [if_pos hc] at h
        rcases fl_set_get h with ⟨-, h2⟩ | ⟨h1, h2⟩
        · cases h2
        · exact ⟨h2, fun e => absurd (by omega) h1⟩
      · rw [if_neg hc] at h
        refine ⟨h, fun e => ?_⟩
        have e2 : j = k := by omega
        subst e2
        rw [hu] at h
        cases h
        exact hc
    · rename_i hn
      refine ⟨h, fun e => ?_⟩
      have e2 : j = k := by omega
      subst e2
      exact absurd h (hn w)
theorem fl_s_get {lv : fl_L} {i j : Nat} {v w : fl_V} (h : (fl_s lv i v)[j]? = some (some w)) : (j = i ∧ w = v) ∨ (j ≠ i ∧ lv[j]? = some (some w) ∧ (j + 1 = i → fl_cat w ≠ 2) ∧ (fl_cat v = 2 → j ≠ i + 1)) := by
  unfold fl_s at h
  by_cases hc : fl_cat v = 2
  · rw [if_pos hc] at h
    rcases fl_set_get h with ⟨-, h2⟩ | ⟨h1, h2⟩
    · cases h2
    · rcases fl_set_get h2 with ⟨h3, h4⟩ | ⟨h3, h4⟩
      · exact Or.inl ⟨h3, (Option.some.inj h4).symm⟩
      · obtain ⟨h5, h6⟩ := fl_s0_get h4
        exact Or.inr ⟨h3, h5, h6, fun _ => h1⟩
  · rw [if_neg hc] at h
    rcases fl_set_get h with ⟨h3, h4⟩ | ⟨h3, h4⟩
    · exact Or.inl ⟨h3, (Option.some.inj h4).symm⟩
    · obtain ⟨h5, h6⟩ := fl_s0_get h4
      exact Or.inr ⟨h3, h5, h6, fun e => absurd e hc⟩
theorem am_lk_filter {la : am_L} {p : Nat × Value → Bool} {j : Nat} {u : Value} (h : am_lk la j = some u) (hp : p (j, u) = true) : am_lk (la.filter p) j = some u := by
  induction la with
  | nil => cases h
  | cons q r ih =>
    unfold am_lk at h
    split at h
    · rename_i hq
      cases h
      obtain ⟨a, b⟩ := q
      dsimp only at hq
      subst hq
      rw [List.filter_cons_of_pos hp]
      unfold am_lk
      rw [if_pos rfl]
    · rename_i hq
      by_cases hpq : p q = true
      · rw [List.filter_cons_of_pos hpq]
        unfold am_lk
        rw [if_neg hq]
        exact ih h
      · rw [List.filter_cons_of_neg hpq]
        exact ih h
theorem fl_LR.s1 {lv : fl_L} {la : am_L} {i : Nat} {v : fl_V} (h : fl_LR lv la) (hc : fl_cat v ≠ 2) : fl_LR (fl_s lv i v) (am_s1 la i (fl_c v)) := by
  intro j w hj
  unfold am_s1 am_lk
  rcases fl_s_get hj with ⟨rfl, rfl⟩ | ⟨h1, h2, h3, -⟩
  · rw [if_pos rfl]
  · rw [if_neg (fun e => h1 e.symm)]
    refine am_lk_filter (h j w h2) ?_
    simp only [fl_cat_c, Bool.and_eq_true, Bool.not_eq_true', beq_eq_false_iff_ne, Bool.and_eq_false_imp, beq_iff_eq]
    exact ⟨h1, h3⟩
theorem fl_LR.s2 {lv : fl_L} {la : am_L} {i : Nat} {v : fl_V} (h : fl_LR lv la) (hc : fl_cat v = 2) : fl_LR (fl_s lv i v) (am_s2 la i (fl_c v)) := by
  intro j w hj
  unfold am_s2 am_lk
  rcases fl_s_get hj with ⟨rfl, rfl⟩ | ⟨h1, h2, h3, h4⟩
  · rw [if_pos rfl]
  · rw [if_neg (fun e => h1 e.symm)]
    refine am_lk_filter (h j w h2) ?_
    simp only [fl_cat_c, Bool.and_eq_true, Bool.not_eq_true', beq_eq_false_iff_ne, Bool.and_eq_false_imp, beq_iff_eq]
    exact ⟨h1, h4 hc, h3⟩
theorem fl_ld_c {w : Nat} {lv : fl_L} {la : am_L} {i : Nat} {v : fl_V} (hl : fl_LR lv la) (h : fl_ld w lv[i]? = some v) : am_ld w (am_lk la i) = some (fl_c v) := by
  unfold fl_ld at h
  split at h
  all_goals first | (cases h; done) | (rename_i e; cases h; rw [hl i _ e]; rfl)
theorem fl_ld_v {w : Nat} {v u : fl_V} (h : fl_ld w (some (some v)) = some u) : am_ld w (some (fl_c v)) = some (fl_c v) ∧ u = v := by
  unfold fl_ld at h
  split at h
  all_goals first | (cases h; done) | (rename_i e; cases e; cases h; exact ⟨rfl, rfl⟩)
theorem fl_so_c {w n pc i nL : Nat} {lv lv' : fl_L} {st st' : List fl_V} {m m' : fl_M} {pc' : Nat} {la : am_L} (hl : fl_LR lv la) (h : fl_so w n pc i nL lv st m = some (pc', lv', st', m')) : ∃ la', am_so w n pc i nL la (st.map fl_c) (fl_H m) = some (pc', la', st'.map fl_c, fl_H m') ∧ fl_LR lv' la' := by
  cases st with
  | nil => cases h
  | cons v r =>
    unfold fl_so at h
    dsimp only at h
    split at h
    · cases h
    · rename_i u hu
      obtain ⟨e1, -⟩ := fl_ld_v hu
      simp only [am_so, List.map_cons, e1, fl_cat_c]
      split at h
      · rename_i hc
        split at h
        · rename_i hi
          cases h
          rw [if_pos hc, if_pos hi]
          exact ⟨_, rfl, hl.s2 hc⟩
        · cases h
      · rename_i hc
        split at h
        · rename_i hi
          cases h
          rw [if_neg hc, if_pos hi]
          exact ⟨_, rfl, hl.s1 hc⟩
        · cases h
theorem fl_pu_c {n pc w i : Nat} {lv lv' : fl_L} {st st' : List fl_V} {m m' : fl_M} {pc' : Nat} {la : am_L} (hl : fl_LR lv la) (h : fl_pu n pc lv st m (fl_ld w lv[i]?) = some (pc', lv', st', m')) : ∃ la', am_pu n pc la (st.map fl_c) (fl_H m) (am_ld w (am_lk la i)) = some (pc', la', st'.map fl_c, fl_H m') ∧ fl_LR lv' la' := by
  cases hv : fl_ld w lv[i]? with
  | none => rw [hv] at h; cases h
  | some v =>
    rw [hv] at h
    cases h
    rw [fl_ld_c hl hv]
    exact ⟨la, rfl, hl⟩
theorem fl_br_c {b : Bool} {pc pc' : Nat} {off : Int} {lv lv' : fl_L} {r st' : List fl_V} {m m' : fl_M} {la : am_L} (hl : fl_LR lv la) (h : fl_br b pc off lv r m = some (pc', lv', st', m')) : ∃ la', am_br b pc off la (r.map fl_c) (fl_H m) = some (pc', la', st'.map fl_c, fl_H m') ∧ fl_LR lv' la' := by
  unfold fl_br at h
  unfold am_br
  cases ht : am_tg pc off with
  | none => rw [ht] at h; cases h
  | some t =>
    rw [ht] at h
    dsimp only at h ⊢
    cases b <;> cases h <;> exact ⟨la, rfl, hl⟩
theorem fl_go_c {pc pc' : Nat} {off : Int} {lv lv' : fl_L} {r st' : List fl_V} {m m' : fl_M} {la : am_L} (hl : fl_LR lv la) (h : fl_go pc off lv r m = some (pc', lv', st', m')) : ∃ la', am_go pc off la (r.map fl_c) (fl_H m) = some (pc', la', st'.map fl_c, fl_H m') ∧ fl_LR lv' la' := by
  unfold fl_go at h
  unfold am_go
  cases ht : am_tg pc off with
  | none => rw [ht] at h; cases h
  | some t =>
    rw [ht] at h
    cases h
    exact ⟨la, rfl, hl⟩
theorem fl_okr {h τ p : Nat} (hv : fl_ok h (.inr (.inr (.inl (τ, p))))) : fk_K p = τ ∧ p < fl_N h := hv
theorem fl_gf_c {P : am_Pg} {own idx pc pc' : Nat} {lv lv' : fl_L} {st st' : List fl_V} {m m' : fl_M} {la : am_L} (hok : ∀ v ∈ st, fl_ok m.2.2 v) (hl : fl_LR lv la) (h : fl_gf P own idx pc lv st m = some (pc', lv', st', m')) : ∃ la', am_gf P own idx pc la (st.map fl_c) (fl_H m) = some (pc', la', st'.map fl_c, fl_H m') ∧ fl_LR lv' la' := by
  unfold fl_gf at h
  split at h
  · rename_i τ p r
    obtain ⟨hk, hp⟩ := fl_okr (hok (.inr (.inr (.inl (τ, p)))) (by simp))
    split at h
    · rename_i ci k cj fs e1 e2
      split at h
      · rename_i hc
        subst hc
        show ∃ la', am_gf P own idx pc la (.ref p :: List.map fl_c _) (fl_H m) = _ ∧ _
        unfold am_gf
        dsimp only
        rw [fl_get hp, hk, e1, e2]
        dsimp only [fl_ob]
        rw [if_pos rfl]
        split at h
        · rename_i ef
          cases h
          exact ⟨la, by simp [List.getElem?_mapIdx, ef, am_pu, fl_fv, fl_c], hl⟩
        · rename_i q ef
          cases h
          exact ⟨la, by simp [List.getElem?_mapIdx, ef, am_pu, fl_fv, fl_c], hl⟩
        · cases h
      · cases h
    · cases h
  · cases h
theorem fl_pf_c {P : am_Pg} {mi own idx pc pc' : Nat} {lv lv' : fl_L} {st st' : List fl_V} {m m' : fl_M} {la : am_L} (hok : ∀ v ∈ st, fl_ok m.2.2 v) (hl : fl_LR lv la) (h : fl_pf P mi own idx pc lv st m = some (pc', lv', st', m')) : ∃ la', am_pf P mi own idx pc la (st.map fl_c) (fl_H m) = some (pc', la', st'.map fl_c, fl_H m') ∧ fl_LR lv' la' := by
  unfold fl_pf at h
  split at h
  · rename_i x τ p r
    obtain ⟨hk, hp⟩ := fl_okr (hok (.inr (.inr (.inl (τ, p)))) (by simp))
    split at h
    · rename_i ci k cj fs e1 e2
      split at h
      · rename_i ef
        obtain ⟨hb, h⟩ := am_bif h
        cases h
        show ∃ la', am_pf P mi own idx pc la (.int x :: .ref p :: List.map fl_c _) (fl_H m) = _ ∧ _
        unfold am_pf
        dsimp only
        have hlen : k < fs.length := (List.getElem?_eq_some_iff.mp ef).1
        simp only [Bool.and_eq_true, decide_eq_true_eq] at hb
        obtain ⟨h1, h2, h3⟩ := hb
        have hfs := fl_fset (p := p) (w := m.1 p) (x := x) ef
        rw [fl_get hp, hk, e1, e2]
        dsimp only [fl_ob]
        refine ⟨la, ?_, hl⟩
        have hb' : (decide (ci = cj) && (decide (k < (fs.mapIdx (fl_fv p (m.1 p))).length) && (am_ft (am_fty P ci k) (.int x) && (!am_fin P ci k || (am_ini P mi && decide (own = ci)))))) = true := by
          simp only [Bool.and_eq_true, decide_eq_true_eq, List.length_mapIdx]
          exact ⟨h1, hlen, h2, by simpa using h3⟩
        rw [hb', hfs]
        dsimp only [cond_true]
        have := fl_setR (m := m) (w := upd (m.1 p) k x) hp
        rw [hk, e2] at this
        dsimp only [fl_ob] at this
        rw [this, fl_up_row]
      · cases h
    · cases h
  · cases h
theorem fl_ob_0 {n p : Nat} {z : Nat × Nat × Nat} {w : Nat → Int32} {l : Nat → Int64} : fl_ob (.inr (0, n, z)) p w l = .inl (0, n, .inl w) := rfl
theorem fl_ob_1 {n p : Nat} {z : Nat × Nat × Nat} {w : Nat → Int32} {l : Nat → Int64} : fl_ob (.inr (1, n, z)) p w l = .inl (1, n, .inr (.inl l)) := rfl
theorem fl_ob_2 {t n p τ b m : Nat} {w : Nat → Int32} {l : Nat → Int64} : fl_ob (.inr (t + 2, n, τ, b, m)) p w l = .inl (t + 2, n, .inr (.inr (.inr (.inr (fun i => if i < n then (if m = 0 then (if w i = 0 then none else some (w i).toNatClampNeg) else some (p + b + m * i)) else none))))) := rfl
theorem fl_ald_c {P : am_Pg} {pc pc' : Nat} {lv lv' : fl_L} {st st' : List fl_V} {m m' : fl_M} {la : am_L} (hok : ∀ v ∈ st, fl_ok m.2.2 v) (hl : fl_LR lv la) (h : fl_ald P pc lv st m = some (pc', lv', st', m')) : ∃ la', am_ald P pc la (st.map fl_c) (fl_H m) = some (pc', la', st'.map fl_c, fl_H m') ∧ fl_LR lv' la' := by
  unfold fl_ald at h
  split at h
  · rename_i i τ p r
    obtain ⟨hk, hp⟩ := fl_okr (hok (.inr (.inr (.inl (τ, p)))) (by simp))
    split at h
    · rename_i n z e2
      obtain ⟨hb, h⟩ := am_bif h
      cases h
      show ∃ la', am_ald P pc la (.int i :: .ref p :: List.map fl_c _) (fl_H m) = _ ∧ _
      unfold am_ald
      dsimp only
      rw [fl_get hp, hk, e2, fl_ob_0]
      refine ⟨la, ?_, hl⟩
      show (bif am_in i n then _ else none) = _
      rw [hb]
      rfl
    · cases h
  · rename_i i c r
    split at h
    · rename_i n f e2
      obtain ⟨hb, h⟩ := am_bif h
      cases h
      show ∃ la', am_ald P pc la (.int i :: .retAddr c :: List.map fl_c _) (fl_H m) = _ ∧ _
      unfold am_ald
      dsimp only
      rw [e2]
      dsimp only
      refine ⟨la, ?_, hl⟩
      show (bif am_in i n then _ else none) = _
      rw [hb]
      rfl
    · cases h
  · cases h
theorem fl_ast_c {pc pc' : Nat} {lv lv' : fl_L} {st st' : List fl_V} {m m' : fl_M} {la : am_L} (hok : ∀ v ∈ st, fl_ok m.2.2 v) (hl : fl_LR lv la) (h : fl_ast pc lv st m = some (pc', lv', st', m')) : ∃ la', am_ast pc la (st.map fl_c) (fl_H m) = some (pc', la', st'.map fl_c, fl_H m') ∧ fl_LR lv' la' := by
  unfold fl_ast at h
  split at h
  · rename_i x i τ p r
    obtain ⟨hk, hp⟩ := fl_okr (hok (.inr (.inr (.inl (τ, p)))) (by simp))
    split at h
    · rename_i n z e2
      obtain ⟨hb, h⟩ := am_bif h
      cases h
      show ∃ la', am_ast pc la (.int x :: .int i :: .ref p :: List.map fl_c _) (fl_H m) = _ ∧ _
      unfold am_ast
      dsimp only
      rw [fl_get hp, hk, e2, fl_ob_0]
      refine ⟨la, ?_, hl⟩
      show (bif am_in i n then some (pc + 1, la, List.map fl_c _, ((fl_H m).1.set p (.inl (0, n, .inl (upd (m.1 p) i.toNatClampNeg x))), (fl_H m).2)) else none) = _
      rw [hb]
      dsimp only [cond_true]
      have := fl_setR (m := m) (w := upd (m.1 p) i.toNatClampNeg x) hp
      rw [hk, e2, fl_ob_0] at this
      rw [this, fl_up_row]
    · cases h
  · cases h
theorem fl_lald_c {pc pc' : Nat} {lv lv' : fl_L} {st st' : List fl_V} {m m' : fl_M} {la : am_L} (hok : ∀ v ∈ st, fl_ok m.2.2 v) (hl : fl_LR lv la) (h : fl_lald pc lv st m = some (pc', lv', st', m')) : ∃ la', am_lald pc la (st.map fl_c) (fl_H m) = some (pc', la', st'.map fl_c, fl_H m') ∧ fl_LR lv' la' := by
  unfold fl_lald at h
  split at h
  · rename_i i τ p r
    obtain ⟨hk, hp⟩ := fl_okr (hok (.inr (.inr (.inl (τ, p)))) (by simp))
    split at h
    · rename_i n z e2
      obtain ⟨hb, h⟩ := am_bif h
      cases h
      show ∃ la', am_lald pc la (.int i :: .ref p :: List.map fl_c _) (fl_H m) = _ ∧ _
      unfold am_lald
      dsimp only
      rw [fl_get hp, hk, e2, fl_ob_1]
      refine ⟨la, ?_, hl⟩
      show (bif am_in i n then _ else none) = _
      rw [hb]
      rfl
    · cases h
  · cases h
theorem fl_last_c {pc pc' : Nat} {lv lv' : fl_L} {st st' : List fl_V} {m m' : fl_M} {la : am_L} (hok : ∀ v ∈ st, fl_ok m.2.2 v) (hl : fl_LR lv la) (h : fl_last pc lv st m = some (pc', lv', st', m')) : ∃ la', am_last pc la (st.map fl_c) (fl_H m) = some (pc', la', st'.map fl_c, fl_H m') ∧ fl_LR lv' la' := by
  unfold fl_last at h
  split at h
  · rename_i x i τ p r
    obtain ⟨hk, hp⟩ := fl_okr (hok (.inr (.inr (.inl (τ, p)))) (by simp))
    split at h
    · rename_i n z e2
      obtain ⟨hb, h⟩ := am_bif h
      cases h
      show ∃ la', am_last pc la (.long x :: .int i :: .ref p :: List.map fl_c _) (fl_H m) = _ ∧ _
      unfold am_last
      dsimp only
      rw [fl_get hp, hk, e2, fl_ob_1]
      refine ⟨la, ?_, hl⟩
      show (bif am_in i n then some (pc + 1, la, List.map fl_c _, ((fl_H m).1.set p (.inl (1, n, .inr (.inl (vp_updL (m.2.1 p) i.toNatClampNeg x)))), (fl_H m).2)) else none) = _
      rw [hb]
      dsimp only [cond_true]
      have := fl_setL (m := m) (l := vp_updL (m.2.1 p) i.toNatClampNeg x) hp
      rw [hk, e2, fl_ob_1] at this
      rw [this]
      have e : (fun q j => if q = p then vp_updL (m.2.1 p) i.toNatClampNeg x j else m.2.1 q j) = fl_upL m.2.1 p i.toNatClampNeg x := by
        funext q j
        unfold fl_upL vp_updL
        by_cases h1 : q = p <;> by_cases h2 : j = i.toNatClampNeg <;> simp [h1, h2]
      rw [e]
    · cases h
  · cases h
theorem am_in_lt {i : Int32} {n : Nat} (h : am_in i n = true) : i.toNatClampNeg < n := by
  unfold am_in at h
  simp only [Bool.and_eq_true, decide_eq_true_eq] at h
  exact h.2
theorem fl_qald_c {pc pc' : Nat} {lv lv' : fl_L} {st st' : List fl_V} {m m' : fl_M} {la : am_L} (hok : ∀ v ∈ st, fl_ok m.2.2 v) (hl : fl_LR lv la) (h : fl_qald pc lv st m = some (pc', lv', st', m')) : ∃ la', am_qald pc la (st.map fl_c) (fl_H m) = some (pc', la', st'.map fl_c, fl_H m') ∧ fl_LR lv' la' := by
  unfold fl_qald at h
  split at h
  · rename_i i τ p r
    obtain ⟨hk, hp⟩ := fl_okr (hok (.inr (.inr (.inl (τ, p)))) (by simp))
    split at h
    · rename_i t n τ' b d e2
      obtain ⟨hb, h⟩ := am_bif h
      cases h
      show ∃ la', am_qald pc la (.int i :: .ref p :: List.map fl_c _) (fl_H m) = _ ∧ _
      unfold am_qald
      dsimp only
      simp only [Bool.and_eq_true, decide_eq_true_eq] at hb
      obtain ⟨h1, h2, h3⟩ := hb
      rw [fl_get hp, hk, e2]
      have hlt := am_in_lt h3
      obtain ⟨t', rfl⟩ : ∃ t', t = t' + 2 := ⟨t - 2, by omega⟩
      rw [fl_ob_2]
      dsimp only
      have hb' : (decide (2 ≤ t' + 2 ∧ t' + 2 < 5) && am_in i n) = true := by simp only [Bool.and_eq_true, decide_eq_true_eq]; exact ⟨h1, h3⟩
      rw [hb', if_pos hlt, if_neg h2]
      exact ⟨la, rfl, hl⟩
    · cases h
  · cases h
theorem fl_len_c {P : am_Pg} {pc pc' : Nat} {lv lv' : fl_L} {st st' : List fl_V} {m m' : fl_M} {la : am_L} (hok : ∀ v ∈ st, fl_ok m.2.2 v) (hl : fl_LR lv la) (h : fl_len P pc lv st m = some (pc', lv', st', m')) : ∃ la', am_len P pc la (st.map fl_c) (fl_H m) = some (pc', la', st'.map fl_c, fl_H m') ∧ fl_LR lv' la' := by
  unfold fl_len at h
  split at h
  · rename_i τ p r
    obtain ⟨hk, hp⟩ := fl_okr (hok (.inr (.inr (.inl (τ, p)))) (by simp))
    split at h
    · rename_i t n z e2
      split at h
      · rename_i ht
        cases h
        show ∃ la', am_len P pc la (.ref p :: List.map fl_c _) (fl_H m) = _ ∧ _
        unfold am_len
        dsimp only
        rw [fl_get hp, hk, e2]
        rcases (show t = 0 ∨ t = 1 ∨ 2 ≤ t by omega) with rfl | rfl | h2
        · exact ⟨la, rfl, hl⟩
        · exact ⟨la, rfl, hl⟩
        · obtain ⟨t', rfl⟩ : ∃ t', t = t' + 2 := ⟨t - 2, by omega⟩
          obtain ⟨z1, z2, z3⟩ := z
          rw [fl_ob_2]
          dsimp only
          rw [if_pos ht]
          exact ⟨la, rfl, hl⟩
      · cases h
    · cases h
  · rename_i c r
    split at h
    · rename_i n f e2
      cases h
      show ∃ la', am_len P pc la (.retAddr c :: List.map fl_c _) (fl_H m) = _ ∧ _
      unfold am_len
      dsimp only
      rw [e2]
      exact ⟨la, rfl, hl⟩
    · cases h
  · cases h
theorem fl_sum_c (st : List fl_V) : am_sum (st.map fl_c) = fl_sum st := by
  unfold am_sum fl_sum
  rw [List.map_map]
  congr 1
  exact List.map_congr_left (fun v _ => fl_cat_c v)
theorem fl_n1_c {pc pc' : Nat} {lv lv' : fl_L} {st st' : List fl_V} {m m' : fl_M} {la : am_L} (hok : ∀ v ∈ st, fl_ok m.2.2 v) (hl : fl_LR lv la) (h : fl_n1 pc lv st m = some (pc', lv', st', m')) : ∃ la', am_n1 pc la (st.map fl_c) (fl_H m) = some (pc', la', st'.map fl_c, fl_H m') ∧ fl_LR lv' la' := by
  unfold fl_n1 at h
  split at h
  · rename_i n dp τb b sp τa a r
    obtain ⟨hkb, hpb⟩ := fl_okr (hok (.inr (.inr (.inl (τb, b)))) (by simp))
    obtain ⟨hka, hpa⟩ := fl_okr (hok (.inr (.inr (.inl (τa, a)))) (by simp))
    split at h
    · rename_i n0 z0 n1 z1 e1 e2
      obtain ⟨hb, h⟩ := am_bif h
      cases h
      show ∃ la', am_n1 pc la (.int n :: .int dp :: .ref b :: .int sp :: .ref a :: List.map fl_c _) (fl_H m) = _ ∧ _
      unfold am_n1
      dsimp only
      rw [fl_get hpa, fl_get hpb, hka, hkb, e1, e2, fl_ob_0, fl_ob_0]
      rw [fl_sum_c]
      refine ⟨la, ?_, hl⟩
      show (bif (decide (fl_sum _ ≤ 8) && (!(decide (sp < 0)) && (!(decide (dp < 0)) && (!(decide (n < 0)) && (decide (sp.toNatClampNeg + n.toNatClampNeg ≤ n0) && decide (dp.toNatClampNeg + n.toNatClampNeg ≤ n1)))))) then some (pc + 3, la, List.map fl_c _, ((fl_H m).1.set b (.inl (0, n1, .inl (va_cpy (m.1 a) (m.1 b) sp.toNatClampNeg dp.toNatClampNeg n.toNatClampNeg))), (fl_H m).2)) else none) = _
      rw [hb]
      dsimp only [cond_true]
      have := fl_setR (m := m) (w := va_cpy (m.1 a) (m.1 b) sp.toNatClampNeg dp.toNatClampNeg n.toNatClampNeg) hpb
      rw [hkb, e2, fl_ob_0] at this
      rw [this]
    · cases h
  · cases h

/-- THE TIE: a step over flat memory is a step of the pure machine -/
theorem fl_tie {P : am_Pg} {mi pc pc' : Nat} {ins : Instr} {lv lv' : fl_L} {st st' : List fl_V} {m m' : fl_M} {la : am_L} (hok : ∀ v ∈ st, fl_ok m.2.2 v) (hl : fl_LR lv la) (h : fl_st P mi ins pc lv st m = some (pc', lv', st', m')) : am_rt P mi ins (st.map fl_c) = none ∧ ∃ la', am_st P mi ins pc la (st.map fl_c) (fl_H m) = some (pc', la', st'.map fl_c, fl_H m') ∧ fl_LR lv' la' := by
  have hI : ∀ g : Int32 → Int32 → Int32, fl_I pc lv st m g = some (pc', lv', st', m') → ∃ la', am_2 pc la (st.map fl_c) (fl_H m) (am_fI g) = some (pc', la', st'.map fl_c, fl_H m') ∧ fl_LR lv' la' := by
    intro g h
    unfold fl_I at h
    split at h
    · cases h; exact ⟨la, rfl, hl⟩
    · cases h
  have hID : ∀ g : Int32 → Int32 → Int32, fl_ID pc lv st m g = some (pc', lv', st', m') → ∃ la', am_2 pc la (st.map fl_c) (fl_H m) (am_fID g) = some (pc', la', st'.map fl_c, fl_H m') ∧ fl_LR lv' la' := by
    intro g h
    unfold fl_ID at h
    split at h
    · split at h
      · cases h
      · rename_i hy
        cases h
        refine ⟨la, ?_, hl⟩
        simp only [List.map_cons, fl_c, am_2, am_fID]
        rw [if_neg hy]
    · cases h
  have hJ : ∀ g : Int64 → Int64 → Int64, fl_J pc lv st m g = some (pc', lv', st', m') → ∃ la', am_2 pc la (st.map fl_c) (fl_H m) (am_fL g) = some (pc', la', st'.map fl_c, fl_H m') ∧ fl_LR lv' la' := by
    intro g h
    unfold fl_J at h
    split at h
    · cases h; exact ⟨la, rfl, hl⟩
    · cases h
  have hJD : ∀ g : Int64 → Int64 → Int64, fl_JD pc lv st m g = some (pc', lv', st', m') → ∃ la', am_2 pc la (st.map fl_c) (fl_H m) (am_fLD g) = some (pc', la', st'.map fl_c, fl_H m') ∧ fl_LR lv' la' := by
    intro g h
    unfold fl_JD at h
    split at h
    · split at h
      · cases h
      · rename_i hy
        cases h
        refine ⟨la, ?_, hl⟩
        simp only [List.map_cons, fl_c, am_2, am_fLD]
        rw [if_neg hy]
    · cases h
  have hJI : ∀ g : Int64 → Int32 → Int64, fl_JI pc lv st m g = some (pc', lv', st', m') → ∃ la', am_2 pc la (st.map fl_c) (fl_H m) (am_fLI g) = some (pc', la', st'.map fl_c, fl_H m') ∧ fl_LR lv' la' := by
    intro g h
    unfold fl_JI at h
    split at h
    · cases h; exact ⟨la, rfl, hl⟩
    · cases h
  cases ins
  all_goals first
    | (cases h; done)
    | (cases h; exact ⟨rfl, la, rfl, hl⟩)
    | exact ⟨rfl, hI _ h⟩
    | exact ⟨rfl, hID _ h⟩
    | exact ⟨rfl, hJ _ h⟩
    | exact ⟨rfl, hJD _ h⟩
    | exact ⟨rfl, hJI _ h⟩
    | exact ⟨rfl, fl_pu_c hl h⟩
    | exact ⟨rfl, fl_so_c hl h⟩
    | exact ⟨rfl, fl_go_c hl h⟩
    | exact ⟨rfl, fl_gf_c hok hl h⟩
    | exact ⟨rfl, fl_pf_c hok hl h⟩
    | exact ⟨rfl, fl_ald_c hok hl h⟩
    | exact ⟨rfl, fl_ast_c hok hl h⟩
    | exact ⟨rfl, fl_lald_c hok hl h⟩
    | exact ⟨rfl, fl_last_c hok hl h⟩
    | exact ⟨rfl, fl_qald_c hok hl h⟩
    | exact ⟨rfl, fl_len_c hok hl h⟩
    | (dsimp only [fl_st] at h; split at h <;> first | (cases h; done) | (cases h; exact ⟨rfl, la, rfl, hl⟩); done)
    | (dsimp only [fl_st] at h; split at h <;> first | (cases h; done) | exact ⟨rfl, fl_br_c hl h⟩; done)
    | (dsimp only [fl_st] at h; split at h <;> first | (cases h; done) | (rename_i e; cases h; refine ⟨rfl, la, ?_, hl⟩; dsimp only [am_st]; rw [e]; done) | (rename_i e; cases h; refine ⟨rfl, la, ?_, hl⟩; dsimp only [am_st]; rw [e]; rfl); done)
    | (dsimp only [fl_st] at h; split at h <;> first | (cases h; done) | (split at h <;> first | (cases h; done) | (rename_i hc; cases h; refine ⟨rfl, la, ?_, hl⟩; dsimp only [am_st, List.map_cons]; simp only [fl_cat_c]; rw [if_pos hc])); done)
    | skip
  case iinc k n =>
    dsimp only [fl_st] at h
    split at h
    · rename_i x hx
      split at h
      · rename_i hk
        cases h
        refine ⟨rfl, _, ?_, fl_LR.s1 hl (show (1 : Nat) ≠ 2 by decide)⟩
        dsimp only [am_st]
        rw [hl _ _ hx]
        dsimp only [fl_c]
        rw [if_pos hk]
      · cases h
    · cases h
  case tableswitch d lo hi offs =>
    dsimp only [fl_st] at h
    split at h
    · rename_i x r
      obtain ⟨hb, h⟩ := am_bif h
      refine ⟨rfl, ?_⟩
      obtain ⟨la', h1, h2⟩ := fl_go_c hl h
      refine ⟨la', ?_, h2⟩
      show (bif am_swk x lo hi offs then am_go pc (am_sw x d lo hi offs) la (List.map fl_c r) (fl_H m) else none) = _
      rw [hb]
      exact h1
    · cases h
  case invokestatic k =>
    dsimp only [fl_st] at h
    split at h
    · rename_i e
      refine ⟨rfl, ?_⟩
      dsimp only [am_st]
      rw [e]
      exact fl_n1_c hok hl h
    · cases h
  case dup =>
    dsimp only [fl_st] at h
    split at h
    · split at h
      · rename_i v r hc
        cases h
        refine ⟨rfl, la, ?_, hl⟩
        show (if (fl_c v).category = 1 then _ else none) = _
        rw [fl_cat_c, if_pos hc]
        rfl
      · cases h
    · cases h
  case pop =>
    dsimp only [fl_st] at h
    split at h
    · split at h
      · rename_i v r hc
        cases h
        refine ⟨rfl, la, ?_, hl⟩
        show (if (fl_c v).category = 1 then _ else none) = _
        rw [fl_cat_c, if_pos hc]
      · cases h
    · cases h
  case pop2 =>
    dsimp only [fl_st] at h
    split at h
    · split at h
      · rename_i v r hc
        cases h
        refine ⟨rfl, la, ?_, hl⟩
        show (if (fl_c v).category = 2 then _ else none) = _
        rw [fl_cat_c, if_pos hc]
      · cases h
    · cases h
  case dup2 =>
    dsimp only [fl_st] at h
    split at h
    · split at h
      · rename_i v w r hc
        cases h
        refine ⟨rfl, la, ?_, hl⟩
        show (if (fl_c v).category = 1 ∧ (fl_c w).category = 1 then _ else none) = _
        rw [fl_cat_c, fl_cat_c, if_pos hc]
        rfl
      · cases h
    · cases h
