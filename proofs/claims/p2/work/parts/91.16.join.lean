/-! ===== two things said of one run: what a function leaves, and that it is good ===== -/
theorem t2_join {P : am_Pg} {mi pc : Nat} {lv : fl_L} {st : List fl_V} {m : fl_M} {Q1 Q2 : Option fl_V → fl_M → Prop} (h1 : fl_Tq P mi pc lv st m Q1) (h2 : fl_Tq P mi pc lv st m Q2) : fl_Tq P mi pc lv st m (fun v m' => Q1 v m' ∧ ∃ v2 m2, v.map fl_c = v2.map fl_c ∧ fl_H m' = fl_H m2 ∧ Q2 v2 m2) := by
  intro la hl
  obtain ⟨f1, w1, M1, e1, v1, m1, a1, b1, c1⟩ := h1 la hl
  obtain ⟨f2, w2, M2, e2, v2, m2, a2, b2, c2⟩ := h2 la hl
  have g1 := am_fuel f1 _ _ _ _ _ _ e1 (f1 + f2) (Nat.le_add_right _ _)
  have g2 := am_fuel f2 _ _ _ _ _ _ e2 (f1 + f2) (Nat.le_add_left _ _)
  have e := Option.some.inj (g1.symm.trans g2)
  have ev : w1 = w2 := congrArg Prod.fst e
  have em : M1 = M2 := congrArg Prod.snd e
  exact ⟨f1, w1, M1, e1, v1, m1, a1, b1, c1, v2, m2, a1.symm.trans (ev.trans a2), b1.symm.trans (em.trans b2), c2⟩
theorem t2_He {m m' : fl_M} (e : fl_H m = fl_H m') : m.2.2 = m'.2.2 ∧ ∀ p : Nat, p < fl_N m.2.2 → fl_ob (fk_kd (fk_K p)) p (m.1 p) (m.2.1 p) = fl_ob (fk_kd (fk_K p)) p (m'.1 p) (m'.2.1 p) := by
  have hl : fl_N m.2.2 = fl_N m'.2.2 := by
    have := congrArg (fun x : am_M => x.1.length) e
    simpa [fl_H] using this
  have hh : m.2.2 = m'.2.2 := by
    unfold fl_N at hl
    omega
  refine ⟨hh, fun p hp => ?_⟩
  have g1 := fl_get hp
  have g2 := fl_get (m := m') (p := p) (by rw [← hh]; exact hp)
  rw [e] at g1
  exact Option.some.inj (g1.symm.trans g2)
/-- a row of ints is the same whole -/
theorem t2_Hi {m m' : fl_M} (e : fl_H m = fl_H m') {p n : Nat} {z : Nat × Nat × Nat} (hp : p < 285) (hk : fk_kd (fk_K p) = .inr (0, n, z)) : m.1 p = m'.1 p := by
  have h := (t2_He e).2 p (by unfold fl_N; omega)
  rw [hk] at h
  injection h with h
  injection h with _ h
  injection h with _ h
  injection h
def t2_rgk : Bool := (List.range 84).all (fun t => (at_rg t).all (fun r => match fk_kd t with
  | .inl (_, fs) => decide (0 ≤ r.2.1 ∧ r.2.2.2.1 = 1 ∧ r.2.2.2.2.1 = 1) && decide (fs[r.2.1.toNat]? = some none)
  | .inr (t, _) => decide (t = 0)))
theorem t2_rgk_t : t2_rgk = true := by decide +kernel
theorem t2_rgl : at_rg_l.length ≤ 84 := by decide +kernel
theorem t2_HG {m m' : fl_M} (e : fl_H m = fl_H m') (h : at_RG m') : at_RG m := by
  intro p hp r hr j hj
  have hh := (t2_He e).1
  have ho := (t2_He e).2 p hp
  have hm := h p (by rw [← hh]; exact hp) r hr j hj
  suffices w : m.1 p j = m'.1 p j by rw [w]; exact hm
  have hk : fk_K p < 84 := by
    apply Classical.byContradiction
    intro hn
    have : at_rg (fk_K p) = [] := by
      unfold at_rg
      have := t2_rgl
      rw [List.getD_eq_getElem?_getD, List.getElem?_eq_none (by omega)]
      rfl
    rw [this] at hr
    cases hr
  have hc := List.all_eq_true.mp (List.all_eq_true.mp t2_rgk_t (fk_K p) (List.mem_range.mpr hk)) r hr
  cases hkd : fk_kd (fk_K p) with
  | inl q =>
    obtain ⟨ci, fs⟩ := q
    rw [hkd] at hc ho
    simp only [Bool.and_eq_true, decide_eq_true_eq] at hc
    obtain ⟨⟨c1, c2, c3⟩, c4⟩ := hc
    obtain ⟨o, i, o1, o2, i1, i2, hj⟩ := hj
    have ho0 : o = 0 := by omega
    have hi0 : i = 0 := by omega
    rw [ho0, hi0, Int.mul_zero, Int.add_zero, Int.add_zero] at hj
    have ej : r.2.1.toNat = j := by omega
    rw [ej] at c4
    unfold fl_ob at ho
    injection ho with ho
    injection ho with _ ho
    have h1 := congrArg (fun l : List Value => l[j]?) ho
    simp only [List.getElem?_mapIdx, c4, Option.map_some, fl_fv] at h1
    injection h1 with h1
    injection h1
  | inr q =>
    obtain ⟨t, n, z⟩ := q
    rw [hkd] at hc ho
    simp only [decide_eq_true_eq] at hc
    subst hc
    injection ho with ho
    injection ho with _ ho
    injection ho with _ ho
    injection ho with ho
    rw [ho]
theorem t2_HL {m m' : fl_M} (e : fl_H m = fl_H m') {ν : Nat → Int} {b : List (Nat × at_A)} (h : at_RL ν b m') : at_RL ν b m := by
  have h0 : m.1 280 = m'.1 280 := t2_Hi e (n := 29780) (z := (0, 0, 0)) (by decide) (by decide +kernel)
  unfold at_RL at_w at h ⊢
  rw [h0]
  exact h
theorem t2_Hr {m m' : fl_M} (e : fl_H m = fl_H m') {q : Nat} (hq : q = 272 ∨ q = 274) (i : Nat) (hi : i < 20) : (if m.1 q i = 0 then none else some (m.1 q i).toNatClampNeg) = (if m'.1 q i = 0 then none else some (m'.1 q i).toNatClampNeg) := by
  have hk : fk_kd (fk_K q) = .inr (4, 20, 25, 0, 0) := by
    rcases hq with h | h <;> rw [h] <;> decide +kernel
  have h := (t2_He e).2 q (by unfold fl_N; omega)
  rw [hk] at h
  unfold fl_ob at h
  injection h with h
  injection h with _ h
  injection h with _ h
  injection h with h
  injection h with h
  injection h with h
  injection h with h
  have h1 := congrFun h i
  simp only [hi, if_true] at h1
  exact h1
theorem t2_cnt {m m' : fl_M} {q : Nat} (h : ∀ i : Nat, i < 20 → (m.1 q i = 0 ↔ m'.1 q i = 0)) : at_cnt m q = at_cnt m' q := by
  have e : (List.range 20).map (at_nzr m q) = (List.range 20).map (at_nzr m' q) := by
    refine List.map_congr_left (fun i hi => ?_)
    have z := h i (List.mem_range.mp hi)
    unfold at_nzr
    by_cases c : m'.1 q i = 0
    · rw [if_pos c, if_pos (z.mpr c)]
    · rw [if_neg c, if_neg (fun k => c (z.mp k))]
  exact congrArg List.sum e
theorem t2_HXI {m m' : fl_M} (e : fl_H m = fl_H m') (h : at_XI m') (hu : ∀ p, fl_N m.2.2 ≤ p → ∀ i, m.1 p i = at_W0 ((p - 285) % 90) i) : at_XI m := by
  have hh := (t2_He e).1
  have e280 : m.1 280 = m'.1 280 := t2_Hi e (n := 29780) (z := (0, 0, 0)) (by decide) (by decide +kernel)
  have e281 : m.1 281 = m'.1 281 := t2_Hi e (n := 29780) (z := (0, 0, 0)) (by decide) (by decide +kernel)
  have e283 : m.1 283 = m'.1 283 := t2_Hi e (n := 1418) (z := (0, 0, 0)) (by decide) (by decide +kernel)
  have e278 : m.1 278 = m'.1 278 := t2_Hi e (n := 90) (z := (0, 0, 0)) (by decide) (by decide +kernel)
  have e279 : m.1 279 = m'.1 279 := t2_Hi e (n := 11) (z := (0, 0, 0)) (by decide) (by decide +kernel)
  obtain ⟨h1, h2, h3, h4, h5, h6, h7, h8⟩ := h
  have hz : ∀ q, q = 272 ∨ q = 274 → ∀ i, i < 20 → (m.1 q i = 0 ↔ m'.1 q i = 0) ∧ (m'.1 q i ≠ 0 → (m.1 q i).toInt.toNat = (m'.1 q i).toInt.toNat) := by
    intro q hq i hi
    have a := t2_Hr e hq i hi
    by_cases c1 : m.1 q i = 0
    · rw [if_pos c1] at a
      by_cases c2 : m'.1 q i = 0
      · exact ⟨⟨fun _ => c2, fun _ => c1⟩, fun h => absurd c2 h⟩
      · rw [if_neg c2] at a
        cases a
    · rw [if_neg c1] at a
      by_cases c2 : m'.1 q i = 0
      · rw [if_pos c2] at a
        cases a
      · rw [if_neg c2] at a
        exact ⟨⟨fun h => absurd h c1, fun h => absurd h c2⟩, fun _ => Option.some.inj a⟩
  refine ⟨fun q hq i hi => ?_, ?_, hu, ?_, ?_, ?_, ?_, ?_⟩
  · obtain ⟨z1, z2⟩ := hz q hq i hi
    rcases h1 q hq i hi with c | ⟨j, j1, j2⟩
    · exact Or.inl (z1.mpr c)
    · right
      have hne : m'.1 q i ≠ 0 := by
        intro c
        rw [c] at j2
        have : (0 : Int32).toInt = 0 := rfl
        omega
      exact ⟨j, by rw [hh]; exact j1, by have := z2 hne; omega⟩
  · have hc : ∀ q, q = 272 ∨ q = 274 → at_cnt m q = at_cnt m' q := fun q hq => t2_cnt (fun i hi => (hz q hq i hi).1)
    exact (congrArg (fun x => x + at_cnt m 274) (hc 272 (Or.inl rfl))).trans ((congrArg (fun x => at_cnt m' 272 + x) (hc 274 (Or.inr rfl))).trans (h2.trans hh.symm))
  · rw [e283]
    exact h4
  · rw [e280]
    exact h5
  · rw [e281]
    exact h6
  · rw [e281]
    exact h7
  · intro p j hp
    rw [← h8 p j hp]
    rcases hp with hp | hp <;> rw [hp]
    · rw [e278]
    · rw [e279]
theorem t2_Good {m m' : fl_M} (e : fl_H m = fl_H m') (h : at_Good at_XI m') (hu : ∀ p, fl_N m.2.2 ≤ p → ∀ i, m.1 p i = at_W0 ((p - 285) % 90) i) : at_Good at_XI m := ⟨t2_HG e h.1, t2_HL e h.2.1, t2_HXI e h.2.2 hu⟩
