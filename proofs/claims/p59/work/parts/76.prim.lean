/-! ===== the lesser of two; held to two bounds ===== -/
section ATPR
variable {L : Nat} {xs : Nat → Int32} {m : fl_M} {Q : Option fl_V → fl_M → Prop}
theorem at_nok (h : Nat) : ∀ v ∈ ([] : List fl_V), fl_ok h v := fun v hv => by cases hv
theorem at_iok (h : Nat) {x : Int32} {s : List fl_V} (hs : ∀ v ∈ s, fl_ok h v) : ∀ v ∈ (.inl x :: s : List fl_V), fl_ok h v := fun v hv => by
  rcases List.mem_cons.mp hv with rfl | hv
  · exact True.intro
  · exact hs v hv
theorem at_lesser (x y : Int32) (k : Q (some (.inl (if x < y then x else y))) m) : fl_Tq (pw_P L xs) 187 0 (fl_args (am_mxl (pw_P L xs) 187) [.inl x, .inl y]) [] m Q := by
  refine fl_Tq.stp (ins := .iload_n 0) (pc' := 1) (lv' := [some (.inl x), some (.inl y)]) (st' := [.inl x]) (m' := m) rfl rfl (at_nok _) rfl ?_
  refine fl_Tq.stp (ins := .iload_n 1) (pc' := 2) (lv' := [some (.inl x), some (.inl y)]) (st' := [.inl y, .inl x]) (m' := m) rfl rfl (at_iok _ (at_nok _)) rfl ?_
  by_cases h : x < y
  · rw [if_pos h] at k
    have hc : am_c2 .ge x y = false := by
      rw [at_c2]
      have := Int32.lt_iff_toInt_lt.mp h
      exact decide_eq_false (by omega)
    refine fl_Tq.stp (ins := .if_icmp .ge 7) (pc' := 5) (lv' := [some (.inl x), some (.inl y)]) (st' := []) (m' := m) rfl rfl (at_iok _ (at_iok _ (at_nok _))) ?_ ?_
    · show fl_br (am_c2 .ge x y) 2 7 _ _ _ = _
      rw [hc]
      rfl
    refine fl_Tq.stp (ins := .iload_n 0) (pc' := 6) (lv' := [some (.inl x), some (.inl y)]) (st' := [.inl x]) (m' := m) rfl rfl (at_nok _) rfl ?_
    refine fl_Tq.stp (ins := .goto 4) (pc' := 10) (lv' := [some (.inl x), some (.inl y)]) (st' := [.inl x]) (m' := m) rfl rfl (at_iok _ (at_nok _)) rfl ?_
    exact fl_Tq.ret (ins := .ireturn) rfl rfl rfl k
  · rw [if_neg h] at k
    have hc : am_c2 .ge x y = true := by
      rw [at_c2]
      have : ¬ x.toInt < y.toInt := fun q => h (Int32.lt_iff_toInt_lt.mpr q)
      exact decide_eq_true (by omega)
    refine fl_Tq.stp (ins := .if_icmp .ge 7) (pc' := 9) (lv' := [some (.inl x), some (.inl y)]) (st' := []) (m' := m) rfl rfl (at_iok _ (at_iok _ (at_nok _))) ?_ ?_
    · show fl_br (am_c2 .ge x y) 2 7 _ _ _ = _
      rw [hc]
      rfl
    refine fl_Tq.stp (ins := .iload_n 1) (pc' := 10) (lv' := [some (.inl x), some (.inl y)]) (st' := [.inl y]) (m' := m) rfl rfl (at_nok _) rfl ?_
    exact fl_Tq.ret (ins := .ireturn) rfl rfl rfl k
theorem at_held (v l h : Int32) (k : Q (some (.inl (if v < l then l else if h < v then h else v))) m) : fl_Tq (pw_P L xs) 186 0 (fl_args (am_mxl (pw_P L xs) 186) [.inl v, .inl l, .inl h]) [] m Q := by
  refine fl_Tq.stp (ins := .iload_n 0) (pc' := 1) (lv' := [some (.inl v), some (.inl l), some (.inl h)]) (st' := [.inl v]) (m' := m) rfl rfl (at_nok _) rfl ?_
  refine fl_Tq.stp (ins := .iload_n 1) (pc' := 2) (lv' := [some (.inl v), some (.inl l), some (.inl h)]) (st' := [.inl l, .inl v]) (m' := m) rfl rfl (at_iok _ (at_nok _)) rfl ?_
  by_cases h1 : v < l
  · rw [if_pos h1] at k
    have hc : am_c2 .ge v l = false := by
      rw [at_c2]
      have := Int32.lt_iff_toInt_lt.mp h1
      exact decide_eq_false (by omega)
    refine fl_Tq.stp (ins := .if_icmp .ge 7) (pc' := 5) (lv' := [some (.inl v), some (.inl l), some (.inl h)]) (st' := []) (m' := m) rfl rfl (at_iok _ (at_iok _ (at_nok _))) ?_ ?_
    · show fl_br (am_c2 .ge v l) 2 7 _ _ _ = _
      rw [hc]
      rfl
    refine fl_Tq.stp (ins := .iload_n 1) (pc' := 6) (lv' := [some (.inl v), some (.inl l), some (.inl h)]) (st' := [.inl l]) (m' := m) rfl rfl (at_nok _) rfl ?_
    refine fl_Tq.stp (ins := .goto 13) (pc' := 19) (lv' := [some (.inl v), some (.inl l), some (.inl h)]) (st' := [.inl l]) (m' := m) rfl rfl (at_iok _ (at_nok _)) rfl ?_
    exact fl_Tq.ret (ins := .ireturn) rfl rfl rfl k
  · rw [if_neg h1] at k
    have hc : am_c2 .ge v l = true := by
      rw [at_c2]
      have : ¬ v.toInt < l.toInt := fun q => h1 (Int32.lt_iff_toInt_lt.mpr q)
      exact decide_eq_true (by omega)
    refine fl_Tq.stp (ins := .if_icmp .ge 7) (pc' := 9) (lv' := [some (.inl v), some (.inl l), some (.inl h)]) (st' := []) (m' := m) rfl rfl (at_iok _ (at_iok _ (at_nok _))) ?_ ?_
    · show fl_br (am_c2 .ge v l) 2 7 _ _ _ = _
      rw [hc]
      rfl
    refine fl_Tq.stp (ins := .iload_n 0) (pc' := 10) (lv' := [some (.inl v), some (.inl l), some (.inl h)]) (st' := [.inl v]) (m' := m) rfl rfl (at_nok _) rfl ?_
    refine fl_Tq.stp (ins := .iload_n 2) (pc' := 11) (lv' := [some (.inl v), some (.inl l), some (.inl h)]) (st' := [.inl h, .inl v]) (m' := m) rfl rfl (at_iok _ (at_nok _)) rfl ?_
    by_cases h2 : h < v
    · rw [if_pos h2] at k
      have hc : am_c2 .le v h = false := by
        rw [at_c2]
        have := Int32.lt_iff_toInt_lt.mp h2
        exact decide_eq_false (by omega)
      refine fl_Tq.stp (ins := .if_icmp .le 7) (pc' := 14) (lv' := [some (.inl v), some (.inl l), some (.inl h)]) (st' := []) (m' := m) rfl rfl (at_iok _ (at_iok _ (at_nok _))) ?_ ?_
      · show fl_br (am_c2 .le v h) 11 7 _ _ _ = _
        rw [hc]
        rfl
      refine fl_Tq.stp (ins := .iload_n 2) (pc' := 15) (lv' := [some (.inl v), some (.inl l), some (.inl h)]) (st' := [.inl h]) (m' := m) rfl rfl (at_nok _) rfl ?_
      refine fl_Tq.stp (ins := .goto 4) (pc' := 19) (lv' := [some (.inl v), some (.inl l), some (.inl h)]) (st' := [.inl h]) (m' := m) rfl rfl (at_iok _ (at_nok _)) rfl ?_
      exact fl_Tq.ret (ins := .ireturn) rfl rfl rfl k
    · rw [if_neg h2] at k
      have hc : am_c2 .le v h = true := by
        rw [at_c2]
        have : ¬ h.toInt < v.toInt := fun q => h2 (Int32.lt_iff_toInt_lt.mpr q)
        exact decide_eq_true (by omega)
      refine fl_Tq.stp (ins := .if_icmp .le 7) (pc' := 18) (lv' := [some (.inl v), some (.inl l), some (.inl h)]) (st' := []) (m' := m) rfl rfl (at_iok _ (at_iok _ (at_nok _))) ?_ ?_
      · show fl_br (am_c2 .le v h) 11 7 _ _ _ = _
        rw [hc]
        rfl
      refine fl_Tq.stp (ins := .iload_n 0) (pc' := 19) (lv' := [some (.inl v), some (.inl l), some (.inl h)]) (st' := [.inl v]) (m' := m) rfl rfl (at_nok _) rfl ?_
      exact fl_Tq.ret (ins := .ireturn) rfl rfl rfl k
theorem at_prim_ok {X : fl_M → Prop} {m0 : fl_M} {ν : Nat → Int} {S : at_S} {mj : Nat} {as_ : List at_V} {vs : List fl_V} {o : at_O} (h : at_GS X m0 m ν S) (hr : at_RS ν m.2.2 as_ vs) (hw : ∀ a ∈ as_, at_wV S.1.1.length a) (e : at_prim mj S as_ = some o) (k : ∀ (v : Option fl_V) (ν' : Nat → Int), at_ag S.1.1.length ν ν' → S.1.1.length ≤ o.1.1.1.length → at_GS X m0 m ν' o.1 → at_RO ν' m.2.2 o.1.1.1.length o.2 v → Q v m) : fl_Tq (pw_P L xs) mj 0 (fl_args (am_mxl (pw_P L xs) mj) vs) [] m Q := by
  unfold at_prim at e
  split at e
  · rename_i a b
    cases e
    obtain ⟨v0, s0, rfl, ⟨x, rfl, ex⟩, hr1⟩ := hr.cons
    obtain ⟨v1, s1, rfl, ⟨y, rfl, ey⟩, hr2⟩ := hr1.cons
    rw [hr2.nil]
    have wa : at_wf S.1.1.length a := hw (.inl a) (by simp)
    have wb : at_wf S.1.1.length b := hw (.inl b) (by simp)
    refine at_lesser x y ?_
    have hz : (if x < y then x else y).toInt = min (at_ev ν a) (at_ev ν b) := by
      by_cases hxy : x < y
      · rw [if_pos hxy]
        have := Int32.lt_iff_toInt_lt.mp hxy
        omega
      · rw [if_neg hxy]
        have : ¬ x.toInt < y.toInt := fun q => hxy (Int32.lt_iff_toInt_lt.mpr q)
        omega
    generalize (if x < y then x else y) = z at hz ⊢
    have la := at_lo_le h.1.1.1 a
    have ua := at_hi_le h.1.1.1 a
    have lb := at_lo_le h.1.1.1 b
    have ub := at_hi_le h.1.1.1 b
    obtain ⟨ν1, hx, hw1, he⟩ := at_new_X h.1 (lo := min (at_lo S.1.1 a) (at_lo S.1.1 b)) (hi := min (at_hi S.1.1 a) (at_hi S.1.1 b)) (x := z.toInt) (by omega) (by omega)
    have ea1 := at_ev_ag hx.1 wa
    have eb1 := at_ev_ag hx.1 wb
    obtain ⟨x2, l2⟩ := at_try_X hx.2.2 (a := at_sub (at_nv S.1) a) (at_wf_sub hw1 (wa.mono hx.2.1)) (by rw [at_ev_sub, he, ea1]; omega)
    have x12 := hx.trans x2
    obtain ⟨x3, l3⟩ := at_try_X x12.2.2 (a := at_sub (at_nv S.1) b) (at_wf_sub (hw1.mono x2.2.1) (wb.mono x12.2.1)) (by rw [at_ev_sub, he, eb1]; omega)
    have x13 := x12.trans x3
    exact k _ ν1 x13.1 x13.2.1 (h.ext x13) ⟨⟨z, rfl, he.symm⟩, hw1.mono (Nat.le_trans x2.2.1 x3.2.1)⟩
  · rename_i a l u
    obtain ⟨hb, e⟩ := am_bif e
    cases e
    obtain ⟨v0, s0, rfl, ⟨x, rfl, ex⟩, hr1⟩ := hr.cons
    obtain ⟨v1, s1, rfl, ⟨y, rfl, ey⟩, hr2⟩ := hr1.cons
    obtain ⟨v2, s2, rfl, ⟨w, rfl, ew⟩, hr3⟩ := hr2.cons
    rw [hr3.nil]
    have wl : at_wf S.1.1.length l := hw (.inl l) (by simp)
    have wu : at_wf S.1.1.length u := hw (.inl u) (by simp)
    have hlu := at_le_ok h.1.1 hb
    rw [at_ev_sub] at hlu
    refine at_held x y w ?_
    have hz : at_ev ν l ≤ (if x < y then y else if w < x then w else x).toInt ∧ (if x < y then y else if w < x then w else x).toInt ≤ at_ev ν u := by
      by_cases hxy : x < y
      · rw [if_pos hxy]
        omega
      · rw [if_neg hxy]
        have h3 : ¬ x.toInt < y.toInt := fun q => hxy (Int32.lt_iff_toInt_lt.mpr q)
        by_cases hwx : w < x
        · rw [if_pos hwx]
          omega
        · rw [if_neg hwx]
          have h4 : ¬ w.toInt < x.toInt := fun q => hwx (Int32.lt_iff_toInt_lt.mpr q)
          omega
    generalize (if x < y then y else if w < x then w else x) = z at hz ⊢
    have ll := at_lo_le h.1.1.1 l
    have uu := at_hi_le h.1.1.1 u
    obtain ⟨ν1, hx, hw1, he⟩ := at_new_X h.1 (lo := at_lo S.1.1 l) (hi := at_hi S.1.1 u) (x := z.toInt) (by omega) (by omega)
    have el1 := at_ev_ag hx.1 wl
    have eu1 := at_ev_ag hx.1 wu
    obtain ⟨x2, l2⟩ := at_try_X hx.2.2 (a := at_sub (at_nv S.1) u) (at_wf_sub hw1 (wu.mono hx.2.1)) (by rw [at_ev_sub, he, eu1]; omega)
    have x12 := hx.trans x2
    obtain ⟨x3, l3⟩ := at_try_X x12.2.2 (a := at_sub l (at_nv S.1)) (at_wf_sub (wl.mono x12.2.1) (hw1.mono x2.2.1)) (by rw [at_ev_sub, he, el1]; omega)
    have x13 := x12.trans x3
    exact k _ ν1 x13.1 x13.2.1 (h.ext x13) ⟨⟨z, rfl, he.symm⟩, hw1.mono (Nat.le_trans x2.2.1 x3.2.1)⟩
  · cases e
end ATPR
