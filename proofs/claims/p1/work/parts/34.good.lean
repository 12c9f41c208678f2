theorem pw_kl_eq {ci : Nat} (h : ci < 10) : pw_kl[ci]? = some (pw_cn ci, pw_T ci, (pw_fld_d.getD ci []).length) := by
  have hc : ci = 0 ∨ ci = 1 ∨ ci = 2 ∨ ci = 3 ∨ ci = 4 ∨ ci = 5 ∨ ci = 6 ∨ ci = 7 ∨ ci = 8 ∨ ci = 9 := by omega
  rcases hc with rfl | rfl | rfl | rfl | rfl | rfl | rfl | rfl | rfl | rfl <;> rfl
theorem pw_kl_lt {ci : Nat} {r : vw_C} (h : pw_kl[ci]? = some r) : ci < 10 := (List.getElem?_eq_some_iff.mp h).1
def pw_okf (ci : Nat) : Bool := (List.range ((pw_fld_d.getD ci []).length)).all (fun k => decide (parseFieldDescriptor (pw_T ci k).2.2.1 = some (pw_fty ci k)) && (decide ((pw_T ci k).2.2.2 = pw_fin ci k) && decide ((pw_T ci k).1 = pw_cn ci))) && (List.range ((pw_fld_d.getD ci []).length)).all (fun a => (List.range ((pw_fld_d.getD ci []).length)).all (fun b => Nat.beq a b || !decide ((pw_T ci a).2.1 = (pw_T ci b).2.1)))
set_option maxRecDepth 100000 in
theorem pw_okf_all : (List.range 10).all pw_okf = true := by decide +kernel
theorem pw_G2 (L : Nat) (xs : Nat → Int32) : am_G2 (pw_P L xs) pw_B := by
  intro ci r h
  have hl := pw_kl_lt h
  have hr : r = (pw_cn ci, pw_T ci, (pw_fld_d.getD ci []).length) := Option.some.inj (h.symm.trans (pw_kl_eq hl))
  subst hr
  have hk := List.all_eq_true.mp pw_okf_all ci (List.mem_range.mpr hl)
  unfold pw_okf at hk
  rw [Bool.and_eq_true] at hk
  refine ⟨rfl, fun w hw => pw_m_lay ?_, fun k hk2 => ?_, fun a ha b hb hne => ?_⟩
  · exact List.mem_flatten.mpr ⟨_, List.mem_map.mpr ⟨ci, List.mem_range.mpr hl, rfl⟩, hw⟩
  · have h1 := List.all_eq_true.mp hk.1 k (List.mem_range.mpr hk2)
    simp only [Bool.and_eq_true, decide_eq_true_eq] at h1
    exact h1
  · have h1 := List.all_eq_true.mp (List.all_eq_true.mp hk.2 a (List.mem_range.mpr ha)) b (List.mem_range.mpr hb)
    simp only [Bool.or_eq_true, Bool.not_eq_true', decide_eq_false_iff_not] at h1
    exact h1.elim (fun q => absurd (Nat.eq_of_beq_eq_true q) hne) id
def pw_np_l : List (List Nat) := [[1, 0, 4, 1, 0, 1, 1, 0, 1, 2, 2, 1, 1, 1, 2, 0, 1, 3], [2, 0, 1, 1, 1, 1, 1, 1, 1, 3, 4, 1, 0, 1, 0, 1, 1, 3], [1, 1, 1, 0, 0, 2, 0, 0, 0, 1, 1, 1, 0, 1, 1, 1, 0, 0], [1, 1, 0, 0, 0, 0, 1, 0, 0, 0, 2, 2, 0, 0, 0, 0, 0, 0], [1, 2, 3, 0, 1, 1, 2, 1, 0, 2, 0, 0, 5, 0, 1, 1, 1, 1], [1, 0, 1, 0, 1, 2, 1, 1, 1, 2, 0, 3, 2, 2, 2, 1, 0, 0], [1, 2, 2, 0, 2, 1, 2, 5, 0, 0, 0, 0, 0, 0, 1, 1, 2, 2], [2, 2, 2, 2, 1, 0, 1, 2, 1, 3, 1, 0, 0, 0, 1, 1, 3, 2], [0, 1, 1, 1, 1, 1, 0, 1, 1, 2, 2, 1, 0, 0, 0, 2, 3, 1], [0, 1, 2, 2, 1, 1, 1, 3, 2, 2, 3, 3, 2, 3, 2, 2, 1, 1], [1, 1, 1, 0, 2, 3, 3, 2, 1, 2, 2, 1, 1, 2, 3, 1, 2, 1], [1, 2, 1, 1, 0, 0, 0, 0, 0, 0, 0, 2, 1, 0, 1, 0, 1, 1], [1, 1, 0, 1, 0, 1, 0, 1, 1, 0, 0, 1, 1, 1, 0, 2, 2, 1], [1, 0, 0, 0, 0, 0, 2, 0, 0, 3, 2, 2, 2, 2, 1, 2, 1, 0], [0, 1, 1, 0, 2, 1, 2, 2, 2, 5, 3, 0, 0, 0, 0, 0, 1, 1], [2, 2, 2, 2, 2, 2, 2, 1, 0, 1, 2, 0, 1, 1, 1, 1, 1, 0], [1, 2, 2, 1, 0, 0, 3, 1, 0, 0, 1, 0, 0, 1, 1, 1, 1, 4], [4, 0, 3, 2, 2, 3, 1, 0, 1, 2, 2, 1, 3, 2, 1, 1, 1, 0], [0, 0, 1, 1, 1, 1, 1, 1, 2, 1, 2, 2, 2, 2, 2]]
def pw_fl_l : List (List (Bool × Bool × Bool × Bool)) := [[(false, false, false, false), (true, false, true, false), (true, false, true, true), (true, false, true, true), (true, false, true, true), (true, false, true, true), (true, false, true, true), (true, false, true, true), (true, false, true, true), (true, false, true, true), (true, false, true, true), (true, false, true, true), (true, false, true, true), (true, false, true, true), (true, false, true, true), (true, false, true, true), (true, false, true, true), (true, false, true, true)], [(true, false, true, true), (true, false, true, false), (true, false, true, true), (true, false, true, true), (true, false, true, true), (true, false, true, true), (true, false, true, true), (true, false, true, false), (true, false, true, true), (true, false, true, true), (true, false, true, true), (true, false, true, true), (true, false, true, false), (true, false, true, true), (true, false, true, false), (true, false, true, true), (true, false, true, true), (true, false, true, true)], [(true, false, true, true), (true, false, true, true), (true, false, true, true), (true, false, true, true), (true, false, true, true), (true, false, true, true), (true, false, true, true), (true, false, true, true), (true, false, true, true), (true, false, true, true), (true, false, true, true), (true, false, true, true), (true, false, true, true), (true, false, true, true), (true, false, true, true), (true, false, true, true), (true, false, true, true), (true, false, true, true)], [(true, false, true, true), (true, false, true, true), (true, false, true, true), (true, false, true, true), (true, false, true, true), (true, false, true, true), (true, false, true, true), (true, false, true, true), (true, false, true, true), (true, false, true, true), (true, false, true, true), (true, false, true, true), (true, false, true, true), (true, false, true, true), (true, false, true, true), (true, false, true, true), (true, false, true, true), (true, false, true, true)], [(true, false, true, true), (true, false, true, true), (true, false, true, true), (true, false, true, false), (true, false, true, true), (true, false, true, true), (true, false, true, true), (true, false, true, true), (true, false, true, true), (true, false, true, true), (true, false, true, true), (true, false, true, true), (true, false, true, true), (true, false, true, false), (true, false, true, true), (true, false, true, true), (true, false, true, true), (true, false, true, true)], [(true, false, true, true), (true, false, true, true), (true, false, true, true), (true, false, true, false), (true, false, true, true), (true, false, true, true), (true, false, true, true), (true, false, true, true), (true, false, true, true), (true, false, true, true), (true, false, true, false), (true, false, true, true), (true, false, true, true), (true, false, true, true), (true, false, true, true), (true, false, true, true), (true, false, true, true), (true, false, true, true)], [(true, false, true, true), (true, false, true, true), (true, false, true, true), (true, false, true, true), (true, false, true, true), (true, false, true, true), (true, false, true, true), (true, false, true, true), (true, false, true, true), (true, false, true, true), (true, false, true, true), (true, false, true, true), (true, false, true, true), (true, false, true, true), (true, false, true, true), (true, false, true, true), (true, false, true, true), (true, false, true, true)], [(true, false, true, true), (true, false, true, true), (true, false, true, true), (true, false, true, true), (true, false, true, true), (true, false, true, true), (true, false, true, true), (true, false, true, true), (true, false, true, true), (true, false, true, true), (true, false, true, true), (true, false, true, true), (true, false, true, true), (true, false, true, true), (true, false, true, true), (true, false, true, true), (true, false, true, true), (true, false, true, true)], [(true, false, true, true), (true, false, true, true), (true, false, true, true), (true, false, true, true), (true, false, true, true), (true, false, true, true), (true, false, true, true), (true, false, true, true), (true, false, true, true), (true, false, true, true), (true, false, true, true), (true, false, true, true), (true, false, true, true), (true, false, true, true), (true, false, true, true), (true, false, true, true), (true, false, true, true), (true, false, true, true)], [(true, false, true, true), (true, false, true, true), (true, false, true, true), (true, false, true, true), (true, false, true, true), (true, false, true, true), (true, false, true, true), (true, false, true, true), (true, false, true, true), (true, false, true, true), (true, false, true, true), (true, true, false, false), (true, true, false, false), (true, true, false, false), (true, true, false, false), (true, true, false, false), (true, true, false, false), (true, true, false, false)], [(true, true, false, false), (true, true, false, false), (true, true, false, false), (true, false, true, false), (true, true, false, false), (true, true, false, false), (true, true, false, false), (true, true, false, false), (true, true, false, false), (true, true, false, false), (true, true, false, false), (true, false, true, true), (true, false, true, true), (true, false, true, true), (true, false, true, true), (true, false, true, true), (true, false, true, true), (true, false, true, true)], [(true, false, true, true), (true, false, true, true), (true, false, true, true), (true, false, true, true), (true, false, true, true), (true, false, true, true), (true, false, true, true), (true, false, true, true), (true, false, true, true), (true, false, true, true), (true, false, true, true), (true, false, true, true), (true, false, true, true), (true, false, true, true), (true, false, true, true), (true, false, true, true), (true, false, true, true), (true, false, true, true)], [(true, false, true, true), (true, false, true, true), (true, false, true, true), (true, false, true, true), (true, false, true, true), (true, false, true, true), (true, false, true, true), (true, false, true, true), (true, false, true, true), (true, false, true, true), (true, false, true, true), (true, false, true, true), (true, false, true, true), (true, false, true, true), (true, false, true, true), (true, false, true, true), (true, false, true, true), (true, false, true, true)], [(true, false, true, true), (true, false, true, true), (true, false, true, true), (true, false, true, true), (true, false, true, true), (true, false, true, true), (true, true, false, false), (true, false, true, true), (true, false, true, true), (true, false, true, true), (true, false, true, true), (true, false, true, true), (true, false, true, true), (true, false, true, true), (true, false, true, true), (true, false, true, true), (true, false, true, true), (true, false, true, true)], [(true, false, true, true), (true, false, true, true), (true, false, true, true), (true, false, true, true), (true, false, true, true), (true, false, true, true), (true, false, true, true), (true, false, true, true), (true, false, true, true), (true, false, true, true), (true, false, true, true), (true, false, true, true), (true, false, true, true), (true, false, true, true), (true, false, true, true), (true, false, true, true), (true, false, true, true), (true, false, true, true)], [(true, false, true, true), (true, false, true, true), (true, false, true, true), (true, false, true, true), (true, false, true, true), (true, false, true, true), (true, false, true, true), (true, false, true, true), (true, false, true, true), (true, false, true, true), (true, false, true, true), (true, false, true, true), (true, false, true, true), (true, false, true, true), (true, false, true, true), (true, false, true, true), (true, false, true, true), (true, false, true, true)], [(true, false, true, true), (true, false, true, true), (true, false, true, true), (true, false, true, true), (true, false, true, true), (true, false, true, true), (true, false, true, true), (true, false, true, true), (true, false, true, true), (true, false, true, true), (true, false, true, true), (true, false, true, true), (true, false, true, true), (true, false, true, true), (true, false, true, true), (true, true, false, false), (true, false, true, true), (true, true, false, false)], [(true, false, true, true), (true, false, true, true), (true, false, true, true), (true, false, true, true), (true, false, true, true), (true, false, true, true), (true, false, true, true), (true, false, true, true), (true, false, true, true), (true, false, true, true), (true, false, true, true), (true, false, true, true), (true, false, true, true), (true, false, true, true), (true, false, true, true), (true, false, true, true), (true, false, true, true), (true, false, true, true)], [(true, false, true, true), (true, false, true, true), (true, true, false, false), (true, true, false, false), (true, true, false, false), (true, true, false, false), (true, true, false, false), (true, true, false, false), (true, true, false, false), (true, true, false, false), (true, true, false, false), (true, true, false, false), (true, true, false, false), (true, true, false, false), (true, true, false, false)]]
def pw_ok3 (o : Nat) : Bool := (pw_fld_l.getD o []).all (fun q => decide (q.2.1 < 10) && (decide (q.2.2 < (pw_fld_d.getD q.2.1 []).length) && (decide ((o, q.1, q.2.1, q.2.2) ∈ pw_fe) || (decide (o ≠ q.2.1) && pw_fn.any (fun e => decide ((e.1, e.2.1, e.2.2.1, e.2.2.2.1) = (o, q.1, q.2.1, q.2.2)))))))
set_option maxRecDepth 100000 in
theorem pw_ok3_all : (List.range 16).all pw_ok3 = true := by decide +kernel
theorem pw_getD {α : Type} {l : List (List α)} {o : Nat} {x : α} (h : x ∈ l.getD o []) : o < l.length := by
  by_cases ho : o < l.length
  · exact ho
  · rw [List.getD_eq_getElem?_getD, List.getElem?_eq_none (by omega)] at h
    cases h
theorem pw_G3 (L : Nat) (xs : Nat → Int32) : am_G3 (pw_P L xs) pw_B := by
  intro o i ci k h
  have hm := am_fdm (show am_fd (pw_fld_l.getD o []) i = some (ci, k) from h)
  have ho : o < 16 := pw_getD hm
  have hk := List.all_eq_true.mp (List.all_eq_true.mp pw_ok3_all o (List.mem_range.mpr ho)) _ hm
  simp only [Bool.and_eq_true, Bool.or_eq_true, decide_eq_true_eq] at hk
  obtain ⟨h1, h2, h3⟩ := hk
  refine ⟨_, pw_kl_eq h1, h2, ?_⟩
  rcases h3 with h3 | ⟨h3, h4⟩
  · exact Or.inl (pw_m_fl (List.mem_map.mpr ⟨_, h3, rfl⟩))
  · obtain ⟨e, he, hq⟩ := List.any_eq_true.mp h4
    have hq := of_decide_eq_true hq
    obtain ⟨e1, e2, e3, e4, e5⟩ := e
    cases hq
    exact Or.inr ⟨h3, e5, pw_n_fl (List.mem_map.mpr ⟨_, he, rfl⟩)⟩
def pw_ok4 (o : Nat) : Bool := (pw_sta_l.getD o []).all (fun q => decide (1 ≤ q.2) && (decide (q.2 - 1 < pw_S.length) && (decide ((o, q.1, q.2) ∈ pw_se) || pw_sn.any (fun e => decide ((e.1, e.2.1, e.2.2.1) = (o, q.1, q.2))))))
set_option maxRecDepth 100000 in
theorem pw_ok4_all : (List.range 16).all pw_ok4 = true := by decide +kernel
theorem pw_G4 (L : Nat) (xs : Nat → Int32) : am_G4 (pw_P L xs) pw_B := by
  intro o i c h
  have hm := am_fdm (show am_fd (pw_sta_l.getD o []) i = some c from h)
  have ho : o < 16 := pw_getD hm
  have hk := List.all_eq_true.mp (List.all_eq_true.mp pw_ok4_all o (List.mem_range.mpr ho)) _ hm
  simp only [Bool.and_eq_true, Bool.or_eq_true, decide_eq_true_eq] at hk
  obtain ⟨h1, h2, h3⟩ := hk
  refine ⟨c - 1, pw_S.getD (c - 1) ("", "", ""), by omega, ?_, ?_⟩
  · show pw_S[c - 1]? = _
    rw [List.getD_eq_getElem?_getD, List.getElem?_eq_getElem h2]
    rfl
  · rcases h3 with h3 | h4
    · exact Or.inl (pw_m_st (List.mem_map.mpr ⟨_, h3, rfl⟩))
    · obtain ⟨e, he, hq⟩ := List.any_eq_true.mp h4
      have hq := of_decide_eq_true hq
      obtain ⟨e1, e2, e3, e4⟩ := e
      cases hq
      exact Or.inr ⟨e4, pw_n_st (List.mem_map.mpr ⟨_, he, rfl⟩)⟩
def pw_ok5 (o : Nat) : Bool := (pw_con_l.getD o []).all (fun q => match q.2 with
  | .int x => decide (Cond.constant (pw_cn o) q.1 x ∈ pw_Wco)
  | .long x => decide (Cond.constantLong (pw_cn o) q.1 x ∈ pw_Wco)
  | .float x => decide (Cond.constantFloat (pw_cn o) q.1 x ∈ pw_Wco)
  | .double x => decide (Cond.constantDouble (pw_cn o) q.1 x ∈ pw_Wco)
  | _ => true)
set_option maxRecDepth 100000 in
theorem pw_ok5_all : (List.range 16).all pw_ok5 = true := by decide +kernel
theorem pw_G5 (L : Nat) (xs : Nat → Int32) : am_G5 (pw_P L xs) pw_B := by
  intro o i v h
  have hm := am_fdm (show am_fd (pw_con_l.getD o []) i = some v from h)
  have ho : o < 16 := pw_getD hm
  have hk := List.all_eq_true.mp (List.all_eq_true.mp pw_ok5_all o (List.mem_range.mpr ho)) _ hm
  cases v with
  | int x => exact pw_m_co (of_decide_eq_true hk)
  | long x => exact pw_m_co (of_decide_eq_true hk)
  | float x => exact pw_m_co (of_decide_eq_true hk)
  | double x => exact pw_m_co (of_decide_eq_true hk)
  | null => exact trivial
  | ref a => exact trivial
  | retAddr a => exact trivial
def pw_ok6 (o : Nat) : Bool := (pw_new_l.getD o []).all (fun q => decide (q.2.1 < 10) && (decide (Cond.classLink (pw_cn o) q.1 (pw_cn q.2.1) ∈ pw_Wnl) && (decide (Cond.instantiable (pw_cn q.2.1) (pw_fld_d.getD q.2.1 []).length ∈ pw_Wni) && (decide (Cond.initialized (pw_cn q.2.1) ∈ pw_Win) && (decide (q.2.2.length = (pw_fld_d.getD q.2.1 []).length) && (List.range ((pw_fld_d.getD q.2.1 []).length)).all (fun j => decide (defaultValue (pw_fty q.2.1 j) = vp_V q.2.2 j)))))))
set_option maxRecDepth 100000 in
theorem pw_ok6_all : (List.range 16).all pw_ok6 = true := by decide +kernel
theorem pw_G6 (L : Nat) (xs : Nat → Int32) : am_G6 (pw_P L xs) pw_B := by
  intro o i ci fs h
  have hm := am_fdm (show am_fd (pw_new_l.getD o []) i = some (ci, fs) from h)
  have ho : o < 16 := pw_getD hm
  have hk := List.all_eq_true.mp (List.all_eq_true.mp pw_ok6_all o (List.mem_range.mpr ho)) _ hm
  simp only [Bool.and_eq_true, decide_eq_true_eq] at hk
  obtain ⟨h1, h2, h3, h4, h5, h6⟩ := hk
  exact ⟨_, pw_kl_eq h1, pw_m_nl h2, pw_m_ni h3, pw_m_in h4, h5, fun j hj => of_decide_eq_true (List.all_eq_true.mp h6 j (List.mem_range.mpr hj))⟩
theorem pw_G7 : am_G7 pw_B := ⟨pw_m_ar (by decide +kernel), pw_m_ar (by decide +kernel), rfl, rfl⟩
def pw_ok8 (o : Nat) : Bool := (pw_anw_l.getD o []).all (fun q => decide (2 ≤ q.2) && (decide (q.2 < 5) && (decide (Cond.classLink (pw_cn o) q.1 (pw_cn (pw_elt q.2)) ∈ pw_War) && decide (Cond.arrayOver (.object (pw_cn (pw_elt q.2))) ∈ pw_Nao))))
set_option maxRecDepth 100000 in
theorem pw_ok8_all : (List.range 16).all pw_ok8 = true := by decide +kernel
theorem pw_elt_ok {t : Nat} (h1 : 2 ≤ t) (h2 : t < 5) : pw_elt t < 10 ∧ pw_ty[t]? = some (.object (pw_cn (pw_elt t))) := by
  have hc : t = 2 ∨ t = 3 ∨ t = 4 := by omega
  rcases hc with rfl | rfl | rfl <;> exact ⟨by decide, rfl⟩
theorem pw_G8 (L : Nat) (xs : Nat → Int32) : am_G8 (pw_P L xs) pw_B := by
  refine ⟨fun o i t h => ?_, fun t h1 h2 => ?_⟩
  · have hm := am_fdm (show am_fd (pw_anw_l.getD o []) i = some t from h)
    have ho : o < 16 := pw_getD hm
    have hk := List.all_eq_true.mp (List.all_eq_true.mp pw_ok8_all o (List.mem_range.mpr ho)) _ hm
    simp only [Bool.and_eq_true, decide_eq_true_eq] at hk
    obtain ⟨h1, h2, h3, h4⟩ := hk
    obtain ⟨h5, h6⟩ := pw_elt_ok h1 h2
    exact ⟨h1, h2, _, pw_kl_eq h5, h6, pw_m_ar h3, pw_n_ao h4⟩
  · obtain ⟨h5, h6⟩ := pw_elt_ok h1 h2
    exact ⟨_, pw_kl_eq h5, h6⟩
def pw_ok9 (mi : Nat) : Bool := (pw_codes mi).all (fun q => match q.2 with
  | .checkcast i => decide (Cond.classLink (pw_cn (pw_own mi)) i "[I" ∈ pw_War)
  | _ => true)
set_option maxRecDepth 100000 in
theorem pw_ok9_all : (List.range 339).all pw_ok9 = true := by decide +kernel
theorem pw_G9 (L : Nat) (xs : Nat → Int32) : am_G9 (pw_P L xs) pw_B := by
  intro mi pc i h
  replace h : pw_code mi pc = some (.checkcast i) := h
  have hk := List.all_eq_true.mp (List.all_eq_true.mp pw_ok9_all mi (List.mem_range.mpr (pw_code_lt h))) _ (pw_code_mem h)
  exact pw_m_ar (of_decide_eq_true hk)
def pw_oka (mi : Nat) : Bool := (am_g2 pw_nat_l [] mi).all (fun q => decide (1 ≤ pw_rF mi) && (decide (40 ≤ pw_rL mi) && (match q.2 with
  | 0 => decide (Cond.methodLink (pw_cn (pw_own mi)) q.1 objectInit ∈ pw_Wna)
  | 1 => decide (Cond.methodLink (pw_cn (pw_own mi)) q.1 arraycopyName ∈ pw_Wna)
  | 2 => decide (Cond.methodLink (pw_cn (pw_own mi)) q.1 ⟨"[I", "clone", "()Ljava/lang/Object;"⟩ ∈ pw_Wna)
  | 3 => decide (Cond.methodLink (pw_cn (pw_own mi)) q.1 ⟨"java/lang/Double", "doubleToRawLongBits", "(D)J"⟩ ∈ pw_Wna)
  | 4 => decide (Cond.methodLink (pw_cn (pw_own mi)) q.1 ⟨"java/lang/Float", "floatToRawIntBits", "(F)I"⟩ ∈ pw_Wna)
  | _ => false)))
set_option maxRecDepth 100000 in
theorem pw_oka_all : (List.range 339).all pw_oka = true := by decide +kernel
set_option maxRecDepth 100000 in
theorem pw_wna : ∀ w ∈ ([.instanceMethod objectInit, .code objectInit ⟨#[0xb1]⟩ 1 none, .native arraycopyName, .static arraycopyName, .sameMethod "[I" "java/lang/Object" "clone" "()Ljava/lang/Object;", .native ⟨"java/lang/Object", "clone", "()Ljava/lang/Object;"⟩, .instanceMethod ⟨"java/lang/Object", "clone", "()Ljava/lang/Object;"⟩, .selects "[I" ⟨"[I", "clone", "()Ljava/lang/Object;"⟩ ⟨"java/lang/Object", "clone", "()Ljava/lang/Object;"⟩, .native ⟨"java/lang/Double", "doubleToRawLongBits", "(D)J"⟩, .static ⟨"java/lang/Double", "doubleToRawLongBits", "(D)J"⟩, .native ⟨"java/lang/Float", "floatToRawIntBits", "(F)I"⟩, .static ⟨"java/lang/Float", "floatToRawIntBits", "(F)I"⟩] : List Cond), w ∈ pw_Wna := by decide +kernel
set_option maxRecDepth 100000 in
theorem pw_win : ∀ w ∈ ([.initialized "java/lang/System", .initialized "java/lang/Double", .initialized "java/lang/Float"] : List Cond), w ∈ pw_Win := by decide +kernel
theorem pw_Ga (L : Nat) (xs : Nat → Int32) : am_Ga (pw_P L xs) pw_B := by
  intro mi i k h
  have hm := am_fdm (show am_fd (am_g2 pw_nat_l [] mi) i = some k from h)
  have hl : mi < 339 := by
    by_cases hm' : mi < 339
    · exact hm'
    · by_cases ht : 342 ≤ mi
      · rw [am_g2_out pw_nat_l [] (show 18 * pw_nat_l.length ≤ mi from ht)] at hm
        cases hm
      · have hc : mi = 339 ∨ mi = 340 ∨ mi = 341 := by omega
        rcases hc with rfl | rfl | rfl <;> cases hm
  have hk := List.all_eq_true.mp (List.all_eq_true.mp pw_oka_all mi (List.mem_range.mpr hl)) _ hm
  dsimp only at hk
  rw [Bool.and_eq_true, Bool.and_eq_true] at hk
  obtain ⟨h1, h2, h3⟩ := hk
  refine ⟨of_decide_eq_true h1, of_decide_eq_true h2, ?_⟩
  have wn : ∀ w, w ∈ _ → w ∈ pw_W := fun w hw => pw_m_na (pw_wna w hw)
  have wi : ∀ w, w ∈ _ → w ∈ pw_W := fun w hw => pw_m_in (pw_win w hw)
  match k, h3 with
  | 0, h3 => exact ⟨pw_m_na (of_decide_eq_true h3), wn _ (List.mem_of_getElem? (i := 0) rfl), wn _ (List.mem_of_getElem? (i := 1) rfl)⟩
  | 1, h3 => exact ⟨pw_m_na (of_decide_eq_true h3), wn _ (List.mem_of_getElem? (i := 2) rfl), wn _ (List.mem_of_getElem? (i := 3) rfl), wi _ (List.mem_of_getElem? (i := 0) rfl)⟩
  | 2, h3 => exact ⟨pw_m_na (of_decide_eq_true h3), wn _ (List.mem_of_getElem? (i := 4) rfl), wn _ (List.mem_of_getElem? (i := 5) rfl), wn _ (List.mem_of_getElem? (i := 6) rfl), wn _ (List.mem_of_getElem? (i := 7) rfl), pw_n_ca⟩
  | 3, h3 => exact ⟨pw_m_na (of_decide_eq_true h3), wn _ (List.mem_of_getElem? (i := 8) rfl), wn _ (List.mem_of_getElem? (i := 9) rfl), wi _ (List.mem_of_getElem? (i := 1) rfl)⟩
  | 4, h3 => exact ⟨pw_m_na (of_decide_eq_true h3), wn _ (List.mem_of_getElem? (i := 10) rfl), wn _ (List.mem_of_getElem? (i := 11) rfl), wi _ (List.mem_of_getElem? (i := 2) rfl)⟩
  | n + 5, h3 => cases h3
/-- a callee's own row -/
def pw_np (mj : Nat) : Nat := am_g2 pw_np_l 0 mj
def pw_fl (mj : Nat) : Bool × Bool × Bool × Bool := am_g2 pw_fl_l (false, false, false, false) mj
def pw_okm (mj : Nat) : Bool := (!(pw_fl mj).1 || (pw_ck.any (Nat.beq mj) && (Nat.ble (pw_own mj + 1) 16 && (decide ((pw_y mj).cls = pw_cn (pw_own mj)) && (plainFor (pw_y mj) && (decide ((pw_y mj).cls ≠ "java/lang/invoke/MethodHandle") && (decide ((pw_y mj).cls ≠ "java/lang/invoke/VarHandle") && decide ((parseMethodDescriptor (pw_y mj).desc).map (fun d => d.parameters.length) = some (pw_np mj))))))))) && ((!(pw_fl mj).2.1 || pw_sk.any (Nat.beq mj)) && ((!(pw_fl mj).2.2.1 || pw_ik.any (Nat.beq mj)) && (!(pw_fl mj).2.2.2 || pw_vk.any (Nat.beq mj))))
/-- a call's row -/
def pw_okb1 (mi : Nat) (q : Nat × Nat × Nat × Nat) : Bool := match q with
  | (i, kd, mj, n) => Nat.ble (pw_rF mj + 1) (pw_rF mi) && (Nat.ble (8 + (pw_mxl mj + 11) + pw_rL mj) (pw_rL mi) && ((pw_fl mj).1 && (Nat.beq (pw_np mj) (match kd with | 0 => n | _ => n - 1) && ((pw_me.any (fun e => Nat.beq e.2.1 i && (Nat.beq e.2.2 mj && Nat.beq e.1 (pw_own mi))) || pw_mn.any (fun e => Nat.beq e.2.1 i && (Nat.beq e.2.2.1 mj && Nat.beq e.1 (pw_own mi)))) && (match kd with
    | 0 => (pw_fl mj).2.1
    | 1 => Nat.ble 1 n && ((pw_fl mj).2.2.1 && ((pw_fl mj).2.2.2 && Nat.ble (pw_own mj + 1) 10))
    | 2 => Nat.ble 1 n && (decide ((pw_y mj).name = "<init>") && ((pw_fl mj).2.2.1 && (pw_ret mj).isNone))
    | _ => false)))))
def pw_okb (mi : Nat) : Bool := (am_g2 pw_cal_l [] mi).all (pw_okb1 mi)
set_option maxRecDepth 100000 in
theorem pw_okm_0 : (List.range' 0 10).all pw_okm = true := by decide +kernel
set_option maxRecDepth 100000 in
theorem pw_okm_10 : (List.range' 10 10).all pw_okm = true := by decide +kernel
set_option maxRecDepth 100000 in
theorem pw_okm_20 : (List.range' 20 10).all pw_okm = true := by decide +kernel
set_option maxRecDepth 100000 in
theorem pw_okm_30 : (List.range' 30 10).all pw_okm = true := by decide +kernel
set_option maxRecDepth 100000 in
theorem pw_okm_40 : (List.range' 40 10).all pw_okm = true := by decide +kernel
set_option maxRecDepth 100000 in
theorem pw_okm_50 : (List.range' 50 10).all pw_okm = true := by decide +kernel
set_option maxRecDepth 100000 in
theorem pw_okm_60 : (List.range' 60 10).all pw_okm = true := by decide +kernel
set_option maxRecDepth 100000 in
theorem pw_okm_70 : (List.range' 70 10).all pw_okm = true := by decide +kernel
set_option maxRecDepth 100000 in
theorem pw_okm_80 : (List.range' 80 10).all pw_okm = true := by decide +kernel
set_option maxRecDepth 100000 in
theorem pw_okm_90 : (List.range' 90 10).all pw_okm = true := by decide +kernel
set_option maxRecDepth 100000 in
theorem pw_okm_100 : (List.range' 100 10).all pw_okm = true := by decide +kernel
set_option maxRecDepth 100000 in
theorem pw_okm_110 : (List.range' 110 10).all pw_okm = true := by decide +kernel
set_option maxRecDepth 100000 in
theorem pw_okm_120 : (List.range' 120 10).all pw_okm = true := by decide +kernel
set_option maxRecDepth 100000 in
theorem pw_okm_130 : (List.range' 130 10).all pw_okm = true := by decide +kernel
set_option maxRecDepth 100000 in
theorem pw_okm_140 : (List.range' 140 10).all pw_okm = true := by decide +kernel
set_option maxRecDepth 100000 in
theorem pw_okm_150 : (List.range' 150 10).all pw_okm = true := by decide +kernel
set_option maxRecDepth 100000 in
theorem pw_okm_160 : (List.range' 160 10).all pw_okm = true := by decide +kernel
set_option maxRecDepth 100000 in
theorem pw_okm_170 : (List.range' 170 10).all pw_okm = true := by decide +kernel
set_option maxRecDepth 100000 in
theorem pw_okm_180 : (List.range' 180 10).all pw_okm = true := by decide +kernel
set_option maxRecDepth 100000 in
theorem pw_okm_190 : (List.range' 190 10).all pw_okm = true := by decide +kernel
set_option maxRecDepth 100000 in
theorem pw_okm_200 : (List.range' 200 10).all pw_okm = true := by decide +kernel
set_option maxRecDepth 100000 in
theorem pw_okm_210 : (List.range' 210 10).all pw_okm = true := by decide +kernel
set_option maxRecDepth 100000 in
theorem pw_okm_220 : (List.range' 220 10).all pw_okm = true := by decide +kernel
set_option maxRecDepth 100000 in
theorem pw_okm_230 : (List.range' 230 10).all pw_okm = true := by decide +kernel
set_option maxRecDepth 100000 in
theorem pw_okm_240 : (List.range' 240 10).all pw_okm = true := by decide +kernel
set_option maxRecDepth 100000 in
theorem pw_okm_250 : (List.range' 250 10).all pw_okm = true := by decide +kernel
set_option maxRecDepth 100000 in
theorem pw_okm_260 : (List.range' 260 10).all pw_okm = true := by decide +kernel
set_option maxRecDepth 100000 in
theorem pw_okm_270 : (List.range' 270 10).all pw_okm = true := by decide +kernel
set_option maxRecDepth 100000 in
theorem pw_okm_280 : (List.range' 280 10).all pw_okm = true := by decide +kernel
set_option maxRecDepth 100000 in
theorem pw_okm_290 : (List.range' 290 10).all pw_okm = true := by decide +kernel
set_option maxRecDepth 100000 in
theorem pw_okm_300 : (List.range' 300 10).all pw_okm = true := by decide +kernel
set_option maxRecDepth 100000 in
theorem pw_okm_310 : (List.range' 310 10).all pw_okm = true := by decide +kernel
set_option maxRecDepth 100000 in
theorem pw_okm_320 : (List.range' 320 10).all pw_okm = true := by decide +kernel
set_option maxRecDepth 100000 in
theorem pw_okm_330 : (List.range' 330 9).all pw_okm = true := by decide +kernel
theorem pw_okm_all {mi : Nat} (h : mi < 339) : pw_okm mi = true := by
  by_cases h0 : mi < 10
  · exact pw_rng pw_okm_0 (by omega) h0
  by_cases h10 : mi < 20
  · exact pw_rng pw_okm_10 (by omega) h10
  by_cases h20 : mi < 30
  · exact pw_rng pw_okm_20 (by omega) h20
  by_cases h30 : mi < 40
  · exact pw_rng pw_okm_30 (by omega) h30
  by_cases h40 : mi < 50
  · exact pw_rng pw_okm_40 (by omega) h40
  by_cases h50 : mi < 60
  · exact pw_rng pw_okm_50 (by omega) h50
  by_cases h60 : mi < 70
  · exact pw_rng pw_okm_60 (by omega) h60
  by_cases h70 : mi < 80
  · exact pw_rng pw_okm_70 (by omega) h70
  by_cases h80 : mi < 90
  · exact pw_rng pw_okm_80 (by omega) h80
  by_cases h90 : mi < 100
  · exact pw_rng pw_okm_90 (by omega) h90
  by_cases h100 : mi < 110
  · exact pw_rng pw_okm_100 (by omega) h100
  by_cases h110 : mi < 120
  · exact pw_rng pw_okm_110 (by omega) h110
  by_cases h120 : mi < 130
  · exact pw_rng pw_okm_120 (by omega) h120
  by_cases h130 : mi < 140
  · exact pw_rng pw_okm_130 (by omega) h130
  by_cases h140 : mi < 150
  · exact pw_rng pw_okm_140 (by omega) h140
  by_cases h150 : mi < 160
  · exact pw_rng pw_okm_150 (by omega) h150
  by_cases h160 : mi < 170
  · exact pw_rng pw_okm_160 (by omega) h160
  by_cases h170 : mi < 180
  · exact pw_rng pw_okm_170 (by omega) h170
  by_cases h180 : mi < 190
  · exact pw_rng pw_okm_180 (by omega) h180
  by_cases h190 : mi < 200
  · exact pw_rng pw_okm_190 (by omega) h190
  by_cases h200 : mi < 210
  · exact pw_rng pw_okm_200 (by omega) h200
  by_cases h210 : mi < 220
  · exact pw_rng pw_okm_210 (by omega) h210
  by_cases h220 : mi < 230
  · exact pw_rng pw_okm_220 (by omega) h220
  by_cases h230 : mi < 240
  · exact pw_rng pw_okm_230 (by omega) h230
  by_cases h240 : mi < 250
  · exact pw_rng pw_okm_240 (by omega) h240
  by_cases h250 : mi < 260
  · exact pw_rng pw_okm_250 (by omega) h250
  by_cases h260 : mi < 270
  · exact pw_rng pw_okm_260 (by omega) h260
  by_cases h270 : mi < 280
  · exact pw_rng pw_okm_270 (by omega) h270
  by_cases h280 : mi < 290
  · exact pw_rng pw_okm_280 (by omega) h280
  by_cases h290 : mi < 300
  · exact pw_rng pw_okm_290 (by omega) h290
  by_cases h300 : mi < 310
  · exact pw_rng pw_okm_300 (by omega) h300
  by_cases h310 : mi < 320
  · exact pw_rng pw_okm_310 (by omega) h310
  by_cases h320 : mi < 330
  · exact pw_rng pw_okm_320 (by omega) h320
  by_cases h330 : mi < 339
  · exact pw_rng pw_okm_330 (by omega) h330
  omega
theorem pw_fl_lt {mj : Nat} (h : pw_fl mj ≠ (false, false, false, false)) : mj < 339 := by
  by_cases hm : mj < 339
  · exact hm
  · exfalso
    apply h
    by_cases ht : 342 ≤ mj
    · exact am_g2_out pw_fl_l (false, false, false, false) (show 18 * pw_fl_l.length ≤ mj from ht)
    · have hc : mj = 339 ∨ mj = 340 ∨ mj = 341 := by omega
      rcases hc with rfl | rfl | rfl <;> rfl
theorem pw_anb {mj : Nat} {l : List Nat} (h : l.any (Nat.beq mj) = true) : mj ∈ l := by
  obtain ⟨e, he, hq⟩ := List.any_eq_true.mp h
  rw [Nat.eq_of_beq_eq_true hq]
  exact he
set_option maxRecDepth 100000 in
theorem pw_okb_0 : (List.range' 0 10).all pw_okb = true := by decide +kernel
set_option maxRecDepth 100000 in
theorem pw_okb_10 : (List.range' 10 10).all pw_okb = true := by decide +kernel
set_option maxRecDepth 100000 in
theorem pw_okb_20 : (List.range' 20 10).all pw_okb = true := by decide +kernel
set_option maxRecDepth 100000 in
theorem pw_okb_30 : (List.range' 30 10).all pw_okb = true := by decide +kernel
set_option maxRecDepth 100000 in
theorem pw_okb_40 : (List.range' 40 10).all pw_okb = true := by decide +kernel
set_option maxRecDepth 100000 in
theorem pw_okb_50 : (List.range' 50 10).all pw_okb = true := by decide +kernel
set_option maxRecDepth 100000 in
theorem pw_okb_60 : (List.range' 60 10).all pw_okb = true := by decide +kernel
set_option maxRecDepth 100000 in
theorem pw_okb_70 : (List.range' 70 10).all pw_okb = true := by decide +kernel
set_option maxRecDepth 100000 in
theorem pw_okb_80 : (List.range' 80 10).all pw_okb = true := by decide +kernel
set_option maxRecDepth 100000 in
theorem pw_okb_90 : (List.range' 90 10).all pw_okb = true := by decide +kernel
set_option maxRecDepth 100000 in
theorem pw_okb_100 : (List.range' 100 10).all pw_okb = true := by decide +kernel
set_option maxRecDepth 100000 in
theorem pw_okb_110 : (List.range' 110 10).all pw_okb = true := by decide +kernel
set_option maxRecDepth 100000 in
theorem pw_okb_120 : (List.range' 120 10).all pw_okb = true := by decide +kernel
set_option maxRecDepth 100000 in
theorem pw_okb_130 : (List.range' 130 10).all pw_okb = true := by decide +kernel
set_option maxRecDepth 100000 in
theorem pw_okb_140 : (List.range' 140 10).all pw_okb = true := by decide +kernel
set_option maxRecDepth 100000 in
theorem pw_okb_150 : (List.range' 150 10).all pw_okb = true := by decide +kernel
set_option maxRecDepth 100000 in
theorem pw_okb_160 : (List.range' 160 10).all pw_okb = true := by decide +kernel
set_option maxRecDepth 100000 in
theorem pw_okb_170 : (List.range' 170 10).all pw_okb = true := by decide +kernel
set_option maxRecDepth 100000 in
theorem pw_okb_180 : (List.range' 180 10).all pw_okb = true := by decide +kernel
set_option maxRecDepth 100000 in
theorem pw_okb_190 : (List.range' 190 10).all pw_okb = true := by decide +kernel
set_option maxRecDepth 100000 in
theorem pw_okb_200 : (List.range' 200 10).all pw_okb = true := by decide +kernel
set_option maxRecDepth 100000 in
theorem pw_okb_210 : (List.range' 210 10).all pw_okb = true := by decide +kernel
set_option maxRecDepth 100000 in
theorem pw_okb_220 : (List.range' 220 10).all pw_okb = true := by decide +kernel
set_option maxRecDepth 100000 in
theorem pw_okb_230 : (List.range' 230 10).all pw_okb = true := by decide +kernel
set_option maxRecDepth 100000 in
theorem pw_okb_240 : (List.range' 240 10).all pw_okb = true := by decide +kernel
set_option maxRecDepth 100000 in
theorem pw_okb_250 : (List.range' 250 10).all pw_okb = true := by decide +kernel
set_option maxRecDepth 100000 in
theorem pw_okb_260 : (List.range' 260 10).all pw_okb = true := by decide +kernel
set_option maxRecDepth 100000 in
theorem pw_okb_270 : (List.range' 270 10).all pw_okb = true := by decide +kernel
set_option maxRecDepth 100000 in
theorem pw_okb_280 : (List.range' 280 10).all pw_okb = true := by decide +kernel
set_option maxRecDepth 100000 in
theorem pw_okb_290 : (List.range' 290 10).all pw_okb = true := by decide +kernel
set_option maxRecDepth 100000 in
theorem pw_okb_300 : (List.range' 300 10).all pw_okb = true := by decide +kernel
set_option maxRecDepth 100000 in
theorem pw_okb_310 : (List.range' 310 10).all pw_okb = true := by decide +kernel
set_option maxRecDepth 100000 in
theorem pw_okb_320 : (List.range' 320 10).all pw_okb = true := by decide +kernel
set_option maxRecDepth 100000 in
theorem pw_okb_330 : (List.range' 330 9).all pw_okb = true := by decide +kernel
theorem pw_okb_all {mi : Nat} (h : mi < 339) : pw_okb mi = true := by
  by_cases h0 : mi < 10
  · exact pw_rng pw_okb_0 (by omega) h0
  by_cases h10 : mi < 20
  · exact pw_rng pw_okb_10 (by omega) h10
  by_cases h20 : mi < 30
  · exact pw_rng pw_okb_20 (by omega) h20
  by_cases h30 : mi < 40
  · exact pw_rng pw_okb_30 (by omega) h30
  by_cases h40 : mi < 50
  · exact pw_rng pw_okb_40 (by omega) h40
  by_cases h50 : mi < 60
  · exact pw_rng pw_okb_50 (by omega) h50
  by_cases h60 : mi < 70
  · exact pw_rng pw_okb_60 (by omega) h60
  by_cases h70 : mi < 80
  · exact pw_rng pw_okb_70 (by omega) h70
  by_cases h80 : mi < 90
  · exact pw_rng pw_okb_80 (by omega) h80
  by_cases h90 : mi < 100
  · exact pw_rng pw_okb_90 (by omega) h90
  by_cases h100 : mi < 110
  · exact pw_rng pw_okb_100 (by omega) h100
  by_cases h110 : mi < 120
  · exact pw_rng pw_okb_110 (by omega) h110
  by_cases h120 : mi < 130
  · exact pw_rng pw_okb_120 (by omega) h120
  by_cases h130 : mi < 140
  · exact pw_rng pw_okb_130 (by omega) h130
  by_cases h140 : mi < 150
  · exact pw_rng pw_okb_140 (by omega) h140
  by_cases h150 : mi < 160
  · exact pw_rng pw_okb_150 (by omega) h150
  by_cases h160 : mi < 170
  · exact pw_rng pw_okb_160 (by omega) h160
  by_cases h170 : mi < 180
  · exact pw_rng pw_okb_170 (by omega) h170
  by_cases h180 : mi < 190
  · exact pw_rng pw_okb_180 (by omega) h180
  by_cases h190 : mi < 200
  · exact pw_rng pw_okb_190 (by omega) h190
  by_cases h200 : mi < 210
  · exact pw_rng pw_okb_200 (by omega) h200
  by_cases h210 : mi < 220
  · exact pw_rng pw_okb_210 (by omega) h210
  by_cases h220 : mi < 230
  · exact pw_rng pw_okb_220 (by omega) h220
  by_cases h230 : mi < 240
  · exact pw_rng pw_okb_230 (by omega) h230
  by_cases h240 : mi < 250
  · exact pw_rng pw_okb_240 (by omega) h240
  by_cases h250 : mi < 260
  · exact pw_rng pw_okb_250 (by omega) h250
  by_cases h260 : mi < 270
  · exact pw_rng pw_okb_260 (by omega) h260
  by_cases h270 : mi < 280
  · exact pw_rng pw_okb_270 (by omega) h270
  by_cases h280 : mi < 290
  · exact pw_rng pw_okb_280 (by omega) h280
  by_cases h290 : mi < 300
  · exact pw_rng pw_okb_290 (by omega) h290
  by_cases h300 : mi < 310
  · exact pw_rng pw_okb_300 (by omega) h300
  by_cases h310 : mi < 320
  · exact pw_rng pw_okb_310 (by omega) h310
  by_cases h320 : mi < 330
  · exact pw_rng pw_okb_320 (by omega) h320
  by_cases h330 : mi < 339
  · exact pw_rng pw_okb_330 (by omega) h330
  omega
theorem pw_Gb (L : Nat) (xs : Nat → Int32) : am_Gb (pw_P L xs) pw_B := by
  intro mi i kd mj n h
  have hm := am_fdm (show am_fd (am_g2 pw_cal_l [] mi) i = some (kd, mj, n) from h)
  have hl : mi < 339 := by
    by_cases hm' : mi < 339
    · exact hm'
    · by_cases ht : 342 ≤ mi
      · rw [am_g2_out pw_cal_l [] (show 18 * pw_cal_l.length ≤ mi from ht)] at hm
        cases hm
      · have hc : mi = 339 ∨ mi = 340 ∨ mi = 341 := by omega
        rcases hc with rfl | rfl | rfl <;> cases hm
  have hk := List.all_eq_true.mp (show (am_g2 pw_cal_l [] mi).all (pw_okb1 mi) = true from pw_okb_all hl) _ hm
  unfold pw_okb1 at hk
  dsimp only at hk
  simp only [Bool.and_eq_true] at hk
  obtain ⟨h1, h2, hf, hn, ha, hb⟩ := hk
  have h1 := Nat.le_of_ble_eq_true h1
  have h2 := Nat.le_of_ble_eq_true h2
  have hn := Nat.eq_of_beq_eq_true hn
  have hM := pw_okm_all (pw_fl_lt (fun e => by rw [e] at hf; cases hf))
  unfold pw_okm at hM
  simp only [Bool.and_eq_true, Bool.or_eq_true, Bool.not_eq_true'] at hM
  obtain ⟨m1, m2, m3, m4⟩ := hM
  obtain ⟨h3, h4, h5, h6, h7, h8, h9⟩ := m1.resolve_left (by rw [hf]; exact fun q => by cases q)
  have h3 := pw_anb h3
  have h4 := Nat.le_of_ble_eq_true h4
  have h5 := of_decide_eq_true h5
  have S : (pw_fl mj).2.1 = true → mj ∈ pw_sk := fun q => pw_anb (m2.resolve_left (by rw [q]; exact fun q => by cases q))
  have K : (pw_fl mj).2.2.1 = true → mj ∈ pw_ik := fun q => pw_anb (m3.resolve_left (by rw [q]; exact fun q => by cases q))
  have V : (pw_fl mj).2.2.2 = true → mj ∈ pw_vk := fun q => pw_anb (m4.resolve_left (by rw [q]; exact fun q => by cases q))
  have h9 : (parseMethodDescriptor (pw_y mj).desc).map (fun d => d.parameters.length) = some (if kd = 0 then n else n - 1) := by
    rw [of_decide_eq_true h9, hn]
    cases kd with
    | zero => rfl
    | succ k => rfl
  refine ⟨h1, h2, pw_m_cd (List.mem_map.mpr ⟨mj, h3, rfl⟩), ?_, h5, h6, ⟨of_decide_eq_true h7, of_decide_eq_true h8, h9⟩, ?_, ?_, ?_, ?_⟩
  · show Cond.initialized (pw_y mj).cls ∈ pw_W
    rw [h5]
    have hin : ∀ o, o < 16 → Cond.initialized (pw_cn o) ∈ pw_Win := by
      intro o ho
      have hc : o = 0 ∨ o = 1 ∨ o = 2 ∨ o = 3 ∨ o = 4 ∨ o = 5 ∨ o = 6 ∨ o = 7 ∨ o = 8 ∨ o = 9 ∨ o = 10 ∨ o = 11 ∨ o = 12 ∨ o = 13 ∨ o = 14 ∨ o = 15 := by omega
      rcases hc with rfl | rfl | rfl | rfl | rfl | rfl | rfl | rfl | rfl | rfl | rfl | rfl | rfl | rfl | rfl | rfl
      · exact List.mem_of_getElem? (i := 0) rfl
      · exact List.mem_of_getElem? (i := 1) rfl
      · exact List.mem_of_getElem? (i := 2) rfl
      · exact List.mem_of_getElem? (i := 3) rfl
      · exact List.mem_of_getElem? (i := 4) rfl
      · exact List.mem_of_getElem? (i := 5) rfl
      · exact List.mem_of_getElem? (i := 6) rfl
      · exact List.mem_of_getElem? (i := 7) rfl
      · exact List.mem_of_getElem? (i := 8) rfl
      · exact List.mem_of_getElem? (i := 9) rfl
      · exact List.mem_of_getElem? (i := 10) rfl
      · exact List.mem_of_getElem? (i := 11) rfl
      · exact List.mem_of_getElem? (i := 12) rfl
      · exact List.mem_of_getElem? (i := 13) rfl
      · exact List.mem_of_getElem? (i := 14) rfl
      · exact List.mem_of_getElem? (i := 15) rfl
    exact pw_m_in (hin _ h4)
  · rw [Bool.or_eq_true] at ha
    rcases ha with ha | ha
    · obtain ⟨e, he, hq⟩ := List.any_eq_true.mp ha
      obtain ⟨e1, e2, e3⟩ := e
      simp only [Bool.and_eq_true] at hq
      obtain ⟨q1, q2, q3⟩ := hq
      have q1 := Nat.eq_of_beq_eq_true q1
      have q2 := Nat.eq_of_beq_eq_true q2
      have q3 := Nat.eq_of_beq_eq_true q3
      subst q1 q2 q3
      exact Or.inl (pw_m_ml (List.mem_map.mpr ⟨_, he, rfl⟩))
    · obtain ⟨e, he, hq⟩ := List.any_eq_true.mp ha
      obtain ⟨e1, e2, e3, e4⟩ := e
      simp only [Bool.and_eq_true] at hq
      obtain ⟨q1, q2, q3⟩ := hq
      have q1 := Nat.eq_of_beq_eq_true q1
      have q2 := Nat.eq_of_beq_eq_true q2
      have q3 := Nat.eq_of_beq_eq_true q3
      subst q1 q2 q3
      exact Or.inr ⟨e4, pw_n_ml (List.mem_map.mpr ⟨_, he, rfl⟩)⟩
  · rintro rfl
    exact pw_m_sk (List.mem_map.mpr ⟨mj, S hb, rfl⟩)
  · rintro rfl
    simp only [Bool.and_eq_true] at hb
    obtain ⟨b1, b2, b3, b4⟩ := hb
    exact ⟨Nat.le_of_ble_eq_true b1, pw_m_ik (List.mem_map.mpr ⟨mj, K b2, rfl⟩), pw_m_vk (List.mem_map.mpr ⟨mj, V b3, rfl⟩), _, pw_kl_eq (Nat.le_of_ble_eq_true b4)⟩
  · rintro rfl
    simp only [Bool.and_eq_true, decide_eq_true_eq] at hb
    obtain ⟨b1, b2, b3, b4⟩ := hb
    refine ⟨Nat.le_of_ble_eq_true b1, b2, pw_m_ik (List.mem_map.mpr ⟨mj, K b3, rfl⟩), ?_⟩
    show pw_ret mj = none
    exact Option.isNone_iff_eq_none.mp b4
def pw_okc (mi : Nat) : Bool := !pw_ini mi || decide ((pw_y mi).name = "<init>")
set_option maxRecDepth 100000 in
theorem pw_okc_all : (List.range 342).all pw_okc = true := by decide +kernel
theorem pw_Gc (L : Nat) (xs : Nat → Int32) : am_Gc (pw_P L xs) pw_B := by
  refine ⟨pw_W_good, pw_N_nw, fun mj h => ?_⟩
  replace h : pw_ini mj = true := h
  by_cases ht : mj < 342
  · have hk := List.all_eq_true.mp pw_okc_all mj (List.mem_range.mpr ht)
    unfold pw_okc at hk
    rw [h] at hk
    simp only [Bool.not_true, Bool.false_or, decide_eq_true_eq] at hk
    exact hk
  · unfold pw_ini at h
    rw [am_g2_out pw_ini_l false (show 18 * pw_ini_l.length ≤ mj from Nat.not_lt.mp ht)] at h
    cases h
/-- THE PROGRAM IS THE CLAIM'S -/
theorem pw_G (L : Nat) (xs : Nat → Int32) : am_Gd (pw_P L xs) pw_B := ⟨pw_G1 L xs, pw_G2 L xs, pw_G3 L xs, pw_G4 L xs, pw_G5 L xs, pw_G6 L xs, pw_G7, pw_G8 L xs, pw_G9 L xs, pw_Ga L xs, pw_Gb L xs, pw_Gc L xs⟩
