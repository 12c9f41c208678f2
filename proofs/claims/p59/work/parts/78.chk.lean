/-! ===== a contract that the looker passes holds ===== -/
section ATCH
variable {X : fl_M → Prop} {m0 m : fl_M} {ν ν' : Nat → Int} {S : at_S} {L : Nat} {xs : Nat → Int32}
theorem at_sta_ok {h : Nat} (hh : h ≤ 1000) : ∀ (ks : List at_K) (vs : List fl_V) (P : at_P) (ν : Nat → Int), at_KP ν P → at_agk h ks vs → ∃ ν', at_X ν P ν' (at_sta ks P).1 ∧ at_RS ν' h (at_sta ks P).2 vs ∧ ∀ a ∈ (at_sta ks P).2, at_wV (at_sta ks P).1.1.length a := by
  intro ks
  induction ks with
  | nil =>
    intro vs P ν hP hk
    cases vs with
    | nil => exact ⟨ν, at_X.rfl hP, True.intro, fun a ha => by cases ha⟩
    | cons v s => cases hk
  | cons k r ih =>
    intro vs P ν hP hk
    have lift : ∀ (P1 : at_P) (ν1 : Nat → Int) (a : at_V) (v : fl_V) (s : List fl_V), at_X ν P ν1 P1 → at_RV ν1 h a v → at_wV P1.1.length a → at_agk h r s → ∃ ν', at_X ν P ν' (at_sta r P1).1 ∧ at_RS ν' h (a :: (at_sta r P1).2) (v :: s) ∧ ∀ b ∈ a :: (at_sta r P1).2, at_wV (at_sta r P1).1.1.length b := by
      intro P1 ν1 a v s hx hv hw hs
      obtain ⟨ν2, hx2, hr2, hw2⟩ := ih s P1 ν1 hx.2.2 hs
      refine ⟨ν2, hx.trans hx2, ⟨hv.ag hw hx2.1 (Nat.le_refl _), hr2⟩, fun b hb => ?_⟩
      rcases List.mem_cons.mp hb with rfl | hb
      · exact hw.mono hx2.2.1
      · exact hw2 b hb
    rcases k with ⟨τ, po⟩ | ⟨b, lo, hi⟩
    · cases vs with
      | nil => cases hk
      | cons v s =>
        obtain ⟨⟨p, rfl, e1, e2, e3⟩, hs⟩ := hk
        cases po with
        | some q =>
          have := e3 q rfl
          subst this
          exact lift P ν (.inr (.inr (.inl (τ, at_c p)))) _ s (at_X.rfl hP) ⟨p, rfl, at_ev_c _ _, e1, e2⟩ at_wf_c hs
        | none =>
          have hp : p ≤ 1000000 := by unfold fl_N at e2; omega
          obtain ⟨ν1, hx, hw1, he⟩ := at_new_X hP (lo := 0) (hi := 1000000) (x := p) (by omega) (by omega)
          exact lift (at_new P 0 1000000) ν1 (.inr (.inr (.inl (τ, at_nv P)))) _ s hx ⟨p, rfl, he, e1, e2⟩ hw1 hs
    · cases b with
      | false =>
        cases vs with
        | nil => cases hk
        | cons v s =>
          obtain ⟨⟨x, rfl, x1, x2⟩, hs⟩ := hk
          obtain ⟨ν1, hx, hw1, he⟩ := at_new_X hP x1 x2
          exact lift (at_new P lo hi) ν1 (.inl (at_nv P)) _ s hx ⟨x, rfl, he.symm⟩ hw1 hs
      | true =>
        cases vs with
        | nil => cases hk
        | cons v s =>
          obtain ⟨⟨x, rfl, x1, x2⟩, hs⟩ := hk
          obtain ⟨ν1, hx, hw1, he⟩ := at_new_X hP x1 x2
          exact lift (at_new P lo hi) ν1 (.inr (.inl (at_nv P))) _ s hx ⟨x, rfl, he.symm⟩ hw1 hs
theorem at_stl_ok {as_ : List at_V} {vs : List fl_V} : ∀ (lt : List (Nat × Int)) (S : at_S) (ν : Nat → Int) (S' : at_S), at_GS X m0 m ν S → at_RS ν m.2.2 as_ vs → (∀ a ∈ as_, at_wV S.1.1.length a) → (∀ q ∈ lt, at_ltc m vs q) → at_stl as_ lt S = some S' → ∃ ν', at_ag S.1.1.length ν ν' ∧ S.1.1.length ≤ S'.1.1.length ∧ at_GS X m0 m ν' S' := by
  intro lt
  induction lt with
  | nil => intro S ν S' h _ _ _ e; cases e; exact ⟨ν, at_ag.rfl, Nat.le_refl _, h⟩
  | cons q r ih =>
    intro S ν S' h hr hw hq e
    unfold at_stl at e
    split at e
    · rename_i a ea
      obtain ⟨v, ev, x, rfl, ex⟩ := hr.get ea
      obtain ⟨x', ev', hx'⟩ := hq q List.mem_cons_self
      rw [ev] at ev'
      cases ev'
      obtain ⟨ν1, ag1, le1, g1, w1, e1, same1⟩ := at_cs_ok h
      have wa : at_wf S.1.1.length a := hw (.inl a) (List.mem_of_getElem? ea)
      dsimp only at e
      obtain ⟨P', eP, xP, lP⟩ := at_as_X g1.1 (a := at_add (at_sub a (at_cs S).2) (at_c (q.2 + 1))) (at_wf_add (at_wf_sub (wa.mono le1) w1) at_wf_c) (by
        rw [at_ev_add, at_ev_sub, at_ev_c, at_ev_ag ag1 wa, e1, ← ex]
        omega)
      rw [eP] at e
      have g2 := g1.ext xP
      obtain ⟨ν2, ag2, le2, g3⟩ := ih (P', (at_cs S).1.2) ν1 S' g2 (hr.ag hw ag1 (Nat.le_refl _)) (fun b hb => (hw b hb).mono (Nat.le_trans le1 xP.2.1)) (fun q hq' => hq q (List.mem_cons_of_mem _ hq')) e
      exact ⟨ν2, ag1.trans ag2 (by show S.1.1.length ≤ P'.1.length; omega), by have : P'.1.length ≤ S'.1.1.length := le2; omega, g3⟩
    · cases e
theorem at_chk_ok (hX : at_XX X) (hX4 : ∀ m, X m → m.2.2 ≤ 1000) {CT : List at_C} (hC : ∀ c ∈ CT, at_Valid X (pw_P L xs) c) {JT : List at_J} {f : Nat} {c : at_C} (e : at_chk CT JT f c = true) : at_Valid X (pw_P L xs) c := by
  intro m vs hg hk hl
  unfold at_chk at e
  have h0 : at_KP (fun _ => 0) (([], [], []) : at_P) := ⟨⟨fun x => (by simp [at_bd]), fun c hc => (by cases hc), fun c hc => (by cases hc)⟩, fun c hc => (by cases hc), fun c hc => (by cases hc)⟩
  obtain ⟨ν1, hx, hr, hw⟩ := at_sta_ok (hX4 m hg.2.2) c.2.1 vs ([], [], []) _ h0 hk
  generalize at_sta c.2.1 ([], [], []) = z at hx hr hw e
  dsimp only at e
  split at e
  · rename_i S eS
    have g1 : at_GS X m m ν1 (z.1, [], [], []) := ⟨hx.2.2, fun f hf => (by cases hf), fun b hb => (by cases hb), hg.1, hg.RL _, hg.2.2, Nat.le_refl _, fun p j hne => absurd rfl hne⟩
    obtain ⟨ν2, ag2, le2, g2⟩ := at_stl_ok c.2.2.1 _ ν1 S g1 hr hw hl eS
    split at e
    · rename_i outs eo
      have hr2 := hr.ag hw ag2 (Nat.le_refl m.2.2)
      have hw2 : ∀ a ∈ z.2, at_wV S.1.1.length a := fun a ha => (hw a ha).mono le2
      have hG : at_G X m m ν2 S (at_args (pw_mxl c.1) z.2) [] (fl_args (am_mxl (pw_P L xs) c.1) vs) [] := ⟨g2, at_args_LR hr2, fun a ha => hw2 a (at_args_mem ha), True.intro, fun a ha => by cases ha⟩
      refine at_ex_ok hX CT hC JT f c.1 _ 0 true S _ [] [] outs eo ν2 m _ [] _ hG (fun A hA => by cases hA) (fun o ho ν' m' v q1 q2 q3 q4 q5 => ?_)
      have hk := List.all_eq_true.mp e o ho
      unfold at_oko at hk
      simp only [Bool.and_eq_true] at hk
      obtain ⟨k1, k2, k3⟩ := hk
      refine ⟨q3.good k1, ⟨q3.2.2.2.2.2.2.1, fun p j hne => ?_⟩, ?_⟩
      · obtain ⟨w, hw', hcv⟩ := q3.2.2.2.2.2.2.2 p j hne
        obtain ⟨w', hw'', ecv⟩ := List.any_eq_true.mp (List.all_eq_true.mp k2 w hw')
        exact ⟨w', hw'', at_cvW_ok ecv hcv⟩
      · unfold at_rtc
        split at k3
        · rename_i er eo2
          rw [er]
          rw [eo2] at q5
          cases v with
          | none => rfl
          | some v => cases q5
        · rename_i lo hi a er eo2
          rw [er]
          rw [eo2] at q5
          simp only [Bool.and_eq_true, Bool.or_eq_true, Bool.not_eq_true'] at k3
          obtain ⟨r1, r2⟩ := k3
          cases v with
          | none => cases q5
          | some v =>
            obtain ⟨⟨x, rfl, ex⟩, wa⟩ := q5
            obtain ⟨i1, i2⟩ := at_inR_ok q3.1.1 r1
            refine ⟨x, rfl, by omega, by omega, fun hlt => ?_⟩
            rcases r2 with r2 | r2
            · rw [hlt] at r2; cases r2
            · obtain ⟨ν3, ag3, le3, g3, w3, e3, -⟩ := at_cs_ok q3
              have := at_le_ok g3.1.1 r2
              have wa : at_wf o.1.1.1.length a := wa
              rw [at_ev_add, at_ev_sub, at_ev_c, at_ev_ag ag3 wa, e3] at this
              omega
        · rename_i lo hi a er eo2
          rw [er]
          rw [eo2] at q5
          simp only [Bool.and_eq_true, Bool.not_eq_true'] at k3
          obtain ⟨r1, r2⟩ := k3
          cases v with
          | none => cases q5
          | some v =>
            obtain ⟨⟨x, rfl, ex⟩, wa⟩ := q5
            obtain ⟨i1, i2⟩ := at_inR_ok q3.1.1 r1
            exact ⟨x, rfl, by omega, by omega, fun hlt => by rw [r2] at hlt; cases hlt⟩
        · cases k3
    · cases e
  · cases e
theorem at_all_ok (hX : at_XX X) (hX4 : ∀ m, X m → m.2.2 ≤ 1000) {JT : List at_J} {f : Nat} : ∀ (cs CT : List at_C), (∀ c ∈ CT, at_Valid X (pw_P L xs) c) → at_all CT JT f cs = true → ∀ c ∈ cs, at_Valid X (pw_P L xs) c := by
  intro cs
  induction cs with
  | nil => intro CT _ _ c hc; cases hc
  | cons d r ih =>
    intro CT hC e c hc
    unfold at_all at e
    simp only [Bool.and_eq_true] at e
    have hd := at_chk_ok hX hX4 hC e.1
    rcases List.mem_cons.mp hc with rfl | hc
    · exact hd
    · refine ih (CT ++ [d]) (fun c' hc' => ?_) e.2 c hc
      rcases List.mem_append.mp hc' with h | h
      · exact hC c' h
      · rw [List.mem_singleton.mp h]; exact hd
end ATCH
