/-! ===== words that are written: what 61 says holds ===== -/
section ATU
variable {X : fl_M → Prop} {m0 m : fl_M} {ν ν' : Nat → Int} {S : at_S}
theorem at_tb_le (w : Nat) : 444 ≤ at_tb w ∧ at_tb w ≤ 454 := by
  unfold at_tb
  split <;> omega
theorem at_sv1_ok (hP : at_GP ν S.1) {pl idx v : at_A} {i w : Nat} (ei : at_ev ν idx = i) (wi : at_wf S.1.1.length idx) {brk brk' : List (Nat × at_A)} (hb : ∀ b ∈ brk, at_wf S.1.1.length b.2) (h : at_sv1 S pl idx v w brk = some brk') : (∀ b ∈ brk', at_wf S.1.1.length b.2) ∧ (∀ b ∈ brk, b.1 ≠ w → b ∈ brk') ∧ ∀ c : Nat, c < 16 → (at_nb ν brk' w c → ((i : Int) ≠ at_tb w + 61 * c ∧ at_nb ν brk w c) ∨ ((i : Int) = at_tb w + 61 * c ∧ at_good S pl idx v w = true)) ∧ ((i : Int) = at_tb w + 61 * c → (∃ o, at_rin S.1.1 idx (at_tb w) 61 16 1 = some o ∧ at_ev ν o = c) ∨ ∃ o, (2, o) ∈ brk ∧ at_ev ν o = c) := by
  unfold at_sv1 at h
  have htb := at_tb_le w
  cases hd : at_dj S.1.1 idx (at_reg w) with
  | true =>
    rw [hd] at h
    cases h
    have hn := at_dj_ok hP.1 hd
    rw [ei] at hn
    have hne : ∀ c : Nat, c < 16 → (i : Int) ≠ at_tb w + 61 * c := fun c hc e => hn ⟨c, 0, by omega, by show (c : Int) ≤ 16 - 1; omega, by decide, by show (0 : Int) ≤ 1 - 1; decide, by show (i : Int) = at_tb w + 61 * c + 0; omega⟩
    exact ⟨hb, fun b hb _ => hb, fun c hc => ⟨fun hnb => Or.inl ⟨hne c hc, hnb⟩, fun e => absurd e (hne c hc)⟩⟩
  | false =>
    rw [hd] at h
    dsimp only [cond_false] at h
    rcases e1 : at_rin S.1.1 idx (at_tb w) 61 16 1 with _ | o
    · rw [e1] at h
      dsimp only at h
      rcases e2 : at_rin S.1.1 idx 444 61 16 61 with _ | o
      · rw [e2] at h; cases h
      · rw [e2] at h
        dsimp only at h
        obtain ⟨hh, h⟩ := am_bif h
        cases h
        simp only [Bool.and_eq_true] at hh
        have m1 := at_hb_ok hh.1
        have m2 := at_hb_ok hh.2
        obtain ⟨k, o0, o1, k0, k1, ek⟩ := at_rin_ok hP.1 e2
        rw [ei] at ek
        refine ⟨hb, fun b hb _ => hb, fun c hc => ⟨fun hnb => ?_, fun e => Or.inr ⟨o, m2, by omega⟩⟩⟩
        by_cases e : (i : Int) = at_tb w + 61 * c
        · exact absurd (by omega : at_ev ν o = c) (hnb _ m1 rfl)
        · exact Or.inl ⟨e, hnb⟩
    · rw [e1] at h
      dsimp only at h
      obtain ⟨k, o0, o1, k0, k1, ek⟩ := at_rin_ok hP.1 e1
      rw [ei] at ek
      have wo := at_rin_wf wi e1
      have hit : ∀ c : Nat, (i : Int) = at_tb w + 61 * c ↔ at_ev ν o = c := fun c => by omega
      have p2 : ∀ c : Nat, (i : Int) = at_tb w + 61 * c → (∃ o', some o = some o' ∧ at_ev ν o' = c) ∨ ∃ o, (2, o) ∈ brk ∧ at_ev ν o = c := fun c e => Or.inl ⟨o, rfl, (hit c).mp e⟩
      cases hg : at_good S pl idx v w with
      | true =>
        rw [hg] at h
        cases h
        refine ⟨fun b hb' => hb b (List.mem_filter.mp hb').1, fun b hb' hw => List.mem_filter.mpr ⟨hb', ?_⟩, fun c hc => ⟨fun hnb => ?_, p2 c⟩⟩
        · have : Nat.beq b.1 w = false := by
            cases hx : Nat.beq b.1 w with
            | false => rfl
            | true => exact absurd (Nat.eq_of_beq_eq_true hx) hw
          rw [this]
          rfl
        · by_cases e : (i : Int) = at_tb w + 61 * c
          · exact Or.inr ⟨e, rfl⟩
          · refine Or.inl ⟨e, fun b hb' hw hev => ?_⟩
            refine hnb b (List.mem_filter.mpr ⟨hb', ?_⟩) hw hev
            cases hx : at_eq b.2 o with
            | false => simp
            | true =>
              have := at_eq_ok hx
              rw [this] at hev
              exact absurd ((hit c).mpr hev) e
      | false =>
        rw [hg] at h
        dsimp only [cond_false] at h
        have sub : brk' = brk ∨ brk' = (w, o) :: brk := by
          cases hh : at_hb brk w o with
          | true => rw [hh] at h; cases h; exact Or.inl rfl
          | false => rw [hh] at h; cases h; exact Or.inr rfl
        have hin : (w, o) ∈ brk' := by
          cases hh : at_hb brk w o with
          | true => rw [hh] at h; cases h; exact at_hb_ok hh
          | false => rw [hh] at h; cases h; exact List.mem_cons_self
        have hsub : ∀ b ∈ brk, b ∈ brk' := by
          rcases sub with e | e
          · rw [e]; exact fun b hb => hb
          · rw [e]; exact fun b hb => List.mem_cons_of_mem _ hb
        refine ⟨?_, fun b hb' _ => hsub b hb', fun c hc => ⟨fun hnb => ?_, p2 c⟩⟩
        · rcases sub with e | e
          · rw [e]; exact hb
          · rw [e]
            intro b hb'
            rcases List.mem_cons.mp hb' with rfl | hb'
            · exact wo
            · exact hb b hb'
        · by_cases e : (i : Int) = at_tb w + 61 * c
          · exact absurd ((hit c).mp e) (hnb _ hin rfl)
          · exact Or.inl ⟨e, fun b hb' hw => hnb b (hsub b hb') hw⟩
theorem at_svc_ok (h : at_GS X m0 m ν S) {pl idx v : at_A} {i : Nat} {x : Int32} (ep : at_ev ν pl = 280) (ei : at_ev ν idx = i) (wi : at_wf S.1.1.length idx) (ex : x.toInt = at_ev ν v) : (∀ b ∈ at_svc S pl idx v S.2.2.2, at_wf S.1.1.length b.2) ∧ (∀ b ∈ S.2.2.2, b ∈ at_svc S pl idx v S.2.2.2) ∧ (∀ b ∈ at_svc S pl idx v S.2.2.2, b.1 ≠ 2 → b ∈ S.2.2.2) ∧ ∀ (c : Nat) (o : at_A), at_rin S.1.1 idx 444 61 16 1 = some o → at_ev ν o = c → (i : Int) = 444 + 61 * c → at_nb ν (at_svc S pl idx v S.2.2.2) 2 c → at_w m (445 + 61 * c) ≤ 3600 * x.toInt := by
  unfold at_svc
  cases hd : at_dj S.1.1 idx (at_reg 1) with
  | true =>
    refine ⟨h.2.2.1, fun b hb => hb, fun b hb _ => hb, fun c o e1 e2 e3 _ => ?_⟩
    have hn := at_dj_ok h.1.1.1 hd
    rw [ei] at hn
    obtain ⟨k, o0, o1, k0, k1, ek⟩ := at_rin_ok h.1.1.1 e1
    exact absurd ⟨c, 0, by omega, by show (c : Int) ≤ 16 - 1; omega, by decide, by show (0 : Int) ≤ 1 - 1; decide, by show (i : Int) = 444 + 61 * c + 0; omega⟩ hn
  | false =>
    dsimp only [cond_false]
    rcases e1 : at_rin S.1.1 idx 444 61 16 1 with _ | o
    · exact ⟨h.2.2.1, fun b hb => hb, fun b hb _ => hb, fun c o e => by cases e⟩
    · dsimp only
      have wo := at_rin_wf wi e1
      have hcons : ∀ P : Prop, (at_nb ν ((2, o) :: S.2.2.2) 2 (at_ev ν o) → P) := fun P hnb => absurd rfl (hnb (2, o) List.mem_cons_self rfl)
      have wcons : ∀ b ∈ (2, o) :: S.2.2.2, at_wf S.1.1.length b.2 := by
        intro b hb
        rcases List.mem_cons.mp hb with rfl | hb
        · exact wo
        · exact h.2.2.1 b hb
      have scons : ∀ b ∈ (2, o) :: S.2.2.2, b.1 ≠ 2 → b ∈ S.2.2.2 := by
        intro b hb h2
        rcases List.mem_cons.mp hb with rfl | hb
        · exact absurd rfl h2
        · exact hb
      cases hh : at_hb S.2.2.2 2 o with
      | true =>
        refine ⟨h.2.2.1, fun b hb => hb, fun b hb _ => hb, fun c o' e e2 e3 hnb => ?_⟩
        cases e
        exact absurd e2 (hnb _ (at_hb_ok hh) rfl)
      | false =>
        dsimp only [cond_false]
        rcases e4 : at_ff S.2.1 at_TA pl (at_add idx (at_c 1)) with _ | cc
        · refine ⟨wcons, fun b hb => List.mem_cons_of_mem _ hb, scons, fun c o' e e2 e3 hnb => ?_⟩
          cases e
          rw [← e2] at hnb
          exact hcons _ hnb
        · dsimp only
          cases e5 : at_le S.1 (at_sub cc (at_mul 3600 v)) with
          | false =>
            refine ⟨wcons, fun b hb => List.mem_cons_of_mem _ hb, scons, fun c o' e e2 e3 hnb => ?_⟩
            cases e
            rw [← e2] at hnb
            exact hcons _ hnb
          | true =>
            refine ⟨h.2.2.1, fun b hb => hb, fun b hb _ => hb, fun c o' e e2 e3 hnb => ?_⟩
            have k := at_le_ok h.1.1 e5
            obtain ⟨f1, -⟩ := at_ff_ok h (p := 280) (i := 445 + 61 * c) ep (by rw [at_ev_add, at_ev_c, ei]; omega) e4
            rw [at_ev_sub, at_ev_mul, f1, ← ex] at k
            show (m.1 280 (445 + 61 * c)).toInt ≤ _
            omega
theorem at_w_up {i j : Nat} {x : Int32} : at_w (fl_up m.1 280 i x, m.2) j = if j = i then x.toInt else at_w m j := by
  unfold at_w
  dsimp only
  by_cases h : j = i
  · rw [if_pos h, h, at_up_eq]
  · rw [if_neg h, at_up_ne (fun e => h e.2)]
theorem at_svA_ok (h : at_GS X m0 m ν S) {n pl idx v : at_A} {i : Nat} {x : Int32} (wn : at_wf S.1.1.length n) (en : at_ev ν n = at_w m 2) (ep : at_ev ν pl = 280) (ei : at_ev ν idx = i) (wi : at_wf S.1.1.length idx) (ex : x.toInt = at_ev ν v) {brk' : List (Nat × at_A)} (hs : at_svA S n pl idx v = some brk') : at_RL ν brk' (fl_up m.1 280 i x, m.2) ∧ ∀ b ∈ brk', at_wf S.1.1.length b.2 := by
  unfold at_svA at hs
  obtain ⟨r1, r2⟩ := h.2.2.2.2.1
  cases hc : at_eq idx (at_c 2) with
  | true =>
    rw [hc] at hs
    dsimp only [cond_true] at hs
    obtain ⟨hv, hs⟩ := am_bif hs
    cases hs
    have hi : i = 2 := by
      have := at_eq_ok hc
      rw [this, at_ev_c] at ei
      omega
    subst hi
    have hv : x.toInt = at_w m 2 + 1 := by
      rw [ex, at_eq_ok hv, at_ev_add, at_ev_c, en]
    have e2 : at_w (fl_up m.1 280 2 x, m.2) 2 = at_w m 2 + 1 := by rw [at_w_up, if_pos rfl, hv]
    have eo : ∀ j, j ≠ 2 → at_w (fl_up m.1 280 2 x, m.2) j = at_w m j := fun j hj => by rw [at_w_up, if_neg hj]
    refine ⟨⟨fun c hc16 hlt => ?_, fun k hk => ?_⟩, ?_⟩
    · rw [e2] at hlt
      rw [eo _ (by omega), eo _ (by omega), eo _ (by omega), eo _ (by omega)]
      by_cases hl : (c : Int) < at_w m 2
      · obtain ⟨k1, k2, k3, k4⟩ := r1 c hc16 hl
        have hsub : ∀ w, at_nb ν ((1, n) :: (2, n) :: (3, n) :: (4, n) :: S.2.2.2) w c → at_nb ν S.2.2.2 w c := fun w hnb b hb => hnb b (by simp [hb])
        exact ⟨fun a => k1 (hsub _ a), fun a => k2 (hsub _ a), fun a => k3 (hsub _ a), fun a => k4 (hsub _ a)⟩
      · have hcn : at_ev ν n = c := by omega
        refine ⟨fun a => absurd hcn (a (1, n) (by simp) rfl), fun a => absurd hcn (a (3, n) (by simp) rfl), fun a => absurd hcn (a (4, n) (by simp) rfl), fun a => absurd hcn (a (2, n) (by simp) rfl)⟩
    · have := r2 k hk
      rw [e2, eo _ (by omega)]
      omega
    · intro b hb
      simp only [List.mem_cons] at hb
      rcases hb with rfl | rfl | rfl | rfl | hb
      · exact wn
      · exact wn
      · exact wn
      · exact wn
      · exact h.2.2.1 b hb
  | false =>
    rw [hc] at hs
    dsimp only [cond_false] at hs
    obtain ⟨hv, hs⟩ := am_bif hs
    simp only [Bool.and_eq_true, Bool.or_eq_true] at hv
    obtain ⟨v1, v2⟩ := hv
    have hi2 : i ≠ 2 := by
      have := at_nz_ok h.1.1 v1
      rw [at_ev_sub, at_ev_c, ei] at this
      omega
    have eo : ∀ j, j ≠ i → at_w (fl_up m.1 280 i x, m.2) j = at_w m j := fun j hj => by rw [at_w_up, if_neg hj]
    have ee : at_w (fl_up m.1 280 i x, m.2) i = x.toInt := by rw [at_w_up, if_pos rfl]
    have e2 := eo 2 (Ne.symm hi2)
    obtain ⟨s1, s2, s3, s4⟩ := at_svc_ok h ep ei wi ex (v := v)
    split at hs
    · cases hs
    · rename_i b2 hb2
      split at hs
      · cases hs
      · rename_i b1 hb1
        split at hs
        · cases hs
        · rename_i b3 hb3
          obtain ⟨w2, p2, q2⟩ := at_sv1_ok h.1.1 ei wi s1 hb2
          obtain ⟨w1, p1, q1⟩ := at_sv1_ok h.1.1 ei wi w2 hb1
          obtain ⟨w3, p3, q3⟩ := at_sv1_ok h.1.1 ei wi w1 hb3
          obtain ⟨w4, p4, q4⟩ := at_sv1_ok h.1.1 ei wi w3 hs
          have g1 : ∀ {w : Nat} {a b : List (Nat × at_A)} {c : Int}, (∀ q ∈ a, q.1 = w → q ∈ b) → at_nb ν b w c → at_nb ν a w c := fun hsub hnb q hq hw => hnb q (hsub q hq hw) hw
          refine ⟨⟨fun c hc16 hlt => ?_, fun k hk => ?_⟩, w4⟩
          · rw [e2] at hlt
            obtain ⟨k1, k2, k3, k4⟩ := r1 c hc16 hlt
            refine ⟨fun a => ?_, fun a => ?_, fun a => ?_, fun a => ?_⟩
            · have a3 : at_nb ν b3 1 c := g1 (fun q hq hw => p4 q hq (by rw [hw]; decide)) a
              have a1 : at_nb ν b1 1 c := g1 (fun q hq hw => p3 q hq (by rw [hw]; decide)) a3
              rcases (q1 c hc16).1 a1 with ⟨n1, n2⟩ | ⟨n1, n2⟩
              · have n1 : (i : Int) ≠ 444 + 61 * c := n1
                rw [eo _ (by omega)]
                exact k1 (g1 (fun q hq hw => p2 q (s2 q hq) (by rw [hw]; decide)) n2)
              · have n1 : (i : Int) = 444 + 61 * c := n1
                have ei' : 444 + 61 * c = i := by omega
                rw [ei', ee, ex]
                have := of_decide_eq_true (show decide (100 ≤ at_lo S.1.1 v) = true from n2)
                have := at_lo_le h.1.1.1 v
                omega
            · have a3 : at_nb ν b3 3 c := g1 (fun q hq hw => p4 q hq (by rw [hw]; decide)) a
              rcases (q3 c hc16).1 a3 with ⟨n1, n2⟩ | ⟨n1, n2⟩
              · have n1 : (i : Int) ≠ 450 + 61 * c := n1
                rw [eo _ (by omega)]
                exact k2 (g1 (fun q hq hw => p1 q (p2 q (s2 q hq) (by rw [hw]; decide)) (by rw [hw]; decide)) n2)
              · have n1 : (i : Int) = 450 + 61 * c := n1
                have ei' : 450 + 61 * c = i := by omega
                rw [ei', ee, ex]
                have := of_decide_eq_true (show decide (100 ≤ at_lo S.1.1 v) = true from n2)
                have := at_lo_le h.1.1.1 v
                omega
            · rcases (q4 c hc16).1 a with ⟨n1, n2⟩ | ⟨n1, n2⟩
              · have n1 : (i : Int) ≠ 454 + 61 * c := n1
                rw [eo _ (by omega)]
                exact k3 (g1 (fun q hq hw => p3 q (p1 q (p2 q (s2 q hq) (by rw [hw]; decide)) (by rw [hw]; decide)) (by rw [hw]; decide)) n2)
              · have n1 : (i : Int) = 454 + 61 * c := n1
                have ei' : 454 + 61 * c = i := by omega
                rw [ei', ee, ex]
                have := of_decide_eq_true (show decide (1 ≤ at_lo S.1.1 v) = true from n2)
                have := at_lo_le h.1.1.1 v
                omega
            · have a3 : at_nb ν b3 2 c := g1 (fun q hq hw => p4 q hq (by rw [hw]; decide)) a
              have a1 : at_nb ν b1 2 c := g1 (fun q hq hw => p3 q hq (by rw [hw]; decide)) a3
              have a2 : at_nb ν b2 2 c := g1 (fun q hq hw => p1 q hq (by rw [hw]; decide)) a1
              rcases (q2 c hc16).1 a2 with ⟨n1, n2⟩ | ⟨n1, n2⟩
              · have n1 : (i : Int) ≠ 445 + 61 * c := n1
                rw [eo (445 + 61 * c) (by omega)]
                have old := k4 (g1 (fun q hq _ => s2 q hq) n2)
                by_cases hcap : (i : Int) = 444 + 61 * c
                · have ei' : 444 + 61 * c = i := by omega
                  rw [ei', ee]
                  refine ⟨old.1, ?_⟩
                  rcases (q1 c hc16).2 hcap with ⟨o, eo1, eo2⟩ | ⟨o, eo1, eo2⟩
                  · exact s4 c o eo1 eo2 hcap n2
                  · exact absurd eo2 (a2 _ eo1 rfl)
                · rw [eo (444 + 61 * c) (by omega)]
                  exact old
              · have n1 : (i : Int) = 445 + 61 * c := n1
                have ei' : 445 + 61 * c = i := by omega
                rw [ei', ee, eo (444 + 61 * c) (by omega), ex]
                replace n2 : (match at_ff S.2.1 at_TA pl (at_sub idx (at_c 1)) with
                  | some c => at_nn S.1 v && at_le S.1 (at_sub v (at_mul 3600 c))
                  | none => false) = true := n2
                split at n2
                · rename_i cc ec
                  simp only [Bool.and_eq_true] at n2
                  have t1 := at_nn_ok h.1.1 n2.1
                  have t2 := at_le_ok h.1.1 n2.2
                  obtain ⟨f1, -⟩ := at_ff_ok h (p := 280) (i := 444 + 61 * c) ep (by rw [at_ev_sub, at_ev_c, ei]; omega) ec
                  rw [at_ev_sub, at_ev_mul, f1] at t2
                  refine ⟨t1, ?_⟩
                  show at_ev ν v ≤ 3600 * (m.1 280 (444 + 61 * c)).toInt
                  omega
                · cases n2
          · rw [e2]
            by_cases hm : 341 + 35 * k = i
            · rw [hm, ee]
              rcases v2 with v2 | v2
              · have := at_dj_ok h.1.1.1 v2
                rw [ei] at this
                exact absurd ⟨k, 0, by omega, by show (k : Int) ≤ 3 - 1; omega, by decide, by show (0 : Int) ≤ 1 - 1; decide, by show (i : Int) = 341 + 35 * k + 0; omega⟩ this
              · have := at_le_ok h.1.1 v2
                rw [at_ev_sub, en, ← ex] at this
                omega
            · rw [eo _ hm]
              exact r2 k hk
end ATU
