/-! ===== goOld: wear takes its turns; each makes the through less (or, of a fade below 0, runs over) ===== -/
def at_mu (t b : Int) : Nat := if t < b then 0 else if 0 < b then t.toNat + 1 else (2147483648 - t).toNat + 1
theorem at_mu_lt {t b : Int32} (hb0 : b.toInt ≠ 0) (hb : -359996400 ≤ b.toInt ∧ b.toInt ≤ 359996400) (h : ¬ t.toInt < b.toInt) : at_mu (t - b).toInt b.toInt < at_mu t.toInt b.toInt := by
  have ht := at_i32 t
  unfold at_mu
  rw [if_neg h]
  rcases at_subw t b with e | ⟨q, e⟩ | ⟨q, e⟩
  · rw [e]
    by_cases h1 : t.toInt - b.toInt < b.toInt
    · rw [if_pos h1]
      split <;> omega
    · rw [if_neg h1]
      by_cases h2 : 0 < b.toInt
      · rw [if_pos h2, if_pos h2]; omega
      · rw [if_neg h2, if_neg h2]; omega
  · rw [e, if_pos (by omega)]
    split <;> omega
  · rw [e]
    split <;> split <;> omega
section ATOD
variable {L : Nat} {xs : Nat → Int32}
theorem at_v217 : at_Valid at_XI (pw_P L xs) (217, [.inl (76, some 277), .inr (false, 0, 15)], [(1, 0)], none, false, [(79, false, 444, 1419)]) := by
  intro m vs hg hk hl
  obtain ⟨r, rfl, hk2⟩ := at_ag277 hk
  cases r with
  | nil => cases hk2
  | cons v r =>
  obtain ⟨⟨ci, rfl, c1, c2⟩, hr⟩ := hk2
  have hr0 := at_agnil (vs := r) hr
  subst hr0
  obtain ⟨c, hc⟩ : ∃ c : Nat, ci.toInt = c := ⟨ci.toInt.toNat, by omega⟩
  have hc2 : c < 16 := by omega
  have hlt : (c : Int) < at_w m 2 := by
    obtain ⟨x, ex, hx⟩ := hl _ (List.mem_singleton.mpr rfl)
    cases ex
    omega
  have hA := hg.AK
  obtain ⟨x1, x2, x3, x4, x5⟩ := hA.2.1 c hc2 hlt
  have x6 : at_w m (444 + 61 * c) ≤ 9999 := by
    have := hA.1 (1, 444, 61, 16, 1, 0, 9999) (by decide +kernel) (444 + 61 * c) (by omega) ⟨c, 0, by omega, by show (c : Int) ≤ 16 - 1; omega, by decide, by decide, by show ((444 + 61 * c : Nat) : Int) = 444 + 61 * (c : Int) + 0; omega⟩
    exact this.2
  have hF : -99999 ≤ at_w m 58 ∧ at_w m 58 ≤ 99999 := by
    have := hA.1 (0, 34, 0, 1, 30, -99999, 99999) (by decide +kernel) 58 (by omega) ⟨0, 24, by decide, by decide, by decide, by decide, by decide⟩
    exact this
  have hU : at_U m c m := ⟨rfl, fun p j _ => rfl, x1, x6⟩
  -- the end, from place 137 on
  have fin : ∀ (by_ : Int32) (m1 : fl_M), at_U m c m1 → fl_Tq (pw_P L xs) 217 137 [some at_this, some (.inl ci), some (.inl by_)] [] m1 (fun v m' => at_Good at_XI m' ∧ at_MD m m' [(79, false, 444, 1419)] ∧ at_rtc none false m' v) := by
    intro by_ m1 hU1
    refine fl_Tq.stp rfl rfl (fl_bo rfl) rfl ?_
    refine fl_Tq.stp rfl rfl (fl_bo rfl) rfl ?_
    refine fl_Tq.stp rfl rfl (fl_bo rfl) rfl ?_
    refine fl_Tq.stp rfl rfl (fl_bo rfl) rfl ?_
    refine fl_Tq.stp rfl rfl (fl_bo rfl) rfl ?_
    refine fl_Tq.stp rfl rfl (fl_bo rfl) rfl ?_
    refine fl_Tq.cal rfl rfl (fl_bo rfl) rfl ?_
    refine at_get (w := 4) hc (by decide) hc2 (by decide) ?_
    refine fl_Tq.stp rfl rfl (fl_bo rfl) rfl ?_
    refine fl_Tq.stp rfl rfl (fl_bo rfl) rfl ?_
    refine fl_Tq.stp rfl rfl (fl_bo rfl) rfl ?_
    refine fl_Tq.ld (p := 280) (τ := 79) (n := 29780) (z := (0, 0, 0)) (k := 5) rfl (fl_bo rfl) rfl rfl (by decide) ?_
    refine fl_Tq.stp rfl rfl (fl_bo rfl) rfl ?_
    refine fl_Tq.stp rfl rfl (fl_bo rfl) rfl ?_
    refine fl_Tq.stp rfl rfl (fl_bo rfl) rfl ?_
    refine fl_Tq.cal rfl rfl (fl_bo rfl) rfl ?_
    refine at_its (w := 18) (by decide +kernel) (by decide) ?_
    refine fl_Tq.stp rfl rfl (fl_bo rfl) rfl ?_
    refine fl_Tq.cal rfl rfl (fl_bo rfl) rfl ?_
    refine at_let (w := 4) hc (by decide) hc2 (by decide) (fun m2 e2 => ?_)
    have hU2 : at_U m c m2 := by rw [e2]; exact hU1.up (Or.inr (Or.inl (by omega)))
    refine fl_Tq.stp rfl rfl (fl_bo rfl) rfl ?_
    refine fl_Tq.stp rfl rfl (fl_bo rfl) rfl ?_
    refine fl_Tq.cal rfl rfl (fl_bo rfl) rfl ?_
    refine at_hold hc hc2 ⟨by have := hU2.2.2.1; omega, hU2.2.2.2⟩ (fun x y m3 q1 q2 e3 => ?_)
    have hU3 : at_U m c m3 := by rw [e3]; exact (hU2.up (Or.inl rfl)).up (Or.inr (Or.inl rfl))
    have ec : at_w m3 (444 + 61 * c) = at_w m2 (444 + 61 * c) := by
      rw [e3]
      show (fl_up (fl_up m2.1 280 (445 + 61 * c) x) 280 (448 + 61 * c) y 280 (444 + 61 * c)).toInt = _
      rw [bl_un (fun _ => by omega), bl_un (fun _ => by omega)]
      rfl
    have eg : at_w m3 (445 + 61 * c) = x.toInt := by
      rw [e3]
      show (fl_up (fl_up m2.1 280 (445 + 61 * c) x) 280 (448 + 61 * c) y 280 (445 + 61 * c)).toInt = _
      rw [bl_un (fun _ => by omega), bl_ue]
    obtain ⟨g1, g2⟩ := hU3.good hg hc2 (by rw [eg]; exact q1) (by rw [eg, ec]; exact q2)
    exact fl_Tq.ret rfl rfl rfl ⟨g1, g2, rfl⟩
  -- the turns
  have turn : ∀ (by_ : Int32), (-359996400 ≤ by_.toInt ∧ by_.toInt ≤ 359996400) → ∀ (n : Nat) (m1 : fl_M), at_U m c m1 → at_mu (at_w m1 (449 + 61 * c)) by_.toInt ≤ n → fl_Tq (pw_P L xs) 217 76 [some at_this, some (.inl ci), some (.inl by_)] [] m1 (fun v m' => at_Good at_XI m' ∧ at_MD m m' [(79, false, 444, 1419)] ∧ at_rtc none false m' v) := by
    intro by_ hby n
    induction n with
    | zero =>
      intro m1 hU1 hn
      have hT : at_w m1 (449 + 61 * c) < by_.toInt := by
        unfold at_mu at hn
        split at hn
        · assumption
        · split at hn <;> omega
      refine fl_Tq.stp rfl rfl (fl_bo rfl) rfl ?_
      by_cases h0 : by_.toInt = 0
      · refine fl_Tq.zt rfl (fl_bo rfl) (by rw [at_c1]; exact decide_eq_true h0) rfl ?_
        exact fin by_ m1 hU1
      · refine fl_Tq.zf rfl (fl_bo rfl) (by rw [at_c1]; exact decide_eq_false h0) rfl ?_
        refine fl_Tq.stp rfl rfl (fl_bo rfl) rfl ?_
        refine fl_Tq.stp rfl rfl (fl_bo rfl) rfl ?_
        refine fl_Tq.stp rfl rfl (fl_bo rfl) rfl ?_
        refine fl_Tq.cal rfl rfl (fl_bo rfl) rfl ?_
        refine at_get (w := 5) hc (by decide) hc2 (by decide) ?_
        refine fl_Tq.stp rfl rfl (fl_bo rfl) rfl ?_
        refine fl_Tq.jt rfl (fl_bo rfl) ?_ rfl ?_
        · rw [at_c2]
          have : (m1.1 280 (444 + 61 * c + 5)).toInt = at_w m1 (449 + 61 * c) := by
            rw [show 444 + 61 * c + 5 = 449 + 61 * c by omega]; rfl
          rw [this]
          exact decide_eq_true (by omega)
        exact fin by_ m1 hU1
    | succ n ih =>
      intro m1 hU1 hn
      refine fl_Tq.stp rfl rfl (fl_bo rfl) rfl ?_
      by_cases h0 : by_.toInt = 0
      · refine fl_Tq.zt rfl (fl_bo rfl) (by rw [at_c1]; exact decide_eq_true h0) rfl ?_
        exact fin by_ m1 hU1
      refine fl_Tq.zf rfl (fl_bo rfl) (by rw [at_c1]; exact decide_eq_false h0) rfl ?_
      refine fl_Tq.stp rfl rfl (fl_bo rfl) rfl ?_
      refine fl_Tq.stp rfl rfl (fl_bo rfl) rfl ?_
      refine fl_Tq.stp rfl rfl (fl_bo rfl) rfl ?_
      refine fl_Tq.cal rfl rfl (fl_bo rfl) rfl ?_
      refine at_get (w := 5) hc (by decide) hc2 (by decide) ?_
      refine fl_Tq.stp rfl rfl (fl_bo rfl) rfl ?_
      have eT : m1.1 280 (444 + 61 * c + 5) = m1.1 280 (449 + 61 * c) := by rw [show 444 + 61 * c + 5 = 449 + 61 * c by omega]
      by_cases hT : at_w m1 (449 + 61 * c) < by_.toInt
      · refine fl_Tq.jt rfl (fl_bo rfl) ?_ rfl ?_
        · rw [at_c2, eT]
          exact decide_eq_true (by unfold at_w at hT; omega)
        exact fin by_ m1 hU1
      refine fl_Tq.jf rfl (fl_bo rfl) ?_ rfl ?_
      · rw [at_c2, eT]
        exact decide_eq_false (by unfold at_w at hT; omega)
      have hmu := at_mu_lt (t := m1.1 280 (449 + 61 * c)) h0 hby hT
      refine fl_Tq.stp rfl rfl (fl_bo rfl) rfl ?_
      refine fl_Tq.stp rfl rfl (fl_bo rfl) rfl ?_
      refine fl_Tq.stp rfl rfl (fl_bo rfl) rfl ?_
      refine fl_Tq.stp rfl rfl (fl_bo rfl) rfl ?_
      refine fl_Tq.stp rfl rfl (fl_bo rfl) rfl ?_
      refine fl_Tq.stp rfl rfl (fl_bo rfl) rfl ?_
      refine fl_Tq.cal rfl rfl (fl_bo rfl) rfl ?_
      refine at_get (w := 5) hc (by decide) hc2 (by decide) ?_
      refine fl_Tq.stp rfl rfl (fl_bo rfl) rfl ?_
      refine fl_Tq.stp rfl rfl (fl_bo rfl) rfl ?_
      refine fl_Tq.cal rfl rfl (fl_bo rfl) rfl ?_
      refine at_let (w := 5) hc (by decide) hc2 (by decide) (fun m2 e2 => ?_)
      dsimp only at e2
      have hU2 : at_U m c m2 := by rw [e2]; exact hU1.up (Or.inr (Or.inr (Or.inl (by omega))))
      have eT2 : m2.1 280 (449 + 61 * c) = m1.1 280 (449 + 61 * c) - by_ := by
        rw [e2]
        show fl_up m1.1 280 (444 + 61 * c + 5) (m1.1 280 (444 + 61 * c + 5) - by_) 280 (449 + 61 * c) = _
        rw [show 444 + 61 * c + 5 = 449 + 61 * c by omega, bl_ue]
      -- behind the capacity
      have rest : ∀ m3 : fl_M, at_U m c m3 → m3.1 280 (449 + 61 * c) = m2.1 280 (449 + 61 * c) → fl_Tq (pw_P L xs) 217 129 [some at_this, some (.inl ci), some (.inl by_)] [] m3 (fun v m' => at_Good at_XI m' ∧ at_MD m m' [(79, false, 444, 1419)] ∧ at_rtc none false m' v) := by
        intro m3 hU3 eT3
        refine fl_Tq.stp rfl rfl (fl_bo rfl) rfl ?_
        refine fl_Tq.stp rfl rfl (fl_bo rfl) rfl ?_
        refine fl_Tq.cal rfl rfl (fl_bo rfl) rfl ?_
        refine at_hold hc hc2 ⟨by have := hU3.2.2.1; omega, hU3.2.2.2⟩ (fun x y m4 q1 q2 e4 => ?_)
        have hU4 : at_U m c m4 := by rw [e4]; exact (hU3.up (Or.inl rfl)).up (Or.inr (Or.inl rfl))
        have eT4 : m4.1 280 (449 + 61 * c) = m1.1 280 (449 + 61 * c) - by_ := by
          rw [e4]
          show fl_up (fl_up m3.1 280 (445 + 61 * c) x) 280 (448 + 61 * c) y 280 (449 + 61 * c) = _
          rw [bl_un (fun _ => by omega), bl_un (fun _ => by omega), eT3, eT2]
        refine fl_Tq.stp rfl rfl (fl_bo rfl) rfl ?_
        refine ih m4 hU4 ?_
        unfold at_w at hn ⊢
        rw [eT4]
        omega
      refine fl_Tq.stp rfl rfl (fl_bo rfl) rfl ?_
      refine fl_Tq.stp rfl rfl (fl_bo rfl) rfl ?_
      refine fl_Tq.stp rfl rfl (fl_bo rfl) rfl ?_
      refine fl_Tq.cal rfl rfl (fl_bo rfl) rfl ?_
      refine at_get (w := 0) hc (by decide) hc2 (by decide) ?_
      refine fl_Tq.stp rfl rfl (fl_bo rfl) rfl ?_
      have e100 : (Int8.ofInt 100).toInt32.toInt = 100 := by decide +kernel
      have eC : (m2.1 280 (444 + 61 * c + 0)).toInt = at_w m2 (444 + 61 * c) := rfl
      by_cases hcap : at_w m2 (444 + 61 * c) ≤ 100
      · refine fl_Tq.jt rfl (fl_bo rfl) ?_ rfl ?_
        · rw [at_c2, eC, e100]
          exact decide_eq_true (by omega)
        exact rest m2 hU2 rfl
      refine fl_Tq.jf rfl (fl_bo rfl) ?_ rfl ?_
      · rw [at_c2, eC, e100]
        exact decide_eq_false (by omega)
      refine fl_Tq.stp rfl rfl (fl_bo rfl) rfl ?_
      refine fl_Tq.stp rfl rfl (fl_bo rfl) rfl ?_
      refine fl_Tq.stp rfl rfl (fl_bo rfl) rfl ?_
      refine fl_Tq.stp rfl rfl (fl_bo rfl) rfl ?_
      refine fl_Tq.stp rfl rfl (fl_bo rfl) rfl ?_
      refine fl_Tq.stp rfl rfl (fl_bo rfl) rfl ?_
      refine fl_Tq.cal rfl rfl (fl_bo rfl) rfl ?_
      refine at_get (w := 0) hc (by decide) hc2 (by decide) ?_
      refine fl_Tq.stp rfl rfl (fl_bo rfl) rfl ?_
      refine fl_Tq.stp rfl rfl (fl_bo rfl) rfl ?_
      refine fl_Tq.cal rfl rfl (fl_bo rfl) rfl ?_
      refine at_let (w := 0) hc (by decide) hc2 (by decide) (fun m3 e3 => ?_)
      dsimp only at e3
      have hc9 := hU2.2.2.2
      have e1 : (Int32.ofInt 1).toInt = 1 := rfl
      have eC3 : at_w m3 (444 + 61 * c) = at_w m2 (444 + 61 * c) - 1 := by
        rw [e3]
        show (fl_up m2.1 280 (444 + 61 * c + 0) (m2.1 280 (444 + 61 * c + 0) - Int32.ofInt 1) 280 (444 + 61 * c + 0)).toInt = _
        rw [bl_ue, at_sub32 (by rw [eC, e1]; omega) (by rw [eC, e1]; omega), eC, e1]
      have hU3 : at_U m c m3 := by
        obtain ⟨u1, u2, u3⟩ := hU2
        refine ⟨by rw [e3]; exact u1, fun p j hp => ?_, by rw [eC3]; omega, by rw [eC3]; omega⟩
        rw [e3]
        show fl_up m2.1 280 (444 + 61 * c + 0) _ p j = _
        rw [bl_un (fun e => by have := hp e; unfold at_out at this; omega)]
        exact u2 p j hp
      refine rest m3 hU3 ?_
      rw [e3]
      show fl_up m2.1 280 (444 + 61 * c + 0) _ 280 (449 + 61 * c) = _
      rw [bl_un (fun _ => by omega)]
  -- the beginning
  refine fl_Tq.stp rfl rfl (fl_bo rfl) rfl ?_
  refine fl_Tq.stp rfl rfl (fl_bo rfl) rfl ?_
  refine fl_Tq.stp rfl rfl (fl_bo rfl) rfl ?_
  refine fl_Tq.stp rfl rfl (fl_bo rfl) rfl ?_
  refine fl_Tq.stp rfl rfl (fl_bo rfl) rfl ?_
  refine fl_Tq.stp rfl rfl (fl_bo rfl) rfl ?_
  refine fl_Tq.cal rfl rfl (fl_bo rfl) rfl ?_
  refine at_get (w := 9) hc (by decide +kernel) hc2 (by decide) ?_
  refine fl_Tq.stp rfl rfl (fl_bo rfl) rfl ?_
  refine fl_Tq.stp rfl rfl (fl_bo rfl) rfl ?_
  refine fl_Tq.stp rfl rfl (fl_bo rfl) rfl ?_
  refine fl_Tq.ld (p := 280) (τ := 79) (n := 29780) (z := (0, 0, 0)) (k := 5) rfl (fl_bo rfl) rfl rfl (by decide) ?_
  refine fl_Tq.stp rfl rfl (fl_bo rfl) rfl ?_
  refine fl_Tq.stp rfl rfl (fl_bo rfl) rfl ?_
  refine fl_Tq.cal rfl rfl (fl_bo rfl) rfl ?_
  refine at_its (w := 25) (by decide +kernel) (by decide) ?_
  refine fl_Tq.stp rfl rfl (fl_bo rfl) rfl ?_
  refine fl_Tq.stp rfl rfl (fl_bo rfl) rfl ?_
  refine fl_Tq.dv rfl (fl_bo rfl) (by decide +kernel) ?_
  refine fl_Tq.stp rfl rfl (fl_bo rfl) rfl ?_
  refine fl_Tq.stp rfl rfl (fl_bo rfl) rfl ?_
  refine fl_Tq.stp rfl rfl (fl_bo rfl) rfl ?_
  refine fl_Tq.cal rfl rfl (fl_bo rfl) rfl ?_
  refine at_get (w := 9) hc (by decide +kernel) hc2 (by decide) ?_
  refine fl_Tq.stp rfl rfl (fl_bo rfl) rfl ?_
  refine fl_Tq.stp rfl rfl (fl_bo rfl) rfl ?_
  refine fl_Tq.dv rfl (fl_bo rfl) (by decide +kernel) ?_
  refine fl_Tq.stp rfl rfl (fl_bo rfl) rfl ?_
  refine fl_Tq.cal rfl rfl (fl_bo rfl) rfl ?_
  refine at_let (w := 9) hc (by decide +kernel) hc2 (by decide) (fun m1 e1 => ?_)
  have hU1 : at_U m c m1 := by rw [e1]; exact hU.up (Or.inr (Or.inr (Or.inr (by omega))))
  refine fl_Tq.stp rfl rfl (fl_bo rfl) rfl ?_
  refine fl_Tq.stp rfl rfl (fl_bo rfl) rfl ?_
  refine fl_Tq.stp rfl rfl (fl_bo rfl) rfl ?_
  refine fl_Tq.stp rfl rfl (fl_bo rfl) rfl ?_
  refine fl_Tq.stp rfl rfl (fl_bo rfl) rfl ?_
  refine fl_Tq.stp rfl rfl (fl_bo rfl) rfl ?_
  refine fl_Tq.cal rfl rfl (fl_bo rfl) rfl ?_
  refine at_get (w := 5) hc (by decide) hc2 (by decide) ?_
  refine fl_Tq.stp rfl rfl (fl_bo rfl) rfl ?_
  refine fl_Tq.stp rfl rfl (fl_bo rfl) rfl ?_
  refine fl_Tq.stp rfl rfl (fl_bo rfl) rfl ?_
  refine fl_Tq.ld (p := 280) (τ := 79) (n := 29780) (z := (0, 0, 0)) (k := 5) rfl (fl_bo rfl) rfl rfl (by decide) ?_
  refine fl_Tq.cal rfl rfl (fl_bo rfl) rfl ?_
  refine at_size (fun v => ?_)
  refine fl_Tq.stp rfl rfl (fl_bo rfl) rfl ?_
  refine fl_Tq.cal rfl rfl (fl_bo rfl) rfl ?_
  refine at_let (w := 5) hc (by decide) hc2 (by decide) (fun m2 e2 => ?_)
  have hU2 : at_U m c m2 := by rw [e2]; exact hU1.up (Or.inr (Or.inr (Or.inl (by omega))))
  refine fl_Tq.stp rfl rfl (fl_bo rfl) rfl ?_
  refine fl_Tq.stp rfl rfl (fl_bo rfl) rfl ?_
  refine fl_Tq.stp rfl rfl (fl_bo rfl) rfl ?_
  refine fl_Tq.cal rfl rfl (fl_bo rfl) rfl ?_
  refine at_its (w := 24) (by decide +kernel) (by decide) ?_
  refine fl_Tq.stp rfl rfl (fl_bo rfl) rfl ?_
  refine fl_Tq.stp rfl rfl (fl_bo rfl) rfl ?_
  have eF : (m2.1 280 (34 + 24)).toInt = at_w m 58 := by
    rw [hU2.2.1 280 58 (fun _ => by unfold at_out; omega)]
    rfl
  have e36 : (Int16.ofInt 3600).toInt32.toInt = 3600 := by decide +kernel
  have eB : ((Int16.ofInt 3600).toInt32 * m2.1 280 (34 + 24)).toInt = 3600 * at_w m 58 := by
    rw [at_mul32] <;> rw [e36, eF] <;> omega
  exact turn _ ⟨by rw [eB]; omega, by rw [eB]; omega⟩ _ m2 hU2 (Nat.le_refl _)
end ATOD
