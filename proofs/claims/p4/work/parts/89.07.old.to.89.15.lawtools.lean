/-! 89.07.old.lean.txt -/
section
/-! ===== goOld: wear takes its turns; each makes the through less (or, of a fade below 0, runs over) ===== -/
def at_mu (t b : Int) : Nat := if t < b then 0 else if 0 < b then t.toNat + 1 else (2147483648 - t).toNat + 1
theorem at_mu_lt {t b : Int32} (hb0 : b.toInt ≠ 0) (hb : -359996400 ≤ b.toInt ∧ b.toInt ≤ 359996400) (h : ¬ t.toInt < b.toInt) : at_mu (t - b).toInt b.toInt < at_mu t.toInt b.toInt := by
  have ht := at_i32 t
  unfold at_mu
  rw [if_neg h]
  rcases at_subw t b with e | ⟨q, e⟩ | ⟨q, e⟩
  · rw [e]
    by_cases h1 : t.toInt - b.toInt < b.toInt
    · rw [if_pos h1]
      split <;> omega
    · rw [if_neg h1]
      by_cases h2 : 0 < b.toInt
      · rw [if_pos h2, if_pos h2]; omega
      · rw [if_neg h2, if_neg h2]; omega
  · rw [e, if_pos (by omega)]
    split <;> omega
  · rw [e]
    split <;> split <;> omega
section ATOD
variable {L : Nat} {xs : Nat → Int32}
theorem at_v217 : at_Valid at_XI (pw_P L xs) (217, [.inl (76, some 277), .inr (false, 0, 15)], [(1, 0)], none, false, [(79, false, 444, 1419)]) := by
  intro m vs hg hk hl
  obtain ⟨r, rfl, hk2⟩ := at_ag277 hk
  cases r with
  | nil => cases hk2
  | cons v r =>
  obtain ⟨⟨ci, rfl, c1, c2⟩, hr⟩ := hk2
  have hr0 := at_agnil (vs := r) hr
  subst hr0
  obtain ⟨c, hc⟩ : ∃ c : Nat, ci.toInt = c := ⟨ci.toInt.toNat, by omega⟩
  have hc2 : c < 16 := by omega
  have hlt : (c : Int) < at_w m 2 := by
    obtain ⟨x, ex, hx⟩ := hl _ (List.mem_singleton.mpr rfl)
    cases ex
    omega
  have hA := hg.AK
  obtain ⟨x1, x2, x3, x4, x5⟩ := hA.2.1 c hc2 hlt
  have x6 : at_w m (444 + 61 * c) ≤ 9999 := by
    have := hA.1 (1, 444, 61, 16, 1, 0, 9999) (by decide +kernel) (444 + 61 * c) (by omega) ⟨c, 0, by omega, by show (c : Int) ≤ 16 - 1; omega, by decide, by decide, by show ((444 + 61 * c : Nat) : Int) = 444 + 61 * (c : Int) + 0; omega⟩
    exact this.2
  have hF : -99999 ≤ at_w m 58 ∧ at_w m 58 ≤ 99999 := by
    have := hA.1 (0, 34, 0, 1, 30, -99999, 99999) (by decide +kernel) 58 (by omega) ⟨0, 24, by decide, by decide, by decide, by decide, by decide⟩
    exact this
  have hU : at_U m c m := ⟨rfl, fun p j _ => rfl, x1, x6⟩
  -- the end, from place 137 on
  have fin : ∀ (by_ : Int32) (m1 : fl_M), at_U m c m1 → fl_Tq (pw_P L xs) 217 137 [some at_this, some (.inl ci), some (.inl by_)] [] m1 (fun v m' => at_Good at_XI m' ∧ at_MD m m' [(79, false, 444, 1419)] ∧ at_rtc none false m' v) := by
    intro by_ m1 hU1
    refine fl_Tq.stp rfl rfl (fl_bo rfl) rfl ?_
    refine fl_Tq.stp rfl rfl (fl_bo rfl) rfl ?_
    refine fl_Tq.stp rfl rfl (fl_bo rfl) rfl ?_
    refine fl_Tq.stp rfl rfl (fl_bo rfl) rfl ?_
    refine fl_Tq.stp rfl rfl (fl_bo rfl) rfl ?_
    refine fl_Tq.stp rfl rfl (fl_bo rfl) rfl ?_
    refine fl_Tq.cal rfl rfl (fl_bo rfl) rfl ?_
    refine at_get (w := 4) hc (by decide) hc2 (by decide) ?_
    refine fl_Tq.stp rfl rfl (fl_bo rfl) rfl ?_
    refine fl_Tq.stp rfl rfl (fl_bo rfl) rfl ?_
    refine fl_Tq.stp rfl rfl (fl_bo rfl) rfl ?_
    refine fl_Tq.ld (p := 280) (τ := 79) (n := 29780) (z := (0, 0, 0)) (k := 5) rfl (fl_bo rfl) rfl rfl (by decide) ?_
    refine fl_Tq.stp rfl rfl (fl_bo rfl) rfl ?_
    refine fl_Tq.stp rfl rfl (fl_bo rfl) rfl ?_
    refine fl_Tq.stp rfl rfl (fl_bo rfl) rfl ?_
    refine fl_Tq.cal rfl rfl (fl_bo rfl) rfl ?_
    refine at_its (w := 18) (by decide +kernel) (by decide) ?_
    refine fl_Tq.stp rfl rfl (fl_bo rfl) rfl ?_
    refine fl_Tq.cal rfl rfl (fl_bo rfl) rfl ?_
    refine at_let (w := 4) hc (by decide) hc2 (by decide) (fun m2 e2 => ?_)
    have hU2 : at_U m c m2 := by rw [e2]; exact hU1.up (Or.inr (Or.inl (by omega)))
    refine fl_Tq.stp rfl rfl (fl_bo rfl) rfl ?_
    refine fl_Tq.stp rfl rfl (fl_bo rfl) rfl ?_
    refine fl_Tq.cal rfl rfl (fl_bo rfl) rfl ?_
    refine at_hold hc hc2 ⟨by have := hU2.2.2.1; omega, hU2.2.2.2⟩ (fun x y m3 q1 q2 e3 => ?_)
    have hU3 : at_U m c m3 := by rw [e3]; exact (hU2.up (Or.inl rfl)).up (Or.inr (Or.inl rfl))
    have ec : at_w m3 (444 + 61 * c) = at_w m2 (444 + 61 * c) := by
      rw [e3]
      show (fl_up (fl_up m2.1 280 (445 + 61 * c) x) 280 (448 + 61 * c) y 280 (444 + 61 * c)).toInt = _
      rw [bl_un (fun _ => by omega), bl_un (fun _ => by omega)]
      rfl
    have eg : at_w m3 (445 + 61 * c) = x.toInt := by
      rw [e3]
      show (fl_up (fl_up m2.1 280 (445 + 61 * c) x) 280 (448 + 61 * c) y 280 (445 + 61 * c)).toInt = _
      rw [bl_un (fun _ => by omega), bl_ue]
    obtain ⟨g1, g2⟩ := hU3.good hg hc2 (by rw [eg]; exact q1) (by rw [eg, ec]; exact q2)
    exact fl_Tq.ret rfl rfl rfl ⟨g1, g2, rfl⟩
  -- the turns
  have turn : ∀ (by_ : Int32), (-359996400 ≤ by_.toInt ∧ by_.toInt ≤ 359996400) → ∀ (n : Nat) (m1 : fl_M), at_U m c m1 → at_mu (at_w m1 (449 + 61 * c)) by_.toInt ≤ n → fl_Tq (pw_P L xs) 217 76 [some at_this, some (.inl ci), some (.inl by_)] [] m1 (fun v m' => at_Good at_XI m' ∧ at_MD m m' [(79, false, 444, 1419)] ∧ at_rtc none false m' v) := by
    intro by_ hby n
    induction n with
    | zero =>
      intro m1 hU1 hn
      have hT : at_w m1 (449 + 61 * c) < by_.toInt := by
        unfold at_mu at hn
        split at hn
        · assumption
        · split at hn <;> omega
      refine fl_Tq.stp rfl rfl (fl_bo rfl) rfl ?_
      by_cases h0 : by_.toInt = 0
      · refine fl_Tq.zt rfl (fl_bo rfl) (by rw [at_c1]; exact decide_eq_true h0) rfl ?_
        exact fin by_ m1 hU1
      · refine fl_Tq.zf rfl (fl_bo rfl) (by rw [at_c1]; exact decide_eq_false h0) rfl ?_
        refine fl_Tq.stp rfl rfl (fl_bo rfl) rfl ?_
        refine fl_Tq.stp rfl rfl (fl_bo rfl) rfl ?_
        refine fl_Tq.stp rfl rfl (fl_bo rfl) rfl ?_
        refine fl_Tq.cal rfl rfl (fl_bo rfl) rfl ?_
        refine at_get (w := 5) hc (by decide) hc2 (by decide) ?_
        refine fl_Tq.stp rfl rfl (fl_bo rfl) rfl ?_
        refine fl_Tq.jt rfl (fl_bo rfl) ?_ rfl ?_
        · rw [at_c2]
          have : (m1.1 280 (444 + 61 * c + 5)).toInt = at_w m1 (449 + 61 * c) := by
            rw [show 444 + 61 * c + 5 = 449 + 61 * c by omega]; rfl
          rw [this]
          exact decide_eq_true (by omega)
        exact fin by_ m1 hU1
    | succ n ih =>
      intro m1 hU1 hn
      refine fl_Tq.stp rfl rfl (fl_bo rfl) rfl ?_
      by_cases h0 : by_.toInt = 0
      · refine fl_Tq.zt rfl (fl_bo rfl) (by rw [at_c1]; exact decide_eq_true h0) rfl ?_
        exact fin by_ m1 hU1
      refine fl_Tq.zf rfl (fl_bo rfl) (by rw [at_c1]; exact decide_eq_false h0) rfl ?_
      refine fl_Tq.stp rfl rfl (fl_bo rfl) rfl ?_
      refine fl_Tq.stp rfl rfl (fl_bo rfl) rfl ?_
      refine fl_Tq.stp rfl rfl (fl_bo rfl) rfl ?_
      refine fl_Tq.cal rfl rfl (fl_bo rfl) rfl ?_
      refine at_get (w := 5) hc (by decide) hc2 (by decide) ?_
      refine fl_Tq.stp rfl rfl (fl_bo rfl) rfl ?_
      have eT : m1.1 280 (444 + 61 * c + 5) = m1.1 280 (449 + 61 * c) := by rw [show 444 + 61 * c + 5 = 449 + 61 * c by omega]
      by_cases hT : at_w m1 (449 + 61 * c) < by_.toInt
      · refine fl_Tq.jt rfl (fl_bo rfl) ?_ rfl ?_
        · rw [at_c2, eT]
          exact decide_eq_true (by unfold at_w at hT; omega)
        exact fin by_ m1 hU1
      refine fl_Tq.jf rfl (fl_bo rfl) ?_ rfl ?_
      · rw [at_c2, eT]
        exact decide_eq_false (by unfold at_w at hT; omega)
      have hmu := at_mu_lt (t := m1.1 280 (449 + 61 * c)) h0 hby hT
      refine fl_Tq.stp rfl rfl (fl_bo rfl) rfl ?_
      refine fl_Tq.stp rfl rfl (fl_bo rfl) rfl ?_
      refine fl_Tq.stp rfl rfl (fl_bo rfl) rfl ?_
      refine fl_Tq.stp rfl rfl (fl_bo rfl) rfl ?_
      refine fl_Tq.stp rfl rfl (fl_bo rfl) rfl ?_
      refine fl_Tq.stp rfl rfl (fl_bo rfl) rfl ?_
      refine fl_Tq.cal rfl rfl (fl_bo rfl) rfl ?_
      refine at_get (w := 5) hc (by decide) hc2 (by decide) ?_
      refine fl_Tq.stp rfl rfl (fl_bo rfl) rfl ?_
      refine fl_Tq.stp rfl rfl (fl_bo rfl) rfl ?_
      refine fl_Tq.cal rfl rfl (fl_bo rfl) rfl ?_
      refine at_let (w := 5) hc (by decide) hc2 (by decide) (fun m2 e2 => ?_)
      dsimp only at e2
      have hU2 : at_U m c m2 := by rw [e2]; exact hU1.up (Or.inr (Or.inr (Or.inl (by omega))))
      have eT2 : m2.1 280 (449 + 61 * c) = m1.1 280 (449 + 61 * c) - by_ := by
        rw [e2]
        show fl_up m1.1 280 (444 + 61 * c + 5) (m1.1 280 (444 + 61 * c + 5) - by_) 280 (449 + 61 * c) = _
        rw [show 444 + 61 * c + 5 = 449 + 61 * c by omega, bl_ue]
      -- behind the capacity
      have rest : ∀ m3 : fl_M, at_U m c m3 → m3.1 280 (449 + 61 * c) = m2.1 280 (449 + 61 * c) → fl_Tq (pw_P L xs) 217 129 [some at_this, some (.inl ci), some (.inl by_)] [] m3 (fun v m' => at_Good at_XI m' ∧ at_MD m m' [(79, false, 444, 1419)] ∧ at_rtc none false m' v) := by
        intro m3 hU3 eT3
        refine fl_Tq.stp rfl rfl (fl_bo rfl) rfl ?_
        refine fl_Tq.stp rfl rfl (fl_bo rfl) rfl ?_
        refine fl_Tq.cal rfl rfl (fl_bo rfl) rfl ?_
        refine at_hold hc hc2 ⟨by have := hU3.2.2.1; omega, hU3.2.2.2⟩ (fun x y m4 q1 q2 e4 => ?_)
        have hU4 : at_U m c m4 := by rw [e4]; exact (hU3.up (Or.inl rfl)).up (Or.inr (Or.inl rfl))
        have eT4 : m4.1 280 (449 + 61 * c) = m1.1 280 (449 + 61 * c) - by_ := by
          rw [e4]
          show fl_up (fl_up m3.1 280 (445 + 61 * c) x) 280 (448 + 61 * c) y 280 (449 + 61 * c) = _
          rw [bl_un (fun _ => by omega), bl_un (fun _ => by omega), eT3, eT2]
        refine fl_Tq.stp rfl rfl (fl_bo rfl) rfl ?_
        refine ih m4 hU4 ?_
        unfold at_w at hn ⊢
        rw [eT4]
        omega
      refine fl_Tq.stp rfl rfl (fl_bo rfl) rfl ?_
      refine fl_Tq.stp rfl rfl (fl_bo rfl) rfl ?_
      refine fl_Tq.stp rfl rfl (fl_bo rfl) rfl ?_
      refine fl_Tq.cal rfl rfl (fl_bo rfl) rfl ?_
      refine at_get (w := 0) hc (by decide) hc2 (by decide) ?_
      refine fl_Tq.stp rfl rfl (fl_bo rfl) rfl ?_
      have e100 : (Int8.ofInt 100).toInt32.toInt = 100 := by decide +kernel
      have eC : (m2.1 280 (444 + 61 * c + 0)).toInt = at_w m2 (444 + 61 * c) := rfl
      by_cases hcap : at_w m2 (444 + 61 * c) ≤ 100
      · refine fl_Tq.jt rfl (fl_bo rfl) ?_ rfl ?_
        · rw [at_c2, eC, e100]
          exact decide_eq_true (by omega)
        exact rest m2 hU2 rfl
      refine fl_Tq.jf rfl (fl_bo rfl) ?_ rfl ?_
      · rw [at_c2, eC, e100]
        exact decide_eq_false (by omega)
      refine fl_Tq.stp rfl rfl (fl_bo rfl) rfl ?_
      refine fl_Tq.stp rfl rfl (fl_bo rfl) rfl ?_
      refine fl_Tq.stp rfl rfl (fl_bo rfl) rfl ?_
      refine fl_Tq.stp rfl rfl (fl_bo rfl) rfl ?_
      refine fl_Tq.stp rfl rfl (fl_bo rfl) rfl ?_
      refine fl_Tq.stp rfl rfl (fl_bo rfl) rfl ?_
      refine fl_Tq.cal rfl rfl (fl_bo rfl) rfl ?_
      refine at_get (w := 0) hc (by decide) hc2 (by decide) ?_
      refine fl_Tq.stp rfl rfl (fl_bo rfl) rfl ?_
      refine fl_Tq.stp rfl rfl (fl_bo rfl) rfl ?_
      refine fl_Tq.cal rfl rfl (fl_bo rfl) rfl ?_
      refine at_let (w := 0) hc (by decide) hc2 (by decide) (fun m3 e3 => ?_)
      dsimp only at e3
      have hc9 := hU2.2.2.2
      have e1 : (Int32.ofInt 1).toInt = 1 := rfl
      have eC3 : at_w m3 (444 + 61 * c) = at_w m2 (444 + 61 * c) - 1 := by
        rw [e3]
        show (fl_up m2.1 280 (444 + 61 * c + 0) (m2.1 280 (444 + 61 * c + 0) - Int32.ofInt 1) 280 (444 + 61 * c + 0)).toInt = _
        rw [bl_ue, at_sub32 (by rw [eC, e1]; omega) (by rw [eC, e1]; omega), eC, e1]
      have hU3 : at_U m c m3 := by
        obtain ⟨u1, u2, u3⟩ := hU2
        refine ⟨by rw [e3]; exact u1, fun p j hp => ?_, by rw [eC3]; omega, by rw [eC3]; omega⟩
        rw [e3]
        show fl_up m2.1 280 (444 + 61 * c + 0) _ p j = _
        rw [bl_un (fun e => by have := hp e; unfold at_out at this; omega)]
        exact u2 p j hp
      refine rest m3 hU3 ?_
      rw [e3]
      show fl_up m2.1 280 (444 + 61 * c + 0) _ 280 (449 + 61 * c) = _
      rw [bl_un (fun _ => by omega)]
  -- the beginning
  refine fl_Tq.stp rfl rfl (fl_bo rfl) rfl ?_
  refine fl_Tq.stp rfl rfl (fl_bo rfl) rfl ?_
  refine fl_Tq.stp rfl rfl (fl_bo rfl) rfl ?_
  refine fl_Tq.stp rfl rfl (fl_bo rfl) rfl ?_
  refine fl_Tq.stp rfl rfl (fl_bo rfl) rfl ?_
  refine fl_Tq.stp rfl rfl (fl_bo rfl) rfl ?_
  refine fl_Tq.cal rfl rfl (fl_bo rfl) rfl ?_
  refine at_get (w := 9) hc (by decide +kernel) hc2 (by decide) ?_
  refine fl_Tq.stp rfl rfl (fl_bo rfl) rfl ?_
  refine fl_Tq.stp rfl rfl (fl_bo rfl) rfl ?_
  refine fl_Tq.stp rfl rfl (fl_bo rfl) rfl ?_
  refine fl_Tq.ld (p := 280) (τ := 79) (n := 29780) (z := (0, 0, 0)) (k := 5) rfl (fl_bo rfl) rfl rfl (by decide) ?_
  refine fl_Tq.stp rfl rfl (fl_bo rfl) rfl ?_
  refine fl_Tq.stp rfl rfl (fl_bo rfl) rfl ?_
  refine fl_Tq.cal rfl rfl (fl_bo rfl) rfl ?_
  refine at_its (w := 25) (by decide +kernel) (by decide) ?_
  refine fl_Tq.stp rfl rfl (fl_bo rfl) rfl ?_
  refine fl_Tq.stp rfl rfl (fl_bo rfl) rfl ?_
  refine fl_Tq.dv rfl (fl_bo rfl) (by decide +kernel) ?_
  refine fl_Tq.stp rfl rfl (fl_bo rfl) rfl ?_
  refine fl_Tq.stp rfl rfl (fl_bo rfl) rfl ?_
  refine fl_Tq.stp rfl rfl (fl_bo rfl) rfl ?_
  refine fl_Tq.cal rfl rfl (fl_bo rfl) rfl ?_
  refine at_get (w := 9) hc (by decide +kernel) hc2 (by decide) ?_
  refine fl_Tq.stp rfl rfl (fl_bo rfl) rfl ?_
  refine fl_Tq.stp rfl rfl (fl_bo rfl) rfl ?_
  refine fl_Tq.dv rfl (fl_bo rfl) (by decide +kernel) ?_
  refine fl_Tq.stp rfl rfl (fl_bo rfl) rfl ?_
  refine fl_Tq.cal rfl rfl (fl_bo rfl) rfl ?_
  refine at_let (w := 9) hc (by decide +kernel) hc2 (by decide) (fun m1 e1 => ?_)
  have hU1 : at_U m c m1 := by rw [e1]; exact hU.up (Or.inr (Or.inr (Or.inr (by omega))))
  refine fl_Tq.stp rfl rfl (fl_bo rfl) rfl ?_
  refine fl_Tq.stp rfl rfl (fl_bo rfl) rfl ?_
  refine fl_Tq.stp rfl rfl (fl_bo rfl) rfl ?_
  refine fl_Tq.stp rfl rfl (fl_bo rfl) rfl ?_
  refine fl_Tq.stp rfl rfl (fl_bo rfl) rfl ?_
  refine fl_Tq.stp rfl rfl (fl_bo rfl) rfl ?_
  refine fl_Tq.cal rfl rfl (fl_bo rfl) rfl ?_
  refine at_get (w := 5) hc (by decide) hc2 (by decide) ?_
  refine fl_Tq.stp rfl rfl (fl_bo rfl) rfl ?_
  refine fl_Tq.stp rfl rfl (fl_bo rfl) rfl ?_
  refine fl_Tq.stp rfl rfl (fl_bo rfl) rfl ?_
  refine fl_Tq.ld (p := 280) (τ := 79) (n := 29780) (z := (0, 0, 0)) (k := 5) rfl (fl_bo rfl) rfl rfl (by decide) ?_
  refine fl_Tq.cal rfl rfl (fl_bo rfl) rfl ?_
  refine at_size (fun v => ?_)
  refine fl_Tq.stp rfl rfl (fl_bo rfl) rfl ?_
  refine fl_Tq.cal rfl rfl (fl_bo rfl) rfl ?_
  refine at_let (w := 5) hc (by decide) hc2 (by decide) (fun m2 e2 => ?_)
  have hU2 : at_U m c m2 := by rw [e2]; exact hU1.up (Or.inr (Or.inr (Or.inl (by omega))))
  refine fl_Tq.stp rfl rfl (fl_bo rfl) rfl ?_
  refine fl_Tq.stp rfl rfl (fl_bo rfl) rfl ?_
  refine fl_Tq.stp rfl rfl (fl_bo rfl) rfl ?_
  refine fl_Tq.cal rfl rfl (fl_bo rfl) rfl ?_
  refine at_its (w := 24) (by decide +kernel) (by decide) ?_
  refine fl_Tq.stp rfl rfl (fl_bo rfl) rfl ?_
  refine fl_Tq.stp rfl rfl (fl_bo rfl) rfl ?_
  have eF : (m2.1 280 (34 + 24)).toInt = at_w m 58 := by
    rw [hU2.2.1 280 58 (fun _ => by unfold at_out; omega)]
    rfl
  have e36 : (Int16.ofInt 3600).toInt32.toInt = 3600 := by decide +kernel
  have eB : ((Int16.ofInt 3600).toInt32 * m2.1 280 (34 + 24)).toInt = 3600 * at_w m 58 := by
    rw [at_mul32] <;> rw [e36, eF] <;> omega
  exact turn _ ⟨by rw [eB]; omega, by rw [eB]; omega⟩ _ m2 hU2 (Nat.le_refl _)
end ATOD

end

/-! 89.08.state.lean.txt -/
section
/-! ===== stateAt: a state of a history, made when it is first asked for ===== -/
/-- a region's words, one by one -/
def at_rok (w : Nat → Int) (r : at_R) : Bool := (List.range r.2.2.2.1.toNat).all (fun o => (List.range r.2.2.2.2.1.toNat).all (fun i => (fun z : Int => decide (r.2.2.2.2.2.1 ≤ z) && decide (z ≤ r.2.2.2.2.2.2)) (w (r.2.1 + r.2.2.1 * (o : Int) + (i : Int)).toNat)))
theorem at_rok_ok {w : Nat → Int} {r : at_R} (h : at_rok w r = true) {j : Nat} (hm : at_mem j r) : r.2.2.2.2.2.1 ≤ w j ∧ w j ≤ r.2.2.2.2.2.2 := by
  obtain ⟨o, i, h1, h2, h3, h4, h5⟩ := hm
  have a1 := List.all_eq_true.mp h o.toNat (List.mem_range.mpr (by omega))
  have a2 := List.all_eq_true.mp a1 i.toNat (List.mem_range.mpr (by omega))
  have e1 : ((o.toNat : Nat) : Int) = o := Int.toNat_of_nonneg h1
  have e2 : ((i.toNat : Nat) : Int) = i := Int.toNat_of_nonneg h3
  rw [e1, e2, ← h5] at a2
  simp only [Bool.and_eq_true, decide_eq_true_eq, Int.toNat_natCast] at a2
  exact a2
theorem at_fresh : (List.range 90).all (fun r => (at_rg (fk_K1.getD r 0)).all (at_rok (fun i => (at_W0 r i).toInt))) = true := by decide +kernel
theorem at_sum1 {f g : Nat → Nat} {i : Nat} (he : ∀ j, j ≠ i → g j = f j) (hi : g i = f i + 1) : ∀ n : Nat, ((List.range n).map g).sum = ((List.range n).map f).sum + (if i < n then 1 else 0) := by
  intro n
  induction n with
  | zero => rfl
  | succ n ih =>
    rw [List.range_succ, List.map_append, List.map_append, List.sum_append, List.sum_append, ih]
    simp only [List.map_cons, List.map_nil, List.sum_cons, List.sum_nil, Nat.add_zero]
    by_cases h : i = n
    · subst h
      rw [if_neg (Nat.lt_irrefl _), if_pos (Nat.lt_succ_self _), hi]
      omega
    · rw [he n (fun e => h e.symm)]
      by_cases h2 : i < n
      · rw [if_pos h2, if_pos (by omega)]; omega
      · rw [if_neg h2, if_neg (by omega)]; omega
theorem at_K73 {p h : Nat} (hk : fk_K p = 73) : p = 271 ∨ p = 273 := by
  by_cases hl : p < 285
  · have : ∀ p : Fin 285, fk_K p.val = 73 → p.val = 271 ∨ p.val = 273 := by decide +kernel
    exact this ⟨p, hl⟩ hk
  · exfalso
    have : ∀ r : Fin 90, fk_K1.getD r.val 0 ≠ 73 := by decide +kernel
    unfold fk_K at hk
    rw [if_neg hl] at hk
    exact this ⟨(p - 285) % 90, Nat.mod_lt _ (by decide)⟩ hk
theorem at_K25 (j : Nat) : fk_K (285 + 90 * j) = 25 := by
  have := fk_K_hi (r := 0) (q := j) (by decide)
  rw [Nat.add_zero] at this
  rw [this]
  rfl
/-- the memory with one state more -/
theorem at_more {m : fl_M} {H : nw_H} (hX : at_XI m) (h1 : H.1.length = 90) (h2 : H.2 = 1564) (h3 : nw_ckl (285 + 90 * m.2.2) (fun r => at_w0l.getD r []) 0 H.1 = true) : nw_h (fl_H m) H = fl_H (m.1, m.2.1, m.2.2 + 1) := by
  unfold nw_h
  refine Prod.ext ?_ ?_
  · show (fl_H m).1 ++ H.1.map nw_o = (fl_H (m.1, m.2.1, m.2.2 + 1)).1
    have hN : fl_N (m.2.2 + 1) = fl_N m.2.2 + 90 := by unfold fl_N; omega
    have hl : (fl_H m).1.length = fl_N m.2.2 := by unfold fl_H; simp
    refine List.ext_getElem? (fun p => ?_)
    by_cases hp : p < fl_N m.2.2
    · rw [List.getElem?_append_left (by rw [hl]; exact hp), fl_get hp, fl_get (m := (m.1, m.2.1, m.2.2 + 1)) (by show p < fl_N (m.2.2 + 1); omega)]
    · rw [List.getElem?_append_right (by rw [hl]; omega), hl]
      by_cases hp2 : p < fl_N m.2.2 + 90
      · rw [fl_get (m := (m.1, m.2.1, m.2.2 + 1)) (by show p < fl_N (m.2.2 + 1); omega)]
        have hk := nw_ckl_ok H.1 0 h3 (p - fl_N m.2.2) (by omega)
        have e : 285 + 90 * m.2.2 + (0 + (p - fl_N m.2.2)) = p := by unfold fl_N at hp ⊢; omega
        rw [hk, e]
        have e2 : (p - 285) % 90 = p - fl_N m.2.2 := by unfold fl_N at hp hp2 ⊢; omega
        have e3 : (fun j => (at_w0l.getD (0 + (p - fl_N m.2.2)) []).getD j 0) = m.1 p := by
          funext j
          rw [hX.2.2.1 p (by omega) j, e2, Nat.zero_add]
          rfl
        show some (fl_ob _ _ (fun j => (at_w0l.getD (0 + (p - fl_N m.2.2)) []).getD j 0) _) = _
        rw [e3]
        -- longs: no array of longs among a state's places
        have kl : ∀ r : Fin 90, (match fk_kd (fk_K1.getD r.val 0) with | .inr (1, _) => false | _ => true) = true := by decide +kernel
        have kk := kl ⟨(p - 285) % 90, Nat.mod_lt _ (by decide)⟩
        have e4 : fk_K p = fk_K1.getD ((p - 285) % 90) 0 := by
          unfold fk_K
          rw [if_neg (by unfold fl_N at hp; omega)]
        rw [e4]
        dsimp only at kk
        generalize fk_kd (fk_K1.getD ((p - 285) % 90) 0) = kd at kk
        rcases kd with ⟨ci, fs⟩ | ⟨t, n, z⟩
        · rfl
        · match t, kk with
          | 0, _ => rfl
          | t + 2, _ => rfl
      · rw [List.getElem?_eq_none (by rw [List.length_map]; omega), List.getElem?_eq_none (by unfold fl_H; simp; omega)]
  · show fl_S m.2.2 + H.2 = fl_S (m.2.2 + 1)
    unfold fl_S
    omega
/-- X and all else with a new state in a history's row -/
theorem at_made {m : fl_M} {q i : Nat} {x : Int32} (hg : at_Good at_XI m) (hq : q = 272 ∨ q = 274) (hi : i < 20) (h0 : m.1 q i = 0) (hx : x.toInt = 285 + 90 * (m.2.2 : Int)) : m.2.2 < 40 ∧ at_Good at_XI (fl_up m.1 q i x, m.2.1, m.2.2 + 1) ∧ at_MD m (fl_up m.1 q i x, m.2.1, m.2.2 + 1) [(74, false, 0, 19)] := by
  have hkq : fk_K q = 74 := by rcases hq with rfl | rfl <;> decide +kernel
  have hq285 : q < 285 := by omega
  have hxne : x ≠ 0 := fun h => by
    rw [h] at hx
    have : (0 : Int32).toInt = 0 := rfl
    omega
  have ne : ∀ p j : Nat, p ≠ q → fl_up m.1 q i x p j = m.1 p j := fun p j e => bl_un (fun h => absurd h e)
  obtain ⟨a1, a2, a3, a4, a5, ⟨a6, a7, a8⟩, a9, a10⟩ := hg.2.2
  have hc : ∀ q', q' = q → at_cnt (fl_up m.1 q i x, m.2.1, m.2.2 + 1) q' = at_cnt m q' + 1 := by
    intro q' e
    subst e
    unfold at_cnt
    rw [at_sum1 (f := at_nzr m q') (g := at_nzr (fl_up m.1 q' i x, m.2.1, m.2.2 + 1) q') (i := i) (fun j hj => by
      unfold at_nzr
      show (if fl_up m.1 q' i x q' j = 0 then 0 else 1) = _
      rw [bl_un (fun _ => hj)]) (by
      unfold at_nzr
      show (if fl_up m.1 q' i x q' i = 0 then 0 else 1) = _
      rw [bl_ue, if_neg hxne, if_pos h0]), if_pos hi]
  have hc2 : ∀ q', q' ≠ q → at_cnt (fl_up m.1 q i x, m.2.1, m.2.2 + 1) q' = at_cnt m q' := by
    intro q' e
    unfold at_cnt at_nzr
    simp only [fun j => ne q' j e]
  have hX : at_XI (fl_up m.1 q i x, m.2.1, m.2.2 + 1) := by
    refine ⟨fun q' hq' i' hi' => ?_, ?_, fun p hp j => ?_, ?_, fun s hs => ?_, ⟨?_, ?_, ?_⟩, fun s hs => ?_, fun p j hp => ?_⟩
    · show fl_up m.1 q i x q' i' = 0 ∨ ∃ j, j < m.2.2 + 1 ∧ (fl_up m.1 q i x q' i').toInt = _
      by_cases e : q' = q ∧ i' = i
      · obtain ⟨rfl, rfl⟩ := e
        rw [bl_ue]
        exact Or.inr ⟨m.2.2, by omega, hx⟩
      · rw [bl_un (fun h h2 => e ⟨h, h2⟩)]
        rcases a1 q' hq' i' hi' with h | ⟨j, hj, h⟩
        · exact Or.inl h
        · exact Or.inr ⟨j, by omega, h⟩
    · show at_cnt _ 272 + at_cnt _ 274 = m.2.2 + 1
      rcases hq with rfl | rfl
      · rw [hc 272 rfl, hc2 274 (by decide)]; omega
      · rw [hc 274 rfl, hc2 272 (by decide)]; omega
    · have hp : fl_N (m.2.2 + 1) ≤ p := hp
      show fl_up m.1 q i x p j = _
      rw [ne p j (by unfold fl_N at hp; omega)]
      exact a3 p (by unfold fl_N at hp ⊢; omega) j
    · exact a4.congr (fun j _ _ => by (try dsimp only); rw [ne 283 _ (by omega)])
    · exact (a5 s hs).congr (fun j _ _ => by (try dsimp only); rw [ne 280 _ (by omega)])
    · exact a6.congr (fun j _ _ => by (try dsimp only); rw [ne 281 _ (by omega)])
    · show 0 ≤ (fl_up m.1 q i x 281 0).toInt ∧ (fl_up m.1 q i x 281 0).toInt ≤ 20
      rw [ne 281 0 (by omega)]; exact a7
    · show 0 ≤ (fl_up m.1 q i x 281 1).toInt ∧ (fl_up m.1 q i x 281 1).toInt ≤ 19
      rw [ne 281 1 (by omega)]; exact a8
    · exact (a9 s hs).congr (fun j _ _ => by (try dsimp only); rw [ne 281 _ (by omega)])
    · show fl_up m.1 q i x p j = _
      rw [ne p j (by omega)]
      exact a10 p j hp
  have h40 := hX.h40
  have ew : ∀ j, at_w (fl_up m.1 q i x, m.2.1, m.2.2 + 1) j = at_w m j := fun j => by
    show (fl_up m.1 q i x 280 j).toInt = _
    rw [ne 280 j (by omega)]
    rfl
  refine ⟨by show m.2.2 < 40; have : m.2.2 + 1 ≤ 40 := h40; omega, ⟨fun p hp r hr j hm => ?_, ?_, hX⟩, ⟨Nat.le_succ _, fun p j hne => ⟨_, List.mem_singleton.mpr rfl, ?_⟩⟩⟩
  · show r.2.2.2.2.2.1 ≤ (fl_up m.1 q i x p j).toInt ∧ (fl_up m.1 q i x p j).toInt ≤ r.2.2.2.2.2.2
    by_cases e : p = q
    · subst e
      rw [hkq] at hr
      have : at_rg 74 = [] := by decide +kernel
      rw [this] at hr
      cases hr
    · rw [ne p j e]
      by_cases hp2 : p < fl_N m.2.2
      · exact hg.1 p hp2 r hr j hm
      · have hp3 : p < fl_N (m.2.2 + 1) := hp
        rw [a3 p (by omega) j]
        have e4 : fk_K p = fk_K1.getD ((p - 285) % 90) 0 := by
          unfold fk_K
          rw [if_neg (by unfold fl_N at hp2; omega)]
        rw [e4] at hr
        have b1 := List.all_eq_true.mp at_fresh ((p - 285) % 90) (List.mem_range.mpr (Nat.mod_lt _ (by decide)))
        have b2 := List.all_eq_true.mp b1 r hr
        exact at_rok_ok b2 hm
  · obtain ⟨r1, r2⟩ := hg.2.1
    refine ⟨fun c hc hl => ?_, fun k hk => ?_⟩
    · simp only [ew] at hl ⊢
      exact r1 c hc hl
    · simp only [ew]
      exact r2 k hk
  · have hne : fl_up m.1 q i x p j ≠ m.1 p j := hne
    by_cases e : p = q ∧ j = i
    · obtain ⟨rfl, rfl⟩ := e
      refine ⟨hkq.symm, ?_⟩
      rw [if_neg (by decide)]
      show (0 : Int) ≤ j ∧ (j : Int) ≤ 19
      omega
    · exact absurd (bl_un (fun h h2 => e ⟨h, h2⟩)) hne

end

/-! 89.09.stateat.lean.txt -/
section
/-! ===== stateAt itself ===== -/
theorem nw_state1 {h : Nat} (hh : h < 40) : ∃ H : nw_H, nw_ev (285 + 90 * h) 2000 32 0 [(0, .ref (285 + 90 * h))] [] ([nw_obj0], 17) = some (none, H) ∧ H.1.length = 90 ∧ H.2 = 1564 ∧ nw_ckl (285 + 90 * h) (fun r => at_w0l.getD r []) 0 H.1 = true := by
  have e := nw_state h hh
  unfold nw_one at e
  generalize nw_ev (285 + 90 * h) 2000 32 0 [(0, .ref (285 + 90 * h))] [] ([nw_obj0], 17) = r at e
  unfold nw_ckst at e
  split at e
  · rename_i H
    simp only [Bool.and_eq_true] at e
    exact ⟨H, rfl, Nat.eq_of_beq_eq_true e.1, Nat.eq_of_beq_eq_true e.2.1, e.2.2⟩
  · cases e
section ATSA
variable {L : Nat} {xs : Nat → Int32} {m : fl_M} {Q : Option fl_V → fl_M → Prop}
theorem fl_Tq.retA {P : am_Pg} {mi pc : Nat} {lv : fl_L} {τ p : Nat} (hc : am_code P mi pc = some .areturn) (hrt : am_rt P mi .areturn [.ref p] = some (some (.ref p))) (k : Q (some (.inr (.inr (.inl (τ, p))))) m) : fl_Tq P mi pc lv [.inr (.inr (.inl (τ, p)))] m Q :=
  fun la hl => am_To.ret (ins := .areturn) (v := some (.ref p)) hc rfl hrt ⟨_, m, rfl, rfl, k⟩
theorem at_hrow {q : Nat} (hq : q = 272 ∨ q = 274) : (fl_H m).1[q]? = some (.inl (4, 20, .inr (.inr (.inr (.inr (fun i => if i < 20 then (if m.1 q i = 0 then none else some (m.1 q i).toNatClampNeg) else none)))))) := by
  have hkq : fk_K q = 74 := by rcases hq with rfl | rfl <;> decide +kernel
  rw [fl_get (by unfold fl_N; omega), hkq]
  rfl
/-- a row of a history: what its load gives -/
theorem at_row {q i pc : Nat} {ii : Int32} {la : am_L} {r : List Value} (hq : q = 272 ∨ q = 274) (hi : ii.toInt = i) (hi2 : i < 20) : am_qald pc la (.int ii :: .ref q :: r) (fl_H m) = some (pc + 1, la, va_rf (if m.1 q i = 0 then none else some (m.1 q i).toNatClampNeg) :: r, fl_H m) := by
  obtain ⟨h1, h2⟩ := at_in_ok (i := ii) (n := 20) (by omega) (by omega)
  have h3 : ii.toNatClampNeg = i := by omega
  show ((match (fl_H m).1[q]? with
    | some (.inl (t, n, .inr (.inr (.inr (.inr f))))) => bif decide (2 ≤ t ∧ t < 5) && am_in ii n then some (pc + 1, la, va_rf (f ii.toNatClampNeg) :: r, fl_H m) else none
    | _ => none) : Option am_C) = _
  rw [at_hrow hq]
  show ((bif decide (2 ≤ 4 ∧ 4 < 5) && am_in ii 20 then some (pc + 1, la, va_rf (if ii.toNatClampNeg < 20 then (if m.1 q ii.toNatClampNeg = 0 then none else some (m.1 q ii.toNatClampNeg).toNatClampNeg) else none) :: r, fl_H m) else none) : Option am_C) = _
  rw [h1, h3, if_pos hi2]
  rfl
theorem at_t22 {p i x : Nat} {ii : Int32} (hkp : fk_K p = 73) (hpl : p < 285) (hkq : fk_K (p + 1) = 74) (hq : p + 1 = 272 ∨ p + 1 = 274) (hi : ii.toInt = i) (hi2 : i < 20) (h0 : m.1 (p + 1) i ≠ 0) (hx : (m.1 (p + 1) i).toInt = x) (k : Q (some (.inr (.inr (.inl (25, x))))) m) : fl_Tq (pw_P L xs) 24 22 [some (.inr (.inr (.inl (73, p)))), some (.inl ii)] [] m Q := by
  refine fl_Tq.stp rfl rfl (fl_bo rfl) rfl ?_
  refine fl_Tq.stp rfl rfl (fl_oks_ok ⟨fl_okp hkp hpl, True.intro⟩) rfl ?_
  refine fl_Tq.stp rfl rfl (fl_oks_ok ⟨fl_okp hkq (by show p + 1 < 285; omega), True.intro⟩) rfl ?_
  have e := fun la => at_row (m := m) (pc := 26 + 1) (r := []) (la := la) hq hi hi2
  have ex : (m.1 (p + 1) i).toNatClampNeg = x := by
    have : (m.1 (p + 1) i).toNatClampNeg = (m.1 (p + 1) i).toInt.toNat := rfl
    omega
  rw [if_neg h0, ex] at e
  refine fl_Tq.gen (ins := .aaload) (st' := [.inr (.inr (.inl (25, x)))]) rfl rfl rfl (fun la hl => ⟨la, e la, hl⟩) ?_
  exact fl_Tq.retA rfl rfl k
theorem at_v24 : at_Valid at_XI (pw_P L xs) (24, [.inl (73, none), .inr (false, 0, 19)], [], some (.inl 25), false, [(74, false, 0, 19)]) := by
  intro m vs hg hk _
  cases vs with
  | nil => cases hk
  | cons v r =>
  obtain ⟨⟨p, rfl, hkp, -, -⟩, hr⟩ := hk
  cases r with
  | nil => cases hr
  | cons v r =>
  obtain ⟨⟨ii, rfl, i1, i2⟩, hr⟩ := hr
  have hr0 := at_agnil (vs := r) hr
  subst hr0
  have hp := at_K73 (h := 0) hkp
  have hpl : p < 285 := by omega
  have hq : p + 1 = 272 ∨ p + 1 = 274 := by omega
  have hkq : fk_K (p + 1) = 74 := by rcases hp with rfl | rfl <;> decide +kernel
  obtain ⟨i, hi⟩ : ∃ i : Nat, ii.toInt = i := ⟨ii.toInt.toNat, by omega⟩
  have hi2 : i < 20 := by omega
  refine fl_Tq.stp rfl rfl (fl_bo rfl) rfl ?_
  refine fl_Tq.stp rfl rfl (fl_oks_ok ⟨fl_okp hkp hpl, True.intro⟩) rfl ?_
  refine fl_Tq.stp rfl rfl (fl_oks_ok ⟨fl_okp hkq (by show p + 1 < 285; omega), True.intro⟩) rfl ?_
  have e := fun la => at_row (m := m) (pc := 4 + 1) (r := []) (la := la) hq hi hi2
  by_cases h0 : m.1 (p + 1) i = 0
  · -- made now
    rw [if_pos h0] at e
    have k9 : ∀ Q : Option fl_V → fl_M → Prop, fl_Tq (pw_P L xs) 24 9 [some (.inr (.inr (.inl (73, p)))), some (.inl ii)] [] m Q → fl_Tq (pw_P L xs) 24 5 [some (.inr (.inr (.inl (73, p)))), some (.inl ii)] [.inl ii, .inr (.inr (.inl (74, p + 1)))] m Q := fun Q k la hl =>
      am_To.stp (ins := .aaload) (pc := 5) (lv := la) (st := [.int ii, .ref (p + 1)]) (M := fl_H m) (pc' := 6) (lv' := la) (st' := [.null]) (M' := fl_H m) rfl rfl rfl (e la) (am_To.stp (ins := .ifnonnull 16) (pc := 6) (lv := la) (st := [.null]) (M := fl_H m) (pc' := 9) (lv' := la) (st' := []) (M' := fl_H m) rfl rfl rfl rfl (k la hl))
    refine k9 _ ?_
    refine fl_Tq.stp rfl rfl (fl_bo rfl) rfl ?_
    refine fl_Tq.stp rfl rfl (fl_oks_ok ⟨fl_okp hkp hpl, True.intro⟩) rfl ?_
    refine fl_Tq.stp rfl rfl (fl_oks_ok ⟨fl_okp hkq (by show p + 1 < 285; omega), True.intro⟩) rfl ?_
    have hN : (fl_H m).1.length = 285 + 90 * m.2.2 := by unfold fl_H fl_N; simp
    have hh40 := hg.2.2.h40
    obtain ⟨x, hx⟩ : ∃ x : Int32, x.toInt = 285 + 90 * (m.2.2 : Int) := ⟨Int32.ofNat (285 + 90 * m.2.2), by rw [at_ofN (by omega)]; omega⟩
    obtain ⟨g1, g2, g3⟩ := at_made hg hq hi2 h0 hx
    obtain ⟨H, eH, l1, l2, l3⟩ := nw_state1 g1
    have em := at_more hg.2.2 l1 l2 l3
    intro la hl
    refine am_To.stp (ins := .new 9) (pc' := 17) (lv' := la) (st' := [.ref (fl_H m).1.length, .int ii, .ref (p + 1)]) (M' := nw_h (fl_H m) ([nw_obj0], 17)) rfl rfl rfl rfl ?_
    refine am_To.stp (ins := .dup) (pc' := 18) (lv' := la) (st' := [.ref (fl_H m).1.length, .ref (fl_H m).1.length, .int ii, .ref (p + 1)]) (M' := nw_h (fl_H m) ([nw_obj0], 17)) rfl rfl rfl rfl ?_
    refine am_To.cal (ins := .invokespecial 36) (mj := 32) (n := 1) rfl rfl rfl ?_
    refine ⟨2000, none, nw_h (fl_H m) H, nw_ev_ok (B := fl_H m) 2000 32 0 _ [] _ none H ?_, ?_⟩
    · rw [hN]
      exact eH
    · rw [em]
      have hrow := at_hrow (m := ((m.1, m.2.1, m.2.2 + 1) : fl_M)) hq
      obtain ⟨n1, n2⟩ := at_in_ok (i := ii) (n := 20) (by omega) (by omega)
      have n3 : ii.toNatClampNeg = i := by omega
      have hN2 : (fl_H (m.1, m.2.1, m.2.2 + 1)).1[285 + 90 * m.2.2]? = some (fl_ob (fk_kd (fk_K (285 + 90 * m.2.2))) (285 + 90 * m.2.2) (m.1 (285 + 90 * m.2.2)) (m.2.1 (285 + 90 * m.2.2))) := fl_get (m := (m.1, m.2.1, m.2.2 + 1)) (by show _ < fl_N (m.2.2 + 1); unfold fl_N; omega)
      rw [at_K25] at hN2
      have exN : x.toNatClampNeg = 285 + 90 * m.2.2 := by
        have : x.toNatClampNeg = x.toInt.toNat := rfl
        omega
      have hxne : x ≠ 0 := fun h => by
        rw [h] at hx
        have : (0 : Int32).toInt = 0 := rfl
        omega
      have es : am_qast (pw_P L xs) 21 la [.ref (285 + 90 * m.2.2), .int ii, .ref (p + 1)] (fl_H (m.1, m.2.1, m.2.2 + 1)) = some (22, la, [], fl_H (fl_up m.1 (p + 1) i x, m.2.1, m.2.2 + 1)) := by
        show ((match (fl_H (m.1, m.2.1, m.2.2 + 1)).1[p + 1]?, (fl_H (m.1, m.2.1, m.2.2 + 1)).1[285 + 90 * m.2.2]? with
          | some (.inl (t, n, .inr (.inr (.inr (.inr f))))), some (.inr (cj, _)) => bif decide (2 ≤ t ∧ t < 5) && (decide (pw_elt t = cj) && am_in ii n) then some (21 + 1, la, [], ((fl_H (m.1, m.2.1, m.2.2 + 1)).1.set (p + 1) (.inl (t, n, .inr (.inr (.inr (.inr (va_up f ii.toNatClampNeg (some (285 + 90 * m.2.2)))))))), (fl_H (m.1, m.2.1, m.2.2 + 1)).2)) else none
          | _, _ => none) : Option am_C) = _
        rw [hrow, hN2]
        show ((bif decide (2 ≤ 4 ∧ 4 < 5) && (decide (pw_elt 4 = 4) && am_in ii 20) then some (21 + 1, la, [], ((fl_H (m.1, m.2.1, m.2.2 + 1)).1.set (p + 1) (.inl (4, 20, .inr (.inr (.inr (.inr (va_up (fun i => if i < 20 then (if m.1 (p + 1) i = 0 then none else some (m.1 (p + 1) i).toNatClampNeg) else none) ii.toNatClampNeg (some (285 + 90 * m.2.2)))))))), (fl_H (m.1, m.2.1, m.2.2 + 1)).2)) else none) : Option am_C) = _
        rw [n1, n3]
        have ef : va_up (fun i => if i < 20 then (if m.1 (p + 1) i = 0 then none else some (m.1 (p + 1) i).toNatClampNeg) else none) i (some (285 + 90 * m.2.2)) = (fun j => if j < 20 then (if upd (m.1 (p + 1)) i x j = 0 then none else some (upd (m.1 (p + 1)) i x j).toNatClampNeg) else none) := by
          funext j
          unfold va_up upd
          by_cases hj : j = i
          · rw [if_pos hj, if_pos hj, if_pos (by omega), if_neg hxne, exN]
          · rw [if_neg hj, if_neg hj]
        rw [ef]
        have hset := fl_setR (m := ((m.1, m.2.1, m.2.2 + 1) : fl_M)) (p := p + 1) (w := upd (m.1 (p + 1)) i x) (by show p + 1 < fl_N (m.2.2 + 1); unfold fl_N; omega)
        rw [hkq] at hset
        rw [fl_up_row]
        show some (22, la, [], ((fl_H (m.1, m.2.1, m.2.2 + 1)).1.set (p + 1) (fl_ob (fk_kd 74) (p + 1) (upd (m.1 (p + 1)) i x) (m.2.1 (p + 1))), (fl_H (m.1, m.2.1, m.2.2 + 1)).2)) = _
        rw [hset]
      refine am_To.stp (ins := .aastore) (pc' := 22) (lv' := la) (st' := []) (M' := fl_H (fl_up m.1 (p + 1) i x, m.2.1, m.2.2 + 1)) rfl rfl rfl ?_ ?_
      · rw [hN]
        exact es
      · refine at_t22 (m := (fl_up m.1 (p + 1) i x, m.2.1, m.2.2 + 1)) (x := 285 + 90 * m.2.2) hkp hpl hkq hq hi hi2 ?_ ?_ ⟨g2, g3, ⟨285 + 90 * m.2.2, rfl, at_K25 _, ?_, by omega⟩⟩ la hl
        · show fl_up m.1 (p + 1) i x (p + 1) i ≠ 0
          rw [bl_ue]
          exact hxne
        · show (fl_up m.1 (p + 1) i x (p + 1) i).toInt = _
          rw [bl_ue, hx]
          omega
        · show 285 + 90 * m.2.2 < fl_N (m.2.2 + 1)
          unfold fl_N
          omega
  · -- there already
    rw [if_neg h0] at e
    obtain ⟨j, hj, hx⟩ : ∃ j, j < m.2.2 ∧ (m.1 (p + 1) i).toInt = 285 + 90 * (j : Int) := by
      rcases hg.2.2.1 (p + 1) hq i hi2 with h | h
      · exact absurd h h0
      · exact h
    have ex : (m.1 (p + 1) i).toNatClampNeg = 285 + 90 * j := by
      have : (m.1 (p + 1) i).toNatClampNeg = (m.1 (p + 1) i).toInt.toNat := rfl
      omega
    rw [ex] at e
    refine fl_Tq.gen (ins := .aaload) (pc' := 6) (lv' := [some (.inr (.inr (.inl (73, p)))), some (.inl ii)]) (st' := [.inr (.inr (.inl (25, 285 + 90 * j)))]) rfl rfl rfl (fun la hl => ⟨la, e la, hl⟩) ?_
    refine fl_Tq.gen (ins := .ifnonnull 16) (pc' := 22) (lv' := [some (.inr (.inr (.inl (73, p)))), some (.inl ii)]) (st' := []) rfl rfl rfl (fun la hl => ⟨la, rfl, hl⟩) ?_
    have h40 := hg.2.2.h40
    refine at_t22 (x := 285 + 90 * j) hkp hpl hkq hq hi hi2 h0 (by omega) ⟨hg, at_MD.rf, ⟨285 + 90 * j, rfl, at_K25 _, by unfold fl_N; omega, by omega⟩⟩
end ATSA

end

/-! 89.10.middle.lean.txt -/
section
/-! ===== rank, middle: some cell has the place ===== -/
theorem at_php : ∀ (n : Nat) (f : Nat → Nat), (∀ c, c < n → f c < n) → (∀ c d, c < n → d < n → f c = f d → c = d) → ∀ i, i < n → ∃ c, c < n ∧ f c = i := by
  intro n
  induction n with
  | zero => intro f _ _ i hi; omega
  | succ n ih =>
    intro f h1 h2 i hi
    have hg1 : ∀ c, c < n → (if f c = n then f n else f c) < n := by
      intro c hc
      have := h1 c (by omega)
      have := h1 n (by omega)
      split
      · rename_i e
        have : f n ≠ n := fun e2 => by have := h2 c n (by omega) (by omega) (by omega); omega
        omega
      · omega
    have hg2 : ∀ c d, c < n → d < n → (if f c = n then f n else f c) = (if f d = n then f n else f d) → c = d := by
      intro c d hc hd e
      split at e
      · split at e
        · exact h2 c d (by omega) (by omega) (by omega)
        · have := h2 n d (by omega) (by omega) e; omega
      · split at e
        · have := h2 c n (by omega) (by omega) e; omega
        · exact h2 c d (by omega) (by omega) e
    by_cases hin : i = f n
    · exact ⟨n, by omega, hin.symm⟩
    by_cases hi2 : i < n
    · obtain ⟨c, hc, e⟩ := ih (fun c => if f c = n then f n else f c) hg1 hg2 i hi2
      try dsimp only at e
      split at e
      · exact absurd e.symm hin
      · exact ⟨c, by omega, e⟩
    · have hi3 : i = n := by omega
      subst hi3
      have hfn : f i < i := by have := h1 i (by omega); omega
      obtain ⟨c, hc, e⟩ := ih (fun c => if f c = i then f i else f c) hg1 hg2 (f i) hfn
      try dsimp only at e
      split at e
      · rename_i e2
        exact ⟨c, by omega, e2⟩
      · have := h2 c i (by omega) (by omega) e; omega
/-- how many below n are so -/
def at_ct (P : Nat → Bool) : Nat → Nat
  | 0 => 0
  | n + 1 => at_ct P n + (if P n then 1 else 0)
theorem at_ct_le (P : Nat → Bool) : ∀ n, at_ct P n ≤ n := by
  intro n
  induction n with
  | zero => exact Nat.le_refl 0
  | succ n ih => unfold at_ct; split <;> omega
theorem at_ct_mono {P R : Nat → Bool} (h : ∀ e, P e = true → R e = true) : ∀ n, at_ct P n ≤ at_ct R n := by
  intro n
  induction n with
  | zero => exact Nat.le_refl 0
  | succ n ih =>
    unfold at_ct
    cases hp : P n with
    | true => rw [if_pos rfl, if_pos (h n hp)]; omega
    | false => rw [if_neg (by decide)]; omega
theorem at_ct_lt {P R : Nat → Bool} (h : ∀ e, P e = true → R e = true) {d : Nat} (h1 : P d = false) (h2 : R d = true) : ∀ n, d < n → at_ct P n < at_ct R n := by
  intro n
  induction n with
  | zero => intro hd; omega
  | succ n ih =>
    intro hd
    unfold at_ct
    by_cases e : d = n
    · subst e
      rw [h1, h2, if_neg (by decide), if_pos rfl]
      have := at_ct_mono h d
      omega
    · have := ih (by omega)
      cases hp : P n with
      | true => rw [if_pos rfl, if_pos (h n hp)]; omega
      | false => rw [if_neg (by decide)]; omega
theorem at_ct_tt {P : Nat → Bool} {d : Nat} (h1 : P d = false) (n : Nat) (hd : d < n) : at_ct P n < n := by
  have h := at_ct_lt (P := P) (R := fun _ => true) (fun _ _ => rfl) h1 rfl n hd
  have := at_ct_le (fun _ => true) n
  omega
/-- e comes ahead of c -/
def at_bf (f : Nat → Int) (c e : Nat) : Bool := decide (f c < f e) || (decide (f e = f c) && decide (e < c))
theorem at_bf_tr {f : Nat → Int} {a b c : Nat} (h1 : at_bf f c b = true) (h2 : at_bf f b a = true) : at_bf f c a = true := by
  unfold at_bf at h1 h2 ⊢
  simp only [Bool.or_eq_true, Bool.and_eq_true, decide_eq_true_eq] at h1 h2 ⊢
  omega
theorem at_bf_ir (f : Nat → Int) (c : Nat) : at_bf f c c = false := by
  unfold at_bf
  simp
theorem at_bf_to {f : Nat → Int} {c d : Nat} (h : c ≠ d) : at_bf f c d = true ∨ at_bf f d c = true := by
  unfold at_bf
  simp only [Bool.or_eq_true, Bool.and_eq_true, decide_eq_true_eq]
  omega
theorem at_rank_ex (f : Nat → Int) (n i : Nat) (hi : i < n) : ∃ c, c < n ∧ at_ct (at_bf f c) n = i := by
  refine at_php n (fun c => at_ct (at_bf f c) n) (fun c hc => at_ct_tt (at_bf_ir f c) n hc) (fun c d hc hd e => ?_) i hi
  try dsimp only at e
  rcases Classical.em (c = d) with h | h
  · exact h
  · exfalso
    rcases at_bf_to (f := f) h with h1 | h1
    · have := at_ct_lt (P := at_bf f d) (R := at_bf f c) (fun x hx => at_bf_tr h1 hx) (at_bf_ir f d) h1 n hd
      omega
    · have := at_ct_lt (P := at_bf f c) (R := at_bf f d) (fun x hx => at_bf_tr h1 hx) (at_bf_ir f c) h1 n hc
      omega
section ATMI
variable {L : Nat} {xs : Nat → Int32} {m : fl_M} {Q : Option fl_V → fl_M → Prop}
def at_pv (m : fl_M) (c : Nat) : Int32 := (((1000 : Int64) * (m.1 280 (444 + 61 * c + 1)).toInt64) / ((Int16.ofInt 3600).toInt32 * m.1 280 (444 + 61 * c + 0)).toInt64).toInt32
theorem at_fullx {c : Nat} {ci : Int32} (hc : ci.toInt = c) (hc2 : c < 16) (k : Q (some (.inl ((Int16.ofInt 3600).toInt32 * m.1 280 (444 + 61 * c + 0)))) m) : fl_Tq (pw_P L xs) 195 0 (fl_args (am_mxl (pw_P L xs) 195) [at_this, .inl ci]) [] m Q := by
  refine fl_Tq.stp rfl rfl (fl_bo rfl) rfl ?_
  refine fl_Tq.stp rfl rfl (fl_bo rfl) rfl ?_
  refine fl_Tq.stp rfl rfl (fl_bo rfl) rfl ?_
  refine fl_Tq.stp rfl rfl (fl_bo rfl) rfl ?_
  refine fl_Tq.cal rfl rfl (fl_bo rfl) rfl ?_
  refine at_get (w := 0) hc (by decide) hc2 (by decide) ?_
  refine fl_Tq.stp rfl rfl (fl_bo rfl) rfl ?_
  exact fl_Tq.ret rfl rfl rfl k
theorem fl_Tq.dvJ {P : am_Pg} {mi pc : Nat} {lv : fl_L} {r : List fl_V} {x y : Int64} (hc : am_code P mi pc = some .ldiv) (hok : ∀ v ∈ (.inr (.inl y) :: .inr (.inl x) :: r : List fl_V), fl_ok m.2.2 v) (hy : y ≠ 0) (q : fl_Tq P mi (pc + 1) lv (.inr (.inl (x / y)) :: r) m Q) : fl_Tq P mi pc lv (.inr (.inl y) :: .inr (.inl x) :: r) m Q := fl_Tq.stp hc rfl hok (show (if y = 0 then none else some (pc + 1, lv, Sum.inr (Sum.inl (x / y)) :: r, m) : Option fl_C) = _ from if_neg hy) q
theorem at_pof {c : Nat} {ci : Int32} (hc : ci.toInt = c) (hc2 : c < 16) (hr : 100 ≤ at_w m (444 + 61 * c) ∧ at_w m (444 + 61 * c) ≤ 9999) (k : Q (some (.inl (at_pv m c))) m) : fl_Tq (pw_P L xs) 197 0 (fl_args (am_mxl (pw_P L xs) 197) [at_this, .inl ci]) [] m Q := by
  have e1 : (Int16.ofInt 3600).toInt32.toInt = 3600 := by decide +kernel
  have e2 : (m.1 280 (444 + 61 * c + 0)).toInt = at_w m (444 + 61 * c) := rfl
  have e3 : ((Int16.ofInt 3600).toInt32 * m.1 280 (444 + 61 * c + 0)).toInt = 3600 * at_w m (444 + 61 * c) := by
    rw [at_mul32] <;> rw [e1, e2] <;> omega
  refine fl_Tq.stp rfl rfl (fl_bo rfl) rfl ?_
  refine fl_Tq.stp rfl rfl (fl_bo rfl) rfl ?_
  refine fl_Tq.stp rfl rfl (fl_bo rfl) rfl ?_
  refine fl_Tq.stp rfl rfl (fl_bo rfl) rfl ?_
  refine fl_Tq.stp rfl rfl (fl_bo rfl) rfl ?_
  refine fl_Tq.cal rfl rfl (fl_bo rfl) rfl ?_
  refine at_get (w := 1) hc (by decide) hc2 (by decide) ?_
  refine fl_Tq.cal rfl rfl (fl_bo rfl) rfl ?_
  refine fl_Tq.stp rfl rfl (fl_bo rfl) rfl ?_
  refine fl_Tq.stp rfl rfl (fl_bo rfl) rfl ?_
  refine fl_Tq.stp rfl rfl (fl_bo rfl) rfl ?_
  refine fl_Tq.stp rfl rfl (fl_bo rfl) rfl ?_
  refine fl_Tq.stp rfl rfl (fl_bo rfl) rfl ?_
  refine fl_Tq.stp rfl rfl (fl_bo rfl) rfl ?_
  refine fl_Tq.cal rfl rfl (fl_bo rfl) rfl ?_
  refine at_fullx hc hc2 ?_
  refine fl_Tq.stp rfl rfl (fl_bo rfl) rfl ?_
  refine fl_Tq.dvJ rfl (fl_bo rfl) ?_ ?_
  · intro h
    have h2 : ((Int16.ofInt 3600).toInt32 * m.1 280 (444 + 61 * c + 0)).toInt64.toInt = 0 := by rw [h]; rfl
    rw [Int32.toInt_toInt64, e3] at h2
    omega
  refine fl_Tq.stp rfl rfl (fl_bo rfl) rfl ?_
  refine fl_Tq.ret rfl rfl rfl ?_
  exact fl_Tq.ret rfl rfl rfl k
theorem at_rank {i n : Nat} {ii : Int32} (hg : at_Good at_XI m) (hi : ii.toInt = i) (hn : (m.1 280 2).toInt = n) (hin : i < n) (k : ∀ c : Nat, c < n → Q (some (.inl (Int32.ofNat c))) m) : fl_Tq (pw_P L xs) 295 0 (fl_args (am_mxl (pw_P L xs) 295) [at_this, .inl ii]) [] m Q := by
  have w2 : 0 ≤ (m.1 280 2).toInt ∧ (m.1 280 2).toInt ≤ 16 := hg.w2
  have hA := hg.AK
  have cap : ∀ c : Nat, c < n → 100 ≤ at_w m (444 + 61 * c) ∧ at_w m (444 + 61 * c) ≤ 9999 := by
    intro c hc
    have h16 : c < 16 := by omega
    obtain ⟨x1, -⟩ := hA.2.1 c h16 (by show (c : Int) < (m.1 280 2).toInt; omega)
    have := hA.1 (1, 444, 61, 16, 1, 0, 9999) (by decide +kernel) (444 + 61 * c) (by omega) ⟨c, 0, by omega, by show (c : Int) ≤ 16 - 1; omega, by decide, by decide, by show ((444 + 61 * c : Nat) : Int) = 444 + 61 * (c : Int) + 0; omega⟩
    exact ⟨x1, this.2⟩
  obtain ⟨c0, hc0, e0⟩ := at_rank_ex (fun c => (at_pv m c).toInt) n i hin
  have inner : ∀ (c : Nat), c < n → ∀ (d e : Nat), e + d = n → (∀ (v : Int32), v.toInt = at_ct (at_bf (fun c => (at_pv m c).toInt) c) n → fl_Tq (pw_P L xs) 295 76 [some at_this, some (.inl ii), some (.inl (Int32.ofNat c)), some (.inl v), some (.inl (Int32.ofNat n))] [] m Q) → ∀ v : Int32, v.toInt = at_ct (at_bf (fun c => (at_pv m c).toInt) c) e → fl_Tq (pw_P L xs) 295 17 [some at_this, some (.inl ii), some (.inl (Int32.ofNat c)), some (.inl v), some (.inl (Int32.ofNat e))] [] m Q := by
    intro c hc d
    have ec := at_ofN (k := c) (by omega)
    induction d with
    | zero =>
      intro e he kk v hv
      have he : e = n := by omega
      subst he
      have ee := at_ofN (k := e) (by omega)
      refine fl_Tq.stp rfl rfl (fl_bo rfl) rfl ?_
      refine fl_Tq.stp rfl rfl (fl_bo rfl) rfl ?_
      refine fl_Tq.stp rfl rfl (fl_bo rfl) rfl ?_
      refine fl_Tq.stp rfl rfl (fl_bo rfl) rfl ?_
      refine fl_Tq.ld (p := 280) (τ := 79) (n := 29780) (z := (0, 0, 0)) (k := 2) rfl (fl_bo rfl) rfl rfl (by decide) ?_
      refine fl_Tq.jt rfl (fl_bo rfl) ?_ rfl ?_
      · rw [at_c2, ee]
        exact decide_eq_true (by omega)
      exact kk v hv
    | succ d ih =>
      intro e he kk v hv
      have ee := at_ofN (k := e) (by omega)
      have hle := at_ct_le (at_bf (fun c => (at_pv m c).toInt) c) e
      refine fl_Tq.stp rfl rfl (fl_bo rfl) rfl ?_
      refine fl_Tq.stp rfl rfl (fl_bo rfl) rfl ?_
      refine fl_Tq.stp rfl rfl (fl_bo rfl) rfl ?_
      refine fl_Tq.stp rfl rfl (fl_bo rfl) rfl ?_
      refine fl_Tq.ld (p := 280) (τ := 79) (n := 29780) (z := (0, 0, 0)) (k := 2) rfl (fl_bo rfl) rfl rfl (by decide) ?_
      refine fl_Tq.jf rfl (fl_bo rfl) ?_ rfl ?_
      · rw [at_c2, ee]
        exact decide_eq_false (by omega)
      have fin : ∀ b : Int32, (b.toInt = if at_bf (fun c => (at_pv m c).toInt) c e = true then 1 else 0) → fl_Tq (pw_P L xs) 295 68 [some at_this, some (.inl ii), some (.inl (Int32.ofNat c)), some (.inl v), some (.inl (Int32.ofNat e))] [.inl b, .inl v] m Q := by
        intro b hb
        refine fl_Tq.stp rfl rfl (fl_bo rfl) rfl ?_
        refine fl_Tq.stp rfl rfl (fl_bo rfl) rfl ?_
        refine fl_Tq.stp rfl rfl (fl_bo rfl) rfl ?_
        refine fl_Tq.stp rfl rfl (fl_bo rfl) rfl ?_
        have hv2 : (v + b).toInt = at_ct (at_bf (fun c => (at_pv m c).toInt) c) (e + 1) := by
          unfold at_ct
          rw [at_add32] <;> rw [hv, hb] <;> split <;> omega
        have := ih (e + 1) (by omega) kk (v + b) hv2
        rw [← at_inc (by omega)] at this
        exact this
      have t1 : ∀ b : Int32, b = Int32.ofInt 1 → b.toInt = 1 := fun b h => by rw [h]; rfl
      have t0 : ∀ b : Int32, b = Int32.ofInt 0 → b.toInt = 0 := fun b h => by rw [h]; rfl
      refine fl_Tq.stp rfl rfl (fl_bo rfl) rfl ?_
      refine fl_Tq.stp rfl rfl (fl_bo rfl) rfl ?_
      refine fl_Tq.stp rfl rfl (fl_bo rfl) rfl ?_
      refine fl_Tq.cal rfl rfl (fl_bo rfl) rfl ?_
      refine at_pof ee (by omega) (cap e (by omega)) ?_
      refine fl_Tq.stp rfl rfl (fl_bo rfl) rfl ?_
      refine fl_Tq.stp rfl rfl (fl_bo rfl) rfl ?_
      refine fl_Tq.cal rfl rfl (fl_bo rfl) rfl ?_
      refine at_pof ec (by omega) (cap c hc) ?_
      by_cases h1 : (at_pv m c).toInt < (at_pv m e).toInt
      · refine fl_Tq.jt rfl (fl_bo rfl) ?_ rfl ?_
        · rw [at_c2]
          exact decide_eq_true (by omega)
        refine fl_Tq.stp rfl rfl (fl_bo rfl) rfl ?_
        refine fl_Tq.stp rfl rfl (fl_bo rfl) rfl ?_
        refine fin _ ?_
        rw [t1 _ rfl, if_pos]
        unfold at_bf
        simp [h1]
      refine fl_Tq.jf rfl (fl_bo rfl) ?_ rfl ?_
      · rw [at_c2]
        exact decide_eq_false (by omega)
      refine fl_Tq.stp rfl rfl (fl_bo rfl) rfl ?_
      refine fl_Tq.stp rfl rfl (fl_bo rfl) rfl ?_
      refine fl_Tq.cal rfl rfl (fl_bo rfl) rfl ?_
      refine at_pof ee (by omega) (cap e (by omega)) ?_
      refine fl_Tq.stp rfl rfl (fl_bo rfl) rfl ?_
      refine fl_Tq.stp rfl rfl (fl_bo rfl) rfl ?_
      refine fl_Tq.cal rfl rfl (fl_bo rfl) rfl ?_
      refine at_pof ec (by omega) (cap c hc) ?_
      by_cases h2 : (at_pv m e).toInt = (at_pv m c).toInt
      · refine fl_Tq.jf rfl (fl_bo rfl) ?_ rfl ?_
        · rw [at_c2]
          show (!decide _) = false
          rw [decide_eq_true (by omega)]
          rfl
        refine fl_Tq.stp rfl rfl (fl_bo rfl) rfl ?_
        refine fl_Tq.stp rfl rfl (fl_bo rfl) rfl ?_
        by_cases h3 : e < c
        · refine fl_Tq.jf rfl (fl_bo rfl) ?_ rfl ?_
          · rw [at_c2, ee, ec]
            exact decide_eq_false (by omega)
          refine fl_Tq.stp rfl rfl (fl_bo rfl) rfl ?_
          refine fl_Tq.stp rfl rfl (fl_bo rfl) rfl ?_
          refine fin _ ?_
          rw [t1 _ rfl, if_pos]
          unfold at_bf
          simp [h2, h3]
        · refine fl_Tq.jt rfl (fl_bo rfl) ?_ rfl ?_
          · rw [at_c2, ee, ec]
            exact decide_eq_true (by omega)
          refine fl_Tq.stp rfl rfl (fl_bo rfl) rfl ?_
          refine fin _ ?_
          rw [t0 _ rfl, if_neg]
          unfold at_bf
          simp [h2, h3]
      · refine fl_Tq.jt rfl (fl_bo rfl) ?_ rfl ?_
        · rw [at_c2]
          show (!decide _) = true
          rw [decide_eq_false (by omega)]
          rfl
        refine fl_Tq.stp rfl rfl (fl_bo rfl) rfl ?_
        refine fin _ ?_
        rw [t0 _ rfl, if_neg]
        unfold at_bf
        simp [h1, h2]
  have outer : ∀ (d c : Nat) (o3 o4 : Option fl_V), c + d = c0 → fl_Tq (pw_P L xs) 295 2 [some at_this, some (.inl ii), some (.inl (Int32.ofNat c)), o3, o4] [] m Q := by
    intro d
    induction d with
    | zero =>
      intro c o3 o4 hc
      have hc : c = c0 := by omega
      subst hc
      have ec := at_ofN (k := c) (by omega)
      refine fl_Tq.stp rfl rfl (fl_bo rfl) rfl ?_
      refine fl_Tq.stp rfl rfl (fl_bo rfl) rfl ?_
      refine fl_Tq.stp rfl rfl (fl_bo rfl) rfl ?_
      refine fl_Tq.stp rfl rfl (fl_bo rfl) rfl ?_
      refine fl_Tq.ld (p := 280) (τ := 79) (n := 29780) (z := (0, 0, 0)) (k := 2) rfl (fl_bo rfl) rfl rfl (by decide) ?_
      refine fl_Tq.jf rfl (fl_bo rfl) ?_ rfl ?_
      · rw [at_c2, ec]
        exact decide_eq_false (by omega)
      refine fl_Tq.stp rfl rfl (fl_bo rfl) rfl ?_
      refine fl_Tq.stp rfl rfl (fl_bo rfl) rfl ?_
      refine fl_Tq.stp rfl rfl (fl_bo rfl) rfl ?_
      refine fl_Tq.stp rfl rfl (fl_bo rfl) rfl ?_
      refine inner c hc0 n 0 (by omega) (fun v hv => ?_) _ rfl
      refine fl_Tq.stp rfl rfl (fl_bo rfl) rfl ?_
      refine fl_Tq.stp rfl rfl (fl_bo rfl) rfl ?_
      refine fl_Tq.jf rfl (fl_bo rfl) ?_ rfl ?_
      · rw [at_c2, hv, e0, hi]
        show (!decide _) = false
        rw [decide_eq_true (by omega)]
        rfl
      refine fl_Tq.stp rfl rfl (fl_bo rfl) rfl ?_
      exact fl_Tq.ret rfl rfl rfl (k c hc0)
    | succ d ih =>
      intro c o3 o4 hc
      have ec := at_ofN (k := c) (by omega)
      refine fl_Tq.stp rfl rfl (fl_bo rfl) rfl ?_
      refine fl_Tq.stp rfl rfl (fl_bo rfl) rfl ?_
      refine fl_Tq.stp rfl rfl (fl_bo rfl) rfl ?_
      refine fl_Tq.stp rfl rfl (fl_bo rfl) rfl ?_
      refine fl_Tq.ld (p := 280) (τ := 79) (n := 29780) (z := (0, 0, 0)) (k := 2) rfl (fl_bo rfl) rfl rfl (by decide) ?_
      refine fl_Tq.jf rfl (fl_bo rfl) ?_ rfl ?_
      · rw [at_c2, ec]
        exact decide_eq_false (by omega)
      refine fl_Tq.stp rfl rfl (fl_bo rfl) rfl ?_
      refine fl_Tq.stp rfl rfl (fl_bo rfl) rfl ?_
      refine fl_Tq.stp rfl rfl (fl_bo rfl) rfl ?_
      refine fl_Tq.stp rfl rfl (fl_bo rfl) rfl ?_
      refine inner c (by omega) n 0 (by omega) (fun v hv => ?_) _ rfl
      refine fl_Tq.stp rfl rfl (fl_bo rfl) rfl ?_
      refine fl_Tq.stp rfl rfl (fl_bo rfl) rfl ?_
      by_cases hvi : v.toInt = ii.toInt
      · refine fl_Tq.jf rfl (fl_bo rfl) ?_ rfl ?_
        · rw [at_c2]
          show (!decide _) = false
          rw [decide_eq_true (by omega)]
          rfl
        refine fl_Tq.stp rfl rfl (fl_bo rfl) rfl ?_
        exact fl_Tq.ret rfl rfl rfl (k c (by omega))
      · refine fl_Tq.jt rfl (fl_bo rfl) ?_ rfl ?_
        · rw [at_c2]
          show (!decide _) = true
          rw [decide_eq_false (by omega)]
          rfl
        refine fl_Tq.stp rfl rfl (fl_bo rfl) rfl ?_
        refine fl_Tq.stp rfl rfl (fl_bo rfl) rfl ?_
        have := ih (c + 1) (some (.inl v)) (some (.inl (Int32.ofNat n))) (by omega)
        rw [← at_inc (by omega)] at this
        exact this
  refine fl_Tq.stp rfl rfl (fl_bo rfl) rfl ?_
  refine fl_Tq.stp rfl rfl (fl_bo rfl) rfl ?_
  exact outer c0 0 none none (by omega)
def at_cPO2 : at_C := (197, [.inl (76, some 277), .inr (false, 0, 15)], [(1, 0)], some (.inr (false, 0, 1000)), false, [])
set_option maxRecDepth 1000000 in
theorem at_cPO2_k : at_chk [] at_JT 4000 at_cPO2 = true := by decide +kernel
theorem at_v296 : at_Valid at_XI (pw_P L xs) (296, [.inl (76, some 277)], [], some (.inr (false, -1, 1000)), false, []) := by
  intro m vs hg hk _
  obtain ⟨r, rfl, hk2⟩ := at_ag277 hk
  have hr0 := at_agnil (vs := r) hk2
  subst hr0
  have w2 : 0 ≤ (m.1 280 2).toInt ∧ (m.1 280 2).toInt ≤ 16 := hg.w2
  obtain ⟨n, hn⟩ : ∃ n : Nat, (m.1 280 2).toInt = n := ⟨(m.1 280 2).toInt.toNat, by omega⟩
  refine fl_Tq.stp rfl rfl (fl_bo rfl) rfl ?_
  refine fl_Tq.stp rfl rfl (fl_bo rfl) rfl ?_
  refine fl_Tq.stp rfl rfl (fl_bo rfl) rfl ?_
  refine fl_Tq.ld (p := 280) (τ := 79) (n := 29780) (z := (0, 0, 0)) (k := 2) rfl (fl_bo rfl) rfl rfl (by decide) ?_
  by_cases h0 : n = 0
  · refine fl_Tq.zf rfl (fl_bo rfl) ?_ rfl ?_
    · rw [at_c1, hn]
      show (!decide _) = false
      rw [decide_eq_true (by omega)]
      rfl
    refine fl_Tq.stp rfl rfl (fl_bo rfl) rfl ?_
    refine fl_Tq.stp rfl rfl (fl_bo rfl) rfl ?_
    refine fl_Tq.ret rfl rfl rfl ⟨hg, at_MD.rf, ⟨_, rfl, by decide +kernel, by decide +kernel, fun h => by cases h⟩⟩
  · refine fl_Tq.zt rfl (fl_bo rfl) ?_ rfl ?_
    · rw [at_c1, hn]
      show (!decide _) = true
      rw [decide_eq_false (by omega)]
      rfl
    refine fl_Tq.stp rfl rfl (fl_bo rfl) rfl ?_
    refine fl_Tq.stp rfl rfl (fl_bo rfl) rfl ?_
    refine fl_Tq.stp rfl rfl (fl_bo rfl) rfl ?_
    refine fl_Tq.stp rfl rfl (fl_bo rfl) rfl ?_
    refine fl_Tq.stp rfl rfl (fl_bo rfl) rfl ?_
    refine fl_Tq.ld (p := 280) (τ := 79) (n := 29780) (z := (0, 0, 0)) (k := 2) rfl (fl_bo rfl) rfl rfl (by decide) ?_
    refine fl_Tq.stp rfl rfl (fl_bo rfl) rfl ?_
    refine fl_Tq.dv rfl (fl_bo rfl) (by decide +kernel) ?_
    have e2 : (Int32.ofInt 2).toInt = 2 := rfl
    have eh : (m.1 280 2 / Int32.ofInt 2).toInt = ((n / 2 : Nat) : Int) := by
      rw [Int32.toInt_div, e2, hn, Int.tdiv_eq_ediv_of_nonneg (by omega)]
      rw [Int.bmod_eq_of_le (by omega) (by omega)]
      omega
    refine fl_Tq.cal rfl rfl (fl_bo rfl) rfl ?_
    refine at_rank hg eh hn (by omega) (fun c hc => ?_)
    have ec := at_ofN (k := c) (by omega)
    refine fl_Tq.cal rfl rfl (fl_bo rfl) rfl ?_
    refine fl_Tq.mono (at_vok at_cPO2_k m [at_this, .inl (Int32.ofNat c)] hg ⟨at_k277 _, ⟨_, rfl, by omega, by omega⟩, True.intro⟩ (fun q hq => by cases List.mem_singleton.mp hq; exact ⟨_, rfl, by unfold at_w; rw [ec]; omega⟩)) (fun v m1 ⟨hg1, hm1, hv1⟩ => ?_)
    obtain ⟨x, rfl, x1, x2, -⟩ := hv1
    exact fl_Tq.ret rfl rfl rfl ⟨hg1, hm1, ⟨x, rfl, by omega, x2, fun h => by cases h⟩⟩
end ATMI

end

/-! 89.11.cheap.lean.txt -/
section
/-! ===== the reference's cheapest: its table says where there is no way ===== -/
section ATCH
variable {L : Nat} {xs : Nat → Int32} {m : fl_M} {Q : Option fl_V → fl_M → Prop}
theorem at_isin {v l t : Int32} (k : ∀ b : Int32, (b = 1 ∧ l.toInt ≤ v.toInt ∧ v.toInt ≤ t.toInt) ∨ (b = 0 ∧ ¬ (l.toInt ≤ v.toInt ∧ v.toInt ≤ t.toInt)) → Q (some (.inl b)) m) : fl_Tq (pw_P L xs) 185 0 (fl_args (am_mxl (pw_P L xs) 185) [.inl v, .inl l, .inl t]) [] m Q := by
  refine fl_Tq.stp rfl rfl (fl_bo rfl) rfl ?_
  refine fl_Tq.stp rfl rfl (fl_bo rfl) rfl ?_
  by_cases h1 : v.toInt < l.toInt
  · refine fl_Tq.jt rfl (fl_bo rfl) (by rw [at_c2]; exact decide_eq_true (by omega)) rfl ?_
    refine fl_Tq.stp rfl rfl (fl_bo rfl) rfl ?_
    exact fl_Tq.ret rfl rfl rfl (k _ (Or.inr ⟨rfl, by omega⟩))
  refine fl_Tq.jf rfl (fl_bo rfl) (by rw [at_c2]; exact decide_eq_false (by omega)) rfl ?_
  refine fl_Tq.stp rfl rfl (fl_bo rfl) rfl ?_
  refine fl_Tq.stp rfl rfl (fl_bo rfl) rfl ?_
  by_cases h2 : t.toInt < v.toInt
  · refine fl_Tq.jt rfl (fl_bo rfl) (by rw [at_c2]; exact decide_eq_true (by omega)) rfl ?_
    refine fl_Tq.stp rfl rfl (fl_bo rfl) rfl ?_
    exact fl_Tq.ret rfl rfl rfl (k _ (Or.inr ⟨rfl, by omega⟩))
  refine fl_Tq.jf rfl (fl_bo rfl) (by rw [at_c2]; exact decide_eq_false (by omega)) rfl ?_
  refine fl_Tq.stp rfl rfl (fl_bo rfl) rfl ?_
  refine fl_Tq.stp rfl rfl (fl_bo rfl) rfl ?_
  exact fl_Tq.ret rfl rfl rfl (k _ (Or.inl ⟨rfl, by omega, by omega⟩))
/-- the place of a price -/
def at_px (h k mm t : Nat) : Nat := ((h * 25 + k) * 13 + mm) * 2 + t
theorem at_price {h k mm t : Nat} {hi ki mi_ ti : Int32} (eh : hi.toInt = h) (ek : ki.toInt = k) (em : mi_.toInt = mm) (et : ti.toInt = t) (bh : h ≤ 24) (bk : k ≤ 24) (bm : mm ≤ 12) (bt : t ≤ 1) (kk : ∀ v : Int32, v.toInt = at_px h k mm t → Q (some (.inl v)) m) : fl_Tq (pw_P L xs) 305 0 (fl_args (am_mxl (pw_P L xs) 305) [.inl hi, .inl ki, .inl mi_, .inl ti]) [] m Q := by
  refine fl_Tq.stp rfl rfl (fl_bo rfl) rfl ?_
  refine fl_Tq.stp rfl rfl (fl_bo rfl) rfl ?_
  refine fl_Tq.stp rfl rfl (fl_bo rfl) rfl ?_
  refine fl_Tq.stp rfl rfl (fl_bo rfl) rfl ?_
  refine fl_Tq.stp rfl rfl (fl_bo rfl) rfl ?_
  refine fl_Tq.stp rfl rfl (fl_bo rfl) rfl ?_
  refine fl_Tq.stp rfl rfl (fl_bo rfl) rfl ?_
  refine fl_Tq.stp rfl rfl (fl_bo rfl) rfl ?_
  refine fl_Tq.stp rfl rfl (fl_bo rfl) rfl ?_
  refine fl_Tq.stp rfl rfl (fl_bo rfl) rfl ?_
  refine fl_Tq.stp rfl rfl (fl_bo rfl) rfl ?_
  refine fl_Tq.stp rfl rfl (fl_bo rfl) rfl ?_
  refine fl_Tq.stp rfl rfl (fl_bo rfl) rfl ?_
  refine fl_Tq.ret rfl rfl rfl (kk _ ?_)
  dsimp only
  have e25 : (Int8.ofInt 25).toInt32.toInt = 25 := by decide +kernel
  have e13 : (Int8.ofInt 13).toInt32.toInt = 13 := by decide +kernel
  have e2 : (Int32.ofInt 2).toInt = 2 := rfl
  have a1 : (hi * (Int8.ofInt 25).toInt32).toInt = (h : Int) * 25 := by rw [at_mul32] <;> rw [eh, e25] <;> omega
  have a2 : (hi * (Int8.ofInt 25).toInt32 + ki).toInt = (h : Int) * 25 + k := by rw [at_add32] <;> rw [a1, ek] <;> omega
  have a3 : ((hi * (Int8.ofInt 25).toInt32 + ki) * (Int8.ofInt 13).toInt32).toInt = ((h : Int) * 25 + k) * 13 := by rw [at_mul32] <;> rw [a2, e13] <;> omega
  have a4 : ((hi * (Int8.ofInt 25).toInt32 + ki) * (Int8.ofInt 13).toInt32 + mi_).toInt = ((h : Int) * 25 + k) * 13 + mm := by rw [at_add32] <;> rw [a3, em] <;> omega
  have a5 : (((hi * (Int8.ofInt 25).toInt32 + ki) * (Int8.ofInt 13).toInt32 + mi_) * Int32.ofInt 2).toInt = (((h : Int) * 25 + k) * 13 + mm) * 2 := by rw [at_mul32] <;> rw [a4, e2] <;> omega
  unfold at_px
  rw [at_add32] <;> rw [a5, et] <;> omega
theorem at_dec {x : Int32} {n : Nat} (h : x.toInt = n) (h1 : 1 ≤ n) : (x - Int32.ofInt 1).toInt = ((n - 1 : Nat) : Int) := by
  have e1 : (Int32.ofInt 1).toInt = 1 := rfl
  have := at_i32 x
  rw [at_sub32] <;> rw [h, e1] <;> omega
theorem at_k83 : fk_K 284 = 83 := by decide +kernel
theorem at_taken {h k mm t : Nat} {hi ki mi_ ti : Int32} (eh : hi.toInt = h) (ek : ki.toInt = k) (em : mi_.toInt = mm) (et : ti.toInt = t) (bh : h ≤ 24) (bh1 : 1 ≤ h) (bk : k ≤ 24) (bm : mm ≤ 12) (bt : t ≤ 1) (kk : ∀ v : Int32, (k = 0 ∨ (t = 0 ∧ mm = 0) → v = Int32.ofInt (-1)) → Q (some (.inl v)) m) : fl_Tq (pw_P L xs) 306 0 (fl_args (am_mxl (pw_P L xs) 306) [at_this, .inl hi, .inl ki, .inl mi_, .inl ti]) [] m Q := by
  have e1 : (Int32.ofInt 1).toInt = 1 := rfl
  -- from place 13: s the stretches left
  have from13 : ∀ (s : Int32), s.toInt = (if t = 1 then (mm : Int) else (mm : Int) - 1) → fl_Tq (pw_P L xs) 306 13 [some at_this, some (.inl hi), some (.inl ki), some (.inl mi_), some (.inl ti), none, none] [.inl s] m Q := by
    intro s hs
    refine fl_Tq.stp rfl rfl (fl_bo rfl) rfl ?_
    refine fl_Tq.stp rfl rfl (fl_bo rfl) rfl ?_
    by_cases hk : k = 0
    · refine fl_Tq.zt rfl (fl_bo rfl) (by rw [at_c1, ek, hk]; rfl) rfl ?_
      refine fl_Tq.stp rfl rfl (fl_bo rfl) rfl ?_
      exact fl_Tq.ret rfl rfl rfl (kk _ (fun _ => rfl))
    refine fl_Tq.zf rfl (fl_bo rfl) (by rw [at_c1, ek]; exact decide_eq_false (by omega)) rfl ?_
    refine fl_Tq.stp rfl rfl (fl_bo rfl) rfl ?_
    by_cases hs0 : s.toInt < 0
    · refine fl_Tq.zf rfl (fl_bo rfl) (by rw [at_c1]; exact decide_eq_false (by omega)) rfl ?_
      refine fl_Tq.stp rfl rfl (fl_bo rfl) rfl ?_
      exact fl_Tq.ret rfl rfl rfl (kk _ (fun _ => rfl))
    have hns : ¬ (k = 0 ∨ (t = 0 ∧ mm = 0)) := by
      rintro (h | ⟨h, h'⟩)
      · exact hk h
      · rw [if_neg (by omega)] at hs; omega
    refine fl_Tq.zt rfl (fl_bo rfl) (by rw [at_c1]; exact decide_eq_true (by omega)) rfl ?_
    obtain ⟨sn, hsn⟩ : ∃ sn : Nat, s.toInt = sn := ⟨s.toInt.toNat, by omega⟩
    have bs : sn ≤ 12 := by split at hs <;> omega
    refine fl_Tq.stp rfl rfl (fl_bo rfl) rfl ?_
    refine fl_Tq.stp rfl rfl (fl_bo rfl) rfl ?_
    refine fl_Tq.stp rfl rfl (fl_bo rfl) rfl ?_
    refine fl_Tq.stp rfl rfl (fl_bo rfl) rfl ?_
    refine fl_Tq.stp rfl rfl (fl_bo rfl) rfl ?_
    refine fl_Tq.stp rfl rfl (fl_bo rfl) rfl ?_
    refine fl_Tq.stp rfl rfl (fl_bo rfl) rfl ?_
    refine fl_Tq.stp rfl rfl (fl_bo rfl) rfl ?_
    refine fl_Tq.stp rfl rfl (fl_bo rfl) rfl ?_
    refine fl_Tq.stp rfl rfl (fl_bo rfl) rfl ?_
    refine fl_Tq.cal rfl rfl (fl_bo rfl) rfl ?_
    refine at_price (h := h - 1) (k := k - 1) (mm := sn) (t := 1) (at_dec eh bh1) (at_dec ek (by omega)) hsn e1 (by omega) (by omega) bs (by omega) (fun v hv => ?_)
    refine fl_Tq.ld (p := 284) (τ := 83) (n := 16250) (z := (0, 0, 0)) (k := at_px (h - 1) (k - 1) sn 1) rfl (fl_bo rfl) rfl hv (by unfold at_px; omega) ?_
    refine fl_Tq.stp rfl rfl (fl_bo rfl) rfl ?_
    refine fl_Tq.stp rfl rfl (fl_bo rfl) rfl ?_
    refine fl_Tq.stp rfl rfl (fl_bo rfl) rfl ?_
    generalize m.1 284 (at_px (h - 1) (k - 1) sn 1) = rv
    by_cases hr : rv.toInt = -1
    · refine fl_Tq.jf rfl (fl_bo rfl) ?_ rfl ?_
      · rw [at_c2, hr]; rfl
      refine fl_Tq.stp rfl rfl (fl_bo rfl) rfl ?_
      refine fl_Tq.stp rfl rfl (fl_bo rfl) rfl ?_
      exact fl_Tq.ret rfl rfl rfl (kk _ (fun h => absurd h hns))
    · refine fl_Tq.jt rfl (fl_bo rfl) ?_ rfl ?_
      · rw [at_c2]
        show (!decide (rv.toInt - -1 = 0)) = true
        rw [decide_eq_false (by omega)]; rfl
      refine fl_Tq.stp rfl rfl (fl_bo rfl) rfl ?_
      refine fl_Tq.stp rfl rfl (fl_bo rfl) rfl ?_
      refine fl_Tq.stp rfl rfl (fl_bo rfl) rfl ?_
      refine fl_Tq.stp rfl rfl (fl_bo rfl) rfl ?_
      refine fl_Tq.stp rfl rfl (fl_bo rfl) rfl ?_
      refine fl_Tq.stp rfl rfl (fl_bo rfl) rfl ?_
      refine fl_Tq.stp rfl rfl (fl_bo rfl) rfl ?_
      refine fl_Tq.stp rfl rfl (fl_bo rfl) rfl ?_
      have ei : ((Int16.ofInt 315).toInt32 + hi - Int32.ofInt 1).toInt = ((315 + h - 1 : Nat) : Int) := by
        have e3 : (Int16.ofInt 315).toInt32.toInt = 315 := by decide +kernel
        have e4 : ((Int16.ofInt 315).toInt32 + hi).toInt = 315 + (h : Int) := by rw [at_add32] <;> rw [e3, eh] <;> omega
        rw [at_sub32] <;> rw [e4, e1] <;> omega
      refine fl_Tq.ld (p := 280) (τ := 79) (n := 29780) (z := (0, 0, 0)) (k := 315 + h - 1) rfl (fl_bo rfl) rfl ei (by omega) ?_
      refine fl_Tq.stp rfl rfl (fl_bo rfl) rfl ?_
      exact fl_Tq.ret rfl rfl rfl (kk _ (fun h => absurd h hns))
  refine fl_Tq.stp rfl rfl (fl_bo rfl) rfl ?_
  refine fl_Tq.stp rfl rfl (fl_bo rfl) rfl ?_
  by_cases ht : t = 1
  · refine fl_Tq.jf rfl (fl_bo rfl) ?_ rfl ?_
    · rw [at_c2, et, ht]; rfl
    refine fl_Tq.stp rfl rfl (fl_bo rfl) rfl ?_
    refine fl_Tq.stp rfl rfl (fl_bo rfl) rfl ?_
    exact from13 mi_ (by rw [if_pos ht]; exact em)
  · refine fl_Tq.jt rfl (fl_bo rfl) ?_ rfl ?_
    · rw [at_c2, et]
      have : t = 0 := by omega
      rw [this]; rfl
    refine fl_Tq.stp rfl rfl (fl_bo rfl) rfl ?_
    refine fl_Tq.stp rfl rfl (fl_bo rfl) rfl ?_
    refine fl_Tq.stp rfl rfl (fl_bo rfl) rfl ?_
    exact from13 _ (by rw [if_neg ht, at_sub32] <;> rw [em, e1] <;> omega)
/-- only the table is changed -/
def at_TL (m m' : fl_M) : Prop := m'.2 = m.2 ∧ ∀ p j : Nat, (p = 284 → 16250 ≤ j) → m'.1 p j = m.1 p j
theorem at_TL.up {m m' : fl_M} {j : Nat} {x : Int32} (h : at_TL m m') (hj : j < 16250) : at_TL m (fl_up m'.1 284 j x, m'.2) := by
  refine ⟨h.1, fun p i hp => ?_⟩
  show fl_up m'.1 284 j x p i = _
  rw [bl_un (fun e => by have := hp e; omega)]
  exact h.2 p i hp
theorem at_TL.good {m m' : fl_M} (hg : at_Good at_XI m) (h : at_TL m m') : at_Good at_XI m' ∧ at_MD m m' [(83, false, 0, 16249)] := by
  have hX : at_XI m' := hg.2.2.keep (by rw [h.1]) (fun p j hp => h.2 p j (fun e => by unfold fl_N at hp; omega))
  have ew : ∀ j, at_w m' j = at_w m j := fun j => by
    unfold at_w
    rw [h.2 280 j (fun e => by omega)]
  refine ⟨hg.mk (by rw [h.1]) hX (fun p j hp _ hne => ?_) (by rw [ew]; exact hg.w0) (by rw [ew]; exact hg.w1) (hg.AK.congr (fun j _ _ => ew j)), ⟨by rw [h.1]; exact Nat.le_refl _, fun p j hne => ⟨_, List.mem_singleton.mpr rfl, ?_⟩⟩⟩
  · by_cases e : p = 284
    · subst e
      rw [at_k83]
      decide +kernel
    · exact absurd (h.2 p j (fun h => absurd h e)) hne
  · by_cases e : p = 284
    · subst e
      refine ⟨at_k83.symm, ?_⟩
      rw [if_neg (by decide)]
      by_cases hj : j < 16250
      · show (0 : Int) ≤ j ∧ (j : Int) ≤ 16249
        omega
      · exact absurd (h.2 284 j (fun _ => by omega)) hne
    · exact absurd (h.2 p j (fun h => absurd h e)) hne
/-- where no hour can be taken the row is the row before -/
def at_LP (n : Nat) (m : fl_M) : Prop := ∀ h k x : Nat, 1 ≤ h → h ≤ 24 → k < 25 → x < 26 → (h * 25 + k) * 26 + x < n → (k = 0 ∨ x = 0) → m.1 284 ((h * 25 + k) * 26 + x) = m.1 284 (((h - 1) * 25 + k) * 26 + 2 * (x / 2))
theorem at_half {x : Int32} {n : Nat} (h : x.toInt = n) : (x / Int32.ofInt 2).toInt = ((n / 2 : Nat) : Int) ∧ (x - x / Int32.ofInt 2 * Int32.ofInt 2).toInt = ((n % 2 : Nat) : Int) := by
  have e2 : (Int32.ofInt 2).toInt = 2 := rfl
  have hx := at_i32 x
  have q1 : (x / Int32.ofInt 2).toInt = ((n / 2 : Nat) : Int) := by
    rw [Int32.toInt_div, e2, h, Int.tdiv_eq_ediv_of_nonneg (by omega)]
    rw [Int.bmod_eq_of_le (by omega) (by omega)]
    omega
  have q2 : (x / Int32.ofInt 2 * Int32.ofInt 2).toInt = ((n / 2 * 2 : Nat) : Int) := by
    rw [at_mul32] <;> rw [q1, e2] <;> omega
  refine ⟨q1, ?_⟩
  rw [at_sub32] <;> rw [q2, h] <;> omega
end ATCH

end

/-! 89.12.lay.lean.txt -/
section
/-! ===== layPrices, cheapest ===== -/
section ATLY
variable {L : Nat} {xs : Nat → Int32} {m : fl_M} {Q : Option fl_V → fl_M → Prop}
/-- one place of the table -/
theorem at_lay1 {h k x : Nat} (bh : h ≤ 24) (bk : k < 25) (bx : x < 26) {m1 : fl_M} (hT : at_TL m m1) (hP : at_LP ((h * 25 + k) * 26 + x) m1) (o4 o5 : Option fl_V)
    (kk : ∀ (m2 : fl_M) (o4 o5 : Option fl_V), at_TL m m2 → at_LP ((h * 25 + k) * 26 + x + 1) m2 → fl_Tq (pw_P L xs) 307 18 [some at_this, some (.inl (Int32.ofNat h)), some (.inl (Int32.ofNat k)), some (.inl (Int32.ofNat (x + 1))), o4, o5] [] m2 Q) :
    fl_Tq (pw_P L xs) 307 24 [some at_this, some (.inl (Int32.ofNat h)), some (.inl (Int32.ofNat k)), some (.inl (Int32.ofNat x)), o4, o5] [] m1 Q := by
  have eh := at_ofN (k := h) (by omega)
  have ek := at_ofN (k := k) (by omega)
  have ex := at_ofN (k := x) (by omega)
  obtain ⟨exd, exm⟩ := at_half ex
  have hN : at_px h k (x / 2) (x % 2) = (h * 25 + k) * 26 + x := by unfold at_px; omega
  have bN : (h * 25 + k) * 26 + x < 16250 := by omega
  generalize hNg : (h * 25 + k) * 26 + x = N at *
  -- behind the table's own step: place 98
  have p98 : ∀ (ai tv : Int32) (m2 : fl_M), ai.toInt = N → at_TL m m2 → (∀ j : Nat, j ≠ N → m2.1 284 j = m1.1 284 j) → (1 ≤ h → (k = 0 ∨ x = 0) → tv = Int32.ofInt (-1) ∧ m2.1 284 N = m1.1 284 (((h - 1) * 25 + k) * 26 + 2 * (x / 2))) → fl_Tq (pw_P L xs) 307 98 [some at_this, some (.inl (Int32.ofNat h)), some (.inl (Int32.ofNat k)), some (.inl (Int32.ofNat x)), some (.inl ai), some (.inl tv)] [] m2 Q := by
    intro ai tv m2 ea hT2 hs hc
    have old : ∀ m3 : fl_M, (∀ j : Nat, j ≠ N → m3.1 284 j = m1.1 284 j) → (1 ≤ h → (k = 0 ∨ x = 0) → m3.1 284 N = m1.1 284 (((h - 1) * 25 + k) * 26 + 2 * (x / 2))) → at_LP (N + 1) m3 := by
      intro m3 h3 h4 h' k' x' b1 b2 b3 b4 b5 b6
      by_cases e : (h' * 25 + k') * 26 + x' = N
      · have e1 : h' = h ∧ k' = k ∧ x' = x := by omega
        obtain ⟨rfl, rfl, rfl⟩ := e1
        rw [e, h4 b1 b6, h3 _ (by omega)]
      · rw [h3 _ e, h3 _ (by omega)]
        exact hP h' k' x' b1 b2 b3 b4 (by omega) b6
    have go : ∀ (m3 : fl_M), at_TL m m3 → at_LP (N + 1) m3 → fl_Tq (pw_P L xs) 307 136 [some at_this, some (.inl (Int32.ofNat h)), some (.inl (Int32.ofNat k)), some (.inl (Int32.ofNat x)), some (.inl ai), some (.inl tv)] [] m3 Q := by
      intro m3 hT3 hP3
      refine fl_Tq.stp rfl rfl (fl_bo rfl) rfl ?_
      refine fl_Tq.stp rfl rfl (fl_bo rfl) rfl ?_
      have := kk m3 (some (.inl ai)) (some (.inl tv)) hT3 hP3
      rw [← at_inc (by omega)] at this
      exact this
    refine fl_Tq.stp rfl rfl (fl_bo rfl) rfl ?_
    refine fl_Tq.stp rfl rfl (fl_bo rfl) rfl ?_
    by_cases h1 : tv.toInt = -1
    · refine fl_Tq.jt rfl (fl_bo rfl) ?_ rfl ?_
      · rw [at_c2, h1]; rfl
      exact go m2 hT2 (old m2 hs (fun b1 b2 => (hc b1 b2).2))
    have hnc : ¬ (1 ≤ h ∧ (k = 0 ∨ x = 0)) := by
      rintro ⟨b1, b2⟩
      have := (hc b1 b2).1
      rw [this] at h1
      exact h1 rfl
    refine fl_Tq.jf rfl (fl_bo rfl) ?_ rfl ?_
    · rw [at_c2]
      exact decide_eq_false (by show ¬ (tv.toInt - -1 = 0); omega)
    have put : fl_Tq (pw_P L xs) 307 127 [some at_this, some (.inl (Int32.ofNat h)), some (.inl (Int32.ofNat k)), some (.inl (Int32.ofNat x)), some (.inl ai), some (.inl tv)] [] m2 Q := by
      refine fl_Tq.stp rfl rfl (fl_bo rfl) rfl ?_
      refine fl_Tq.stp rfl rfl (fl_bo rfl) rfl ?_
      refine fl_Tq.stp rfl rfl (fl_bo rfl) rfl ?_
      refine fl_Tq.stp rfl rfl (fl_bo rfl) rfl ?_
      refine fl_Tq.sv (p := 284) (τ := 83) (n := 16250) (z := (0, 0, 0)) (k := N) rfl (fl_bo rfl) rfl ea bN ?_
      refine go _ (hT2.up bN) (old _ (fun j hj => ?_) (fun b1 b2 => absurd ⟨b1, b2⟩ hnc))
      show fl_up m2.1 284 N tv 284 j = _
      rw [bl_un (fun _ => hj)]
      exact hs j hj
    refine fl_Tq.stp rfl rfl (fl_bo rfl) rfl ?_
    refine fl_Tq.stp rfl rfl (fl_bo rfl) rfl ?_
    refine fl_Tq.stp rfl rfl (fl_bo rfl) rfl ?_
    refine fl_Tq.ld (p := 284) (τ := 83) (n := 16250) (z := (0, 0, 0)) (k := N) rfl (fl_bo rfl) rfl ea bN ?_
    refine fl_Tq.stp rfl rfl (fl_bo rfl) rfl ?_
    by_cases h2 : (m2.1 284 N).toInt = -1
    · refine fl_Tq.jt rfl (fl_bo rfl) ?_ rfl ?_
      · rw [at_c2, h2]; rfl
      exact put
    refine fl_Tq.jf rfl (fl_bo rfl) ?_ rfl ?_
    · rw [at_c2]
      exact decide_eq_false (by show ¬ ((m2.1 284 N).toInt - -1 = 0); omega)
    refine fl_Tq.stp rfl rfl (fl_bo rfl) rfl ?_
    refine fl_Tq.stp rfl rfl (fl_bo rfl) rfl ?_
    refine fl_Tq.stp rfl rfl (fl_bo rfl) rfl ?_
    refine fl_Tq.stp rfl rfl (fl_bo rfl) rfl ?_
    refine fl_Tq.ld (p := 284) (τ := 83) (n := 16250) (z := (0, 0, 0)) (k := N) rfl (fl_bo rfl) rfl ea bN ?_
    by_cases h3 : tv.toInt < (m2.1 284 N).toInt
    · refine fl_Tq.jf rfl (fl_bo rfl) (by rw [at_c2]; exact decide_eq_false (by omega)) rfl ?_
      exact put
    · refine fl_Tq.jt rfl (fl_bo rfl) (by rw [at_c2]; exact decide_eq_true (by omega)) rfl ?_
      exact go m2 hT2 (old m2 hs (fun b1 b2 => absurd ⟨b1, b2⟩ hnc))
  -- the step's value is on the stack: place 75
  have p75 : ∀ (ai v : Int32) , ai.toInt = N → (1 ≤ h → v = m1.1 284 (((h - 1) * 25 + k) * 26 + 2 * (x / 2))) → fl_Tq (pw_P L xs) 307 75 [some at_this, some (.inl (Int32.ofNat h)), some (.inl (Int32.ofNat k)), some (.inl (Int32.ofNat x)), some (.inl ai), o5] [.inl v, .inl ai, .inr (.inr (.inl (83, 284)))] m1 Q := by
    intro ai v ea hv
    refine fl_Tq.sv (p := 284) (τ := 83) (n := 16250) (z := (0, 0, 0)) (k := N) rfl (fl_bo rfl) rfl ea bN ?_
    have hT2 := hT.up (x := v) bN
    have hs : ∀ j : Nat, j ≠ N → fl_up m1.1 284 N v 284 j = m1.1 284 j := fun j hj => bl_un (fun _ => hj)
    have hn : fl_up m1.1 284 N v 284 N = v := bl_ue
    refine fl_Tq.stp rfl rfl (fl_bo rfl) rfl ?_
    by_cases h0 : h = 0
    · refine fl_Tq.zf rfl (fl_bo rfl) (by rw [at_c1, eh, h0]; rfl) rfl ?_
      refine fl_Tq.stp rfl rfl (fl_bo rfl) rfl ?_
      refine fl_Tq.stp rfl rfl (fl_bo rfl) rfl ?_
      refine fl_Tq.stp rfl rfl (fl_bo rfl) rfl ?_
      exact p98 ai _ _ ea hT2 hs (fun b => by omega)
    refine fl_Tq.zt rfl (fl_bo rfl) ?_ rfl ?_
    · rw [at_c1, eh]
      show (!decide ((h : Int) = 0)) = true
      rw [decide_eq_false (by omega)]; rfl
    refine fl_Tq.stp rfl rfl (fl_bo rfl) rfl ?_
    refine fl_Tq.stp rfl rfl (fl_bo rfl) rfl ?_
    refine fl_Tq.stp rfl rfl (fl_bo rfl) rfl ?_
    refine fl_Tq.stp rfl rfl (fl_bo rfl) rfl ?_
    refine fl_Tq.stp rfl rfl (fl_bo rfl) rfl ?_
    refine fl_Tq.dv rfl (fl_bo rfl) (by decide +kernel) ?_
    refine fl_Tq.stp rfl rfl (fl_bo rfl) rfl ?_
    refine fl_Tq.stp rfl rfl (fl_bo rfl) rfl ?_
    refine fl_Tq.rm rfl (fl_bo rfl) (by decide +kernel) ?_
    refine fl_Tq.cal rfl rfl (fl_bo rfl) rfl ?_
    refine at_taken (h := h) (k := k) (mm := x / 2) (t := x % 2) eh ek exd exm bh (by omega) (by omega) (by omega) (by omega) (fun tv htv => ?_)
    refine fl_Tq.stp rfl rfl (fl_bo rfl) rfl ?_
    exact p98 ai tv _ ea hT2 hs (fun b1 b2 => ⟨htv (by omega), by show fl_up m1.1 284 N v 284 N = _; rw [hn]; exact hv b1⟩)
  refine fl_Tq.stp rfl rfl (fl_bo rfl) rfl ?_
  refine fl_Tq.stp rfl rfl (fl_bo rfl) rfl ?_
  refine fl_Tq.stp rfl rfl (fl_bo rfl) rfl ?_
  refine fl_Tq.stp rfl rfl (fl_bo rfl) rfl ?_
  refine fl_Tq.dv rfl (fl_bo rfl) (by decide +kernel) ?_
  refine fl_Tq.stp rfl rfl (fl_bo rfl) rfl ?_
  refine fl_Tq.stp rfl rfl (fl_bo rfl) rfl ?_
  refine fl_Tq.rm rfl (fl_bo rfl) (by decide +kernel) ?_
  refine fl_Tq.cal rfl rfl (fl_bo rfl) rfl ?_
  refine at_price (h := h) (k := k) (mm := x / 2) (t := x % 2) eh ek exd exm bh (by omega) (by omega) (by omega) (fun ai ea => ?_)
  rw [hN] at ea
  refine fl_Tq.stp rfl rfl (fl_bo rfl) rfl ?_
  refine fl_Tq.stp rfl rfl (fl_bo rfl) rfl ?_
  refine fl_Tq.stp rfl rfl (fl_bo rfl) rfl ?_
  refine fl_Tq.stp rfl rfl (fl_bo rfl) rfl ?_
  refine fl_Tq.stp rfl rfl (fl_bo rfl) rfl ?_
  by_cases h0 : h = 0
  · refine fl_Tq.zf rfl (fl_bo rfl) (by rw [at_c1, eh, h0]; rfl) rfl ?_
    refine fl_Tq.stp rfl rfl (fl_bo rfl) rfl ?_
    by_cases k0 : k = 0
    · refine fl_Tq.zf rfl (fl_bo rfl) (by rw [at_c1, ek, k0]; rfl) rfl ?_
      refine fl_Tq.stp rfl rfl (fl_bo rfl) rfl ?_
      refine fl_Tq.stp rfl rfl (fl_bo rfl) rfl ?_
      exact p75 ai _ ea (fun b => by omega)
    · refine fl_Tq.zt rfl (fl_bo rfl) ?_ rfl ?_
      · rw [at_c1, ek]
        show (!decide ((k : Int) = 0)) = true
        rw [decide_eq_false (by omega)]; rfl
      refine fl_Tq.stp rfl rfl (fl_bo rfl) rfl ?_
      refine fl_Tq.stp rfl rfl (fl_bo rfl) rfl ?_
      exact p75 ai _ ea (fun b => by omega)
  · refine fl_Tq.zt rfl (fl_bo rfl) ?_ rfl ?_
    · rw [at_c1, eh]
      show (!decide ((h : Int) = 0)) = true
      rw [decide_eq_false (by omega)]; rfl
    refine fl_Tq.stp rfl rfl (fl_bo rfl) rfl ?_
    refine fl_Tq.stp rfl rfl (fl_bo rfl) rfl ?_
    refine fl_Tq.stp rfl rfl (fl_bo rfl) rfl ?_
    refine fl_Tq.stp rfl rfl (fl_bo rfl) rfl ?_
    refine fl_Tq.stp rfl rfl (fl_bo rfl) rfl ?_
    refine fl_Tq.stp rfl rfl (fl_bo rfl) rfl ?_
    refine fl_Tq.stp rfl rfl (fl_bo rfl) rfl ?_
    refine fl_Tq.stp rfl rfl (fl_bo rfl) rfl ?_
    refine fl_Tq.dv rfl (fl_bo rfl) (by decide +kernel) ?_
    refine fl_Tq.stp rfl rfl (fl_bo rfl) rfl ?_
    refine fl_Tq.cal rfl rfl (fl_bo rfl) rfl ?_
    refine at_price (h := h - 1) (k := k) (mm := x / 2) (t := 0) (at_dec eh (by omega)) ek exd rfl (by omega) (by omega) (by omega) (by omega) (fun v hv => ?_)
    have hpv : at_px (h - 1) k (x / 2) 0 = ((h - 1) * 25 + k) * 26 + 2 * (x / 2) := by unfold at_px; omega
    rw [hpv] at hv
    refine fl_Tq.ld (p := 284) (τ := 83) (n := 16250) (z := (0, 0, 0)) (k := ((h - 1) * 25 + k) * 26 + 2 * (x / 2)) rfl (fl_bo rfl) rfl hv (by omega) ?_
    exact p75 ai _ ea (fun _ => rfl)
theorem at_lay (hg : at_TL m m) (kk : ∀ m2 : fl_M, at_TL m m2 → at_LP 16250 m2 → Q none m2) : fl_Tq (pw_P L xs) 307 0 (fl_args (am_mxl (pw_P L xs) 307) [at_this]) [] m Q := by
  have lx : ∀ (h k : Nat), h ≤ 24 → k < 25 → ∀ (d x : Nat) (m1 : fl_M) (o4 o5 : Option fl_V), x + d = 26 → at_TL m m1 → at_LP ((h * 25 + k) * 26 + x) m1 → (∀ (m2 : fl_M) (o4 o5 : Option fl_V), at_TL m m2 → at_LP ((h * 25 + k) * 26 + 26) m2 → fl_Tq (pw_P L xs) 307 142 [some at_this, some (.inl (Int32.ofNat h)), some (.inl (Int32.ofNat k)), some (.inl (Int32.ofNat 26)), o4, o5] [] m2 Q) → fl_Tq (pw_P L xs) 307 18 [some at_this, some (.inl (Int32.ofNat h)), some (.inl (Int32.ofNat k)), some (.inl (Int32.ofNat x)), o4, o5] [] m1 Q := by
    intro h k bh bk d
    induction d with
    | zero =>
      intro x m1 o4 o5 hx hT hP kn
      have hx : x = 26 := by omega
      subst hx
      refine fl_Tq.stp rfl rfl (fl_bo rfl) rfl ?_
      refine fl_Tq.stp rfl rfl (fl_bo rfl) rfl ?_
      refine fl_Tq.jt rfl (fl_bo rfl) (by decide +kernel) rfl ?_
      exact kn m1 o4 o5 hT hP
    | succ d ih =>
      intro x m1 o4 o5 hx hT hP kn
      have ex := at_ofN (k := x) (by omega)
      refine fl_Tq.stp rfl rfl (fl_bo rfl) rfl ?_
      refine fl_Tq.stp rfl rfl (fl_bo rfl) rfl ?_
      refine fl_Tq.jf rfl (fl_bo rfl) ?_ rfl ?_
      · rw [at_c2, ex]
        exact decide_eq_false (by show ¬ (0 ≤ (x : Int) - 26); omega)
      exact at_lay1 bh bk (by omega) hT hP o4 o5 (fun m2 o4 o5 hT2 hP2 => ih (x + 1) m2 o4 o5 (by omega) hT2 hP2 kn)
  have lk : ∀ (h : Nat), h ≤ 24 → ∀ (d k : Nat) (m1 : fl_M) (o3 o4 o5 : Option fl_V), k + d = 25 → at_TL m m1 → at_LP ((h * 25 + k) * 26) m1 → (∀ (m2 : fl_M) (o3 o4 o5 : Option fl_V), at_TL m m2 → at_LP ((h * 25 + 25) * 26) m2 → fl_Tq (pw_P L xs) 307 148 [some at_this, some (.inl (Int32.ofNat h)), some (.inl (Int32.ofNat 25)), o3, o4, o5] [] m2 Q) → fl_Tq (pw_P L xs) 307 10 [some at_this, some (.inl (Int32.ofNat h)), some (.inl (Int32.ofNat k)), o3, o4, o5] [] m1 Q := by
    intro h bh d
    induction d with
    | zero =>
      intro k m1 o3 o4 o5 hk hT hP kn
      have hk : k = 25 := by omega
      subst hk
      refine fl_Tq.stp rfl rfl (fl_bo rfl) rfl ?_
      refine fl_Tq.stp rfl rfl (fl_bo rfl) rfl ?_
      refine fl_Tq.jt rfl (fl_bo rfl) (by decide +kernel) rfl ?_
      exact kn m1 o3 o4 o5 hT hP
    | succ d ih =>
      intro k m1 o3 o4 o5 hk hT hP kn
      have ek := at_ofN (k := k) (by omega)
      refine fl_Tq.stp rfl rfl (fl_bo rfl) rfl ?_
      refine fl_Tq.stp rfl rfl (fl_bo rfl) rfl ?_
      refine fl_Tq.jf rfl (fl_bo rfl) ?_ rfl ?_
      · rw [at_c2, ek]
        exact decide_eq_false (by show ¬ (0 ≤ (k : Int) - 25); omega)
      refine fl_Tq.stp rfl rfl (fl_bo rfl) rfl ?_
      refine fl_Tq.stp rfl rfl (fl_bo rfl) rfl ?_
      refine lx h k bh (by omega) 26 0 m1 o4 o5 (by omega) hT hP (fun m2 o4 o5 hT2 hP2 => ?_)
      refine fl_Tq.stp rfl rfl (fl_bo rfl) rfl ?_
      refine fl_Tq.stp rfl rfl (fl_bo rfl) rfl ?_
      have := ih (k + 1) m2 (some (.inl (Int32.ofNat 26))) o4 o5 (by omega) hT2 (by rw [show (h * 25 + (k + 1)) * 26 = (h * 25 + k) * 26 + 26 by omega]; exact hP2) kn
      rw [← at_inc (by omega)] at this
      exact this
  have lh : ∀ (d h : Nat) (m1 : fl_M) (o2 o3 o4 o5 : Option fl_V), h + d = 25 → at_TL m m1 → at_LP (h * 25 * 26) m1 → fl_Tq (pw_P L xs) 307 2 [some at_this, some (.inl (Int32.ofNat h)), o2, o3, o4, o5] [] m1 Q := by
    intro d
    induction d with
    | zero =>
      intro h m1 o2 o3 o4 o5 hh hT hP
      have hh : h = 25 := by omega
      subst hh
      refine fl_Tq.stp rfl rfl (fl_bo rfl) rfl ?_
      refine fl_Tq.stp rfl rfl (fl_bo rfl) rfl ?_
      refine fl_Tq.jt rfl (fl_bo rfl) (by decide +kernel) rfl ?_
      exact fl_Tq.ret rfl rfl rfl (kk m1 hT hP)
    | succ d ih =>
      intro h m1 o2 o3 o4 o5 hh hT hP
      have eh := at_ofN (k := h) (by omega)
      refine fl_Tq.stp rfl rfl (fl_bo rfl) rfl ?_
      refine fl_Tq.stp rfl rfl (fl_bo rfl) rfl ?_
      refine fl_Tq.jf rfl (fl_bo rfl) ?_ rfl ?_
      · rw [at_c2, eh]
        exact decide_eq_false (by show ¬ (0 < (h : Int) - 24); omega)
      refine fl_Tq.stp rfl rfl (fl_bo rfl) rfl ?_
      refine fl_Tq.stp rfl rfl (fl_bo rfl) rfl ?_
      refine lk h (by omega) 25 0 m1 o3 o4 o5 (by omega) hT (by rw [show (h * 25 + 0) * 26 = h * 25 * 26 by omega]; exact hP) (fun m2 o3 o4 o5 hT2 hP2 => ?_)
      refine fl_Tq.stp rfl rfl (fl_bo rfl) rfl ?_
      refine fl_Tq.stp rfl rfl (fl_bo rfl) rfl ?_
      have := ih (h + 1) m2 (some (.inl (Int32.ofNat 25))) o3 o4 o5 (by omega) hT2 (by rw [show (h + 1) * 25 * 26 = (h * 25 + 25) * 26 by omega]; exact hP2)
      rw [← at_inc (by omega)] at this
      exact this
  refine fl_Tq.stp rfl rfl (fl_bo rfl) rfl ?_
  refine fl_Tq.stp rfl rfl (fl_bo rfl) rfl ?_
  exact lh 25 0 m none none none none (by omega) hg (fun h k x _ _ _ _ b => by omega)
end ATLY

end

/-! 89.13.cheapest.lean.txt -/
section
/-! ===== cheapest ===== -/
section ATCE
variable {L : Nat} {xs : Nat → Int32}
theorem at_v308 : at_Valid at_XI (pw_P L xs) (308, [.inl (76, some 277), .inr (false, -2147483648, 2147483647), .inr (false, -2147483648, 2147483647), .inr (false, -2147483648, 2147483647)], [], some (.inr (false, -2147483648, 2147483647)), false, [(83, false, 0, 16249)]) := by
  intro m vs hg hk _
  obtain ⟨r, rfl, hk2⟩ := at_ag277 hk
  cases r with
  | nil => cases hk2
  | cons v r =>
  obtain ⟨⟨ki, rfl, -, -⟩, hk3⟩ := hk2
  cases r with
  | nil => cases hk3
  | cons v r =>
  obtain ⟨⟨mi_, rfl, -, -⟩, hk4⟩ := hk3
  cases r with
  | nil => cases hk4
  | cons v r =>
  obtain ⟨⟨wi, rfl, -, -⟩, hk5⟩ := hk4
  have hr0 := at_agnil (vs := r) hk5
  subst hr0
  have e24 : (Int8.ofInt 24).toInt32.toInt = 24 := by decide +kernel
  have e12 : (Int8.ofInt 12).toInt32.toInt = 12 := by decide +kernel
  have e1 : (Int32.ofInt 1).toInt = 1 := rfl
  have e0 : (Int32.ofInt 0).toInt = 0 := rfl
  have em1 : (Int32.ofInt (-1)).toInt = -1 := rfl
  have no : fl_Tq (pw_P L xs) 308 29 [some at_this, some (.inl ki), some (.inl mi_), some (.inl wi), none, none, none, none, none, none] [] m (fun v m' => at_Good at_XI m' ∧ at_MD m m' [(83, false, 0, 16249)] ∧ at_rtc at_rI false m' v) := by
    refine fl_Tq.stp rfl rfl (fl_bo rfl) rfl ?_
    exact fl_Tq.ret rfl rfl rfl ⟨hg, at_MD.rf, ⟨_, rfl, (at_i32 _).1, (at_i32 _).2, fun h => by cases h⟩⟩
  refine fl_Tq.stp rfl rfl (fl_bo rfl) rfl ?_
  refine fl_Tq.stp rfl rfl (fl_bo rfl) rfl ?_
  refine fl_Tq.stp rfl rfl (fl_bo rfl) rfl ?_
  refine fl_Tq.cal rfl rfl (fl_bo rfl) rfl ?_
  refine at_isin (fun b hb => ?_)
  rcases hb with ⟨rfl, k1, k2⟩ | ⟨rfl, -⟩
  case inr => exact fl_Tq.zt rfl (fl_bo rfl) (by rw [at_c1]; rfl) rfl no
  refine fl_Tq.zf rfl (fl_bo rfl) (by rw [at_c1]; rfl) rfl ?_
  refine fl_Tq.stp rfl rfl (fl_bo rfl) rfl ?_
  refine fl_Tq.stp rfl rfl (fl_bo rfl) rfl ?_
  refine fl_Tq.stp rfl rfl (fl_bo rfl) rfl ?_
  refine fl_Tq.cal rfl rfl (fl_bo rfl) rfl ?_
  refine at_isin (fun b hb => ?_)
  rcases hb with ⟨rfl, m1, m2⟩ | ⟨rfl, -⟩
  case inr => exact fl_Tq.zt rfl (fl_bo rfl) (by rw [at_c1]; rfl) rfl no
  refine fl_Tq.zf rfl (fl_bo rfl) (by rw [at_c1]; rfl) rfl ?_
  refine fl_Tq.stp rfl rfl (fl_bo rfl) rfl ?_
  refine fl_Tq.stp rfl rfl (fl_bo rfl) rfl ?_
  refine fl_Tq.stp rfl rfl (fl_bo rfl) rfl ?_
  refine fl_Tq.cal rfl rfl (fl_bo rfl) rfl ?_
  refine at_isin (fun b hb => ?_)
  rcases hb with ⟨rfl, w1, w2⟩ | ⟨rfl, -⟩
  case inr => exact fl_Tq.zf rfl (fl_bo rfl) (by rw [at_c1]; rfl) rfl no
  refine fl_Tq.zt rfl (fl_bo rfl) (by rw [at_c1]; rfl) rfl ?_
  rw [e24] at k2
  rw [e0] at k1
  rw [e12] at m2
  rw [e1] at m1
  obtain ⟨k, hk⟩ : ∃ k : Nat, ki.toInt = k := ⟨ki.toInt.toNat, by omega⟩
  obtain ⟨mm, hm⟩ : ∃ k : Nat, mi_.toInt = k := ⟨mi_.toInt.toNat, by omega⟩
  refine fl_Tq.stp rfl rfl (fl_bo rfl) rfl ?_
  refine fl_Tq.cal rfl rfl (fl_bo rfl) rfl ?_
  refine at_lay (m := m) ⟨rfl, fun p j _ => rfl⟩ (fun m2 hT hP => ?_)
  obtain ⟨g1, g2⟩ := hT.good hg
  have fin : ∀ v : Int32, at_Good at_XI m2 ∧ at_MD m m2 [(83, false, 0, 16249)] ∧ at_rtc at_rI false m2 (some (.inl v)) := fun v => ⟨g1, g2, ⟨v, rfl, (at_i32 _).1, (at_i32 _).2, fun h => by cases h⟩⟩
  refine fl_Tq.stp rfl rfl (fl_bo rfl) rfl ?_
  cases hw : am_c1 .ne wi with
  | false =>
    refine fl_Tq.zf rfl (fl_bo rfl) hw rfl ?_
    refine fl_Tq.stp rfl rfl (fl_bo rfl) rfl ?_
    refine fl_Tq.stp rfl rfl (fl_bo rfl) rfl ?_
    refine fl_Tq.stp rfl rfl (fl_bo rfl) rfl ?_
    refine fl_Tq.stp rfl rfl (fl_bo rfl) rfl ?_
    refine fl_Tq.stp rfl rfl (fl_bo rfl) rfl ?_
    refine fl_Tq.stp rfl rfl (fl_bo rfl) rfl ?_
    refine fl_Tq.cal rfl rfl (fl_bo rfl) rfl ?_
    refine at_price (h := 24) (k := k) (mm := mm) (t := 0) e24 hk hm e0 (by omega) (by omega) (by omega) (by omega) (fun v hv => ?_)
    refine fl_Tq.ld (p := 284) (τ := 83) (n := 16250) (z := (0, 0, 0)) (k := at_px 24 k mm 0) rfl (fl_bo rfl) rfl hv (by unfold at_px; omega) ?_
    exact fl_Tq.ret rfl rfl rfl (fin _)
  | true =>
    refine fl_Tq.zt rfl (fl_bo rfl) hw rfl ?_
    have loop : ∀ (h : Nat) (left str tk : Nat) (b li si ti : Int32) (o9 : Option fl_V), h ≤ 24 → left ≤ 24 → str ≤ 12 → tk ≤ 1 → li.toInt = left → si.toInt = str → ti.toInt = tk → fl_Tq (pw_P L xs) 308 69 [some at_this, some (.inl ki), some (.inl mi_), some (.inl wi), some (.inl b), some (.inl li), some (.inl si), some (.inl ti), some (.inl (Int32.ofNat h)), o9] [] m2 (fun v m' => at_Good at_XI m' ∧ at_MD m m' [(83, false, 0, 16249)] ∧ at_rtc at_rI false m' v) := by
      intro h
      induction h with
      | zero =>
        intro left str tk b li si ti o9 bh bl bs bt el es et
        refine fl_Tq.stp rfl rfl (fl_bo rfl) rfl ?_
        refine fl_Tq.zt rfl (fl_bo rfl) (by decide +kernel) rfl ?_
        refine fl_Tq.stp rfl rfl (fl_bo rfl) rfl ?_
        exact fl_Tq.ret rfl rfl rfl (fin _)
      | succ h ih =>
        intro left str tk b li si ti o9 bh bl bs bt el es et
        have eh := at_ofN (k := h + 1) (by omega)
        have edn : Int32.ofNat (h + 1) + Int32.ofInt (-1) = Int32.ofNat h := by
          refine Int32.toInt.inj ?_
          rw [at_add32 (by omega) (by omega), eh, em1, at_ofN (by omega)]
          omega
        refine fl_Tq.stp rfl rfl (fl_bo rfl) rfl ?_
        refine fl_Tq.zf rfl (fl_bo rfl) ?_ rfl ?_
        · rw [at_c1, eh]
          exact decide_eq_false (show ¬ (((h + 1 : Nat) : Int) ≤ 0) by omega)
        refine fl_Tq.stp rfl rfl (fl_bo rfl) rfl ?_
        refine fl_Tq.stp rfl rfl (fl_bo rfl) rfl ?_
        refine fl_Tq.stp rfl rfl (fl_bo rfl) rfl ?_
        refine fl_Tq.stp rfl rfl (fl_bo rfl) rfl ?_
        refine fl_Tq.stp rfl rfl (fl_bo rfl) rfl ?_
        refine fl_Tq.stp rfl rfl (fl_bo rfl) rfl ?_
        refine fl_Tq.stp rfl rfl (fl_bo rfl) rfl ?_
        refine fl_Tq.stp rfl rfl (fl_bo rfl) rfl ?_
        refine fl_Tq.cal rfl rfl (fl_bo rfl) rfl ?_
        refine at_price (h := h + 1 - 1) (k := left) (mm := str) (t := 0) (at_dec eh (by omega)) el es e0 (by omega) (by omega) (by omega) (by omega) (fun v hv => ?_)
        refine fl_Tq.ld (p := 284) (τ := 83) (n := 16250) (z := (0, 0, 0)) (k := at_px (h + 1 - 1) left str 0) rfl (fl_bo rfl) rfl hv (by unfold at_px; omega) ?_
        refine fl_Tq.stp rfl rfl (fl_bo rfl) rfl ?_
        refine fl_Tq.stp rfl rfl (fl_bo rfl) rfl ?_
        refine fl_Tq.stp rfl rfl (fl_bo rfl) rfl ?_
        refine fl_Tq.stp rfl rfl (fl_bo rfl) rfl ?_
        refine fl_Tq.stp rfl rfl (fl_bo rfl) rfl ?_
        refine fl_Tq.stp rfl rfl (fl_bo rfl) rfl ?_
        refine fl_Tq.cal rfl rfl (fl_bo rfl) rfl ?_
        refine at_price (h := h + 1) (k := left) (mm := str) (t := tk) eh el es et (by omega) (by omega) (by omega) (by omega) (fun u hu => ?_)
        refine fl_Tq.ld (p := 284) (τ := 83) (n := 16250) (z := (0, 0, 0)) (k := at_px (h + 1) left str tk) rfl (fl_bo rfl) rfl hu (by unfold at_px; omega) ?_
        have back : ∀ (tk' left' str' : Nat) (b' li' si' ti' : Int32) (o9 : Option fl_V), left' ≤ 24 → str' ≤ 12 → tk' ≤ 1 → li'.toInt = left' → si'.toInt = str' → ti'.toInt = tk' → fl_Tq (pw_P L xs) 308 157 [some at_this, some (.inl ki), some (.inl mi_), some (.inl wi), some (.inl b'), some (.inl li'), some (.inl si'), some (.inl ti'), some (.inl (Int32.ofNat (h + 1))), o9] [] m2 (fun v m' => at_Good at_XI m' ∧ at_MD m m' [(83, false, 0, 16249)] ∧ at_rtc at_rI false m' v) := by
          intro tk' left' str' b' li' si' ti' o9 c1 c2 c3 c4 c5 c6
          refine fl_Tq.stp rfl rfl (fl_bo rfl) rfl ?_
          refine fl_Tq.stp rfl rfl (fl_bo rfl) rfl ?_
          have := ih left' str' tk' b' li' si' ti' o9 (by omega) c1 c2 c3 c4 c5 c6
          rw [← edn] at this
          exact this
        by_cases heq : (m2.1 284 (at_px (h + 1 - 1) left str 0)).toInt = (m2.1 284 (at_px (h + 1) left str tk)).toInt
        · refine fl_Tq.jf rfl (fl_bo rfl) ?_ rfl ?_
          · rw [at_c2]
            show (!decide _) = false
            rw [decide_eq_true (by omega)]; rfl
          refine fl_Tq.stp rfl rfl (fl_bo rfl) rfl ?_
          refine fl_Tq.stp rfl rfl (fl_bo rfl) rfl ?_
          refine fl_Tq.stp rfl rfl (fl_bo rfl) rfl ?_
          refine fl_Tq.stp rfl rfl (fl_bo rfl) rfl ?_
          refine fl_Tq.zt rfl (fl_bo rfl) (by decide +kernel) rfl ?_
          refine fl_Tq.stp rfl rfl (fl_bo rfl) rfl ?_
          refine fl_Tq.zf rfl (fl_bo rfl) (by decide +kernel) rfl ?_
          refine fl_Tq.stp rfl rfl (fl_bo rfl) rfl ?_
          refine fl_Tq.stp rfl rfl (fl_bo rfl) rfl ?_
          refine fl_Tq.stp rfl rfl (fl_bo rfl) rfl ?_
          exact back 0 left str _ _ _ _ _ bl bs (by omega) el es e0
        · have hnc : ¬ (left = 0 ∨ (tk = 0 ∧ str = 0)) := by
            intro hc
            refine heq ?_
            have := hP (h + 1) left (2 * str + tk) (by omega) (by omega) (by omega) (by omega) (by omega) (by omega)
            have q1 : (((h + 1) * 25 + left) * 26 + (2 * str + tk)) = at_px (h + 1) left str tk := by unfold at_px; omega
            have q2 : (((h + 1 - 1) * 25 + left) * 26 + 2 * ((2 * str + tk) / 2)) = at_px (h + 1 - 1) left str 0 := by unfold at_px; omega
            rw [q1, q2] at this
            rw [this]
          refine fl_Tq.jt rfl (fl_bo rfl) ?_ rfl ?_
          · rw [at_c2]
            show (!decide _) = true
            rw [decide_eq_false (by omega)]; rfl
          refine fl_Tq.stp rfl rfl (fl_bo rfl) rfl ?_
          refine fl_Tq.stp rfl rfl (fl_bo rfl) rfl ?_
          refine fl_Tq.stp rfl rfl (fl_bo rfl) rfl ?_
          refine fl_Tq.zf rfl (fl_bo rfl) (by decide +kernel) rfl ?_
          refine fl_Tq.stp rfl rfl (fl_bo rfl) rfl ?_
          refine fl_Tq.stp rfl rfl (fl_bo rfl) rfl ?_
          refine fl_Tq.stp rfl rfl (fl_bo rfl) rfl ?_
          refine fl_Tq.stp rfl rfl (fl_bo rfl) rfl ?_
          refine fl_Tq.stp rfl rfl (fl_bo rfl) rfl ?_
          refine fl_Tq.stp rfl rfl (fl_bo rfl) rfl ?_
          refine fl_Tq.stp rfl rfl (fl_bo rfl) rfl ?_
          refine fl_Tq.stp rfl rfl (fl_bo rfl) rfl ?_
          refine fl_Tq.stp rfl rfl (fl_bo rfl) rfl ?_
          refine fl_Tq.stp rfl rfl (fl_bo rfl) rfl ?_
          refine fl_Tq.stp rfl rfl (fl_bo rfl) rfl ?_
          refine fl_Tq.stp rfl rfl (fl_bo rfl) rfl ?_
          refine fl_Tq.stp rfl rfl (fl_bo rfl) rfl ?_
          refine fl_Tq.stp rfl rfl (fl_bo rfl) rfl ?_
          refine fl_Tq.stp rfl rfl (fl_bo rfl) rfl ?_
          refine fl_Tq.stp rfl rfl (fl_bo rfl) rfl ?_
          have cl : (li + Int32.ofInt (-1)).toInt = ((left - 1 : Nat) : Int) := by
            rw [at_add32] <;> rw [el, em1] <;> omega
          have c1 : (Int32.ofInt 1 - ti).toInt = 1 - (tk : Int) := by
            rw [at_sub32] <;> rw [et, e1] <;> omega
          have cs : (si - (Int32.ofInt 1 - ti)).toInt = ((str - (1 - tk) : Nat) : Int) := by
            rw [at_sub32] <;> rw [es, c1] <;> omega
          refine fl_Tq.zt rfl (fl_bo rfl) (by decide +kernel) rfl ?_
          refine fl_Tq.stp rfl rfl (fl_bo rfl) rfl ?_
          refine fl_Tq.stp rfl rfl (fl_bo rfl) rfl ?_
          exact back 1 (left - 1) (str - (1 - tk)) _ _ _ _ _ (by omega) (by omega) (by omega) cl cs e1
    refine fl_Tq.stp rfl rfl (fl_bo rfl) rfl ?_
    refine fl_Tq.stp rfl rfl (fl_bo rfl) rfl ?_
    show fl_Tq (pw_P L xs) 308 56 [some at_this, some (.inl ki), some (.inl mi_), some (.inl wi), some (.inl (Int32.ofInt 0)), none, none, none, none, none] [] m2 _
    refine fl_Tq.stp rfl rfl (fl_bo rfl) rfl ?_
    refine fl_Tq.stp rfl rfl (fl_bo rfl) rfl ?_
    show fl_Tq (pw_P L xs) 308 59 [some at_this, some (.inl ki), some (.inl mi_), some (.inl wi), some (.inl (Int32.ofInt 0)), some (.inl ki), none, none, none, none] [] m2 _
    refine fl_Tq.stp rfl rfl (fl_bo rfl) rfl ?_
    refine fl_Tq.stp rfl rfl (fl_bo rfl) rfl ?_
    show fl_Tq (pw_P L xs) 308 62 [some at_this, some (.inl ki), some (.inl mi_), some (.inl wi), some (.inl (Int32.ofInt 0)), some (.inl ki), some (.inl mi_), none, none, none] [] m2 _
    refine fl_Tq.stp rfl rfl (fl_bo rfl) rfl ?_
    refine fl_Tq.stp rfl rfl (fl_bo rfl) rfl ?_
    show fl_Tq (pw_P L xs) 308 65 [some at_this, some (.inl ki), some (.inl mi_), some (.inl wi), some (.inl (Int32.ofInt 0)), some (.inl ki), some (.inl mi_), some (.inl (Int32.ofInt 0)), none, none] [] m2 _
    refine fl_Tq.stp rfl rfl (fl_bo rfl) rfl ?_
    refine fl_Tq.stp rfl rfl (fl_bo rfl) rfl ?_
    rw [show (Int8.ofInt 24).toInt32 = Int32.ofNat 24 from by decide +kernel]
    exact loop 24 k mm 0 (Int32.ofInt 0) ki mi_ (Int32.ofInt 0) none (by omega) (by omega) (by omega) (by omega) hk hm e0
end ATCE

end

/-! 89.14.boot.lean.txt -/
section
/-! ===== the two constructors, from the empty heap ===== -/
def at_m1 : fl_M := ((fun p j => if p < 285 then (at_i0 p).getD j 0 else at_W0 ((p - 285) % 90) j), (fun _ _ => 0), 0)
def at_m0 : fl_M := bl_cp 280 0 281 0 29780 at_m1
theorem nw_ckr_ok {N n s : Nat} {wl : Nat → List Int32} {lv : am_L} {st : List Value} {r : Option (am_L × List Value × nw_H)} (h : nw_ckr N wl lv st n s r = true) : ∃ H : nw_H, r = some (lv, st, H) ∧ H.1.length = n ∧ H.2 = s ∧ nw_ckl N wl 0 H.1 = true := by
  unfold nw_ckr at h
  split at h
  · rename_i lv' st' H
    simp only [Bool.and_eq_true, decide_eq_true_eq] at h
    obtain ⟨h1, h2, h3, h4, h5⟩ := h
    subst h1 h2
    exact ⟨H, rfl, Nat.eq_of_beq_eq_true h3, Nat.eq_of_beq_eq_true h4, h5⟩
  · cases h
theorem at_made0 {H1 H3 : nw_H} (l1 : H1.1.length = 277) (s1 : H1.2 = 5395) (c1 : nw_ckl 0 at_i0 0 H1.1 = true) (l3 : H3.1.length = 8) (s3 : H3.2 = 77355) (c3 : nw_ckl 277 (fun r => at_i0 (277 + r)) 0 H3.1 = true) : nw_h (nw_h ([], 0) H1) H3 = fl_H at_m1 := by
  unfold nw_h
  refine Prod.ext ?_ ?_
  · show ([] ++ H1.1.map nw_o) ++ H3.1.map nw_o = (fl_H at_m1).1
    refine List.ext_getElem? (fun p => ?_)
    have hl1 : ([] ++ H1.1.map nw_o : List am_O).length = 277 := by simp [l1]
    have hw : ∀ q : Nat, q < 285 → at_m1.1 q = fun j => (at_i0 q).getD j 0 := fun q hq => by
      funext j
      show (if q < 285 then (at_i0 q).getD j 0 else at_W0 ((q - 285) % 90) j) = _
      rw [if_pos hq]
    by_cases hp : p < 277
    · rw [List.getElem?_append_left (by rw [hl1]; exact hp), List.nil_append, nw_ckl_ok H1.1 0 c1 p (by omega), fl_get (m := at_m1) (show p < fl_N 0 by unfold fl_N; omega), hw p (by omega)]
      have e : 0 + (0 + p) = p := by omega
      have e2 : 0 + p = p := by omega
      rw [e, e2]
      rfl
    · rw [List.getElem?_append_right (by rw [hl1]; omega), hl1]
      by_cases hp2 : p < 285
      · rw [nw_ckl_ok H3.1 0 c3 (p - 277) (by omega), fl_get (m := at_m1) (show p < fl_N 0 by unfold fl_N; omega), hw p hp2]
        have e : 277 + (0 + (p - 277)) = p := by omega
        rw [e]
        rfl
      · rw [List.getElem?_eq_none (by rw [List.length_map]; omega), List.getElem?_eq_none (by unfold fl_H; simp; show fl_N 0 ≤ p; unfold fl_N; omega)]
  · show 0 + H1.2 + H3.2 = fl_S 0
    unfold fl_S
    omega
theorem pw_cod {L : Nat} {xs : Nat → Int32} {mi pc : Nat} {ins : Instr} (h : pw_code mi pc = some ins) : am_code (pw_P L xs) mi pc = some ins := h
set_option maxRecDepth 1000000 in
theorem pw_cod765 : pw_code 183 765 = some (.invokestatic 38) := by decide +kernel
set_option maxRecDepth 1000000 in
theorem pw_cod768 : pw_code 183 768 = some .return_ := by decide +kernel
theorem at_boot {L : Nat} {xs : Nat → Int32} {Q : Option fl_V → fl_M → Prop} (k : fl_Tq (pw_P L xs) 0 15 [some (.inr (.inr (.inr (.inl 0)))), some (.inr (.inr (.inl (0, 0)))), none, none] [.inr (.inr (.inl (76, 277)))] at_m0 Q) : am_To (pw_P L xs) 0 0 (lv_args 0 [.retAddr 0]) [] ([], 0) (fun v M => ∃ v' m', v = v'.map fl_c ∧ M = fl_H m' ∧ Q v' m') := by
  obtain ⟨H1, e1, l1, s1, c1⟩ := nw_ckr_ok nw_r1_ck
  obtain ⟨lv3, H3, e3, l3, s3, c3⟩ : ∃ (lv3 : am_L) (H3 : nw_H), nw_r3 = some (lv3, [.ref 281, .ref 280], H3) ∧ H3.1.length = 8 ∧ H3.2 = 77355 ∧ nw_ckl 277 (fun r => at_i0 (277 + r)) 0 H3.1 = true := by
    have h := nw_r3_ck
    split at h
    · rename_i lv' st' H e
      simp only [Bool.and_eq_true, decide_eq_true_eq] at h
      obtain ⟨h2, h3, h4, h5⟩ := h
      subst h2
      exact ⟨lv', H, e, Nat.eq_of_beq_eq_true h3, Nat.eq_of_beq_eq_true h4, h5⟩
    · cases h
  have hB : (nw_h ([], 0) H1).1.length = 277 := by unfold nw_h; simp [l1]
  have h0 : ∀ B : am_M, nw_h B ([], 0) = B := fun B => by unfold nw_h; simp
  have hm1 := at_made0 l1 s1 c1 l3 s3 c3
  generalize hBg : nw_h ([], 0) H1 = B at hB hm1
  have k1 := nw_to_ok (B := ([], 0)) (L := L) (xs := xs) (Q := fun v M => ∃ v' m', v = v'.map fl_c ∧ M = fl_H m' ∧ Q v' m') 5000 0 (lv_args 0 [.retAddr 0]) [] ([], 0) _ _ H1 e1
  rw [hBg, h0] at k1
  refine k1 ?_
  have e2 := nw_r2_ck
  unfold nw_r2 at e2
  rw [← hB] at e2
  have k2 := nw_to_ok (B := B) (L := L) (xs := xs) (Q := fun v M => ∃ v' m', v = v'.map fl_c ∧ M = fl_H m' ∧ Q v' m') 5000 8 [(1, .ref 0), (0, .retAddr 0)] [] ([], 0) _ _ _ e2
  rw [h0] at k2
  refine k2 ?_
  refine am_To.cal (ins := .invokespecial 12) (mj := 183) (n := 1) rfl rfl rfl ?_
  unfold nw_r3 at e3
  rw [← hB] at e3
  refine nw_to_ok (B := B) (L := L) (xs := xs) 5000 0 _ [] ([nw_obj1], 10) _ _ H3 (by rw [hB] at e3 ⊢; exact e3) ?_
  rw [hm1]
  refine am_To.cal (ins := .invokestatic 38) (mj := 184) (n := 2) (pw_cod pw_cod765) rfl rfl ?_
  have k80 : fk_K 281 = 80 := by decide +kernel
  have hc := at_copy (L := L) (xs := xs) (m := at_m1) (p := 280) (q := 281) (tp := 79) (tq := 80) (Q := fun v m' => v = none ∧ m' = at_m0) fk_K_280 k80 (by decide) (by decide) rfl rfl (by decide) ⟨rfl, rfl⟩
  have hc2 := hc (lv_args 0 [.ref 280, .ref 281]) (fl_args_LR _ [.inr (.inr (.inl (79, 280))), .inr (.inr (.inl (80, 281)))])
  refine am_To.mono hc2 ?_
  rintro v M ⟨v', m', rfl, rfl, rfl, rfl⟩
  refine am_To.ret (ins := .return_) (v := none) (pw_cod pw_cod768) rfl rfl ?_
  rw [hB]
  refine k [(1, .ref 0), (0, .retAddr 0)] (fun i v hv => ?_)
  match i, hv with
  | 0, hv => cases hv; rfl
  | 1, hv => cases hv; rfl
  | 2, hv => cases hv
  | 3, hv => cases hv
  | n + 4, hv => simp at hv
/-! ===== all is good at the start ===== -/
theorem at_i0_rg : (List.range 285).all (fun p => (at_rg (fk_K p)).all (at_rok (fun i => ((at_i0 p).getD i 0).toInt))) = true := by decide +kernel
theorem at_0_rg : (at_rg at_TA).all (fun r => decide (r.2.2.2.2.2.1 ≤ 0 ∧ 0 ≤ r.2.2.2.2.2.2)) = true := by decide +kernel
theorem at_i0_ln : (at_i0 280).length ≤ 1420 := by decide +kernel
theorem at_AK0 : at_AK (fun _ => 0) := by
  refine ⟨fun r hr j _ _ => ?_, fun c _ hl => ?_, fun k _ => Int.le_refl _⟩
  · exact of_decide_eq_true (List.all_eq_true.mp at_0_rg r hr)
  · exfalso
    have hl : (c : Int) < 0 := hl
    omega
theorem at_start : at_Good at_XI at_m0 := by
  have ne : ∀ p j : Nat, p ≠ 281 → at_m0.1 p j = at_m1.1 p j := fun p j e => bl_cp_out (fun h => absurd h e)
  have hw : ∀ q j : Nat, q < 285 → at_m1.1 q j = (at_i0 q).getD j 0 := fun q j hq => by
    show (if q < 285 then (at_i0 q).getD j 0 else at_W0 ((q - 285) % 90) j) = _
    rw [if_pos hq]
  have h280 : ∀ j : Nat, at_m0.1 280 j = (at_i0 280).getD j 0 := fun j => by rw [ne 280 j (by decide), hw 280 j (by decide)]
  have h281 : ∀ j : Nat, j < 29780 → at_m0.1 281 j = (at_i0 280).getD j 0 := fun j hj => by
    show (bl_cp 280 0 281 0 29780 at_m1).1 281 j = _
    rw [bl_cp_in (by omega) (by omega)]
    show at_m1.1 280 j = _
    rw [hw 280 j (by decide)]
  have hz : ∀ j : Nat, 1420 ≤ j → (at_i0 280).getD j 0 = 0 := fun j hj => by
    have := at_i0_ln
    rw [List.getD_eq_getElem?_getD, List.getElem?_eq_none (by omega)]
    rfl
  have hg : at_Good (fun _ => True) at_m0 := by
    refine ⟨fun p hp r hr j hm => ?_, ⟨fun c hc hl => ?_, fun k hk => ?_⟩, True.intro⟩
    · have hp : p < 285 := by
        have hp : p < fl_N 0 := hp
        unfold fl_N at hp
        omega
      by_cases e : p = 281
      · subst e
        have : at_rg (fk_K 281) = [] := by decide +kernel
        rw [this] at hr
        cases hr
      · rw [ne p j e, hw p j hp]
        have b1 := List.all_eq_true.mp at_i0_rg p (List.mem_range.mpr hp)
        have b2 := List.all_eq_true.mp b1 r hr
        exact at_rok_ok b2 hm
    · exfalso
      have hl : (c : Int) < (at_m0.1 280 2).toInt := hl
      rw [h280 2] at hl
      have : ((at_i0 280).getD 2 0).toInt = 0 := by decide +kernel
      omega
    · show (at_m0.1 280 (341 + 35 * k)).toInt ≤ (at_m0.1 280 2).toInt
      rw [h280, h280]
      have : ∀ k : Fin 3, ((at_i0 280).getD (341 + 35 * k.val) 0).toInt ≤ ((at_i0 280).getD 2 0).toInt := by decide +kernel
      exact this ⟨k, hk⟩
  have hA := hg.AK
  have hX : at_XI at_m0 := by
    refine ⟨fun q hq i hi => ?_, ?_, fun p hp i => ?_, ?_, fun s hs => ?_, ⟨?_, ?_, ?_⟩, fun s hs => ?_, fun p j hp => ?_⟩
    · left
      rw [ne q i (by omega), hw q i (by omega)]
      rcases hq with rfl | rfl <;> rfl
    · have c0 : ∀ q, q = 272 ∨ q = 274 → at_cnt at_m0 q = 0 := by
        intro q hq
        unfold at_cnt at_nzr
        have : ∀ i, at_m0.1 q i = 0 := fun i => by
          rw [ne q i (by omega), hw q i (by omega)]
          rcases hq with rfl | rfl <;> rfl
        simp only [this]
        decide +kernel
      rw [c0 272 (Or.inl rfl), c0 274 (Or.inr rfl)]
      rfl
    · have hp : fl_N 0 ≤ p := hp
      unfold fl_N at hp
      rw [ne p i (by omega)]
      show (if p < 285 then (at_i0 p).getD i 0 else at_W0 ((p - 285) % 90) i) = _
      rw [if_neg (by omega)]
    · refine at_AK0.congr (fun j _ _ => ?_)
      rw [ne 283 _ (by decide), hw 283 _ (by decide)]
      rfl
    · refine at_AK0.congr (fun j _ _ => ?_)
      rw [h280, hz _ (by omega)]
      rfl
    · refine hA.congr (fun j _ _ => ?_)
      rw [h281 j (by omega), ← h280 j]
      rfl
    · rw [h281 0 (by decide)]
      decide +kernel
    · rw [h281 1 (by decide)]
      decide +kernel
    · refine at_AK0.congr (fun j _ _ => ?_)
      rw [h281 _ (by omega), hz _ (by omega)]
      rfl
    · rw [ne p j (by omega), hw p j (by omega)]
  exact ⟨hg.1, hg.2.1, hX⟩

end

/-! 89.15.lawtools.lean.txt -/
section
/-! ===== the law: its calls by their contracts ===== -/
section LWT
variable {L : Nat} {xs : Nat → Int32} {m : fl_M} {Q : Option fl_V → fl_M → Prop}
def lx_lv (i : Nat) : fl_L := [some (.inr (.inr (.inr (.inl 0)))), some (.inr (.inr (.inl (0, 0)))), some (.inr (.inr (.inl (76, 277)))), some (.inl (Int32.ofNat i))]
def lx_x : fl_V := .inr (.inr (.inl (0, 0)))
theorem lx_kx (h : Nat) : ∃ p, lx_x = .inr (.inr (.inl (0, p))) ∧ fk_K p = 0 ∧ p < fl_N h ∧ ∀ q, some 0 = some q → p = q := ⟨0, rfl, by decide +kernel, by unfold fl_N; omega, fun q h => by cases h; rfl⟩
theorem lx_ki (x : Int32) : ∃ y : Int32, (.inl x : fl_V) = .inl y ∧ -2147483648 ≤ y.toInt ∧ y.toInt ≤ 2147483647 := ⟨x, rfl, (at_i32 x).1, (at_i32 x).2⟩
theorem fl_Tq.tld {P : am_Pg} {mi pc k n c : Nat} {f : Nat → Int32} {lv : fl_L} {r : List fl_V} {i : Int32} (hc : am_code P mi pc = some .iaload) (hok : ∀ v ∈ (.inl i :: .inr (.inr (.inr (.inl c))) :: r : List fl_V), fl_ok m.2.2 v) (hcst : am_cst P c = some (n, f)) (hi : i.toInt = k) (hlt : k < n) (q : fl_Tq P mi (pc + 1) lv (.inl (f k) :: r) m Q) : fl_Tq P mi pc lv (.inl i :: .inr (.inr (.inr (.inl c))) :: r) m Q := by
  refine fl_Tq.stp (pc' := pc + 1) (lv' := lv) (st' := .inl (f k) :: r) (m' := m) hc rfl hok ?_ q
  obtain ⟨h1, h2⟩ := at_in_ok (i := i) (n := n) (by omega) (by omega)
  have h3 : i.toNatClampNeg = k := by omega
  show ((match am_cst P c with
    | some (n, f) => bif am_in i n then some (pc + 1, lv, .inl (f i.toNatClampNeg) :: r, m) else none
    | _ => none) : Option fl_C) = _
  rw [hcst]
  show ((bif am_in i n then some (pc + 1, lv, .inl (f i.toNatClampNeg) :: r, m) else none) : Option fl_C) = _
  rw [h1, h3]
  rfl
/-- a number of the script -/
theorem lx_arg {pc i jn : Nat} {j : Int} {st : List fl_V} (h1 : am_code (pw_P L xs) 0 pc = some (.aload_n 0)) (h2 : am_code (pw_P L xs) 0 (pc + 1) = some (.iload_n 3)) (h3 : am_code (pw_P L xs) 0 (pc + 2) = some (.iconst j)) (h4 : am_code (pw_P L xs) 0 (pc + 3) = some .iadd) (h5 : am_code (pw_P L xs) 0 (pc + 4) = some .iaload) (hj : (Int32.ofInt j).toInt = jn) (hok : ∀ v ∈ st, fl_ok m.2.2 v) (hL : L ≤ 3072) (hlt : i + jn < L) (k : fl_Tq (pw_P L xs) 0 (pc + 5) (lx_lv i) (.inl (xs (i + jn)) :: st) m Q) : fl_Tq (pw_P L xs) 0 pc (lx_lv i) st m Q := by
  have ok1 : ∀ v ∈ (.inr (.inr (.inr (.inl 0))) :: st : List fl_V), fl_ok m.2.2 v := fun v hv => by
    rcases List.mem_cons.mp hv with rfl | hv
    · exact True.intro
    · exact hok v hv
  have ok2 : ∀ x : Int32, ∀ v ∈ (.inl x :: .inr (.inr (.inr (.inl 0))) :: st : List fl_V), fl_ok m.2.2 v := fun x v hv => by
    rcases List.mem_cons.mp hv with rfl | hv
    · exact True.intro
    · exact ok1 v hv
  have ok3 : ∀ x y : Int32, ∀ v ∈ (.inl x :: .inl y :: .inr (.inr (.inr (.inl 0))) :: st : List fl_V), fl_ok m.2.2 v := fun x y v hv => by
    rcases List.mem_cons.mp hv with rfl | hv
    · exact True.intro
    · exact ok2 y v hv
  refine fl_Tq.stp h1 rfl hok rfl ?_
  refine fl_Tq.stp h2 rfl ok1 rfl ?_
  refine fl_Tq.stp h3 rfl (ok2 _) rfl ?_
  refine fl_Tq.stp h4 rfl (ok3 _ _) rfl ?_
  have ei := at_ofN (k := i) (by omega)
  have e : (Int32.ofNat i + Int32.ofInt j).toInt = ((i + jn : Nat) : Int) := by rw [at_add32] <;> rw [ei, hj] <;> omega
  exact fl_Tq.tld (n := L) (f := xs) (k := i + jn) h5 (ok2 _) rfl e hlt k
theorem lx_bool {pc : Nat} {lv : fl_L} {st : List fl_V} {x : Int32} (h1 : am_code (pw_P L xs) 0 pc = some (.ifCond .eq 7)) (h2 : am_code (pw_P L xs) 0 (pc + 3) = some (.iconst 1)) (h3 : am_code (pw_P L xs) 0 (pc + 4) = some (.goto 4)) (h4 : am_code (pw_P L xs) 0 (pc + 7) = some (.iconst 0)) (hok : ∀ v ∈ (.inl x :: st : List fl_V), fl_ok m.2.2 v) (ht : am_tg pc 7 = some (pc + 7)) (ht2 : am_tg (pc + 4) 4 = some (pc + 8)) (k : ∀ b : Int32, 0 ≤ b.toInt → b.toInt ≤ 1 → fl_Tq (pw_P L xs) 0 (pc + 8) lv (.inl b :: st) m Q) : fl_Tq (pw_P L xs) 0 pc lv (.inl x :: st) m Q := by
  have ok : ∀ v ∈ st, fl_ok m.2.2 v := fun v hv => hok v (List.mem_cons_of_mem _ hv)
  have ok1 : ∀ y : Int32, ∀ v ∈ (.inl y :: st : List fl_V), fl_ok m.2.2 v := fun y v hv => by
    rcases List.mem_cons.mp hv with rfl | hv
    · exact True.intro
    · exact ok v hv
  cases hb : am_c1 .eq x with
  | true =>
    refine fl_Tq.zt h1 hok hb ht ?_
    refine fl_Tq.stp h4 rfl ok rfl ?_
    exact k _ (by decide) (by decide)
  | false =>
    refine fl_Tq.zf h1 hok hb ht ?_
    refine fl_Tq.stp h2 rfl ok rfl ?_
    refine fl_Tq.stp (pc' := pc + 8) (lv' := lv) (st' := .inl (Int32.ofInt 1) :: st) (m' := m) h3 rfl (ok1 _) ?_ ?_
    · show fl_go (pc + 3 + 1) 4 lv _ m = _
      unfold fl_go
      rw [show pc + 3 + 1 = pc + 4 by omega, ht2]
    · exact k _ (by decide) (by decide)
/-- a call whose answer, an int, is dropped -/
theorem lx_callI {pc mj n : Nat} {ins : Instr} {lv : fl_L} {st as_ : List fl_V} {c : at_C} {lo hi : Int} (hc : am_code (pw_P L xs) 0 pc = some ins) (hcl : am_cl (pw_P L xs) 0 ins = some (mj, n)) (hp : am_code (pw_P L xs) 0 (pc + 3) = some .pop) (hrc : fl_rc (pw_P L xs) ins mj n st = true) (hok : ∀ v ∈ st, fl_ok m.2.2 v) (hst : (st.take n).reverse = as_) (hd : st.drop n = []) (hV : at_Valid at_XI (pw_P L xs) c) (hcm : c.1 = mj) (hg : at_Good at_XI m) (hk : at_agk m.2.2 c.2.1 as_) (hl : c.2.2.1 = []) (hr : c.2.2.2.1 = some (.inr (false, lo, hi))) (k : ∀ m', at_Good at_XI m' → fl_Tq (pw_P L xs) 0 (pc + 4) lv [] m' Q) : fl_Tq (pw_P L xs) 0 pc lv st m Q := by
  refine fl_Tq.cal hc hcl hok hrc ?_
  rw [hst, hd]
  subst hcm
  refine fl_Tq.mono (hV m as_ hg hk (fun q hq => by rw [hl] at hq; cases hq)) (fun v m' ⟨hg', _, hv⟩ => ?_)
  rw [hr] at hv
  obtain ⟨x, rfl, -⟩ := hv
  refine fl_Tq.stp hp rfl (fl_bo rfl) rfl ?_
  exact k m' hg'
/-- a long -/
theorem lx_callJ {pc mj n : Nat} {ins : Instr} {lv : fl_L} {st as_ : List fl_V} {c : at_C} {lo hi : Int} (hc : am_code (pw_P L xs) 0 pc = some ins) (hcl : am_cl (pw_P L xs) 0 ins = some (mj, n)) (hp : am_code (pw_P L xs) 0 (pc + 3) = some .pop2) (hrc : fl_rc (pw_P L xs) ins mj n st = true) (hok : ∀ v ∈ st, fl_ok m.2.2 v) (hst : (st.take n).reverse = as_) (hd : st.drop n = []) (hV : at_Valid at_XI (pw_P L xs) c) (hcm : c.1 = mj) (hg : at_Good at_XI m) (hk : at_agk m.2.2 c.2.1 as_) (hl : c.2.2.1 = []) (hr : c.2.2.2.1 = some (.inr (true, lo, hi))) (k : ∀ m', at_Good at_XI m' → fl_Tq (pw_P L xs) 0 (pc + 4) lv [] m' Q) : fl_Tq (pw_P L xs) 0 pc lv st m Q := by
  refine fl_Tq.cal hc hcl hok hrc ?_
  rw [hst, hd]
  subst hcm
  refine fl_Tq.mono (hV m as_ hg hk (fun q hq => by rw [hl] at hq; cases hq)) (fun v m' ⟨hg', _, hv⟩ => ?_)
  rw [hr] at hv
  obtain ⟨x, rfl, -⟩ := hv
  refine fl_Tq.stp hp rfl (fl_bo rfl) rfl ?_
  exact k m' hg'
end LWT

end
