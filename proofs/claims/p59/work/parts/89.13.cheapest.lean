/-! ===== cheapest ===== -/
section ATCE
variable {L : Nat} {xs : Nat → Int32}
theorem at_v308 : at_Valid at_XI (pw_P L xs) (308, [.inl (76, some 277), .inr (false, -2147483648, 2147483647), .inr (false, -2147483648, 2147483647), .inr (false, -2147483648, 2147483647)], [], some (.inr (false, -2147483648, 2147483647)), false, [(83, false, 0, 16249)]) := by
  intro m vs hg hk _
  obtain ⟨r, rfl, hk2⟩ := at_ag277 hk
  cases r with
  | nil => cases hk2
  | cons v r =>
  obtain ⟨⟨ki, rfl, -, -⟩, hk3⟩ := hk2
  cases r with
  | nil => cases hk3
  | cons v r =>
  obtain ⟨⟨mi_, rfl, -, -⟩, hk4⟩ := hk3
  cases r with
  | nil => cases hk4
  | cons v r =>
  obtain ⟨⟨wi, rfl, -, -⟩, hk5⟩ := hk4
  have hr0 := at_agnil (vs := r) hk5
  subst hr0
  have e24 : (Int8.ofInt 24).toInt32.toInt = 24 := by decide +kernel
  have e12 : (Int8.ofInt 12).toInt32.toInt = 12 := by decide +kernel
  have e1 : (Int32.ofInt 1).toInt = 1 := rfl
  have e0 : (Int32.ofInt 0).toInt = 0 := rfl
  have em1 : (Int32.ofInt (-1)).toInt = -1 := rfl
  have no : fl_Tq (pw_P L xs) 308 29 [some at_this, some (.inl ki), some (.inl mi_), some (.inl wi), none, none, none, none, none, none] [] m (fun v m' => at_Good at_XI m' ∧ at_MD m m' [(83, false, 0, 16249)] ∧ at_rtc at_rI false m' v) := by
    refine fl_Tq.stp rfl rfl (fl_bo rfl) rfl ?_
    exact fl_Tq.ret rfl rfl rfl ⟨hg, at_MD.rf, ⟨_, rfl, (at_i32 _).1, (at_i32 _).2, fun h => by cases h⟩⟩
  refine fl_Tq.stp rfl rfl (fl_bo rfl) rfl ?_
  refine fl_Tq.stp rfl rfl (fl_bo rfl) rfl ?_
  refine fl_Tq.stp rfl rfl (fl_bo rfl) rfl ?_
  refine fl_Tq.cal rfl rfl (fl_bo rfl) rfl ?_
  refine at_isin (fun b hb => ?_)
  rcases hb with ⟨rfl, k1, k2⟩ | ⟨rfl, -⟩
  case inr => exact fl_Tq.zt rfl (fl_bo rfl) (by rw [at_c1]; rfl) rfl no
  refine fl_Tq.zf rfl (fl_bo rfl) (by rw [at_c1]; rfl) rfl ?_
  refine fl_Tq.stp rfl rfl (fl_bo rfl) rfl ?_
  refine fl_Tq.stp rfl rfl (fl_bo rfl) rfl ?_
  refine fl_Tq.stp rfl rfl (fl_bo rfl) rfl ?_
  refine fl_Tq.cal rfl rfl (fl_bo rfl) rfl ?_
  refine at_isin (fun b hb => ?_)
  rcases hb with ⟨rfl, m1, m2⟩ | ⟨rfl, -⟩
  case inr => exact fl_Tq.zt rfl (fl_bo rfl) (by rw [at_c1]; rfl) rfl no
  refine fl_Tq.zf rfl (fl_bo rfl) (by rw [at_c1]; rfl) rfl ?_
  refine fl_Tq.stp rfl rfl (fl_bo rfl) rfl ?_
  refine fl_Tq.stp rfl rfl (fl_bo rfl) rfl ?_
  refine fl_Tq.stp rfl rfl (fl_bo rfl) rfl ?_
  refine fl_Tq.cal rfl rfl (fl_bo rfl) rfl ?_
  refine at_isin (fun b hb => ?_)
  rcases hb with ⟨rfl, w1, w2⟩ | ⟨rfl, -⟩
  case inr => exact fl_Tq.zf rfl (fl_bo rfl) (by rw [at_c1]; rfl) rfl no
  refine fl_Tq.zt rfl (fl_bo rfl) (by rw [at_c1]; rfl) rfl ?_
  rw [e24] at k2
  rw [e0] at k1
  rw [e12] at m2
  rw [e1] at m1
  obtain ⟨k, hk⟩ : ∃ k : Nat, ki.toInt = k := ⟨ki.toInt.toNat, by omega⟩
  obtain ⟨mm, hm⟩ : ∃ k : Nat, mi_.toInt = k := ⟨mi_.toInt.toNat, by omega⟩
  refine fl_Tq.stp rfl rfl (fl_bo rfl) rfl ?_
  refine fl_Tq.cal rfl rfl (fl_bo rfl) rfl ?_
  refine at_lay (m := m) ⟨rfl, fun p j _ => rfl⟩ (fun m2 hT hP => ?_)
  obtain ⟨g1, g2⟩ := hT.good hg
  have fin : ∀ v : Int32, at_Good at_XI m2 ∧ at_MD m m2 [(83, false, 0, 16249)] ∧ at_rtc at_rI false m2 (some (.inl v)) := fun v => ⟨g1, g2, ⟨v, rfl, (at_i32 _).1, (at_i32 _).2, fun h => by cases h⟩⟩
  refine fl_Tq.stp rfl rfl (fl_bo rfl) rfl ?_
  cases hw : am_c1 .ne wi with
  | false =>
    refine fl_Tq.zf rfl (fl_bo rfl) hw rfl ?_
    refine fl_Tq.stp rfl rfl (fl_bo rfl) rfl ?_
    refine fl_Tq.stp rfl rfl (fl_bo rfl) rfl ?_
    refine fl_Tq.stp rfl rfl (fl_bo rfl) rfl ?_
    refine fl_Tq.stp rfl rfl (fl_bo rfl) rfl ?_
    refine fl_Tq.stp rfl rfl (fl_bo rfl) rfl ?_
    refine fl_Tq.stp rfl rfl (fl_bo rfl) rfl ?_
    refine fl_Tq.cal rfl rfl (fl_bo rfl) rfl ?_
    refine at_price (h := 24) (k := k) (mm := mm) (t := 0) e24 hk hm e0 (by omega) (by omega) (by omega) (by omega) (fun v hv => ?_)
    refine fl_Tq.ld (p := 284) (τ := 83) (n := 16250) (z := (0, 0, 0)) (k := at_px 24 k mm 0) rfl (fl_bo rfl) rfl hv (by unfold at_px; omega) ?_
    exact fl_Tq.ret rfl rfl rfl (fin _)
  | true =>
    refine fl_Tq.zt rfl (fl_bo rfl) hw rfl ?_
    have loop : ∀ (h : Nat) (left str tk : Nat) (b li si ti : Int32) (o9 : Option fl_V), h ≤ 24 → left ≤ 24 → str ≤ 12 → tk ≤ 1 → li.toInt = left → si.toInt = str → ti.toInt = tk → fl_Tq (pw_P L xs) 308 69 [some at_this, some (.inl ki), some (.inl mi_), some (.inl wi), some (.inl b), some (.inl li), some (.inl si), some (.inl ti), some (.inl (Int32.ofNat h)), o9] [] m2 (fun v m' => at_Good at_XI m' ∧ at_MD m m' [(83, false, 0, 16249)] ∧ at_rtc at_rI false m' v) := by
      intro h
      induction h with
      | zero =>
        intro left str tk b li si ti o9 bh bl bs bt el es et
        refine fl_Tq.stp rfl rfl (fl_bo rfl) rfl ?_
        refine fl_Tq.zt rfl (fl_bo rfl) (by decide +kernel) rfl ?_
        refine fl_Tq.stp rfl rfl (fl_bo rfl) rfl ?_
        exact fl_Tq.ret rfl rfl rfl (fin _)
      | succ h ih =>
        intro left str tk b li si ti o9 bh bl bs bt el es et
        have eh := at_ofN (k := h + 1) (by omega)
        have edn : Int32.ofNat (h + 1) + Int32.ofInt (-1) = Int32.ofNat h := by
          refine Int32.toInt.inj ?_
          rw [at_add32 (by omega) (by omega), eh, em1, at_ofN (by omega)]
          omega
        refine fl_Tq.stp rfl rfl (fl_bo rfl) rfl ?_
        refine fl_Tq.zf rfl (fl_bo rfl) ?_ rfl ?_
        · rw [at_c1, eh]
          exact decide_eq_false (show ¬ (((h + 1 : Nat) : Int) ≤ 0) by omega)
        refine fl_Tq.stp rfl rfl (fl_bo rfl) rfl ?_
        refine fl_Tq.stp rfl rfl (fl_bo rfl) rfl ?_
        refine fl_Tq.stp rfl rfl (fl_bo rfl) rfl ?_
        refine fl_Tq.stp rfl rfl (fl_bo rfl) rfl ?_
        refine fl_Tq.stp rfl rfl (fl_bo rfl) rfl ?_
        refine fl_Tq.stp rfl rfl (fl_bo rfl) rfl ?_
        refine fl_Tq.stp rfl rfl (fl_bo rfl) rfl ?_
        refine fl_Tq.stp rfl rfl (fl_bo rfl) rfl ?_
        refine fl_Tq.cal rfl rfl (fl_bo rfl) rfl ?_
        refine at_price (h := h + 1 - 1) (k := left) (mm := str) (t := 0) (at_dec eh (by omega)) el es e0 (by omega) (by omega) (by omega) (by omega) (fun v hv => ?_)
        refine fl_Tq.ld (p := 284) (τ := 83) (n := 16250) (z := (0, 0, 0)) (k := at_px (h + 1 - 1) left str 0) rfl (fl_bo rfl) rfl hv (by unfold at_px; omega) ?_
        refine fl_Tq.stp rfl rfl (fl_bo rfl) rfl ?_
        refine fl_Tq.stp rfl rfl (fl_bo rfl) rfl ?_
        refine fl_Tq.stp rfl rfl (fl_bo rfl) rfl ?_
        refine fl_Tq.stp rfl rfl (fl_bo rfl) rfl ?_
        refine fl_Tq.stp rfl rfl (fl_bo rfl) rfl ?_
        refine fl_Tq.stp rfl rfl (fl_bo rfl) rfl ?_
        refine fl_Tq.cal rfl rfl (fl_bo rfl) rfl ?_
        refine at_price (h := h + 1) (k := left) (mm := str) (t := tk) eh el es et (by omega) (by omega) (by omega) (by omega) (fun u hu => ?_)
        refine fl_Tq.ld (p := 284) (τ := 83) (n := 16250) (z := (0, 0, 0)) (k := at_px (h + 1) left str tk) rfl (fl_bo rfl) rfl hu (by unfold at_px; omega) ?_
        have back : ∀ (tk' left' str' : Nat) (b' li' si' ti' : Int32) (o9 : Option fl_V), left' ≤ 24 → str' ≤ 12 → tk' ≤ 1 → li'.toInt = left' → si'.toInt = str' → ti'.toInt = tk' → fl_Tq (pw_P L xs) 308 157 [some at_this, some (.inl ki), some (.inl mi_), some (.inl wi), some (.inl b'), some (.inl li'), some (.inl si'), some (.inl ti'), some (.inl (Int32.ofNat (h + 1))), o9] [] m2 (fun v m' => at_Good at_XI m' ∧ at_MD m m' [(83, false, 0, 16249)] ∧ at_rtc at_rI false m' v) := by
          intro tk' left' str' b' li' si' ti' o9 c1 c2 c3 c4 c5 c6
          refine fl_Tq.stp rfl rfl (fl_bo rfl) rfl ?_
          refine fl_Tq.stp rfl rfl (fl_bo rfl) rfl ?_
          have := ih left' str' tk' b' li' si' ti' o9 (by omega) c1 c2 c3 c4 c5 c6
          rw [← edn] at this
          exact this
        by_cases heq : (m2.1 284 (at_px (h + 1 - 1) left str 0)).toInt = (m2.1 284 (at_px (h + 1) left str tk)).toInt
        · refine fl_Tq.jf rfl (fl_bo rfl) ?_ rfl ?_
          · rw [at_c2]
            show (!decide _) = false
            rw [decide_eq_true (by omega)]; rfl
          refine fl_Tq.stp rfl rfl (fl_bo rfl) rfl ?_
          refine fl_Tq.stp rfl rfl (fl_bo rfl) rfl ?_
          refine fl_Tq.stp rfl rfl (fl_bo rfl) rfl ?_
          refine fl_Tq.stp rfl rfl (fl_bo rfl) rfl ?_
          refine fl_Tq.zt rfl (fl_bo rfl) (by decide +kernel) rfl ?_
          refine fl_Tq.stp rfl rfl (fl_bo rfl) rfl ?_
          refine fl_Tq.zf rfl (fl_bo rfl) (by decide +kernel) rfl ?_
          refine fl_Tq.stp rfl rfl (fl_bo rfl) rfl ?_
          refine fl_Tq.stp rfl rfl (fl_bo rfl) rfl ?_
          refine fl_Tq.stp rfl rfl (fl_bo rfl) rfl ?_
          exact back 0 left str _ _ _ _ _ bl bs (by omega) el es e0
        · have hnc : ¬ (left = 0 ∨ (tk = 0 ∧ str = 0)) := by
            intro hc
            refine heq ?_
            have := hP (h + 1) left (2 * str + tk) (by omega) (by omega) (by omega) (by omega) (by omega) (by omega)
            have q1 : (((h + 1) * 25 + left) * 26 + (2 * str + tk)) = at_px (h + 1) left str tk := by unfold at_px; omega
            have q2 : (((h + 1 - 1) * 25 + left) * 26 + 2 * ((2 * str + tk) / 2)) = at_px (h + 1 - 1) left str 0 := by unfold at_px; omega
            rw [q1, q2] at this
            rw [this]
          refine fl_Tq.jt rfl (fl_bo rfl) ?_ rfl ?_
          · rw [at_c2]
            show (!decide _) = true
            rw [decide_eq_false (by omega)]; rfl
          refine fl_Tq.stp rfl rfl (fl_bo rfl) rfl ?_
          refine fl_Tq.stp rfl rfl (fl_bo rfl) rfl ?_
          refine fl_Tq.stp rfl rfl (fl_bo rfl) rfl ?_
          refine fl_Tq.zf rfl (fl_bo rfl) (by decide +kernel) rfl ?_
          refine fl_Tq.stp rfl rfl (fl_bo rfl) rfl ?_
          refine fl_Tq.stp rfl rfl (fl_bo rfl) rfl ?_
          refine fl_Tq.stp rfl rfl (fl_bo rfl) rfl ?_
          refine fl_Tq.stp rfl rfl (fl_bo rfl) rfl ?_
          refine fl_Tq.stp rfl rfl (fl_bo rfl) rfl ?_
          refine fl_Tq.stp rfl rfl (fl_bo rfl) rfl ?_
          refine fl_Tq.stp rfl rfl (fl_bo rfl) rfl ?_
          refine fl_Tq.stp rfl rfl (fl_bo rfl) rfl ?_
          refine fl_Tq.stp rfl rfl (fl_bo rfl) rfl ?_
          refine fl_Tq.stp rfl rfl (fl_bo rfl) rfl ?_
          refine fl_Tq.stp rfl rfl (fl_bo rfl) rfl ?_
          refine fl_Tq.stp rfl rfl (fl_bo rfl) rfl ?_
          refine fl_Tq.stp rfl rfl (fl_bo rfl) rfl ?_
          refine fl_Tq.stp rfl rfl (fl_bo rfl) rfl ?_
          refine fl_Tq.stp rfl rfl (fl_bo rfl) rfl ?_
          refine fl_Tq.stp rfl rfl (fl_bo rfl) rfl ?_
          have cl : (li + Int32.ofInt (-1)).toInt = ((left - 1 : Nat) : Int) := by
            rw [at_add32] <;> rw [el, em1] <;> omega
          have c1 : (Int32.ofInt 1 - ti).toInt = 1 - (tk : Int) := by
            rw [at_sub32] <;> rw [et, e1] <;> omega
          have cs : (si - (Int32.ofInt 1 - ti)).toInt = ((str - (1 - tk) : Nat) : Int) := by
            rw [at_sub32] <;> rw [es, c1] <;> omega
          refine fl_Tq.zt rfl (fl_bo rfl) (by decide +kernel) rfl ?_
          refine fl_Tq.stp rfl rfl (fl_bo rfl) rfl ?_
          refine fl_Tq.stp rfl rfl (fl_bo rfl) rfl ?_
          exact back 1 (left - 1) (str - (1 - tk)) _ _ _ _ _ (by omega) (by omega) (by omega) cl cs e1
    refine fl_Tq.stp rfl rfl (fl_bo rfl) rfl ?_
    refine fl_Tq.stp rfl rfl (fl_bo rfl) rfl ?_
    show fl_Tq (pw_P L xs) 308 56 [some at_this, some (.inl ki), some (.inl mi_), some (.inl wi), some (.inl (Int32.ofInt 0)), none, none, none, none, none] [] m2 _
    refine fl_Tq.stp rfl rfl (fl_bo rfl) rfl ?_
    refine fl_Tq.stp rfl rfl (fl_bo rfl) rfl ?_
    show fl_Tq (pw_P L xs) 308 59 [some at_this, some (.inl ki), some (.inl mi_), some (.inl wi), some (.inl (Int32.ofInt 0)), some (.inl ki), none, none, none, none] [] m2 _
    refine fl_Tq.stp rfl rfl (fl_bo rfl) rfl ?_
    refine fl_Tq.stp rfl rfl (fl_bo rfl) rfl ?_
    show fl_Tq (pw_P L xs) 308 62 [some at_this, some (.inl ki), some (.inl mi_), some (.inl wi), some (.inl (Int32.ofInt 0)), some (.inl ki), some (.inl mi_), none, none, none] [] m2 _
    refine fl_Tq.stp rfl rfl (fl_bo rfl) rfl ?_
    refine fl_Tq.stp rfl rfl (fl_bo rfl) rfl ?_
    show fl_Tq (pw_P L xs) 308 65 [some at_this, some (.inl ki), some (.inl mi_), some (.inl wi), some (.inl (Int32.ofInt 0)), some (.inl ki), some (.inl mi_), some (.inl (Int32.ofInt 0)), none, none] [] m2 _
    refine fl_Tq.stp rfl rfl (fl_bo rfl) rfl ?_
    refine fl_Tq.stp rfl rfl (fl_bo rfl) rfl ?_
    rw [show (Int8.ofInt 24).toInt32 = Int32.ofNat 24 from by decide +kernel]
    exact loop 24 k mm 0 (Int32.ofInt 0) ki mi_ (Int32.ofInt 0) none (by omega) (by omega) (by omega) (by omega) hk hm e0
end ATCE
