/-! 89.13.cheapest.lean.txt -/
section
/-! ===== cheapest ===== -/
section ATCE
variable {L : Nat} {xs : Nat → Int32}
theorem at_v308 : at_Valid at_XI (pw_P L xs) (308, [.inl (76, some 277), .inr (false, -2147483648, 2147483647), .inr (false, -2147483648, 2147483647), .inr (false, -2147483648, 2147483647)], [], some (.inr (false, -2147483648, 2147483647)), false, [(83, false, 0, 16249)]) := by
  intro m vs hg hk _
  obtain ⟨r, rfl, hk2⟩ := at_ag277 hk
  cases r with
  | nil => cases hk2
  | cons v r =>
  obtain ⟨⟨ki, rfl, -, -⟩, hk3⟩ := hk2
  cases r with
  | nil => cases hk3
  | cons v r =>
  obtain ⟨⟨mi_, rfl, -, -⟩, hk4⟩ := hk3
  cases r with
  | nil => cases hk4
  | cons v r =>
  obtain ⟨⟨wi, rfl, -, -⟩, hk5⟩ := hk4
  have hr0 := at_agnil (vs := r) hk5
  subst hr0
  have e24 : (Int8.ofInt 24).toInt32.toInt = 24 := by decide +kernel
  have e12 : (Int8.ofInt 12).toInt32.toInt = 12 := by decide +kernel
  have e1 : (Int32.ofInt 1).toInt = 1 := rfl
  have e0 : (Int32.ofInt 0).toInt = 0 := rfl
  have em1 : (Int32.ofInt (-1)).toInt = -1 := rfl
  have no : fl_Tq (pw_P L xs) 308 29 [some at_this, some (.inl ki), some (.inl mi_), some (.inl wi), none, none, none, none, none, none] [] m (fun v m' => at_Good at_XI m' ∧ at_MD m m' [(83, false, 0, 16249)] ∧ at_rtc at_rI false m' v) := by
    refine fl_Tq.stp rfl rfl (fl_bo rfl) rfl ?_
    exact fl_Tq.ret rfl rfl rfl ⟨hg, at_MD.rf, ⟨_, rfl, (at_i32 _).1, (at_i32 _).2, fun h => by cases h⟩⟩
  refine fl_Tq.stp rfl rfl (fl_bo rfl) rfl ?_
  refine fl_Tq.stp rfl rfl (fl_bo rfl) rfl ?_
  refine fl_Tq.stp rfl rfl (fl_bo rfl) rfl ?_
  refine fl_Tq.cal rfl rfl (fl_bo rfl) rfl ?_
  refine at_isin (fun b hb => ?_)
  rcases hb with ⟨rfl, k1, k2⟩ | ⟨rfl, -⟩
  case inr => exact fl_Tq.zt rfl (fl_bo rfl) (by rw [at_c1]; rfl) rfl no
  refine fl_Tq.zf rfl (fl_bo rfl) (by rw [at_c1]; rfl) rfl ?_
  refine fl_Tq.stp rfl rfl (fl_bo rfl) rfl ?_
  refine fl_Tq.stp rfl rfl (fl_bo rfl) rfl ?_
  refine fl_Tq.stp rfl rfl (fl_bo rfl) rfl ?_
  refine fl_Tq.cal rfl rfl (fl_bo rfl) rfl ?_
  refine at_isin (fun b hb => ?_)
  rcases hb with ⟨rfl, m1, m2⟩ | ⟨rfl, -⟩
  case inr => exact fl_Tq.zt rfl (fl_bo rfl) (by rw [at_c1]; rfl) rfl no
  refine fl_Tq.zf rfl (fl_bo rfl) (by rw [at_c1]; rfl) rfl ?_
  refine fl_Tq.stp rfl rfl (fl_bo rfl) rfl ?_
  refine fl_Tq.stp rfl rfl (fl_bo rfl) rfl ?_
  refine fl_Tq.stp rfl rfl (fl_bo rfl) rfl ?_
  refine fl_Tq.cal rfl rfl (fl_bo rfl) rfl ?_
  refine at_isin (fun b hb => ?_)
  rcases hb with ⟨rfl, w1, w2⟩ | ⟨rfl, -⟩
  case inr => exact fl_Tq.zf rfl (fl_bo rfl) (by rw [at_c1]; rfl) rfl no
  refine fl_Tq.zt rfl (fl_bo rfl) (by rw [at_c1]; rfl) rfl ?_
  rw [e24] at k2
  rw [e0] at k1
  rw [e12] at m2
  rw [e1] at m1
  obtain ⟨k, hk⟩ : ∃ k : Nat, ki.toInt = k := ⟨ki.toInt.toNat, by omega⟩
  obtain ⟨mm, hm⟩ : ∃ k : Nat, mi_.toInt = k := ⟨mi_.toInt.toNat, by omega⟩
  refine fl_Tq.stp rfl rfl (fl_bo rfl) rfl ?_
  refine fl_Tq.cal rfl rfl (fl_bo rfl) rfl ?_
  refine at_lay (m := m) ⟨rfl, fun p j _ => rfl⟩ (fun m2 hT hP => ?_)
  obtain ⟨g1, g2⟩ := hT.good hg
  have fin : ∀ v : Int32, at_Good at_XI m2 ∧ at_MD m m2 [(83, false, 0, 16249)] ∧ at_rtc at_rI false m2 (some (.inl v)) := fun v => ⟨g1, g2, ⟨v, rfl, (at_i32 _).1, (at_i32 _).2, fun h => by cases h⟩⟩
  refine fl_Tq.stp rfl rfl (fl_bo rfl) rfl ?_
  cases hw : am_c1 .ne wi with
  | false =>
    refine fl_Tq.zf rfl (fl_bo rfl) hw rfl ?_
    refine fl_Tq.stp rfl rfl (fl_bo rfl) rfl ?_
    refine fl_Tq.stp rfl rfl (fl_bo rfl) rfl ?_
    refine fl_Tq.stp rfl rfl (fl_bo rfl) rfl ?_
    refine fl_Tq.stp rfl rfl (fl_bo rfl) rfl ?_
    refine fl_Tq.stp rfl rfl (fl_bo rfl) rfl ?_
    refine fl_Tq.stp rfl rfl (fl_bo rfl) rfl ?_
    refine fl_Tq.cal rfl rfl (fl_bo rfl) rfl ?_
    refine at_price (h := 24) (k := k) (mm := mm) (t := 0) e24 hk hm e0 (by omega) (by omega) (by omega) (by omega) (fun v hv => ?_)
    refine fl_Tq.ld (p := 284) (τ := 83) (n := 16250) (z := (0, 0, 0)) (k := at_px 24 k mm 0) rfl (fl_bo rfl) rfl hv (by unfold at_px; omega) ?_
    exact fl_Tq.ret rfl rfl rfl (fin _)
  | true =>
    refine fl_Tq.zt rfl (fl_bo rfl) hw rfl ?_
    have loop : ∀ (h : Nat) (left str tk : Nat) (b li si ti : Int32) (o9 : Option fl_V), h ≤ 24 → left ≤ 24 → str ≤ 12 → tk ≤ 1 → li.toInt = left → si.toInt = str → ti.toInt = tk → fl_Tq (pw_P L xs) 308 69 [some at_this, some (.inl ki), some (.inl mi_), some (.inl wi), some (.inl b), some (.inl li), some (.inl si), some (.inl ti), some (.inl (Int32.ofNat h)), o9] [] m2 (fun v m' => at_Good at_XI m' ∧ at_MD m m' [(83, false, 0, 16249)] ∧ at_rtc at_rI false m' v) := by
      intro h
      induction h with
      | zero =>
        intro left str tk b li si ti o9 bh bl bs bt el es et
        refine fl_Tq.stp rfl rfl (fl_bo rfl) rfl ?_
        refine fl_Tq.zt rfl (fl_bo rfl) (by decide +kernel) rfl ?_
        refine fl_Tq.stp rfl rfl (fl_bo rfl) rfl ?_
        exact fl_Tq.ret rfl rfl rfl (fin _)
      | succ h ih =>
        intro left str tk b li si ti o9 bh bl bs bt el es et
        have eh := at_ofN (k := h + 1) (by omega)
        have edn : Int32.ofNat (h + 1) + Int32.ofInt (-1) = Int32.ofNat h := by
          refine Int32.toInt.inj ?_
          rw [at_add32 (by omega) (by omega), eh, em1, at_ofN (by omega)]
          omega
        refine fl_Tq.stp rfl rfl (fl_bo rfl) rfl ?_
        refine fl_Tq.zf rfl (fl_bo rfl) ?_ rfl ?_
        · rw [at_c1, eh]
          exact decide_eq_false (show ¬ (((h + 1 : Nat) : Int) ≤ 0) by omega)
        refine fl_Tq.stp rfl rfl (fl_bo rfl) rfl ?_
        refine fl_Tq.stp rfl rfl (fl_bo rfl) rfl ?_
        refine fl_Tq.stp rfl rfl (fl_bo rfl) rfl ?_
        refine fl_Tq.stp rfl rfl (fl_bo rfl) rfl ?_
        refine fl_Tq.stp rfl rfl (fl_bo rfl) rfl ?_
        refine fl_Tq.stp rfl rfl (fl_bo rfl) rfl ?_
        refine fl_Tq.stp rfl rfl (fl_bo rfl) rfl ?_
        refine fl_Tq.stp rfl rfl (fl_bo rfl) rfl ?_
        refine fl_Tq.cal rfl rfl (fl_bo rfl) rfl ?_
        refine at_price (h := h + 1 - 1) (k := left) (mm := str) (t := 0) (at_dec eh (by omega)) el es e0 (by omega) (by omega) (by omega) (by omega) (fun v hv => ?_)
        refine fl_Tq.ld (p := 284) (τ := 83) (n := 16250) (z := (0, 0, 0)) (k := at_px (h + 1 - 1) left str 0) rfl (fl_bo rfl) rfl hv (by unfold at_px; omega) ?_
        refine fl_Tq.stp rfl rfl (fl_bo rfl) rfl ?_
        refine fl_Tq.stp rfl rfl (fl_bo rfl) rfl ?_
        refine fl_Tq.stp rfl rfl (fl_bo rfl) rfl ?_
        refine fl_Tq.stp rfl rfl (fl_bo rfl) rfl ?_
        refine fl_Tq.stp rfl rfl (fl_bo rfl) rfl ?_
        refine fl_Tq.stp rfl rfl (fl_bo rfl) rfl ?_
        refine fl_Tq.cal rfl rfl (fl_bo rfl) rfl ?_
        refine at_price (h := h + 1) (k := left) (mm := str) (t := tk) eh el es et (by omega) (by omega) (by omega) (by omega) (fun u hu => ?_)
        refine fl_Tq.ld (p := 284) (τ := 83) (n := 16250) (z := (0, 0, 0)) (k := at_px (h + 1) left str tk) rfl (fl_bo rfl) rfl hu (by unfold at_px; omega) ?_
        have back : ∀ (tk' left' str' : Nat) (b' li' si' ti' : Int32) (o9 : Option fl_V), left' ≤ 24 → str' ≤ 12 → tk' ≤ 1 → li'.toInt = left' → si'.toInt = str' → ti'.toInt = tk' → fl_Tq (pw_P L xs) 308 157 [some at_this, some (.inl ki), some (.inl mi_), some (.inl wi), some (.inl b'), some (.inl li'), some (.inl si'), some (.inl ti'), some (.inl (Int32.ofNat (h + 1))), o9] [] m2 (fun v m' => at_Good at_XI m' ∧ at_MD m m' [(83, false, 0, 16249)] ∧ at_rtc at_rI false m' v) := by
          intro tk' left' str' b' li' si' ti' o9 c1 c2 c3 c4 c5 c6
          refine fl_Tq.stp rfl rfl (fl_bo rfl) rfl ?_
          refine fl_Tq.stp rfl rfl (fl_bo rfl) rfl ?_
          have := ih left' str' tk' b' li' si' ti' o9 (by omega) c1 c2 c3 c4 c5 c6
          rw [← edn] at this
          exact this
        by_cases heq : (m2.1 284 (at_px (h + 1 - 1) left str 0)).toInt = (m2.1 284 (at_px (h + 1) left str tk)).toInt
        · refine fl_Tq.jf rfl (fl_bo rfl) ?_ rfl ?_
          · rw [at_c2]
            show (!decide _) = false
            rw [decide_eq_true (by omega)]; rfl
          refine fl_Tq.stp rfl rfl (fl_bo rfl) rfl ?_
          refine fl_Tq.stp rfl rfl (fl_bo rfl) rfl ?_
          refine fl_Tq.stp rfl rfl (fl_bo rfl) rfl ?_
          refine fl_Tq.stp rfl rfl (fl_bo rfl) rfl ?_
          refine fl_Tq.zt rfl (fl_bo rfl) (by decide +kernel) rfl ?_
          refine fl_Tq.stp rfl rfl (fl_bo rfl) rfl ?_
          refine fl_Tq.zf rfl (fl_bo rfl) (by decide +kernel) rfl ?_
          refine fl_Tq.stp rfl rfl (fl_bo rfl) rfl ?_
          refine fl_Tq.stp rfl rfl (fl_bo rfl) rfl ?_
          refine fl_Tq.stp rfl rfl (fl_bo rfl) rfl ?_
          exact back 0 left str _ _ _ _ _ bl bs (by omega) el es e0
        · have hnc : ¬ (left = 0 ∨ (tk = 0 ∧ str = 0)) := by
            intro hc
            refine heq ?_
            have := hP (h + 1) left (2 * str + tk) (by omega) (by omega) (by omega) (by omega) (by omega) (by omega)
            have q1 : (((h + 1) * 25 + left) * 26 + (2 * str + tk)) = at_px (h + 1) left str tk := by unfold at_px; omega
            have q2 : (((h + 1 - 1) * 25 + left) * 26 + 2 * ((2 * str + tk) / 2)) = at_px (h + 1 - 1) left str 0 := by unfold at_px; omega
            rw [q1, q2] at this
            rw [this]
          refine fl_Tq.jt rfl (fl_bo rfl) ?_ rfl ?_
          · rw [at_c2]
            show (!decide _) = true
            rw [decide_eq_false (by omega)]; rfl
          refine fl_Tq.stp rfl rfl (fl_bo rfl) rfl ?_
          refine fl_Tq.stp rfl rfl (fl_bo rfl) rfl ?_
          refine fl_Tq.stp rfl rfl (fl_bo rfl) rfl ?_
          refine fl_Tq.zf rfl (fl_bo rfl) (by decide +kernel) rfl ?_
          refine fl_Tq.stp rfl rfl (fl_bo rfl) rfl ?_
          refine fl_Tq.stp rfl rfl (fl_bo rfl) rfl ?_
          refine fl_Tq.stp rfl rfl (fl_bo rfl) rfl ?_
          refine fl_Tq.stp rfl rfl (fl_bo rfl) rfl ?_
          refine fl_Tq.stp rfl rfl (fl_bo rfl) rfl ?_
          refine fl_Tq.stp rfl rfl (fl_bo rfl) rfl ?_
          refine fl_Tq.stp rfl rfl (fl_bo rfl) rfl ?_
          refine fl_Tq.stp rfl rfl (fl_bo rfl) rfl ?_
          refine fl_Tq.stp rfl rfl (fl_bo rfl) rfl ?_
          refine fl_Tq.stp rfl rfl (fl_bo rfl) rfl ?_
          refine fl_Tq.stp rfl rfl (fl_bo rfl) rfl ?_
          refine fl_Tq.stp rfl rfl (fl_bo rfl) rfl ?_
          refine fl_Tq.stp rfl rfl (fl_bo rfl) rfl ?_
          refine fl_Tq.stp rfl rfl (fl_bo rfl) rfl ?_
          refine fl_Tq.stp rfl rfl (fl_bo rfl) rfl ?_
          refine fl_Tq.stp rfl rfl (fl_bo rfl) rfl ?_
          have cl : (li + Int32.ofInt (-1)).toInt = ((left - 1 : Nat) : Int) := by
            rw [at_add32] <;> rw [el, em1] <;> omega
          have c1 : (Int32.ofInt 1 - ti).toInt = 1 - (tk : Int) := by
            rw [at_sub32] <;> rw [et, e1] <;> omega
          have cs : (si - (Int32.ofInt 1 - ti)).toInt = ((str - (1 - tk) : Nat) : Int) := by
            rw [at_sub32] <;> rw [es, c1] <;> omega
          refine fl_Tq.zt rfl (fl_bo rfl) (by decide +kernel) rfl ?_
          refine fl_Tq.stp rfl rfl (fl_bo rfl) rfl ?_
          refine fl_Tq.stp rfl rfl (fl_bo rfl) rfl ?_
          exact back 1 (left - 1) (str - (1 - tk)) _ _ _ _ _ (by omega) (by omega) (by omega) cl cs e1
    refine fl_Tq.stp rfl rfl (fl_bo rfl) rfl ?_
    refine fl_Tq.stp rfl rfl (fl_bo rfl) rfl ?_
    show fl_Tq (pw_P L xs) 308 56 [some at_this, some (.inl ki), some (.inl mi_), some (.inl wi), some (.inl (Int32.ofInt 0)), none, none, none, none, none] [] m2 _
    refine fl_Tq.stp rfl rfl (fl_bo rfl) rfl ?_
    refine fl_Tq.stp rfl rfl (fl_bo rfl) rfl ?_
    show fl_Tq (pw_P L xs) 308 59 [some at_this, some (.inl ki), some (.inl mi_), some (.inl wi), some (.inl (Int32.ofInt 0)), some (.inl ki), none, none, none, none] [] m2 _
    refine fl_Tq.stp rfl rfl (fl_bo rfl) rfl ?_
    refine fl_Tq.stp rfl rfl (fl_bo rfl) rfl ?_
    show fl_Tq (pw_P L xs) 308 62 [some at_this, some (.inl ki), some (.inl mi_), some (.inl wi), some (.inl (Int32.ofInt 0)), some (.inl ki), some (.inl mi_), none, none, none] [] m2 _
    refine fl_Tq.stp rfl rfl (fl_bo rfl) rfl ?_
    refine fl_Tq.stp rfl rfl (fl_bo rfl) rfl ?_
    show fl_Tq (pw_P L xs) 308 65 [some at_this, some (.inl ki), some (.inl mi_), some (.inl wi), some (.inl (Int32.ofInt 0)), some (.inl ki), some (.inl mi_), some (.inl (Int32.ofInt 0)), none, none] [] m2 _
    refine fl_Tq.stp rfl rfl (fl_bo rfl) rfl ?_
    refine fl_Tq.stp rfl rfl (fl_bo rfl) rfl ?_
    rw [show (Int8.ofInt 24).toInt32 = Int32.ofNat 24 from by decide +kernel]
    exact loop 24 k mm 0 (Int32.ofInt 0) ki mi_ (Int32.ofInt 0) none (by omega) (by omega) (by omega) (by omega) hk hm e0
end ATCE

end

/-! 89.14.boot.lean.txt -/
section
/-! ===== the two constructors, from the empty heap ===== -/
def at_m1 : fl_M := ((fun p j => if p < 285 then (at_i0 p).getD j 0 else at_W0 ((p - 285) % 90) j), (fun _ _ => 0), 0)
def at_m0 : fl_M := bl_cp 280 0 281 0 29780 at_m1
theorem nw_ckr_ok {N n s : Nat} {wl : Nat → List Int32} {lv : am_L} {st : List Value} {r : Option (am_L × List Value × nw_H)} (h : nw_ckr N wl lv st n s r = true) : ∃ H : nw_H, r = some (lv, st, H) ∧ H.1.length = n ∧ H.2 = s ∧ nw_ckl N wl 0 H.1 = true := by
  unfold nw_ckr at h
  split at h
  · rename_i lv' st' H
    simp only [Bool.and_eq_true, decide_eq_true_eq] at h
    obtain ⟨h1, h2, h3, h4, h5⟩ := h
    subst h1 h2
    exact ⟨H, rfl, Nat.eq_of_beq_eq_true h3, Nat.eq_of_beq_eq_true h4, h5⟩
  · cases h
theorem at_made0 {H1 H3 : nw_H} (l1 : H1.1.length = 277) (s1 : H1.2 = 5395) (c1 : nw_ckl 0 at_i0 0 H1.1 = true) (l3 : H3.1.length = 8) (s3 : H3.2 = 77355) (c3 : nw_ckl 277 (fun r => at_i0 (277 + r)) 0 H3.1 = true) : nw_h (nw_h ([], 0) H1) H3 = fl_H at_m1 := by
  unfold nw_h
  refine Prod.ext ?_ ?_
  · show ([] ++ H1.1.map nw_o) ++ H3.1.map nw_o = (fl_H at_m1).1
    refine List.ext_getElem? (fun p => ?_)
    have hl1 : ([] ++ H1.1.map nw_o : List am_O).length = 277 := by simp [l1]
    have hw : ∀ q : Nat, q < 285 → at_m1.1 q = fun j => (at_i0 q).getD j 0 := fun q hq => by
      funext j
      show (if q < 285 then (at_i0 q).getD j 0 else at_W0 ((q - 285) % 90) j) = _
      rw [if_pos hq]
    by_cases hp : p < 277
    · rw [List.getElem?_append_left (by rw [hl1]; exact hp), List.nil_append, nw_ckl_ok H1.1 0 c1 p (by omega), fl_get (m := at_m1) (show p < fl_N 0 by unfold fl_N; omega), hw p (by omega)]
      have e : 0 + (0 + p) = p := by omega
      have e2 : 0 + p = p := by omega
      rw [e, e2]
      rfl
    · rw [List.getElem?_append_right (by rw [hl1]; omega), hl1]
      by_cases hp2 : p < 285
      · rw [nw_ckl_ok H3.1 0 c3 (p - 277) (by omega), fl_get (m := at_m1) (show p < fl_N 0 by unfold fl_N; omega), hw p hp2]
        have e : 277 + (0 + (p - 277)) = p := by omega
        rw [e]
        rfl
      · rw [List.getElem?_eq_none (by rw [List.length_map]; omega), List.getElem?_eq_none (by unfold fl_H; simp; show fl_N 0 ≤ p; unfold fl_N; omega)]
  · show 0 + H1.2 + H3.2 = fl_S 0
    unfold fl_S
    omega
theorem pw_cod {L : Nat} {xs : Nat → Int32} {mi pc : Nat} {ins : Instr} (h : pw_code mi pc = some ins) : am_code (pw_P L xs) mi pc = some ins := h
set_option maxRecDepth 1000000 in
theorem pw_cod765 : pw_code 183 765 = some (.invokestatic 38) := by decide +kernel
set_option maxRecDepth 1000000 in
theorem pw_cod768 : pw_code 183 768 = some .return_ := by decide +kernel
theorem at_boot {L : Nat} {xs : Nat → Int32} {Q : Option fl_V → fl_M → Prop} (k : fl_Tq (pw_P L xs) 0 15 [some (.inr (.inr (.inr (.inl 0)))), some (.inr (.inr (.inl (0, 0)))), none, none] [.inr (.inr (.inl (76, 277)))] at_m0 Q) : am_To (pw_P L xs) 0 0 (lv_args 0 [.retAddr 0]) [] ([], 0) (fun v M => ∃ v' m', v = v'.map fl_c ∧ M = fl_H m' ∧ Q v' m') := by
  obtain ⟨H1, e1, l1, s1, c1⟩ := nw_ckr_ok nw_r1_ck
  obtain ⟨lv3, H3, e3, l3, s3, c3⟩ : ∃ (lv3 : am_L) (H3 : nw_H), nw_r3 = some (lv3, [.ref 281, .ref 280], H3) ∧ H3.1.length = 8 ∧ H3.2 = 77355 ∧ nw_ckl 277 (fun r => at_i0 (277 + r)) 0 H3.1 = true := by
    have h := nw_r3_ck
    split at h
    · rename_i lv' st' H e
      simp only [Bool.and_eq_true, decide_eq_true_eq] at h
      obtain ⟨h2, h3, h4, h5⟩ := h
      subst h2
      exact ⟨lv', H, e, Nat.eq_of_beq_eq_true h3, Nat.eq_of_beq_eq_true h4, h5⟩
    · cases h
  have hB : (nw_h ([], 0) H1).1.length = 277 := by unfold nw_h; simp [l1]
  have h0 : ∀ B : am_M, nw_h B ([], 0) = B := fun B => by unfold nw_h; simp
  have hm1 := at_made0 l1 s1 c1 l3 s3 c3
  generalize hBg : nw_h ([], 0) H1 = B at hB hm1
  have k1 := nw_to_ok (B := ([], 0)) (L := L) (xs := xs) (Q := fun v M => ∃ v' m', v = v'.map fl_c ∧ M = fl_H m' ∧ Q v' m') 5000 0 (lv_args 0 [.retAddr 0]) [] ([], 0) _ _ H1 e1
  rw [hBg, h0] at k1
  refine k1 ?_
  have e2 := nw_r2_ck
  unfold nw_r2 at e2
  rw [← hB] at e2
  have k2 := nw_to_ok (B := B) (L := L) (xs := xs) (Q := fun v M => ∃ v' m', v = v'.map fl_c ∧ M = fl_H m' ∧ Q v' m') 5000 8 [(1, .ref 0), (0, .retAddr 0)] [] ([], 0) _ _ _ e2
  rw [h0] at k2
  refine k2 ?_
  refine am_To.cal (ins := .invokespecial 12) (mj := 183) (n := 1) rfl rfl rfl ?_
  unfold nw_r3 at e3
  rw [← hB] at e3
  refine nw_to_ok (B := B) (L := L) (xs := xs) 5000 0 _ [] ([nw_obj1], 10) _ _ H3 (by rw [hB] at e3 ⊢; exact e3) ?_
  rw [hm1]
  refine am_To.cal (ins := .invokestatic 38) (mj := 184) (n := 2) (pw_cod pw_cod765) rfl rfl ?_
  have k80 : fk_K 281 = 80 := by decide +kernel
  have hc := at_copy (L := L) (xs := xs) (m := at_m1) (p := 280) (q := 281) (tp := 79) (tq := 80) (Q := fun v m' => v = none ∧ m' = at_m0) fk_K_280 k80 (by decide) (by decide) rfl rfl (by decide) ⟨rfl, rfl⟩
  have hc2 := hc (lv_args 0 [.ref 280, .ref 281]) (fl_args_LR _ [.inr (.inr (.inl (79, 280))), .inr (.inr (.inl (80, 281)))])
  refine am_To.mono hc2 ?_
  rintro v M ⟨v', m', rfl, rfl, rfl, rfl⟩
  refine am_To.ret (ins := .return_) (v := none) (pw_cod pw_cod768) rfl rfl ?_
  rw [hB]
  refine k [(1, .ref 0), (0, .retAddr 0)] (fun i v hv => ?_)
  match i, hv with
  | 0, hv => cases hv; rfl
  | 1, hv => cases hv; rfl
  | 2, hv => cases hv
  | 3, hv => cases hv
  | n + 4, hv => simp at hv
/-! ===== all is good at the start ===== -/
theorem at_i0_rg : (List.range 285).all (fun p => (at_rg (fk_K p)).all (at_rok (fun i => ((at_i0 p).getD i 0).toInt))) = true := by decide +kernel
theorem at_0_rg : (at_rg at_TA).all (fun r => decide (r.2.2.2.2.2.1 ≤ 0 ∧ 0 ≤ r.2.2.2.2.2.2)) = true := by decide +kernel
theorem at_i0_ln : (at_i0 280).length ≤ 1420 := by decide +kernel
theorem at_AK0 : at_AK (fun _ => 0) := by
  refine ⟨fun r hr j _ _ => ?_, fun c _ hl => ?_, fun k _ => Int.le_refl _⟩
  · exact of_decide_eq_true (List.all_eq_true.mp at_0_rg r hr)
  · exfalso
    have hl : (c : Int) < 0 := hl
    omega
theorem at_start : at_Good at_XI at_m0 := by
  have ne : ∀ p j : Nat, p ≠ 281 → at_m0.1 p j = at_m1.1 p j := fun p j e => bl_cp_out (fun h => absurd h e)
  have hw : ∀ q j : Nat, q < 285 → at_m1.1 q j = (at_i0 q).getD j 0 := fun q j hq => by
    show (if q < 285 then (at_i0 q).getD j 0 else at_W0 ((q - 285) % 90) j) = _
    rw [if_pos hq]
  have h280 : ∀ j : Nat, at_m0.1 280 j = (at_i0 280).getD j 0 := fun j => by rw [ne 280 j (by decide), hw 280 j (by decide)]
  have h281 : ∀ j : Nat, j < 29780 → at_m0.1 281 j = (at_i0 280).getD j 0 := fun j hj => by
    show (bl_cp 280 0 281 0 29780 at_m1).1 281 j = _
    rw [bl_cp_in (by omega) (by omega)]
    show at_m1.1 280 j = _
    rw [hw 280 j (by decide)]
  have hz : ∀ j : Nat, 1420 ≤ j → (at_i0 280).getD j 0 = 0 := fun j hj => by
    have := at_i0_ln
    rw [List.getD_eq_getElem?_getD, List.getElem?_eq_none (by omega)]
    rfl
  have hg : at_Good (fun _ => True) at_m0 := by
    refine ⟨fun p hp r hr j hm => ?_, ⟨fun c hc hl => ?_, fun k hk => ?_⟩, True.intro⟩
    · have hp : p < 285 := by
        have hp : p < fl_N 0 := hp
        unfold fl_N at hp
        omega
      by_cases e : p = 281
      · subst e
        have : at_rg (fk_K 281) = [] := by decide +kernel
        rw [this] at hr
        cases hr
      · rw [ne p j e, hw p j hp]
        have b1 := List.all_eq_true.mp at_i0_rg p (List.mem_range.mpr hp)
        have b2 := List.all_eq_true.mp b1 r hr
        exact at_rok_ok b2 hm
    · exfalso
      have hl : (c : Int) < (at_m0.1 280 2).toInt := hl
      rw [h280 2] at hl
      have : ((at_i0 280).getD 2 0).toInt = 0 := by decide +kernel
      omega
    · show (at_m0.1 280 (341 + 35 * k)).toInt ≤ (at_m0.1 280 2).toInt
      rw [h280, h280]
      have : ∀ k : Fin 3, ((at_i0 280).getD (341 + 35 * k.val) 0).toInt ≤ ((at_i0 280).getD 2 0).toInt := by decide +kernel
      exact this ⟨k, hk⟩
  have hA := hg.AK
  have hX : at_XI at_m0 := by
    refine ⟨fun q hq i hi => ?_, ?_, fun p hp i => ?_, ?_, fun s hs => ?_, ⟨?_, ?_, ?_⟩, fun s hs => ?_, fun p j hp => ?_⟩
    · left
      rw [ne q i (by omega), hw q i (by omega)]
      rcases hq with rfl | rfl <;> rfl
    · have c0 : ∀ q, q = 272 ∨ q = 274 → at_cnt at_m0 q = 0 := by
        intro q hq
        unfold at_cnt at_nzr
        have : ∀ i, at_m0.1 q i = 0 := fun i => by
          rw [ne q i (by omega), hw q i (by omega)]
          rcases hq with rfl | rfl <;> rfl
        simp only [this]
        decide +kernel
      rw [c0 272 (Or.inl rfl), c0 274 (Or.inr rfl)]
      rfl
    · have hp : fl_N 0 ≤ p := hp
      unfold fl_N at hp
      rw [ne p i (by omega)]
      show (if p < 285 then (at_i0 p).getD i 0 else at_W0 ((p - 285) % 90) i) = _
      rw [if_neg (by omega)]
    · refine at_AK0.congr (fun j _ _ => ?_)
      rw [ne 283 _ (by decide), hw 283 _ (by decide)]
      rfl
    · refine at_AK0.congr (fun j _ _ => ?_)
      rw [h280, hz _ (by omega)]
      rfl
    · refine hA.congr (fun j _ _ => ?_)
      rw [h281 j (by omega), ← h280 j]
      rfl
    · rw [h281 0 (by decide)]
      decide +kernel
    · rw [h281 1 (by decide)]
      decide +kernel
    · refine at_AK0.congr (fun j _ _ => ?_)
      rw [h281 _ (by omega), hz _ (by omega)]
      rfl
    · rw [ne p j (by omega), hw p j (by omega)]
  exact ⟨hg.1, hg.2.1, hX⟩

end

/-! 89.15.lawtools.lean.txt -/
section
/-! ===== the law: its calls by their contracts ===== -/
section LWT
variable {L : Nat} {xs : Nat → Int32} {m : fl_M} {Q : Option fl_V → fl_M → Prop}
def lx_lv (i : Nat) : fl_L := [some (.inr (.inr (.inr (.inl 0)))), some (.inr (.inr (.inl (0, 0)))), some (.inr (.inr (.inl (76, 277)))), some (.inl (Int32.ofNat i))]
def lx_x : fl_V := .inr (.inr (.inl (0, 0)))
theorem lx_kx (h : Nat) : ∃ p, lx_x = .inr (.inr (.inl (0, p))) ∧ fk_K p = 0 ∧ p < fl_N h ∧ ∀ q, some 0 = some q → p = q := ⟨0, rfl, by decide +kernel, by unfold fl_N; omega, fun q h => by cases h; rfl⟩
theorem lx_ki (x : Int32) : ∃ y : Int32, (.inl x : fl_V) = .inl y ∧ -2147483648 ≤ y.toInt ∧ y.toInt ≤ 2147483647 := ⟨x, rfl, (at_i32 x).1, (at_i32 x).2⟩
theorem fl_Tq.tld {P : am_Pg} {mi pc k n c : Nat} {f : Nat → Int32} {lv : fl_L} {r : List fl_V} {i : Int32} (hc : am_code P mi pc = some .iaload) (hok : ∀ v ∈ (.inl i :: .inr (.inr (.inr (.inl c))) :: r : List fl_V), fl_ok m.2.2 v) (hcst : am_cst P c = some (n, f)) (hi : i.toInt = k) (hlt : k < n) (q : fl_Tq P mi (pc + 1) lv (.inl (f k) :: r) m Q) : fl_Tq P mi pc lv (.inl i :: .inr (.inr (.inr (.inl c))) :: r) m Q := by
  refine fl_Tq.stp (pc' := pc + 1) (lv' := lv) (st' := .inl (f k) :: r) (m' := m) hc rfl hok ?_ q
  obtain ⟨h1, h2⟩ := at_in_ok (i := i) (n := n) (by omega) (by omega)
  have h3 : i.toNatClampNeg = k := by omega
  show ((match am_cst P c with
    | some (n, f) => bif am_in i n then some (pc + 1, lv, .inl (f i.toNatClampNeg) :: r, m) else none
    | _ => none) : Option fl_C) = _
  rw [hcst]
  show ((bif am_in i n then some (pc + 1, lv, .inl (f i.toNatClampNeg) :: r, m) else none) : Option fl_C) = _
  rw [h1, h3]
  rfl
/-- a number of the script -/
theorem lx_arg {pc i jn : Nat} {j : Int} {st : List fl_V} (h1 : am_code (pw_P L xs) 0 pc = some (.aload_n 0)) (h2 : am_code (pw_P L xs) 0 (pc + 1) = some (.iload_n 3)) (h3 : am_code (pw_P L xs) 0 (pc + 2) = some (.iconst j)) (h4 : am_code (pw_P L xs) 0 (pc + 3) = some .iadd) (h5 : am_code (pw_P L xs) 0 (pc + 4) = some .iaload) (hj : (Int32.ofInt j).toInt = jn) (hok : ∀ v ∈ st, fl_ok m.2.2 v) (hL : L ≤ 3072) (hlt : i + jn < L) (k : fl_Tq (pw_P L xs) 0 (pc + 5) (lx_lv i) (.inl (xs (i + jn)) :: st) m Q) : fl_Tq (pw_P L xs) 0 pc (lx_lv i) st m Q := by
  have ok1 : ∀ v ∈ (.inr (.inr (.inr (.inl 0))) :: st : List fl_V), fl_ok m.2.2 v := fun v hv => by
    rcases List.mem_cons.mp hv with rfl | hv
    · exact True.intro
    · exact hok v hv
  have ok2 : ∀ x : Int32, ∀ v ∈ (.inl x :: .inr (.inr (.inr (.inl 0))) :: st : List fl_V), fl_ok m.2.2 v := fun x v hv => by
    rcases List.mem_cons.mp hv with rfl | hv
    · exact True.intro
    · exact ok1 v hv
  have ok3 : ∀ x y : Int32, ∀ v ∈ (.inl x :: .inl y :: .inr (.inr (.inr (.inl 0))) :: st : List fl_V), fl_ok m.2.2 v := fun x y v hv => by
    rcases List.mem_cons.mp hv with rfl | hv
    · exact True.intro
    · exact ok2 y v hv
  refine fl_Tq.stp h1 rfl hok rfl ?_
  refine fl_Tq.stp h2 rfl ok1 rfl ?_
  refine fl_Tq.stp h3 rfl (ok2 _) rfl ?_
  refine fl_Tq.stp h4 rfl (ok3 _ _) rfl ?_
  have ei := at_ofN (k := i) (by omega)
  have e : (Int32.ofNat i + Int32.ofInt j).toInt = ((i + jn : Nat) : Int) := by rw [at_add32] <;> rw [ei, hj] <;> omega
  exact fl_Tq.tld (n := L) (f := xs) (k := i + jn) h5 (ok2 _) rfl e hlt k
theorem lx_bool {pc : Nat} {lv : fl_L} {st : List fl_V} {x : Int32} (h1 : am_code (pw_P L xs) 0 pc = some (.ifCond .eq 7)) (h2 : am_code (pw_P L xs) 0 (pc + 3) = some (.iconst 1)) (h3 : am_code (pw_P L xs) 0 (pc + 4) = some (.goto 4)) (h4 : am_code (pw_P L xs) 0 (pc + 7) = some (.iconst 0)) (hok : ∀ v ∈ (.inl x :: st : List fl_V), fl_ok m.2.2 v) (ht : am_tg pc 7 = some (pc + 7)) (ht2 : am_tg (pc + 4) 4 = some (pc + 8)) (k : ∀ b : Int32, 0 ≤ b.toInt → b.toInt ≤ 1 → fl_Tq (pw_P L xs) 0 (pc + 8) lv (.inl b :: st) m Q) : fl_Tq (pw_P L xs) 0 pc lv (.inl x :: st) m Q := by
  have ok : ∀ v ∈ st, fl_ok m.2.2 v := fun v hv => hok v (List.mem_cons_of_mem _ hv)
  have ok1 : ∀ y : Int32, ∀ v ∈ (.inl y :: st : List fl_V), fl_ok m.2.2 v := fun y v hv => by
    rcases List.mem_cons.mp hv with rfl | hv
    · exact True.intro
    · exact ok v hv
  cases hb : am_c1 .eq x with
  | true =>
    refine fl_Tq.zt h1 hok hb ht ?_
    refine fl_Tq.stp h4 rfl ok rfl ?_
    exact k _ (by decide) (by decide)
  | false =>
    refine fl_Tq.zf h1 hok hb ht ?_
    refine fl_Tq.stp h2 rfl ok rfl ?_
    refine fl_Tq.stp (pc' := pc + 8) (lv' := lv) (st' := .inl (Int32.ofInt 1) :: st) (m' := m) h3 rfl (ok1 _) ?_ ?_
    · show fl_go (pc + 3 + 1) 4 lv _ m = _
      unfold fl_go
      rw [show pc + 3 + 1 = pc + 4 by omega, ht2]
    · exact k _ (by decide) (by decide)
/-- a call whose answer, an int, is dropped -/
theorem lx_callI {pc mj n : Nat} {ins : Instr} {lv : fl_L} {st as_ : List fl_V} {c : at_C} {lo hi : Int} (hc : am_code (pw_P L xs) 0 pc = some ins) (hcl : am_cl (pw_P L xs) 0 ins = some (mj, n)) (hp : am_code (pw_P L xs) 0 (pc + 3) = some .pop) (hrc : fl_rc (pw_P L xs) ins mj n st = true) (hok : ∀ v ∈ st, fl_ok m.2.2 v) (hst : (st.take n).reverse = as_) (hd : st.drop n = []) (hV : at_Valid at_XI (pw_P L xs) c) (hcm : c.1 = mj) (hg : at_Good at_XI m) (hk : at_agk m.2.2 c.2.1 as_) (hl : c.2.2.1 = []) (hr : c.2.2.2.1 = some (.inr (false, lo, hi))) (k : ∀ m', at_Good at_XI m' → fl_Tq (pw_P L xs) 0 (pc + 4) lv [] m' Q) : fl_Tq (pw_P L xs) 0 pc lv st m Q := by
  refine fl_Tq.cal hc hcl hok hrc ?_
  rw [hst, hd]
  subst hcm
  refine fl_Tq.mono (hV m as_ hg hk (fun q hq => by rw [hl] at hq; cases hq)) (fun v m' ⟨hg', _, hv⟩ => ?_)
  rw [hr] at hv
  obtain ⟨x, rfl, -⟩ := hv
  refine fl_Tq.stp hp rfl (fl_bo rfl) rfl ?_
  exact k m' hg'
/-- a long -/
theorem lx_callJ {pc mj n : Nat} {ins : Instr} {lv : fl_L} {st as_ : List fl_V} {c : at_C} {lo hi : Int} (hc : am_code (pw_P L xs) 0 pc = some ins) (hcl : am_cl (pw_P L xs) 0 ins = some (mj, n)) (hp : am_code (pw_P L xs) 0 (pc + 3) = some .pop2) (hrc : fl_rc (pw_P L xs) ins mj n st = true) (hok : ∀ v ∈ st, fl_ok m.2.2 v) (hst : (st.take n).reverse = as_) (hd : st.drop n = []) (hV : at_Valid at_XI (pw_P L xs) c) (hcm : c.1 = mj) (hg : at_Good at_XI m) (hk : at_agk m.2.2 c.2.1 as_) (hl : c.2.2.1 = []) (hr : c.2.2.2.1 = some (.inr (true, lo, hi))) (k : ∀ m', at_Good at_XI m' → fl_Tq (pw_P L xs) 0 (pc + 4) lv [] m' Q) : fl_Tq (pw_P L xs) 0 pc lv st m Q := by
  refine fl_Tq.cal hc hcl hok hrc ?_
  rw [hst, hd]
  subst hcm
  refine fl_Tq.mono (hV m as_ hg hk (fun q hq => by rw [hl] at hq; cases hq)) (fun v m' ⟨hg', _, hv⟩ => ?_)
  rw [hr] at hv
  obtain ⟨x, rfl, -⟩ := hv
  refine fl_Tq.stp hp rfl (fl_bo rfl) rfl ?_
  exact k m' hg'
end LWT

end

/-! 89.16.lawc.lean.txt -/
section
/-! ===== printed by wip/gen/lawgen.py: the contracts that the law calls by ===== -/
theorem pw_cll {L : Nat} {xs : Nat → Int32} {mi : Nat} {ins : Instr} {q : Nat × Nat} (h : am_cl nw_P0 mi ins = some q) : am_cl (pw_P L xs) mi ins = some q := h
set_option maxRecDepth 1000000 in
theorem lx_k0 : pw_code 0 0 = some (.new 7) := by decide +kernel
set_option maxRecDepth 1000000 in
theorem lx_k3 : pw_code 0 3 = some (.dup) := by decide +kernel
set_option maxRecDepth 1000000 in
theorem lx_k4 : pw_code 0 4 = some (.invokespecial 9) := by decide +kernel
set_option maxRecDepth 1000000 in
theorem lx_k7 : pw_code 0 7 = some (.astore_n 1) := by decide +kernel
set_option maxRecDepth 1000000 in
theorem lx_k8 : pw_code 0 8 = some (.new 10) := by decide +kernel
set_option maxRecDepth 1000000 in
theorem lx_k11 : pw_code 0 11 = some (.dup) := by decide +kernel
set_option maxRecDepth 1000000 in
theorem lx_k12 : pw_code 0 12 = some (.invokespecial 12) := by decide +kernel
set_option maxRecDepth 1000000 in
theorem lx_k15 : pw_code 0 15 = some (.astore_n 2) := by decide +kernel
set_option maxRecDepth 1000000 in
theorem lx_k16 : pw_code 0 16 = some (.iconst 0) := by decide +kernel
set_option maxRecDepth 1000000 in
theorem lx_k17 : pw_code 0 17 = some (.istore_n 3) := by decide +kernel
set_option maxRecDepth 1000000 in
theorem lx_k18 : pw_code 0 18 = some (.iload_n 3) := by decide +kernel
set_option maxRecDepth 1000000 in
theorem lx_k19 : pw_code 0 19 = some (.aload_n 0) := by decide +kernel
set_option maxRecDepth 1000000 in
theorem lx_k20 : pw_code 0 20 = some (.arraylength) := by decide +kernel
set_option maxRecDepth 1000000 in
theorem lx_k21 : pw_code 0 21 = some (.bipush 6) := by decide +kernel
set_option maxRecDepth 1000000 in
theorem lx_k23 : pw_code 0 23 = some (.isub) := by decide +kernel
set_option maxRecDepth 1000000 in
theorem lx_k24 : pw_code 0 24 = some (.if_icmp .gt 2013) := by decide +kernel
set_option maxRecDepth 1000000 in
theorem lx_k27 : pw_code 0 27 = some (.aload_n 0) := by decide +kernel
set_option maxRecDepth 1000000 in
theorem lx_k28 : pw_code 0 28 = some (.iload_n 3) := by decide +kernel
set_option maxRecDepth 1000000 in
theorem lx_k29 : pw_code 0 29 = some (.iaload) := by decide +kernel
set_option maxRecDepth 1000000 in
theorem lx_k30 : pw_code 0 30 = some (.bipush 127) := by decide +kernel
set_option maxRecDepth 1000000 in
theorem lx_k32 : pw_code 0 32 = some (.iand) := by decide +kernel
set_option maxRecDepth 1000000 in
theorem lx_k33 : pw_code 0 33 = some (.tableswitch 1998 0 67 #[287, 330, 363, 396, 429, 452, 465, 478, 501, 534, 567, 580, 613, 636, 669, 748, 761, 774, 787, 800, 823, 846, 879, 912, 945, 978, 1011, 1044, 1067, 1080, 1103, 1136, 1159, 1202, 1225, 1238, 1251, 1264, 1287, 1310, 1353, 1386, 1399, 1422, 1445, 1468, 1491, 1514, 1527, 1550, 1573, 1606, 1639, 1662, 1676, 1689, 1722, 1765, 1788, 1801, 1824, 1857, 1890, 1913, 1936, 1959, 1972, 1985]) := by decide +kernel
set_option maxRecDepth 1000000 in
theorem lx_k320 : pw_code 0 320 = some (.aload_n 1) := by decide +kernel
set_option maxRecDepth 1000000 in
theorem lx_k321 : pw_code 0 321 = some (.aload_n 0) := by decide +kernel
set_option maxRecDepth 1000000 in
theorem lx_k322 : pw_code 0 322 = some (.iload_n 3) := by decide +kernel
set_option maxRecDepth 1000000 in
theorem lx_k323 : pw_code 0 323 = some (.iconst 1) := by decide +kernel
set_option maxRecDepth 1000000 in
theorem lx_k324 : pw_code 0 324 = some (.iadd) := by decide +kernel
set_option maxRecDepth 1000000 in
theorem lx_k325 : pw_code 0 325 = some (.iaload) := by decide +kernel
set_option maxRecDepth 1000000 in
theorem lx_k326 : pw_code 0 326 = some (.aload_n 0) := by decide +kernel
set_option maxRecDepth 1000000 in
theorem lx_k327 : pw_code 0 327 = some (.iload_n 3) := by decide +kernel
set_option maxRecDepth 1000000 in
theorem lx_k328 : pw_code 0 328 = some (.iconst 2) := by decide +kernel
set_option maxRecDepth 1000000 in
theorem lx_k329 : pw_code 0 329 = some (.iadd) := by decide +kernel
set_option maxRecDepth 1000000 in
theorem lx_k330 : pw_code 0 330 = some (.iaload) := by decide +kernel
set_option maxRecDepth 1000000 in
theorem lx_k331 : pw_code 0 331 = some (.aload_n 0) := by decide +kernel
set_option maxRecDepth 1000000 in
theorem lx_k332 : pw_code 0 332 = some (.iload_n 3) := by decide +kernel
set_option maxRecDepth 1000000 in
theorem lx_k333 : pw_code 0 333 = some (.iconst 3) := by decide +kernel
set_option maxRecDepth 1000000 in
theorem lx_k334 : pw_code 0 334 = some (.iadd) := by decide +kernel
set_option maxRecDepth 1000000 in
theorem lx_k335 : pw_code 0 335 = some (.iaload) := by decide +kernel
set_option maxRecDepth 1000000 in
theorem lx_k336 : pw_code 0 336 = some (.invokevirtual 13) := by decide +kernel
set_option maxRecDepth 1000000 in
theorem lx_k339 : pw_code 0 339 = some (.aload_n 2) := by decide +kernel
set_option maxRecDepth 1000000 in
theorem lx_k340 : pw_code 0 340 = some (.aload_n 0) := by decide +kernel
set_option maxRecDepth 1000000 in
theorem lx_k341 : pw_code 0 341 = some (.iload_n 3) := by decide +kernel
set_option maxRecDepth 1000000 in
theorem lx_k342 : pw_code 0 342 = some (.iconst 1) := by decide +kernel
set_option maxRecDepth 1000000 in
theorem lx_k343 : pw_code 0 343 = some (.iadd) := by decide +kernel
set_option maxRecDepth 1000000 in
theorem lx_k344 : pw_code 0 344 = some (.iaload) := by decide +kernel
set_option maxRecDepth 1000000 in
theorem lx_k345 : pw_code 0 345 = some (.aload_n 0) := by decide +kernel
set_option maxRecDepth 1000000 in
theorem lx_k346 : pw_code 0 346 = some (.iload_n 3) := by decide +kernel
set_option maxRecDepth 1000000 in
theorem lx_k347 : pw_code 0 347 = some (.iconst 2) := by decide +kernel
set_option maxRecDepth 1000000 in
theorem lx_k348 : pw_code 0 348 = some (.iadd) := by decide +kernel
set_option maxRecDepth 1000000 in
theorem lx_k349 : pw_code 0 349 = some (.iaload) := by decide +kernel
set_option maxRecDepth 1000000 in
theorem lx_k350 : pw_code 0 350 = some (.aload_n 0) := by decide +kernel
set_option maxRecDepth 1000000 in
theorem lx_k351 : pw_code 0 351 = some (.iload_n 3) := by decide +kernel
set_option maxRecDepth 1000000 in
theorem lx_k352 : pw_code 0 352 = some (.iconst 3) := by decide +kernel
set_option maxRecDepth 1000000 in
theorem lx_k353 : pw_code 0 353 = some (.iadd) := by decide +kernel
set_option maxRecDepth 1000000 in
theorem lx_k354 : pw_code 0 354 = some (.iaload) := by decide +kernel
set_option maxRecDepth 1000000 in
theorem lx_k355 : pw_code 0 355 = some (.invokevirtual 17) := by decide +kernel
set_option maxRecDepth 1000000 in
theorem lx_k358 : pw_code 0 358 = some (.if_icmp .eq 1673) := by decide +kernel
set_option maxRecDepth 1000000 in
theorem lx_k363 : pw_code 0 363 = some (.aload_n 1) := by decide +kernel
set_option maxRecDepth 1000000 in
theorem lx_k364 : pw_code 0 364 = some (.aload_n 0) := by decide +kernel
set_option maxRecDepth 1000000 in
theorem lx_k365 : pw_code 0 365 = some (.iload_n 3) := by decide +kernel
set_option maxRecDepth 1000000 in
theorem lx_k366 : pw_code 0 366 = some (.iconst 1) := by decide +kernel
set_option maxRecDepth 1000000 in
theorem lx_k367 : pw_code 0 367 = some (.iadd) := by decide +kernel
set_option maxRecDepth 1000000 in
theorem lx_k368 : pw_code 0 368 = some (.iaload) := by decide +kernel
set_option maxRecDepth 1000000 in
theorem lx_k369 : pw_code 0 369 = some (.aload_n 0) := by decide +kernel
set_option maxRecDepth 1000000 in
theorem lx_k370 : pw_code 0 370 = some (.iload_n 3) := by decide +kernel
set_option maxRecDepth 1000000 in
theorem lx_k371 : pw_code 0 371 = some (.iconst 2) := by decide +kernel
set_option maxRecDepth 1000000 in
theorem lx_k372 : pw_code 0 372 = some (.iadd) := by decide +kernel
set_option maxRecDepth 1000000 in
theorem lx_k373 : pw_code 0 373 = some (.iaload) := by decide +kernel
set_option maxRecDepth 1000000 in
theorem lx_k374 : pw_code 0 374 = some (.invokevirtual 18) := by decide +kernel
set_option maxRecDepth 1000000 in
theorem lx_k377 : pw_code 0 377 = some (.aload_n 2) := by decide +kernel
set_option maxRecDepth 1000000 in
theorem lx_k378 : pw_code 0 378 = some (.aload_n 0) := by decide +kernel
set_option maxRecDepth 1000000 in
theorem lx_k379 : pw_code 0 379 = some (.iload_n 3) := by decide +kernel
set_option maxRecDepth 1000000 in
theorem lx_k380 : pw_code 0 380 = some (.iconst 1) := by decide +kernel
set_option maxRecDepth 1000000 in
theorem lx_k381 : pw_code 0 381 = some (.iadd) := by decide +kernel
set_option maxRecDepth 1000000 in
theorem lx_k382 : pw_code 0 382 = some (.iaload) := by decide +kernel
set_option maxRecDepth 1000000 in
theorem lx_k383 : pw_code 0 383 = some (.aload_n 0) := by decide +kernel
set_option maxRecDepth 1000000 in
theorem lx_k384 : pw_code 0 384 = some (.iload_n 3) := by decide +kernel
set_option maxRecDepth 1000000 in
theorem lx_k385 : pw_code 0 385 = some (.iconst 2) := by decide +kernel
set_option maxRecDepth 1000000 in
theorem lx_k386 : pw_code 0 386 = some (.iadd) := by decide +kernel
set_option maxRecDepth 1000000 in
theorem lx_k387 : pw_code 0 387 = some (.iaload) := by decide +kernel
set_option maxRecDepth 1000000 in
theorem lx_k388 : pw_code 0 388 = some (.invokevirtual 22) := by decide +kernel
set_option maxRecDepth 1000000 in
theorem lx_k391 : pw_code 0 391 = some (.if_icmp .eq 1640) := by decide +kernel
set_option maxRecDepth 1000000 in
theorem lx_k394 : pw_code 0 394 = some (.iconst 0) := by decide +kernel
set_option maxRecDepth 1000000 in
theorem lx_k395 : pw_code 0 395 = some (.ireturn) := by decide +kernel
set_option maxRecDepth 1000000 in
theorem lx_k396 : pw_code 0 396 = some (.aload_n 1) := by decide +kernel
set_option maxRecDepth 1000000 in
theorem lx_k397 : pw_code 0 397 = some (.aload_n 0) := by decide +kernel
set_option maxRecDepth 1000000 in
theorem lx_k398 : pw_code 0 398 = some (.iload_n 3) := by decide +kernel
set_option maxRecDepth 1000000 in
theorem lx_k399 : pw_code 0 399 = some (.iconst 1) := by decide +kernel
set_option maxRecDepth 1000000 in
theorem lx_k400 : pw_code 0 400 = some (.iadd) := by decide +kernel
set_option maxRecDepth 1000000 in
theorem lx_k401 : pw_code 0 401 = some (.iaload) := by decide +kernel
set_option maxRecDepth 1000000 in
theorem lx_k402 : pw_code 0 402 = some (.aload_n 0) := by decide +kernel
set_option maxRecDepth 1000000 in
theorem lx_k403 : pw_code 0 403 = some (.iload_n 3) := by decide +kernel
set_option maxRecDepth 1000000 in
theorem lx_k404 : pw_code 0 404 = some (.iconst 2) := by decide +kernel
set_option maxRecDepth 1000000 in
theorem lx_k405 : pw_code 0 405 = some (.iadd) := by decide +kernel
set_option maxRecDepth 1000000 in
theorem lx_k406 : pw_code 0 406 = some (.iaload) := by decide +kernel
set_option maxRecDepth 1000000 in
theorem lx_k407 : pw_code 0 407 = some (.invokevirtual 23) := by decide +kernel
set_option maxRecDepth 1000000 in
theorem lx_k410 : pw_code 0 410 = some (.aload_n 2) := by decide +kernel
set_option maxRecDepth 1000000 in
theorem lx_k411 : pw_code 0 411 = some (.aload_n 0) := by decide +kernel
set_option maxRecDepth 1000000 in
theorem lx_k412 : pw_code 0 412 = some (.iload_n 3) := by decide +kernel
set_option maxRecDepth 1000000 in
theorem lx_k413 : pw_code 0 413 = some (.iconst 1) := by decide +kernel
set_option maxRecDepth 1000000 in
theorem lx_k414 : pw_code 0 414 = some (.iadd) := by decide +kernel
set_option maxRecDepth 1000000 in
theorem lx_k415 : pw_code 0 415 = some (.iaload) := by decide +kernel
set_option maxRecDepth 1000000 in
theorem lx_k416 : pw_code 0 416 = some (.aload_n 0) := by decide +kernel
set_option maxRecDepth 1000000 in
theorem lx_k417 : pw_code 0 417 = some (.iload_n 3) := by decide +kernel
set_option maxRecDepth 1000000 in
theorem lx_k418 : pw_code 0 418 = some (.iconst 2) := by decide +kernel
set_option maxRecDepth 1000000 in
theorem lx_k419 : pw_code 0 419 = some (.iadd) := by decide +kernel
set_option maxRecDepth 1000000 in
theorem lx_k420 : pw_code 0 420 = some (.iaload) := by decide +kernel
set_option maxRecDepth 1000000 in
theorem lx_k421 : pw_code 0 421 = some (.invokevirtual 26) := by decide +kernel
set_option maxRecDepth 1000000 in
theorem lx_k424 : pw_code 0 424 = some (.if_icmp .eq 1607) := by decide +kernel
set_option maxRecDepth 1000000 in
theorem lx_k427 : pw_code 0 427 = some (.iconst 0) := by decide +kernel
set_option maxRecDepth 1000000 in
theorem lx_k428 : pw_code 0 428 = some (.ireturn) := by decide +kernel
set_option maxRecDepth 1000000 in
theorem lx_k429 : pw_code 0 429 = some (.aload_n 1) := by decide +kernel
set_option maxRecDepth 1000000 in
theorem lx_k430 : pw_code 0 430 = some (.aload_n 0) := by decide +kernel
set_option maxRecDepth 1000000 in
theorem lx_k431 : pw_code 0 431 = some (.iload_n 3) := by decide +kernel
set_option maxRecDepth 1000000 in
theorem lx_k432 : pw_code 0 432 = some (.iconst 1) := by decide +kernel
set_option maxRecDepth 1000000 in
theorem lx_k433 : pw_code 0 433 = some (.iadd) := by decide +kernel
set_option maxRecDepth 1000000 in
theorem lx_k434 : pw_code 0 434 = some (.iaload) := by decide +kernel
set_option maxRecDepth 1000000 in
theorem lx_k435 : pw_code 0 435 = some (.aload_n 0) := by decide +kernel
set_option maxRecDepth 1000000 in
theorem lx_k436 : pw_code 0 436 = some (.iload_n 3) := by decide +kernel
set_option maxRecDepth 1000000 in
theorem lx_k437 : pw_code 0 437 = some (.iconst 2) := by decide +kernel
set_option maxRecDepth 1000000 in
theorem lx_k438 : pw_code 0 438 = some (.iadd) := by decide +kernel
set_option maxRecDepth 1000000 in
theorem lx_k439 : pw_code 0 439 = some (.iaload) := by decide +kernel
set_option maxRecDepth 1000000 in
theorem lx_k440 : pw_code 0 440 = some (.invokevirtual 27) := by decide +kernel
set_option maxRecDepth 1000000 in
theorem lx_k443 : pw_code 0 443 = some (.aload_n 2) := by decide +kernel
set_option maxRecDepth 1000000 in
theorem lx_k444 : pw_code 0 444 = some (.aload_n 0) := by decide +kernel
set_option maxRecDepth 1000000 in
theorem lx_k445 : pw_code 0 445 = some (.iload_n 3) := by decide +kernel
set_option maxRecDepth 1000000 in
theorem lx_k446 : pw_code 0 446 = some (.iconst 1) := by decide +kernel
set_option maxRecDepth 1000000 in
theorem lx_k447 : pw_code 0 447 = some (.iadd) := by decide +kernel
set_option maxRecDepth 1000000 in
theorem lx_k448 : pw_code 0 448 = some (.iaload) := by decide +kernel
set_option maxRecDepth 1000000 in
theorem lx_k449 : pw_code 0 449 = some (.aload_n 0) := by decide +kernel
set_option maxRecDepth 1000000 in
theorem lx_k450 : pw_code 0 450 = some (.iload_n 3) := by decide +kernel
set_option maxRecDepth 1000000 in
theorem lx_k451 : pw_code 0 451 = some (.iconst 2) := by decide +kernel
set_option maxRecDepth 1000000 in
theorem lx_k452 : pw_code 0 452 = some (.iadd) := by decide +kernel
set_option maxRecDepth 1000000 in
theorem lx_k453 : pw_code 0 453 = some (.iaload) := by decide +kernel
set_option maxRecDepth 1000000 in
theorem lx_k454 : pw_code 0 454 = some (.invokevirtual 30) := by decide +kernel
set_option maxRecDepth 1000000 in
theorem lx_k457 : pw_code 0 457 = some (.if_icmp .eq 1574) := by decide +kernel
set_option maxRecDepth 1000000 in
theorem lx_k460 : pw_code 0 460 = some (.iconst 0) := by decide +kernel
set_option maxRecDepth 1000000 in
theorem lx_k461 : pw_code 0 461 = some (.ireturn) := by decide +kernel
set_option maxRecDepth 1000000 in
theorem lx_k462 : pw_code 0 462 = some (.aload_n 1) := by decide +kernel
set_option maxRecDepth 1000000 in
theorem lx_k463 : pw_code 0 463 = some (.aload_n 0) := by decide +kernel
set_option maxRecDepth 1000000 in
theorem lx_k464 : pw_code 0 464 = some (.iload_n 3) := by decide +kernel
set_option maxRecDepth 1000000 in
theorem lx_k465 : pw_code 0 465 = some (.iconst 1) := by decide +kernel
set_option maxRecDepth 1000000 in
theorem lx_k466 : pw_code 0 466 = some (.iadd) := by decide +kernel
set_option maxRecDepth 1000000 in
theorem lx_k467 : pw_code 0 467 = some (.iaload) := by decide +kernel
set_option maxRecDepth 1000000 in
theorem lx_k468 : pw_code 0 468 = some (.invokevirtual 31) := by decide +kernel
set_option maxRecDepth 1000000 in
theorem lx_k471 : pw_code 0 471 = some (.aload_n 2) := by decide +kernel
set_option maxRecDepth 1000000 in
theorem lx_k472 : pw_code 0 472 = some (.aload_n 0) := by decide +kernel
set_option maxRecDepth 1000000 in
theorem lx_k473 : pw_code 0 473 = some (.iload_n 3) := by decide +kernel
set_option maxRecDepth 1000000 in
theorem lx_k474 : pw_code 0 474 = some (.iconst 1) := by decide +kernel
set_option maxRecDepth 1000000 in
theorem lx_k475 : pw_code 0 475 = some (.iadd) := by decide +kernel
set_option maxRecDepth 1000000 in
theorem lx_k476 : pw_code 0 476 = some (.iaload) := by decide +kernel
set_option maxRecDepth 1000000 in
theorem lx_k477 : pw_code 0 477 = some (.invokevirtual 35) := by decide +kernel
set_option maxRecDepth 1000000 in
theorem lx_k480 : pw_code 0 480 = some (.if_icmp .eq 1551) := by decide +kernel
set_option maxRecDepth 1000000 in
theorem lx_k483 : pw_code 0 483 = some (.iconst 0) := by decide +kernel
set_option maxRecDepth 1000000 in
theorem lx_k484 : pw_code 0 484 = some (.ireturn) := by decide +kernel
set_option maxRecDepth 1000000 in
theorem lx_k485 : pw_code 0 485 = some (.aload_n 1) := by decide +kernel
set_option maxRecDepth 1000000 in
theorem lx_k486 : pw_code 0 486 = some (.invokevirtual 36) := by decide +kernel
set_option maxRecDepth 1000000 in
theorem lx_k489 : pw_code 0 489 = some (.aload_n 2) := by decide +kernel
set_option maxRecDepth 1000000 in
theorem lx_k490 : pw_code 0 490 = some (.invokevirtual 40) := by decide +kernel
set_option maxRecDepth 1000000 in
theorem lx_k493 : pw_code 0 493 = some (.if_icmp .eq 1538) := by decide +kernel
set_option maxRecDepth 1000000 in
theorem lx_k496 : pw_code 0 496 = some (.iconst 0) := by decide +kernel
set_option maxRecDepth 1000000 in
theorem lx_k497 : pw_code 0 497 = some (.ireturn) := by decide +kernel
set_option maxRecDepth 1000000 in
theorem lx_k498 : pw_code 0 498 = some (.aload_n 1) := by decide +kernel
set_option maxRecDepth 1000000 in
theorem lx_k499 : pw_code 0 499 = some (.invokevirtual 41) := by decide +kernel
set_option maxRecDepth 1000000 in
theorem lx_k502 : pw_code 0 502 = some (.aload_n 2) := by decide +kernel
set_option maxRecDepth 1000000 in
theorem lx_k503 : pw_code 0 503 = some (.invokevirtual 44) := by decide +kernel
set_option maxRecDepth 1000000 in
theorem lx_k506 : pw_code 0 506 = some (.if_icmp .eq 1525) := by decide +kernel
set_option maxRecDepth 1000000 in
theorem lx_k509 : pw_code 0 509 = some (.iconst 0) := by decide +kernel
set_option maxRecDepth 1000000 in
theorem lx_k510 : pw_code 0 510 = some (.ireturn) := by decide +kernel
set_option maxRecDepth 1000000 in
theorem lx_k511 : pw_code 0 511 = some (.aload_n 1) := by decide +kernel
set_option maxRecDepth 1000000 in
theorem lx_k512 : pw_code 0 512 = some (.aload_n 0) := by decide +kernel
set_option maxRecDepth 1000000 in
theorem lx_k513 : pw_code 0 513 = some (.iload_n 3) := by decide +kernel
set_option maxRecDepth 1000000 in
theorem lx_k514 : pw_code 0 514 = some (.iconst 1) := by decide +kernel
set_option maxRecDepth 1000000 in
theorem lx_k515 : pw_code 0 515 = some (.iadd) := by decide +kernel
set_option maxRecDepth 1000000 in
theorem lx_k516 : pw_code 0 516 = some (.iaload) := by decide +kernel
set_option maxRecDepth 1000000 in
theorem lx_k517 : pw_code 0 517 = some (.invokevirtual 45) := by decide +kernel
set_option maxRecDepth 1000000 in
theorem lx_k520 : pw_code 0 520 = some (.aload_n 2) := by decide +kernel
set_option maxRecDepth 1000000 in
theorem lx_k521 : pw_code 0 521 = some (.aload_n 0) := by decide +kernel
set_option maxRecDepth 1000000 in
theorem lx_k522 : pw_code 0 522 = some (.iload_n 3) := by decide +kernel
set_option maxRecDepth 1000000 in
theorem lx_k523 : pw_code 0 523 = some (.iconst 1) := by decide +kernel
set_option maxRecDepth 1000000 in
theorem lx_k524 : pw_code 0 524 = some (.iadd) := by decide +kernel
set_option maxRecDepth 1000000 in
theorem lx_k525 : pw_code 0 525 = some (.iaload) := by decide +kernel
set_option maxRecDepth 1000000 in
theorem lx_k526 : pw_code 0 526 = some (.invokevirtual 49) := by decide +kernel
set_option maxRecDepth 1000000 in
theorem lx_k529 : pw_code 0 529 = some (.if_icmp .eq 1502) := by decide +kernel
set_option maxRecDepth 1000000 in
theorem lx_k532 : pw_code 0 532 = some (.iconst 0) := by decide +kernel
set_option maxRecDepth 1000000 in
theorem lx_k533 : pw_code 0 533 = some (.ireturn) := by decide +kernel
set_option maxRecDepth 1000000 in
theorem lx_k534 : pw_code 0 534 = some (.aload_n 1) := by decide +kernel
set_option maxRecDepth 1000000 in
theorem lx_k535 : pw_code 0 535 = some (.aload_n 0) := by decide +kernel
set_option maxRecDepth 1000000 in
theorem lx_k536 : pw_code 0 536 = some (.iload_n 3) := by decide +kernel
set_option maxRecDepth 1000000 in
theorem lx_k537 : pw_code 0 537 = some (.iconst 1) := by decide +kernel
set_option maxRecDepth 1000000 in
theorem lx_k538 : pw_code 0 538 = some (.iadd) := by decide +kernel
set_option maxRecDepth 1000000 in
theorem lx_k539 : pw_code 0 539 = some (.iaload) := by decide +kernel
set_option maxRecDepth 1000000 in
theorem lx_k540 : pw_code 0 540 = some (.aload_n 0) := by decide +kernel
set_option maxRecDepth 1000000 in
theorem lx_k541 : pw_code 0 541 = some (.iload_n 3) := by decide +kernel
set_option maxRecDepth 1000000 in
theorem lx_k542 : pw_code 0 542 = some (.iconst 2) := by decide +kernel
set_option maxRecDepth 1000000 in
theorem lx_k543 : pw_code 0 543 = some (.iadd) := by decide +kernel
set_option maxRecDepth 1000000 in
theorem lx_k544 : pw_code 0 544 = some (.iaload) := by decide +kernel
set_option maxRecDepth 1000000 in
theorem lx_k545 : pw_code 0 545 = some (.invokevirtual 50) := by decide +kernel
set_option maxRecDepth 1000000 in
theorem lx_k548 : pw_code 0 548 = some (.aload_n 2) := by decide +kernel
set_option maxRecDepth 1000000 in
theorem lx_k549 : pw_code 0 549 = some (.aload_n 0) := by decide +kernel
set_option maxRecDepth 1000000 in
theorem lx_k550 : pw_code 0 550 = some (.iload_n 3) := by decide +kernel
set_option maxRecDepth 1000000 in
theorem lx_k551 : pw_code 0 551 = some (.iconst 1) := by decide +kernel
set_option maxRecDepth 1000000 in
theorem lx_k552 : pw_code 0 552 = some (.iadd) := by decide +kernel
set_option maxRecDepth 1000000 in
theorem lx_k553 : pw_code 0 553 = some (.iaload) := by decide +kernel
set_option maxRecDepth 1000000 in
theorem lx_k554 : pw_code 0 554 = some (.aload_n 0) := by decide +kernel
set_option maxRecDepth 1000000 in
theorem lx_k555 : pw_code 0 555 = some (.iload_n 3) := by decide +kernel
set_option maxRecDepth 1000000 in
theorem lx_k556 : pw_code 0 556 = some (.iconst 2) := by decide +kernel
set_option maxRecDepth 1000000 in
theorem lx_k557 : pw_code 0 557 = some (.iadd) := by decide +kernel
set_option maxRecDepth 1000000 in
theorem lx_k558 : pw_code 0 558 = some (.iaload) := by decide +kernel
set_option maxRecDepth 1000000 in
theorem lx_k559 : pw_code 0 559 = some (.invokevirtual 53) := by decide +kernel
set_option maxRecDepth 1000000 in
theorem lx_k562 : pw_code 0 562 = some (.if_icmp .eq 1469) := by decide +kernel
set_option maxRecDepth 1000000 in
theorem lx_k565 : pw_code 0 565 = some (.iconst 0) := by decide +kernel
set_option maxRecDepth 1000000 in
theorem lx_k566 : pw_code 0 566 = some (.ireturn) := by decide +kernel
set_option maxRecDepth 1000000 in
theorem lx_k567 : pw_code 0 567 = some (.aload_n 1) := by decide +kernel
set_option maxRecDepth 1000000 in
theorem lx_k568 : pw_code 0 568 = some (.aload_n 0) := by decide +kernel
set_option maxRecDepth 1000000 in
theorem lx_k569 : pw_code 0 569 = some (.iload_n 3) := by decide +kernel
set_option maxRecDepth 1000000 in
theorem lx_k570 : pw_code 0 570 = some (.iconst 1) := by decide +kernel
set_option maxRecDepth 1000000 in
theorem lx_k571 : pw_code 0 571 = some (.iadd) := by decide +kernel
set_option maxRecDepth 1000000 in
theorem lx_k572 : pw_code 0 572 = some (.iaload) := by decide +kernel
set_option maxRecDepth 1000000 in
theorem lx_k573 : pw_code 0 573 = some (.aload_n 0) := by decide +kernel
set_option maxRecDepth 1000000 in
theorem lx_k574 : pw_code 0 574 = some (.iload_n 3) := by decide +kernel
set_option maxRecDepth 1000000 in
theorem lx_k575 : pw_code 0 575 = some (.iconst 2) := by decide +kernel
set_option maxRecDepth 1000000 in
theorem lx_k576 : pw_code 0 576 = some (.iadd) := by decide +kernel
set_option maxRecDepth 1000000 in
theorem lx_k577 : pw_code 0 577 = some (.iaload) := by decide +kernel
set_option maxRecDepth 1000000 in
theorem lx_k578 : pw_code 0 578 = some (.invokevirtual 54) := by decide +kernel
set_option maxRecDepth 1000000 in
theorem lx_k581 : pw_code 0 581 = some (.aload_n 2) := by decide +kernel
set_option maxRecDepth 1000000 in
theorem lx_k582 : pw_code 0 582 = some (.aload_n 0) := by decide +kernel
set_option maxRecDepth 1000000 in
theorem lx_k583 : pw_code 0 583 = some (.iload_n 3) := by decide +kernel
set_option maxRecDepth 1000000 in
theorem lx_k584 : pw_code 0 584 = some (.iconst 1) := by decide +kernel
set_option maxRecDepth 1000000 in
theorem lx_k585 : pw_code 0 585 = some (.iadd) := by decide +kernel
set_option maxRecDepth 1000000 in
theorem lx_k586 : pw_code 0 586 = some (.iaload) := by decide +kernel
set_option maxRecDepth 1000000 in
theorem lx_k587 : pw_code 0 587 = some (.aload_n 0) := by decide +kernel
set_option maxRecDepth 1000000 in
theorem lx_k588 : pw_code 0 588 = some (.iload_n 3) := by decide +kernel
set_option maxRecDepth 1000000 in
theorem lx_k589 : pw_code 0 589 = some (.iconst 2) := by decide +kernel
set_option maxRecDepth 1000000 in
theorem lx_k590 : pw_code 0 590 = some (.iadd) := by decide +kernel
set_option maxRecDepth 1000000 in
theorem lx_k591 : pw_code 0 591 = some (.iaload) := by decide +kernel
set_option maxRecDepth 1000000 in
theorem lx_k592 : pw_code 0 592 = some (.invokevirtual 58) := by decide +kernel
set_option maxRecDepth 1000000 in
theorem lx_k595 : pw_code 0 595 = some (.if_icmp .eq 1436) := by decide +kernel
set_option maxRecDepth 1000000 in
theorem lx_k598 : pw_code 0 598 = some (.iconst 0) := by decide +kernel
set_option maxRecDepth 1000000 in
theorem lx_k599 : pw_code 0 599 = some (.ireturn) := by decide +kernel
set_option maxRecDepth 1000000 in
theorem lx_k600 : pw_code 0 600 = some (.aload_n 1) := by decide +kernel
set_option maxRecDepth 1000000 in
theorem lx_k601 : pw_code 0 601 = some (.invokevirtual 59) := by decide +kernel
set_option maxRecDepth 1000000 in
theorem lx_k604 : pw_code 0 604 = some (.aload_n 2) := by decide +kernel
set_option maxRecDepth 1000000 in
theorem lx_k605 : pw_code 0 605 = some (.invokevirtual 63) := by decide +kernel
set_option maxRecDepth 1000000 in
theorem lx_k608 : pw_code 0 608 = some (.if_icmp .eq 1423) := by decide +kernel
set_option maxRecDepth 1000000 in
theorem lx_k611 : pw_code 0 611 = some (.iconst 0) := by decide +kernel
set_option maxRecDepth 1000000 in
theorem lx_k612 : pw_code 0 612 = some (.ireturn) := by decide +kernel
set_option maxRecDepth 1000000 in
theorem lx_k613 : pw_code 0 613 = some (.aload_n 1) := by decide +kernel
set_option maxRecDepth 1000000 in
theorem lx_k614 : pw_code 0 614 = some (.aload_n 0) := by decide +kernel
set_option maxRecDepth 1000000 in
theorem lx_k615 : pw_code 0 615 = some (.iload_n 3) := by decide +kernel
set_option maxRecDepth 1000000 in
theorem lx_k616 : pw_code 0 616 = some (.iconst 1) := by decide +kernel
set_option maxRecDepth 1000000 in
theorem lx_k617 : pw_code 0 617 = some (.iadd) := by decide +kernel
set_option maxRecDepth 1000000 in
theorem lx_k618 : pw_code 0 618 = some (.iaload) := by decide +kernel
set_option maxRecDepth 1000000 in
theorem lx_k619 : pw_code 0 619 = some (.aload_n 0) := by decide +kernel
set_option maxRecDepth 1000000 in
theorem lx_k620 : pw_code 0 620 = some (.iload_n 3) := by decide +kernel
set_option maxRecDepth 1000000 in
theorem lx_k621 : pw_code 0 621 = some (.iconst 2) := by decide +kernel
set_option maxRecDepth 1000000 in
theorem lx_k622 : pw_code 0 622 = some (.iadd) := by decide +kernel
set_option maxRecDepth 1000000 in
theorem lx_k623 : pw_code 0 623 = some (.iaload) := by decide +kernel
set_option maxRecDepth 1000000 in
theorem lx_k624 : pw_code 0 624 = some (.invokevirtual 64) := by decide +kernel
set_option maxRecDepth 1000000 in
theorem lx_k627 : pw_code 0 627 = some (.aload_n 2) := by decide +kernel
set_option maxRecDepth 1000000 in
theorem lx_k628 : pw_code 0 628 = some (.aload_n 0) := by decide +kernel
set_option maxRecDepth 1000000 in
theorem lx_k629 : pw_code 0 629 = some (.iload_n 3) := by decide +kernel
set_option maxRecDepth 1000000 in
theorem lx_k630 : pw_code 0 630 = some (.iconst 1) := by decide +kernel
set_option maxRecDepth 1000000 in
theorem lx_k631 : pw_code 0 631 = some (.iadd) := by decide +kernel
set_option maxRecDepth 1000000 in
theorem lx_k632 : pw_code 0 632 = some (.iaload) := by decide +kernel
set_option maxRecDepth 1000000 in
theorem lx_k633 : pw_code 0 633 = some (.aload_n 0) := by decide +kernel
set_option maxRecDepth 1000000 in
theorem lx_k634 : pw_code 0 634 = some (.iload_n 3) := by decide +kernel
set_option maxRecDepth 1000000 in
theorem lx_k635 : pw_code 0 635 = some (.iconst 2) := by decide +kernel
set_option maxRecDepth 1000000 in
theorem lx_k636 : pw_code 0 636 = some (.iadd) := by decide +kernel
set_option maxRecDepth 1000000 in
theorem lx_k637 : pw_code 0 637 = some (.iaload) := by decide +kernel
set_option maxRecDepth 1000000 in
theorem lx_k638 : pw_code 0 638 = some (.invokevirtual 67) := by decide +kernel
set_option maxRecDepth 1000000 in
theorem lx_k641 : pw_code 0 641 = some (.if_icmp .eq 1390) := by decide +kernel
set_option maxRecDepth 1000000 in
theorem lx_k644 : pw_code 0 644 = some (.iconst 0) := by decide +kernel
set_option maxRecDepth 1000000 in
theorem lx_k645 : pw_code 0 645 = some (.ireturn) := by decide +kernel
set_option maxRecDepth 1000000 in
theorem lx_k646 : pw_code 0 646 = some (.aload_n 1) := by decide +kernel
set_option maxRecDepth 1000000 in
theorem lx_k647 : pw_code 0 647 = some (.aload_n 0) := by decide +kernel
set_option maxRecDepth 1000000 in
theorem lx_k648 : pw_code 0 648 = some (.iload_n 3) := by decide +kernel
set_option maxRecDepth 1000000 in
theorem lx_k649 : pw_code 0 649 = some (.iconst 1) := by decide +kernel
set_option maxRecDepth 1000000 in
theorem lx_k650 : pw_code 0 650 = some (.iadd) := by decide +kernel
set_option maxRecDepth 1000000 in
theorem lx_k651 : pw_code 0 651 = some (.iaload) := by decide +kernel
set_option maxRecDepth 1000000 in
theorem lx_k652 : pw_code 0 652 = some (.invokevirtual 68) := by decide +kernel
set_option maxRecDepth 1000000 in
theorem lx_k655 : pw_code 0 655 = some (.aload_n 2) := by decide +kernel
set_option maxRecDepth 1000000 in
theorem lx_k656 : pw_code 0 656 = some (.aload_n 0) := by decide +kernel
set_option maxRecDepth 1000000 in
theorem lx_k657 : pw_code 0 657 = some (.iload_n 3) := by decide +kernel
set_option maxRecDepth 1000000 in
theorem lx_k658 : pw_code 0 658 = some (.iconst 1) := by decide +kernel
set_option maxRecDepth 1000000 in
theorem lx_k659 : pw_code 0 659 = some (.iadd) := by decide +kernel
set_option maxRecDepth 1000000 in
theorem lx_k660 : pw_code 0 660 = some (.iaload) := by decide +kernel
set_option maxRecDepth 1000000 in
theorem lx_k661 : pw_code 0 661 = some (.invokevirtual 71) := by decide +kernel
set_option maxRecDepth 1000000 in
theorem lx_k664 : pw_code 0 664 = some (.if_icmp .eq 1367) := by decide +kernel
set_option maxRecDepth 1000000 in
theorem lx_k667 : pw_code 0 667 = some (.iconst 0) := by decide +kernel
set_option maxRecDepth 1000000 in
theorem lx_k668 : pw_code 0 668 = some (.ireturn) := by decide +kernel
set_option maxRecDepth 1000000 in
theorem lx_k669 : pw_code 0 669 = some (.aload_n 1) := by decide +kernel
set_option maxRecDepth 1000000 in
theorem lx_k670 : pw_code 0 670 = some (.aload_n 0) := by decide +kernel
set_option maxRecDepth 1000000 in
theorem lx_k671 : pw_code 0 671 = some (.iload_n 3) := by decide +kernel
set_option maxRecDepth 1000000 in
theorem lx_k672 : pw_code 0 672 = some (.iconst 1) := by decide +kernel
set_option maxRecDepth 1000000 in
theorem lx_k673 : pw_code 0 673 = some (.iadd) := by decide +kernel
set_option maxRecDepth 1000000 in
theorem lx_k674 : pw_code 0 674 = some (.iaload) := by decide +kernel
set_option maxRecDepth 1000000 in
theorem lx_k675 : pw_code 0 675 = some (.aload_n 0) := by decide +kernel
set_option maxRecDepth 1000000 in
theorem lx_k676 : pw_code 0 676 = some (.iload_n 3) := by decide +kernel
set_option maxRecDepth 1000000 in
theorem lx_k677 : pw_code 0 677 = some (.iconst 2) := by decide +kernel
set_option maxRecDepth 1000000 in
theorem lx_k678 : pw_code 0 678 = some (.iadd) := by decide +kernel
set_option maxRecDepth 1000000 in
theorem lx_k679 : pw_code 0 679 = some (.iaload) := by decide +kernel
set_option maxRecDepth 1000000 in
theorem lx_k680 : pw_code 0 680 = some (.invokevirtual 72) := by decide +kernel
set_option maxRecDepth 1000000 in
theorem lx_k683 : pw_code 0 683 = some (.aload_n 2) := by decide +kernel
set_option maxRecDepth 1000000 in
theorem lx_k684 : pw_code 0 684 = some (.aload_n 0) := by decide +kernel
set_option maxRecDepth 1000000 in
theorem lx_k685 : pw_code 0 685 = some (.iload_n 3) := by decide +kernel
set_option maxRecDepth 1000000 in
theorem lx_k686 : pw_code 0 686 = some (.iconst 1) := by decide +kernel
set_option maxRecDepth 1000000 in
theorem lx_k687 : pw_code 0 687 = some (.iadd) := by decide +kernel
set_option maxRecDepth 1000000 in
theorem lx_k688 : pw_code 0 688 = some (.iaload) := by decide +kernel
set_option maxRecDepth 1000000 in
theorem lx_k689 : pw_code 0 689 = some (.aload_n 0) := by decide +kernel
set_option maxRecDepth 1000000 in
theorem lx_k690 : pw_code 0 690 = some (.iload_n 3) := by decide +kernel
set_option maxRecDepth 1000000 in
theorem lx_k691 : pw_code 0 691 = some (.iconst 2) := by decide +kernel
set_option maxRecDepth 1000000 in
theorem lx_k692 : pw_code 0 692 = some (.iadd) := by decide +kernel
set_option maxRecDepth 1000000 in
theorem lx_k693 : pw_code 0 693 = some (.iaload) := by decide +kernel
set_option maxRecDepth 1000000 in
theorem lx_k694 : pw_code 0 694 = some (.invokevirtual 75) := by decide +kernel
set_option maxRecDepth 1000000 in
theorem lx_k697 : pw_code 0 697 = some (.if_icmp .eq 1334) := by decide +kernel
set_option maxRecDepth 1000000 in
theorem lx_k700 : pw_code 0 700 = some (.iconst 0) := by decide +kernel
set_option maxRecDepth 1000000 in
theorem lx_k701 : pw_code 0 701 = some (.ireturn) := by decide +kernel
set_option maxRecDepth 1000000 in
theorem lx_k702 : pw_code 0 702 = some (.aload_n 1) := by decide +kernel
set_option maxRecDepth 1000000 in
theorem lx_k703 : pw_code 0 703 = some (.aload_n 0) := by decide +kernel
set_option maxRecDepth 1000000 in
theorem lx_k704 : pw_code 0 704 = some (.iload_n 3) := by decide +kernel
set_option maxRecDepth 1000000 in
theorem lx_k705 : pw_code 0 705 = some (.iconst 1) := by decide +kernel
set_option maxRecDepth 1000000 in
theorem lx_k706 : pw_code 0 706 = some (.iadd) := by decide +kernel
set_option maxRecDepth 1000000 in
theorem lx_k707 : pw_code 0 707 = some (.iaload) := by decide +kernel
set_option maxRecDepth 1000000 in
theorem lx_k708 : pw_code 0 708 = some (.aload_n 0) := by decide +kernel
set_option maxRecDepth 1000000 in
theorem lx_k709 : pw_code 0 709 = some (.iload_n 3) := by decide +kernel
set_option maxRecDepth 1000000 in
theorem lx_k710 : pw_code 0 710 = some (.iconst 2) := by decide +kernel
set_option maxRecDepth 1000000 in
theorem lx_k711 : pw_code 0 711 = some (.iadd) := by decide +kernel
set_option maxRecDepth 1000000 in
theorem lx_k712 : pw_code 0 712 = some (.iaload) := by decide +kernel
set_option maxRecDepth 1000000 in
theorem lx_k713 : pw_code 0 713 = some (.ifCond .eq 7) := by decide +kernel
set_option maxRecDepth 1000000 in
theorem lx_k716 : pw_code 0 716 = some (.iconst 1) := by decide +kernel
set_option maxRecDepth 1000000 in
theorem lx_k717 : pw_code 0 717 = some (.goto 4) := by decide +kernel
set_option maxRecDepth 1000000 in
theorem lx_k720 : pw_code 0 720 = some (.iconst 0) := by decide +kernel
set_option maxRecDepth 1000000 in
theorem lx_k721 : pw_code 0 721 = some (.aload_n 0) := by decide +kernel
set_option maxRecDepth 1000000 in
theorem lx_k722 : pw_code 0 722 = some (.iload_n 3) := by decide +kernel
set_option maxRecDepth 1000000 in
theorem lx_k723 : pw_code 0 723 = some (.iconst 3) := by decide +kernel
set_option maxRecDepth 1000000 in
theorem lx_k724 : pw_code 0 724 = some (.iadd) := by decide +kernel
set_option maxRecDepth 1000000 in
theorem lx_k725 : pw_code 0 725 = some (.iaload) := by decide +kernel
set_option maxRecDepth 1000000 in
theorem lx_k726 : pw_code 0 726 = some (.aload_n 0) := by decide +kernel
set_option maxRecDepth 1000000 in
theorem lx_k727 : pw_code 0 727 = some (.iload_n 3) := by decide +kernel
set_option maxRecDepth 1000000 in
theorem lx_k728 : pw_code 0 728 = some (.iconst 4) := by decide +kernel
set_option maxRecDepth 1000000 in
theorem lx_k729 : pw_code 0 729 = some (.iadd) := by decide +kernel
set_option maxRecDepth 1000000 in
theorem lx_k730 : pw_code 0 730 = some (.iaload) := by decide +kernel
set_option maxRecDepth 1000000 in
theorem lx_k731 : pw_code 0 731 = some (.aload_n 0) := by decide +kernel
set_option maxRecDepth 1000000 in
theorem lx_k732 : pw_code 0 732 = some (.iload_n 3) := by decide +kernel
set_option maxRecDepth 1000000 in
theorem lx_k733 : pw_code 0 733 = some (.iconst 5) := by decide +kernel
set_option maxRecDepth 1000000 in
theorem lx_k734 : pw_code 0 734 = some (.iadd) := by decide +kernel
set_option maxRecDepth 1000000 in
theorem lx_k735 : pw_code 0 735 = some (.iaload) := by decide +kernel
set_option maxRecDepth 1000000 in
theorem lx_k736 : pw_code 0 736 = some (.invokevirtual 76) := by decide +kernel
set_option maxRecDepth 1000000 in
theorem lx_k739 : pw_code 0 739 = some (.aload_n 2) := by decide +kernel
set_option maxRecDepth 1000000 in
theorem lx_k740 : pw_code 0 740 = some (.aload_n 0) := by decide +kernel
set_option maxRecDepth 1000000 in
theorem lx_k741 : pw_code 0 741 = some (.iload_n 3) := by decide +kernel
set_option maxRecDepth 1000000 in
theorem lx_k742 : pw_code 0 742 = some (.iconst 1) := by decide +kernel
set_option maxRecDepth 1000000 in
theorem lx_k781 : pw_code 0 781 = some (.aload_n 1) := by decide +kernel
set_option maxRecDepth 1000000 in
theorem lx_k782 : pw_code 0 782 = some (.invokevirtual 81) := by decide +kernel
set_option maxRecDepth 1000000 in
theorem lx_k785 : pw_code 0 785 = some (.aload_n 2) := by decide +kernel
set_option maxRecDepth 1000000 in
theorem lx_k786 : pw_code 0 786 = some (.invokevirtual 84) := by decide +kernel
set_option maxRecDepth 1000000 in
theorem lx_k789 : pw_code 0 789 = some (.if_icmp .eq 1242) := by decide +kernel
set_option maxRecDepth 1000000 in
theorem lx_k792 : pw_code 0 792 = some (.iconst 0) := by decide +kernel
set_option maxRecDepth 1000000 in
theorem lx_k793 : pw_code 0 793 = some (.ireturn) := by decide +kernel
set_option maxRecDepth 1000000 in
theorem lx_k794 : pw_code 0 794 = some (.aload_n 1) := by decide +kernel
set_option maxRecDepth 1000000 in
theorem lx_k795 : pw_code 0 795 = some (.invokevirtual 85) := by decide +kernel
set_option maxRecDepth 1000000 in
theorem lx_k798 : pw_code 0 798 = some (.aload_n 2) := by decide +kernel
set_option maxRecDepth 1000000 in
theorem lx_k799 : pw_code 0 799 = some (.invokevirtual 88) := by decide +kernel
set_option maxRecDepth 1000000 in
theorem lx_k802 : pw_code 0 802 = some (.if_icmp .eq 1229) := by decide +kernel
set_option maxRecDepth 1000000 in
theorem lx_k805 : pw_code 0 805 = some (.iconst 0) := by decide +kernel
set_option maxRecDepth 1000000 in
theorem lx_k806 : pw_code 0 806 = some (.ireturn) := by decide +kernel
set_option maxRecDepth 1000000 in
theorem lx_k807 : pw_code 0 807 = some (.aload_n 1) := by decide +kernel
set_option maxRecDepth 1000000 in
theorem lx_k808 : pw_code 0 808 = some (.invokevirtual 89) := by decide +kernel
set_option maxRecDepth 1000000 in
theorem lx_k811 : pw_code 0 811 = some (.aload_n 2) := by decide +kernel
set_option maxRecDepth 1000000 in
theorem lx_k812 : pw_code 0 812 = some (.invokevirtual 92) := by decide +kernel
set_option maxRecDepth 1000000 in
theorem lx_k815 : pw_code 0 815 = some (.if_icmp .eq 1216) := by decide +kernel
set_option maxRecDepth 1000000 in
theorem lx_k818 : pw_code 0 818 = some (.iconst 0) := by decide +kernel
set_option maxRecDepth 1000000 in
theorem lx_k819 : pw_code 0 819 = some (.ireturn) := by decide +kernel
set_option maxRecDepth 1000000 in
theorem lx_k820 : pw_code 0 820 = some (.aload_n 1) := by decide +kernel
set_option maxRecDepth 1000000 in
theorem lx_k821 : pw_code 0 821 = some (.invokevirtual 93) := by decide +kernel
set_option maxRecDepth 1000000 in
theorem lx_k824 : pw_code 0 824 = some (.aload_n 2) := by decide +kernel
set_option maxRecDepth 1000000 in
theorem lx_k825 : pw_code 0 825 = some (.invokevirtual 96) := by decide +kernel
set_option maxRecDepth 1000000 in
theorem lx_k828 : pw_code 0 828 = some (.if_icmp .eq 1203) := by decide +kernel
set_option maxRecDepth 1000000 in
theorem lx_k831 : pw_code 0 831 = some (.iconst 0) := by decide +kernel
set_option maxRecDepth 1000000 in
theorem lx_k832 : pw_code 0 832 = some (.ireturn) := by decide +kernel
set_option maxRecDepth 1000000 in
theorem lx_k833 : pw_code 0 833 = some (.aload_n 1) := by decide +kernel
set_option maxRecDepth 1000000 in
theorem lx_k834 : pw_code 0 834 = some (.aload_n 0) := by decide +kernel
set_option maxRecDepth 1000000 in
theorem lx_k835 : pw_code 0 835 = some (.iload_n 3) := by decide +kernel
set_option maxRecDepth 1000000 in
theorem lx_k836 : pw_code 0 836 = some (.iconst 1) := by decide +kernel
set_option maxRecDepth 1000000 in
theorem lx_k837 : pw_code 0 837 = some (.iadd) := by decide +kernel
set_option maxRecDepth 1000000 in
theorem lx_k838 : pw_code 0 838 = some (.iaload) := by decide +kernel
set_option maxRecDepth 1000000 in
theorem lx_k839 : pw_code 0 839 = some (.invokevirtual 97) := by decide +kernel
set_option maxRecDepth 1000000 in
theorem lx_k842 : pw_code 0 842 = some (.aload_n 2) := by decide +kernel
set_option maxRecDepth 1000000 in
theorem lx_k843 : pw_code 0 843 = some (.aload_n 0) := by decide +kernel
set_option maxRecDepth 1000000 in
theorem lx_k844 : pw_code 0 844 = some (.iload_n 3) := by decide +kernel
set_option maxRecDepth 1000000 in
theorem lx_k845 : pw_code 0 845 = some (.iconst 1) := by decide +kernel
set_option maxRecDepth 1000000 in
theorem lx_k846 : pw_code 0 846 = some (.iadd) := by decide +kernel
set_option maxRecDepth 1000000 in
theorem lx_k847 : pw_code 0 847 = some (.iaload) := by decide +kernel
set_option maxRecDepth 1000000 in
theorem lx_k848 : pw_code 0 848 = some (.invokevirtual 100) := by decide +kernel
set_option maxRecDepth 1000000 in
theorem lx_k851 : pw_code 0 851 = some (.if_icmp .eq 1180) := by decide +kernel
set_option maxRecDepth 1000000 in
theorem lx_k854 : pw_code 0 854 = some (.iconst 0) := by decide +kernel
set_option maxRecDepth 1000000 in
theorem lx_k855 : pw_code 0 855 = some (.ireturn) := by decide +kernel
set_option maxRecDepth 1000000 in
theorem lx_k856 : pw_code 0 856 = some (.aload_n 1) := by decide +kernel
set_option maxRecDepth 1000000 in
theorem lx_k857 : pw_code 0 857 = some (.aload_n 0) := by decide +kernel
set_option maxRecDepth 1000000 in
theorem lx_k858 : pw_code 0 858 = some (.iload_n 3) := by decide +kernel
set_option maxRecDepth 1000000 in
theorem lx_k859 : pw_code 0 859 = some (.iconst 1) := by decide +kernel
set_option maxRecDepth 1000000 in
theorem lx_k860 : pw_code 0 860 = some (.iadd) := by decide +kernel
set_option maxRecDepth 1000000 in
theorem lx_k861 : pw_code 0 861 = some (.iaload) := by decide +kernel
set_option maxRecDepth 1000000 in
theorem lx_k862 : pw_code 0 862 = some (.invokevirtual 101) := by decide +kernel
set_option maxRecDepth 1000000 in
theorem lx_k865 : pw_code 0 865 = some (.aload_n 2) := by decide +kernel
set_option maxRecDepth 1000000 in
theorem lx_k866 : pw_code 0 866 = some (.aload_n 0) := by decide +kernel
set_option maxRecDepth 1000000 in
theorem lx_k867 : pw_code 0 867 = some (.iload_n 3) := by decide +kernel
set_option maxRecDepth 1000000 in
theorem lx_k868 : pw_code 0 868 = some (.iconst 1) := by decide +kernel
set_option maxRecDepth 1000000 in
theorem lx_k869 : pw_code 0 869 = some (.iadd) := by decide +kernel
set_option maxRecDepth 1000000 in
theorem lx_k870 : pw_code 0 870 = some (.iaload) := by decide +kernel
set_option maxRecDepth 1000000 in
theorem lx_k871 : pw_code 0 871 = some (.invokevirtual 104) := by decide +kernel
set_option maxRecDepth 1000000 in
theorem lx_k874 : pw_code 0 874 = some (.if_icmp .eq 1157) := by decide +kernel
set_option maxRecDepth 1000000 in
theorem lx_k877 : pw_code 0 877 = some (.iconst 0) := by decide +kernel
set_option maxRecDepth 1000000 in
theorem lx_k878 : pw_code 0 878 = some (.ireturn) := by decide +kernel
set_option maxRecDepth 1000000 in
theorem lx_k879 : pw_code 0 879 = some (.aload_n 1) := by decide +kernel
set_option maxRecDepth 1000000 in
theorem lx_k880 : pw_code 0 880 = some (.aload_n 0) := by decide +kernel
set_option maxRecDepth 1000000 in
theorem lx_k881 : pw_code 0 881 = some (.iload_n 3) := by decide +kernel
set_option maxRecDepth 1000000 in
theorem lx_k882 : pw_code 0 882 = some (.iconst 1) := by decide +kernel
set_option maxRecDepth 1000000 in
theorem lx_k883 : pw_code 0 883 = some (.iadd) := by decide +kernel
set_option maxRecDepth 1000000 in
theorem lx_k884 : pw_code 0 884 = some (.iaload) := by decide +kernel
set_option maxRecDepth 1000000 in
theorem lx_k885 : pw_code 0 885 = some (.aload_n 0) := by decide +kernel
set_option maxRecDepth 1000000 in
theorem lx_k886 : pw_code 0 886 = some (.iload_n 3) := by decide +kernel
set_option maxRecDepth 1000000 in
theorem lx_k887 : pw_code 0 887 = some (.iconst 2) := by decide +kernel
set_option maxRecDepth 1000000 in
theorem lx_k888 : pw_code 0 888 = some (.iadd) := by decide +kernel
set_option maxRecDepth 1000000 in
theorem lx_k889 : pw_code 0 889 = some (.iaload) := by decide +kernel
set_option maxRecDepth 1000000 in
theorem lx_k890 : pw_code 0 890 = some (.invokevirtual 105) := by decide +kernel
set_option maxRecDepth 1000000 in
theorem lx_k893 : pw_code 0 893 = some (.aload_n 2) := by decide +kernel
set_option maxRecDepth 1000000 in
theorem lx_k894 : pw_code 0 894 = some (.aload_n 0) := by decide +kernel
set_option maxRecDepth 1000000 in
theorem lx_k895 : pw_code 0 895 = some (.iload_n 3) := by decide +kernel
set_option maxRecDepth 1000000 in
theorem lx_k896 : pw_code 0 896 = some (.iconst 1) := by decide +kernel
set_option maxRecDepth 1000000 in
theorem lx_k897 : pw_code 0 897 = some (.iadd) := by decide +kernel
set_option maxRecDepth 1000000 in
theorem lx_k898 : pw_code 0 898 = some (.iaload) := by decide +kernel
set_option maxRecDepth 1000000 in
theorem lx_k899 : pw_code 0 899 = some (.aload_n 0) := by decide +kernel
set_option maxRecDepth 1000000 in
theorem lx_k900 : pw_code 0 900 = some (.iload_n 3) := by decide +kernel
set_option maxRecDepth 1000000 in
theorem lx_k901 : pw_code 0 901 = some (.iconst 2) := by decide +kernel
set_option maxRecDepth 1000000 in
theorem lx_k902 : pw_code 0 902 = some (.iadd) := by decide +kernel
set_option maxRecDepth 1000000 in
theorem lx_k903 : pw_code 0 903 = some (.iaload) := by decide +kernel
set_option maxRecDepth 1000000 in
theorem lx_k904 : pw_code 0 904 = some (.invokevirtual 108) := by decide +kernel
set_option maxRecDepth 1000000 in
theorem lx_k907 : pw_code 0 907 = some (.if_icmp .eq 1124) := by decide +kernel
set_option maxRecDepth 1000000 in
theorem lx_k910 : pw_code 0 910 = some (.iconst 0) := by decide +kernel
set_option maxRecDepth 1000000 in
theorem lx_k911 : pw_code 0 911 = some (.ireturn) := by decide +kernel
set_option maxRecDepth 1000000 in
theorem lx_k912 : pw_code 0 912 = some (.aload_n 1) := by decide +kernel
set_option maxRecDepth 1000000 in
theorem lx_k913 : pw_code 0 913 = some (.aload_n 0) := by decide +kernel
set_option maxRecDepth 1000000 in
theorem lx_k914 : pw_code 0 914 = some (.iload_n 3) := by decide +kernel
set_option maxRecDepth 1000000 in
theorem lx_k915 : pw_code 0 915 = some (.iconst 1) := by decide +kernel
set_option maxRecDepth 1000000 in
theorem lx_k916 : pw_code 0 916 = some (.iadd) := by decide +kernel
set_option maxRecDepth 1000000 in
theorem lx_k917 : pw_code 0 917 = some (.iaload) := by decide +kernel
set_option maxRecDepth 1000000 in
theorem lx_k918 : pw_code 0 918 = some (.aload_n 0) := by decide +kernel
set_option maxRecDepth 1000000 in
theorem lx_k919 : pw_code 0 919 = some (.iload_n 3) := by decide +kernel
set_option maxRecDepth 1000000 in
theorem lx_k920 : pw_code 0 920 = some (.iconst 2) := by decide +kernel
set_option maxRecDepth 1000000 in
theorem lx_k921 : pw_code 0 921 = some (.iadd) := by decide +kernel
set_option maxRecDepth 1000000 in
theorem lx_k922 : pw_code 0 922 = some (.iaload) := by decide +kernel
set_option maxRecDepth 1000000 in
theorem lx_k923 : pw_code 0 923 = some (.invokevirtual 109) := by decide +kernel
set_option maxRecDepth 1000000 in
theorem lx_k926 : pw_code 0 926 = some (.aload_n 2) := by decide +kernel
set_option maxRecDepth 1000000 in
theorem lx_k927 : pw_code 0 927 = some (.aload_n 0) := by decide +kernel
set_option maxRecDepth 1000000 in
theorem lx_k928 : pw_code 0 928 = some (.iload_n 3) := by decide +kernel
set_option maxRecDepth 1000000 in
theorem lx_k929 : pw_code 0 929 = some (.iconst 1) := by decide +kernel
set_option maxRecDepth 1000000 in
theorem lx_k930 : pw_code 0 930 = some (.iadd) := by decide +kernel
set_option maxRecDepth 1000000 in
theorem lx_k931 : pw_code 0 931 = some (.iaload) := by decide +kernel
set_option maxRecDepth 1000000 in
theorem lx_k932 : pw_code 0 932 = some (.aload_n 0) := by decide +kernel
set_option maxRecDepth 1000000 in
theorem lx_k933 : pw_code 0 933 = some (.iload_n 3) := by decide +kernel
set_option maxRecDepth 1000000 in
theorem lx_k934 : pw_code 0 934 = some (.iconst 2) := by decide +kernel
set_option maxRecDepth 1000000 in
theorem lx_k935 : pw_code 0 935 = some (.iadd) := by decide +kernel
set_option maxRecDepth 1000000 in
theorem lx_k936 : pw_code 0 936 = some (.iaload) := by decide +kernel
set_option maxRecDepth 1000000 in
theorem lx_k937 : pw_code 0 937 = some (.invokevirtual 112) := by decide +kernel
set_option maxRecDepth 1000000 in
theorem lx_k940 : pw_code 0 940 = some (.if_icmp .eq 1091) := by decide +kernel
set_option maxRecDepth 1000000 in
theorem lx_k943 : pw_code 0 943 = some (.iconst 0) := by decide +kernel
set_option maxRecDepth 1000000 in
theorem lx_k944 : pw_code 0 944 = some (.ireturn) := by decide +kernel
set_option maxRecDepth 1000000 in
theorem lx_k945 : pw_code 0 945 = some (.aload_n 1) := by decide +kernel
set_option maxRecDepth 1000000 in
theorem lx_k946 : pw_code 0 946 = some (.aload_n 0) := by decide +kernel
set_option maxRecDepth 1000000 in
theorem lx_k947 : pw_code 0 947 = some (.iload_n 3) := by decide +kernel
set_option maxRecDepth 1000000 in
theorem lx_k948 : pw_code 0 948 = some (.iconst 1) := by decide +kernel
set_option maxRecDepth 1000000 in
theorem lx_k949 : pw_code 0 949 = some (.iadd) := by decide +kernel
set_option maxRecDepth 1000000 in
theorem lx_k950 : pw_code 0 950 = some (.iaload) := by decide +kernel
set_option maxRecDepth 1000000 in
theorem lx_k951 : pw_code 0 951 = some (.aload_n 0) := by decide +kernel
set_option maxRecDepth 1000000 in
theorem lx_k952 : pw_code 0 952 = some (.iload_n 3) := by decide +kernel
set_option maxRecDepth 1000000 in
theorem lx_k953 : pw_code 0 953 = some (.iconst 2) := by decide +kernel
set_option maxRecDepth 1000000 in
theorem lx_k954 : pw_code 0 954 = some (.iadd) := by decide +kernel
set_option maxRecDepth 1000000 in
theorem lx_k955 : pw_code 0 955 = some (.iaload) := by decide +kernel
set_option maxRecDepth 1000000 in
theorem lx_k956 : pw_code 0 956 = some (.invokevirtual 113) := by decide +kernel
set_option maxRecDepth 1000000 in
theorem lx_k959 : pw_code 0 959 = some (.aload_n 2) := by decide +kernel
set_option maxRecDepth 1000000 in
theorem lx_k960 : pw_code 0 960 = some (.aload_n 0) := by decide +kernel
set_option maxRecDepth 1000000 in
theorem lx_k961 : pw_code 0 961 = some (.iload_n 3) := by decide +kernel
set_option maxRecDepth 1000000 in
theorem lx_k962 : pw_code 0 962 = some (.iconst 1) := by decide +kernel
set_option maxRecDepth 1000000 in
theorem lx_k963 : pw_code 0 963 = some (.iadd) := by decide +kernel
set_option maxRecDepth 1000000 in
theorem lx_k964 : pw_code 0 964 = some (.iaload) := by decide +kernel
set_option maxRecDepth 1000000 in
theorem lx_k965 : pw_code 0 965 = some (.aload_n 0) := by decide +kernel
set_option maxRecDepth 1000000 in
theorem lx_k966 : pw_code 0 966 = some (.iload_n 3) := by decide +kernel
set_option maxRecDepth 1000000 in
theorem lx_k967 : pw_code 0 967 = some (.iconst 2) := by decide +kernel
set_option maxRecDepth 1000000 in
theorem lx_k968 : pw_code 0 968 = some (.iadd) := by decide +kernel
set_option maxRecDepth 1000000 in
theorem lx_k969 : pw_code 0 969 = some (.iaload) := by decide +kernel
set_option maxRecDepth 1000000 in
theorem lx_k970 : pw_code 0 970 = some (.invokevirtual 116) := by decide +kernel
set_option maxRecDepth 1000000 in
theorem lx_k973 : pw_code 0 973 = some (.if_icmp .eq 1058) := by decide +kernel
set_option maxRecDepth 1000000 in
theorem lx_k976 : pw_code 0 976 = some (.iconst 0) := by decide +kernel
set_option maxRecDepth 1000000 in
theorem lx_k977 : pw_code 0 977 = some (.ireturn) := by decide +kernel
set_option maxRecDepth 1000000 in
theorem lx_k978 : pw_code 0 978 = some (.aload_n 1) := by decide +kernel
set_option maxRecDepth 1000000 in
theorem lx_k979 : pw_code 0 979 = some (.aload_n 0) := by decide +kernel
set_option maxRecDepth 1000000 in
theorem lx_k980 : pw_code 0 980 = some (.iload_n 3) := by decide +kernel
set_option maxRecDepth 1000000 in
theorem lx_k981 : pw_code 0 981 = some (.iconst 1) := by decide +kernel
set_option maxRecDepth 1000000 in
theorem lx_k982 : pw_code 0 982 = some (.iadd) := by decide +kernel
set_option maxRecDepth 1000000 in
theorem lx_k983 : pw_code 0 983 = some (.iaload) := by decide +kernel
set_option maxRecDepth 1000000 in
theorem lx_k984 : pw_code 0 984 = some (.aload_n 0) := by decide +kernel
set_option maxRecDepth 1000000 in
theorem lx_k985 : pw_code 0 985 = some (.iload_n 3) := by decide +kernel
set_option maxRecDepth 1000000 in
theorem lx_k986 : pw_code 0 986 = some (.iconst 2) := by decide +kernel
set_option maxRecDepth 1000000 in
theorem lx_k987 : pw_code 0 987 = some (.iadd) := by decide +kernel
set_option maxRecDepth 1000000 in
theorem lx_k988 : pw_code 0 988 = some (.iaload) := by decide +kernel
set_option maxRecDepth 1000000 in
theorem lx_k989 : pw_code 0 989 = some (.invokevirtual 117) := by decide +kernel
set_option maxRecDepth 1000000 in
theorem lx_k992 : pw_code 0 992 = some (.aload_n 2) := by decide +kernel
set_option maxRecDepth 1000000 in
theorem lx_k993 : pw_code 0 993 = some (.aload_n 0) := by decide +kernel
set_option maxRecDepth 1000000 in
theorem lx_k994 : pw_code 0 994 = some (.iload_n 3) := by decide +kernel
set_option maxRecDepth 1000000 in
theorem lx_k995 : pw_code 0 995 = some (.iconst 1) := by decide +kernel
set_option maxRecDepth 1000000 in
theorem lx_k996 : pw_code 0 996 = some (.iadd) := by decide +kernel
set_option maxRecDepth 1000000 in
theorem lx_k997 : pw_code 0 997 = some (.iaload) := by decide +kernel
set_option maxRecDepth 1000000 in
theorem lx_k998 : pw_code 0 998 = some (.aload_n 0) := by decide +kernel
set_option maxRecDepth 1000000 in
theorem lx_k999 : pw_code 0 999 = some (.iload_n 3) := by decide +kernel
set_option maxRecDepth 1000000 in
theorem lx_k1000 : pw_code 0 1000 = some (.iconst 2) := by decide +kernel
set_option maxRecDepth 1000000 in
theorem lx_k1001 : pw_code 0 1001 = some (.iadd) := by decide +kernel
set_option maxRecDepth 1000000 in
theorem lx_k1002 : pw_code 0 1002 = some (.iaload) := by decide +kernel
set_option maxRecDepth 1000000 in
theorem lx_k1003 : pw_code 0 1003 = some (.invokevirtual 120) := by decide +kernel
set_option maxRecDepth 1000000 in
theorem lx_k1006 : pw_code 0 1006 = some (.if_icmp .eq 1025) := by decide +kernel
set_option maxRecDepth 1000000 in
theorem lx_k1009 : pw_code 0 1009 = some (.iconst 0) := by decide +kernel
set_option maxRecDepth 1000000 in
theorem lx_k1010 : pw_code 0 1010 = some (.ireturn) := by decide +kernel
set_option maxRecDepth 1000000 in
theorem lx_k1011 : pw_code 0 1011 = some (.aload_n 1) := by decide +kernel
set_option maxRecDepth 1000000 in
theorem lx_k1012 : pw_code 0 1012 = some (.aload_n 0) := by decide +kernel
set_option maxRecDepth 1000000 in
theorem lx_k1013 : pw_code 0 1013 = some (.iload_n 3) := by decide +kernel
set_option maxRecDepth 1000000 in
theorem lx_k1014 : pw_code 0 1014 = some (.iconst 1) := by decide +kernel
set_option maxRecDepth 1000000 in
theorem lx_k1015 : pw_code 0 1015 = some (.iadd) := by decide +kernel
set_option maxRecDepth 1000000 in
theorem lx_k1016 : pw_code 0 1016 = some (.iaload) := by decide +kernel
set_option maxRecDepth 1000000 in
theorem lx_k1017 : pw_code 0 1017 = some (.aload_n 0) := by decide +kernel
set_option maxRecDepth 1000000 in
theorem lx_k1018 : pw_code 0 1018 = some (.iload_n 3) := by decide +kernel
set_option maxRecDepth 1000000 in
theorem lx_k1019 : pw_code 0 1019 = some (.iconst 2) := by decide +kernel
set_option maxRecDepth 1000000 in
theorem lx_k1020 : pw_code 0 1020 = some (.iadd) := by decide +kernel
set_option maxRecDepth 1000000 in
theorem lx_k1021 : pw_code 0 1021 = some (.iaload) := by decide +kernel
set_option maxRecDepth 1000000 in
theorem lx_k1022 : pw_code 0 1022 = some (.invokevirtual 121) := by decide +kernel
set_option maxRecDepth 1000000 in
theorem lx_k1025 : pw_code 0 1025 = some (.aload_n 2) := by decide +kernel
set_option maxRecDepth 1000000 in
theorem lx_k1026 : pw_code 0 1026 = some (.aload_n 0) := by decide +kernel
set_option maxRecDepth 1000000 in
theorem lx_k1027 : pw_code 0 1027 = some (.iload_n 3) := by decide +kernel
set_option maxRecDepth 1000000 in
theorem lx_k1028 : pw_code 0 1028 = some (.iconst 1) := by decide +kernel
set_option maxRecDepth 1000000 in
theorem lx_k1029 : pw_code 0 1029 = some (.iadd) := by decide +kernel
set_option maxRecDepth 1000000 in
theorem lx_k1030 : pw_code 0 1030 = some (.iaload) := by decide +kernel
set_option maxRecDepth 1000000 in
theorem lx_k1031 : pw_code 0 1031 = some (.aload_n 0) := by decide +kernel
set_option maxRecDepth 1000000 in
theorem lx_k1032 : pw_code 0 1032 = some (.iload_n 3) := by decide +kernel
set_option maxRecDepth 1000000 in
theorem lx_k1033 : pw_code 0 1033 = some (.iconst 2) := by decide +kernel
set_option maxRecDepth 1000000 in
theorem lx_k1034 : pw_code 0 1034 = some (.iadd) := by decide +kernel
set_option maxRecDepth 1000000 in
theorem lx_k1035 : pw_code 0 1035 = some (.iaload) := by decide +kernel
set_option maxRecDepth 1000000 in
theorem lx_k1036 : pw_code 0 1036 = some (.invokevirtual 124) := by decide +kernel
set_option maxRecDepth 1000000 in
theorem lx_k1039 : pw_code 0 1039 = some (.if_icmp .eq 992) := by decide +kernel
set_option maxRecDepth 1000000 in
theorem lx_k1042 : pw_code 0 1042 = some (.iconst 0) := by decide +kernel
set_option maxRecDepth 1000000 in
theorem lx_k1043 : pw_code 0 1043 = some (.ireturn) := by decide +kernel
set_option maxRecDepth 1000000 in
theorem lx_k1044 : pw_code 0 1044 = some (.aload_n 1) := by decide +kernel
set_option maxRecDepth 1000000 in
theorem lx_k1045 : pw_code 0 1045 = some (.aload_n 0) := by decide +kernel
set_option maxRecDepth 1000000 in
theorem lx_k1046 : pw_code 0 1046 = some (.iload_n 3) := by decide +kernel
set_option maxRecDepth 1000000 in
theorem lx_k1047 : pw_code 0 1047 = some (.iconst 1) := by decide +kernel
set_option maxRecDepth 1000000 in
theorem lx_k1048 : pw_code 0 1048 = some (.iadd) := by decide +kernel
set_option maxRecDepth 1000000 in
theorem lx_k1049 : pw_code 0 1049 = some (.iaload) := by decide +kernel
set_option maxRecDepth 1000000 in
theorem lx_k1050 : pw_code 0 1050 = some (.aload_n 0) := by decide +kernel
set_option maxRecDepth 1000000 in
theorem lx_k1051 : pw_code 0 1051 = some (.iload_n 3) := by decide +kernel
set_option maxRecDepth 1000000 in
theorem lx_k1052 : pw_code 0 1052 = some (.iconst 2) := by decide +kernel
set_option maxRecDepth 1000000 in
theorem lx_k1053 : pw_code 0 1053 = some (.iadd) := by decide +kernel
set_option maxRecDepth 1000000 in
theorem lx_k1054 : pw_code 0 1054 = some (.iaload) := by decide +kernel
set_option maxRecDepth 1000000 in
theorem lx_k1055 : pw_code 0 1055 = some (.invokevirtual 125) := by decide +kernel
set_option maxRecDepth 1000000 in
theorem lx_k1058 : pw_code 0 1058 = some (.aload_n 2) := by decide +kernel
set_option maxRecDepth 1000000 in
theorem lx_k1059 : pw_code 0 1059 = some (.aload_n 0) := by decide +kernel
set_option maxRecDepth 1000000 in
theorem lx_k1060 : pw_code 0 1060 = some (.iload_n 3) := by decide +kernel
set_option maxRecDepth 1000000 in
theorem lx_k1061 : pw_code 0 1061 = some (.iconst 1) := by decide +kernel
set_option maxRecDepth 1000000 in
theorem lx_k1062 : pw_code 0 1062 = some (.iadd) := by decide +kernel
set_option maxRecDepth 1000000 in
theorem lx_k1063 : pw_code 0 1063 = some (.iaload) := by decide +kernel
set_option maxRecDepth 1000000 in
theorem lx_k1064 : pw_code 0 1064 = some (.aload_n 0) := by decide +kernel
set_option maxRecDepth 1000000 in
theorem lx_k1065 : pw_code 0 1065 = some (.iload_n 3) := by decide +kernel
set_option maxRecDepth 1000000 in
theorem lx_k1066 : pw_code 0 1066 = some (.iconst 2) := by decide +kernel
set_option maxRecDepth 1000000 in
theorem lx_k1067 : pw_code 0 1067 = some (.iadd) := by decide +kernel
set_option maxRecDepth 1000000 in
theorem lx_k1068 : pw_code 0 1068 = some (.iaload) := by decide +kernel
set_option maxRecDepth 1000000 in
theorem lx_k1069 : pw_code 0 1069 = some (.invokevirtual 128) := by decide +kernel
set_option maxRecDepth 1000000 in
theorem lx_k1072 : pw_code 0 1072 = some (.if_icmp .eq 959) := by decide +kernel
set_option maxRecDepth 1000000 in
theorem lx_k1075 : pw_code 0 1075 = some (.iconst 0) := by decide +kernel
set_option maxRecDepth 1000000 in
theorem lx_k1076 : pw_code 0 1076 = some (.ireturn) := by decide +kernel
set_option maxRecDepth 1000000 in
theorem lx_k1077 : pw_code 0 1077 = some (.aload_n 1) := by decide +kernel
set_option maxRecDepth 1000000 in
theorem lx_k1078 : pw_code 0 1078 = some (.aload_n 0) := by decide +kernel
set_option maxRecDepth 1000000 in
theorem lx_k1079 : pw_code 0 1079 = some (.iload_n 3) := by decide +kernel
set_option maxRecDepth 1000000 in
theorem lx_k1080 : pw_code 0 1080 = some (.iconst 1) := by decide +kernel
set_option maxRecDepth 1000000 in
theorem lx_k1081 : pw_code 0 1081 = some (.iadd) := by decide +kernel
set_option maxRecDepth 1000000 in
theorem lx_k1082 : pw_code 0 1082 = some (.iaload) := by decide +kernel
set_option maxRecDepth 1000000 in
theorem lx_k1083 : pw_code 0 1083 = some (.invokevirtual 129) := by decide +kernel
set_option maxRecDepth 1000000 in
theorem lx_k1086 : pw_code 0 1086 = some (.aload_n 2) := by decide +kernel
set_option maxRecDepth 1000000 in
theorem lx_k1087 : pw_code 0 1087 = some (.aload_n 0) := by decide +kernel
set_option maxRecDepth 1000000 in
theorem lx_k1088 : pw_code 0 1088 = some (.iload_n 3) := by decide +kernel
set_option maxRecDepth 1000000 in
theorem lx_k1089 : pw_code 0 1089 = some (.iconst 1) := by decide +kernel
set_option maxRecDepth 1000000 in
theorem lx_k1090 : pw_code 0 1090 = some (.iadd) := by decide +kernel
set_option maxRecDepth 1000000 in
theorem lx_k1091 : pw_code 0 1091 = some (.iaload) := by decide +kernel
set_option maxRecDepth 1000000 in
theorem lx_k1092 : pw_code 0 1092 = some (.invokevirtual 132) := by decide +kernel
set_option maxRecDepth 1000000 in
theorem lx_k1095 : pw_code 0 1095 = some (.if_icmp .eq 936) := by decide +kernel
set_option maxRecDepth 1000000 in
theorem lx_k1098 : pw_code 0 1098 = some (.iconst 0) := by decide +kernel
set_option maxRecDepth 1000000 in
theorem lx_k1099 : pw_code 0 1099 = some (.ireturn) := by decide +kernel
set_option maxRecDepth 1000000 in
theorem lx_k1100 : pw_code 0 1100 = some (.aload_n 1) := by decide +kernel
set_option maxRecDepth 1000000 in
theorem lx_k1101 : pw_code 0 1101 = some (.invokevirtual 133) := by decide +kernel
set_option maxRecDepth 1000000 in
theorem lx_k1104 : pw_code 0 1104 = some (.aload_n 2) := by decide +kernel
set_option maxRecDepth 1000000 in
theorem lx_k1105 : pw_code 0 1105 = some (.invokevirtual 136) := by decide +kernel
set_option maxRecDepth 1000000 in
theorem lx_k1108 : pw_code 0 1108 = some (.if_icmp .eq 923) := by decide +kernel
set_option maxRecDepth 1000000 in
theorem lx_k1111 : pw_code 0 1111 = some (.iconst 0) := by decide +kernel
set_option maxRecDepth 1000000 in
theorem lx_k1112 : pw_code 0 1112 = some (.ireturn) := by decide +kernel
set_option maxRecDepth 1000000 in
theorem lx_k1113 : pw_code 0 1113 = some (.aload_n 1) := by decide +kernel
set_option maxRecDepth 1000000 in
theorem lx_k1114 : pw_code 0 1114 = some (.aload_n 0) := by decide +kernel
set_option maxRecDepth 1000000 in
theorem lx_k1115 : pw_code 0 1115 = some (.iload_n 3) := by decide +kernel
set_option maxRecDepth 1000000 in
theorem lx_k1116 : pw_code 0 1116 = some (.iconst 1) := by decide +kernel
set_option maxRecDepth 1000000 in
theorem lx_k1117 : pw_code 0 1117 = some (.iadd) := by decide +kernel
set_option maxRecDepth 1000000 in
theorem lx_k1118 : pw_code 0 1118 = some (.iaload) := by decide +kernel
set_option maxRecDepth 1000000 in
theorem lx_k1119 : pw_code 0 1119 = some (.invokevirtual 137) := by decide +kernel
set_option maxRecDepth 1000000 in
theorem lx_k1122 : pw_code 0 1122 = some (.aload_n 2) := by decide +kernel
set_option maxRecDepth 1000000 in
theorem lx_k1123 : pw_code 0 1123 = some (.aload_n 0) := by decide +kernel
set_option maxRecDepth 1000000 in
theorem lx_k1124 : pw_code 0 1124 = some (.iload_n 3) := by decide +kernel
set_option maxRecDepth 1000000 in
theorem lx_k1125 : pw_code 0 1125 = some (.iconst 1) := by decide +kernel
set_option maxRecDepth 1000000 in
theorem lx_k1126 : pw_code 0 1126 = some (.iadd) := by decide +kernel
set_option maxRecDepth 1000000 in
theorem lx_k1127 : pw_code 0 1127 = some (.iaload) := by decide +kernel
set_option maxRecDepth 1000000 in
theorem lx_k1128 : pw_code 0 1128 = some (.invokevirtual 140) := by decide +kernel
set_option maxRecDepth 1000000 in
theorem lx_k1131 : pw_code 0 1131 = some (.if_icmp .eq 900) := by decide +kernel
set_option maxRecDepth 1000000 in
theorem lx_k1134 : pw_code 0 1134 = some (.iconst 0) := by decide +kernel
set_option maxRecDepth 1000000 in
theorem lx_k1135 : pw_code 0 1135 = some (.ireturn) := by decide +kernel
set_option maxRecDepth 1000000 in
theorem lx_k1136 : pw_code 0 1136 = some (.aload_n 1) := by decide +kernel
set_option maxRecDepth 1000000 in
theorem lx_k1137 : pw_code 0 1137 = some (.aload_n 0) := by decide +kernel
set_option maxRecDepth 1000000 in
theorem lx_k1138 : pw_code 0 1138 = some (.iload_n 3) := by decide +kernel
set_option maxRecDepth 1000000 in
theorem lx_k1139 : pw_code 0 1139 = some (.iconst 1) := by decide +kernel
set_option maxRecDepth 1000000 in
theorem lx_k1140 : pw_code 0 1140 = some (.iadd) := by decide +kernel
set_option maxRecDepth 1000000 in
theorem lx_k1141 : pw_code 0 1141 = some (.iaload) := by decide +kernel
set_option maxRecDepth 1000000 in
theorem lx_k1142 : pw_code 0 1142 = some (.aload_n 0) := by decide +kernel
set_option maxRecDepth 1000000 in
theorem lx_k1143 : pw_code 0 1143 = some (.iload_n 3) := by decide +kernel
set_option maxRecDepth 1000000 in
theorem lx_k1144 : pw_code 0 1144 = some (.iconst 2) := by decide +kernel
set_option maxRecDepth 1000000 in
theorem lx_k1145 : pw_code 0 1145 = some (.iadd) := by decide +kernel
set_option maxRecDepth 1000000 in
theorem lx_k1146 : pw_code 0 1146 = some (.iaload) := by decide +kernel
set_option maxRecDepth 1000000 in
theorem lx_k1147 : pw_code 0 1147 = some (.invokevirtual 141) := by decide +kernel
set_option maxRecDepth 1000000 in
theorem lx_k1150 : pw_code 0 1150 = some (.aload_n 2) := by decide +kernel
set_option maxRecDepth 1000000 in
theorem lx_k1151 : pw_code 0 1151 = some (.aload_n 0) := by decide +kernel
set_option maxRecDepth 1000000 in
theorem lx_k1152 : pw_code 0 1152 = some (.iload_n 3) := by decide +kernel
set_option maxRecDepth 1000000 in
theorem lx_k1153 : pw_code 0 1153 = some (.iconst 1) := by decide +kernel
set_option maxRecDepth 1000000 in
theorem lx_k1154 : pw_code 0 1154 = some (.iadd) := by decide +kernel
set_option maxRecDepth 1000000 in
theorem lx_k1155 : pw_code 0 1155 = some (.iaload) := by decide +kernel
set_option maxRecDepth 1000000 in
theorem lx_k1156 : pw_code 0 1156 = some (.aload_n 0) := by decide +kernel
set_option maxRecDepth 1000000 in
theorem lx_k1157 : pw_code 0 1157 = some (.iload_n 3) := by decide +kernel
set_option maxRecDepth 1000000 in
theorem lx_k1158 : pw_code 0 1158 = some (.iconst 2) := by decide +kernel
set_option maxRecDepth 1000000 in
theorem lx_k1159 : pw_code 0 1159 = some (.iadd) := by decide +kernel
set_option maxRecDepth 1000000 in
theorem lx_k1160 : pw_code 0 1160 = some (.iaload) := by decide +kernel
set_option maxRecDepth 1000000 in
theorem lx_k1161 : pw_code 0 1161 = some (.invokevirtual 144) := by decide +kernel
set_option maxRecDepth 1000000 in
theorem lx_k1164 : pw_code 0 1164 = some (.if_icmp .eq 867) := by decide +kernel
set_option maxRecDepth 1000000 in
theorem lx_k1167 : pw_code 0 1167 = some (.iconst 0) := by decide +kernel
set_option maxRecDepth 1000000 in
theorem lx_k1168 : pw_code 0 1168 = some (.ireturn) := by decide +kernel
set_option maxRecDepth 1000000 in
theorem lx_k1169 : pw_code 0 1169 = some (.aload_n 1) := by decide +kernel
set_option maxRecDepth 1000000 in
theorem lx_k1170 : pw_code 0 1170 = some (.aload_n 0) := by decide +kernel
set_option maxRecDepth 1000000 in
theorem lx_k1171 : pw_code 0 1171 = some (.iload_n 3) := by decide +kernel
set_option maxRecDepth 1000000 in
theorem lx_k1172 : pw_code 0 1172 = some (.iconst 1) := by decide +kernel
set_option maxRecDepth 1000000 in
theorem lx_k1173 : pw_code 0 1173 = some (.iadd) := by decide +kernel
set_option maxRecDepth 1000000 in
theorem lx_k1174 : pw_code 0 1174 = some (.iaload) := by decide +kernel
set_option maxRecDepth 1000000 in
theorem lx_k1175 : pw_code 0 1175 = some (.invokevirtual 145) := by decide +kernel
set_option maxRecDepth 1000000 in
theorem lx_k1178 : pw_code 0 1178 = some (.aload_n 2) := by decide +kernel
set_option maxRecDepth 1000000 in
theorem lx_k1179 : pw_code 0 1179 = some (.aload_n 0) := by decide +kernel
set_option maxRecDepth 1000000 in
theorem lx_k1180 : pw_code 0 1180 = some (.iload_n 3) := by decide +kernel
set_option maxRecDepth 1000000 in
theorem lx_k1181 : pw_code 0 1181 = some (.iconst 1) := by decide +kernel
set_option maxRecDepth 1000000 in
theorem lx_k1182 : pw_code 0 1182 = some (.iadd) := by decide +kernel
set_option maxRecDepth 1000000 in
theorem lx_k1183 : pw_code 0 1183 = some (.iaload) := by decide +kernel
set_option maxRecDepth 1000000 in
theorem lx_k1184 : pw_code 0 1184 = some (.invokevirtual 148) := by decide +kernel
set_option maxRecDepth 1000000 in
theorem lx_k1187 : pw_code 0 1187 = some (.if_icmp .eq 844) := by decide +kernel
set_option maxRecDepth 1000000 in
theorem lx_k1190 : pw_code 0 1190 = some (.iconst 0) := by decide +kernel
set_option maxRecDepth 1000000 in
theorem lx_k1191 : pw_code 0 1191 = some (.ireturn) := by decide +kernel
set_option maxRecDepth 1000000 in
theorem lx_k1192 : pw_code 0 1192 = some (.aload_n 1) := by decide +kernel
set_option maxRecDepth 1000000 in
theorem lx_k1193 : pw_code 0 1193 = some (.aload_n 0) := by decide +kernel
set_option maxRecDepth 1000000 in
theorem lx_k1194 : pw_code 0 1194 = some (.iload_n 3) := by decide +kernel
set_option maxRecDepth 1000000 in
theorem lx_k1195 : pw_code 0 1195 = some (.iconst 1) := by decide +kernel
set_option maxRecDepth 1000000 in
theorem lx_k1196 : pw_code 0 1196 = some (.iadd) := by decide +kernel
set_option maxRecDepth 1000000 in
theorem lx_k1197 : pw_code 0 1197 = some (.iaload) := by decide +kernel
set_option maxRecDepth 1000000 in
theorem lx_k1198 : pw_code 0 1198 = some (.aload_n 0) := by decide +kernel
set_option maxRecDepth 1000000 in
theorem lx_k1199 : pw_code 0 1199 = some (.iload_n 3) := by decide +kernel
set_option maxRecDepth 1000000 in
theorem lx_k1200 : pw_code 0 1200 = some (.iconst 2) := by decide +kernel
set_option maxRecDepth 1000000 in
theorem lx_k1201 : pw_code 0 1201 = some (.iadd) := by decide +kernel
set_option maxRecDepth 1000000 in
theorem lx_k1202 : pw_code 0 1202 = some (.iaload) := by decide +kernel
set_option maxRecDepth 1000000 in
theorem lx_k1203 : pw_code 0 1203 = some (.aload_n 0) := by decide +kernel
set_option maxRecDepth 1000000 in
theorem lx_k1204 : pw_code 0 1204 = some (.iload_n 3) := by decide +kernel
set_option maxRecDepth 1000000 in
theorem lx_k1205 : pw_code 0 1205 = some (.iconst 3) := by decide +kernel
set_option maxRecDepth 1000000 in
theorem lx_k1206 : pw_code 0 1206 = some (.iadd) := by decide +kernel
set_option maxRecDepth 1000000 in
theorem lx_k1207 : pw_code 0 1207 = some (.iaload) := by decide +kernel
set_option maxRecDepth 1000000 in
theorem lx_k1208 : pw_code 0 1208 = some (.invokevirtual 149) := by decide +kernel
set_option maxRecDepth 1000000 in
theorem lx_k1211 : pw_code 0 1211 = some (.aload_n 2) := by decide +kernel
set_option maxRecDepth 1000000 in
theorem lx_k1212 : pw_code 0 1212 = some (.aload_n 0) := by decide +kernel
set_option maxRecDepth 1000000 in
theorem lx_k1213 : pw_code 0 1213 = some (.iload_n 3) := by decide +kernel
set_option maxRecDepth 1000000 in
theorem lx_k1214 : pw_code 0 1214 = some (.iconst 1) := by decide +kernel
set_option maxRecDepth 1000000 in
theorem lx_k1215 : pw_code 0 1215 = some (.iadd) := by decide +kernel
set_option maxRecDepth 1000000 in
theorem lx_k1216 : pw_code 0 1216 = some (.iaload) := by decide +kernel
set_option maxRecDepth 1000000 in
theorem lx_k1217 : pw_code 0 1217 = some (.aload_n 0) := by decide +kernel
set_option maxRecDepth 1000000 in
theorem lx_k1218 : pw_code 0 1218 = some (.iload_n 3) := by decide +kernel
set_option maxRecDepth 1000000 in
theorem lx_k1219 : pw_code 0 1219 = some (.iconst 2) := by decide +kernel
set_option maxRecDepth 1000000 in
theorem lx_k1220 : pw_code 0 1220 = some (.iadd) := by decide +kernel
set_option maxRecDepth 1000000 in
theorem lx_k1221 : pw_code 0 1221 = some (.iaload) := by decide +kernel
set_option maxRecDepth 1000000 in
theorem lx_k1222 : pw_code 0 1222 = some (.aload_n 0) := by decide +kernel
set_option maxRecDepth 1000000 in
theorem lx_k1223 : pw_code 0 1223 = some (.iload_n 3) := by decide +kernel
set_option maxRecDepth 1000000 in
theorem lx_k1224 : pw_code 0 1224 = some (.iconst 3) := by decide +kernel
set_option maxRecDepth 1000000 in
theorem lx_k1225 : pw_code 0 1225 = some (.iadd) := by decide +kernel
set_option maxRecDepth 1000000 in
theorem lx_k1226 : pw_code 0 1226 = some (.iaload) := by decide +kernel
set_option maxRecDepth 1000000 in
theorem lx_k1227 : pw_code 0 1227 = some (.invokevirtual 152) := by decide +kernel
set_option maxRecDepth 1000000 in
theorem lx_k1230 : pw_code 0 1230 = some (.if_icmp .eq 801) := by decide +kernel
set_option maxRecDepth 1000000 in
theorem lx_k1235 : pw_code 0 1235 = some (.aload_n 1) := by decide +kernel
set_option maxRecDepth 1000000 in
theorem lx_k1236 : pw_code 0 1236 = some (.aload_n 0) := by decide +kernel
set_option maxRecDepth 1000000 in
theorem lx_k1237 : pw_code 0 1237 = some (.iload_n 3) := by decide +kernel
set_option maxRecDepth 1000000 in
theorem lx_k1238 : pw_code 0 1238 = some (.iconst 1) := by decide +kernel
set_option maxRecDepth 1000000 in
theorem lx_k1239 : pw_code 0 1239 = some (.iadd) := by decide +kernel
set_option maxRecDepth 1000000 in
theorem lx_k1240 : pw_code 0 1240 = some (.iaload) := by decide +kernel
set_option maxRecDepth 1000000 in
theorem lx_k1241 : pw_code 0 1241 = some (.invokevirtual 153) := by decide +kernel
set_option maxRecDepth 1000000 in
theorem lx_k1244 : pw_code 0 1244 = some (.aload_n 2) := by decide +kernel
set_option maxRecDepth 1000000 in
theorem lx_k1245 : pw_code 0 1245 = some (.aload_n 0) := by decide +kernel
set_option maxRecDepth 1000000 in
theorem lx_k1246 : pw_code 0 1246 = some (.iload_n 3) := by decide +kernel
set_option maxRecDepth 1000000 in
theorem lx_k1247 : pw_code 0 1247 = some (.iconst 1) := by decide +kernel
set_option maxRecDepth 1000000 in
theorem lx_k1248 : pw_code 0 1248 = some (.iadd) := by decide +kernel
set_option maxRecDepth 1000000 in
theorem lx_k1249 : pw_code 0 1249 = some (.iaload) := by decide +kernel
set_option maxRecDepth 1000000 in
theorem lx_k1250 : pw_code 0 1250 = some (.invokevirtual 156) := by decide +kernel
set_option maxRecDepth 1000000 in
theorem lx_k1253 : pw_code 0 1253 = some (.if_icmp .eq 778) := by decide +kernel
set_option maxRecDepth 1000000 in
theorem lx_k1256 : pw_code 0 1256 = some (.iconst 0) := by decide +kernel
set_option maxRecDepth 1000000 in
theorem lx_k1257 : pw_code 0 1257 = some (.ireturn) := by decide +kernel
set_option maxRecDepth 1000000 in
theorem lx_k1258 : pw_code 0 1258 = some (.aload_n 1) := by decide +kernel
set_option maxRecDepth 1000000 in
theorem lx_k1259 : pw_code 0 1259 = some (.invokevirtual 157) := by decide +kernel
set_option maxRecDepth 1000000 in
theorem lx_k1262 : pw_code 0 1262 = some (.aload_n 2) := by decide +kernel
set_option maxRecDepth 1000000 in
theorem lx_k1263 : pw_code 0 1263 = some (.invokevirtual 160) := by decide +kernel
set_option maxRecDepth 1000000 in
theorem lx_k1266 : pw_code 0 1266 = some (.if_icmp .eq 765) := by decide +kernel
set_option maxRecDepth 1000000 in
theorem lx_k1269 : pw_code 0 1269 = some (.iconst 0) := by decide +kernel
set_option maxRecDepth 1000000 in
theorem lx_k1270 : pw_code 0 1270 = some (.ireturn) := by decide +kernel
set_option maxRecDepth 1000000 in
theorem lx_k1271 : pw_code 0 1271 = some (.aload_n 1) := by decide +kernel
set_option maxRecDepth 1000000 in
theorem lx_k1272 : pw_code 0 1272 = some (.invokevirtual 161) := by decide +kernel
set_option maxRecDepth 1000000 in
theorem lx_k1275 : pw_code 0 1275 = some (.aload_n 2) := by decide +kernel
set_option maxRecDepth 1000000 in
theorem lx_k1276 : pw_code 0 1276 = some (.invokevirtual 164) := by decide +kernel
set_option maxRecDepth 1000000 in
theorem lx_k1279 : pw_code 0 1279 = some (.if_icmp .eq 752) := by decide +kernel
set_option maxRecDepth 1000000 in
theorem lx_k1282 : pw_code 0 1282 = some (.iconst 0) := by decide +kernel
set_option maxRecDepth 1000000 in
theorem lx_k1283 : pw_code 0 1283 = some (.ireturn) := by decide +kernel
set_option maxRecDepth 1000000 in
theorem lx_k1284 : pw_code 0 1284 = some (.aload_n 1) := by decide +kernel
set_option maxRecDepth 1000000 in
theorem lx_k1285 : pw_code 0 1285 = some (.invokevirtual 165) := by decide +kernel
set_option maxRecDepth 1000000 in
theorem lx_k1288 : pw_code 0 1288 = some (.aload_n 2) := by decide +kernel
set_option maxRecDepth 1000000 in
theorem lx_k1289 : pw_code 0 1289 = some (.invokevirtual 168) := by decide +kernel
set_option maxRecDepth 1000000 in
theorem lx_k1292 : pw_code 0 1292 = some (.if_icmp .eq 739) := by decide +kernel
set_option maxRecDepth 1000000 in
theorem lx_k1295 : pw_code 0 1295 = some (.iconst 0) := by decide +kernel
set_option maxRecDepth 1000000 in
theorem lx_k1296 : pw_code 0 1296 = some (.ireturn) := by decide +kernel
set_option maxRecDepth 1000000 in
theorem lx_k1297 : pw_code 0 1297 = some (.aload_n 1) := by decide +kernel
set_option maxRecDepth 1000000 in
theorem lx_k1298 : pw_code 0 1298 = some (.aload_n 0) := by decide +kernel
set_option maxRecDepth 1000000 in
theorem lx_k1299 : pw_code 0 1299 = some (.iload_n 3) := by decide +kernel
set_option maxRecDepth 1000000 in
theorem lx_k1300 : pw_code 0 1300 = some (.iconst 1) := by decide +kernel
set_option maxRecDepth 1000000 in
theorem lx_k1301 : pw_code 0 1301 = some (.iadd) := by decide +kernel
set_option maxRecDepth 1000000 in
theorem lx_k1302 : pw_code 0 1302 = some (.iaload) := by decide +kernel
set_option maxRecDepth 1000000 in
theorem lx_k1303 : pw_code 0 1303 = some (.invokevirtual 169) := by decide +kernel
set_option maxRecDepth 1000000 in
theorem lx_k1306 : pw_code 0 1306 = some (.aload_n 2) := by decide +kernel
set_option maxRecDepth 1000000 in
theorem lx_k1307 : pw_code 0 1307 = some (.aload_n 0) := by decide +kernel
set_option maxRecDepth 1000000 in
theorem lx_k1308 : pw_code 0 1308 = some (.iload_n 3) := by decide +kernel
set_option maxRecDepth 1000000 in
theorem lx_k1309 : pw_code 0 1309 = some (.iconst 1) := by decide +kernel
set_option maxRecDepth 1000000 in
theorem lx_k1310 : pw_code 0 1310 = some (.iadd) := by decide +kernel
set_option maxRecDepth 1000000 in
theorem lx_k1311 : pw_code 0 1311 = some (.iaload) := by decide +kernel
set_option maxRecDepth 1000000 in
theorem lx_k1312 : pw_code 0 1312 = some (.invokevirtual 172) := by decide +kernel
set_option maxRecDepth 1000000 in
theorem lx_k1315 : pw_code 0 1315 = some (.if_icmp .eq 716) := by decide +kernel
set_option maxRecDepth 1000000 in
theorem lx_k1318 : pw_code 0 1318 = some (.iconst 0) := by decide +kernel
set_option maxRecDepth 1000000 in
theorem lx_k1319 : pw_code 0 1319 = some (.ireturn) := by decide +kernel
set_option maxRecDepth 1000000 in
theorem lx_k1320 : pw_code 0 1320 = some (.aload_n 1) := by decide +kernel
set_option maxRecDepth 1000000 in
theorem lx_k1321 : pw_code 0 1321 = some (.aload_n 0) := by decide +kernel
set_option maxRecDepth 1000000 in
theorem lx_k1322 : pw_code 0 1322 = some (.iload_n 3) := by decide +kernel
set_option maxRecDepth 1000000 in
theorem lx_k1323 : pw_code 0 1323 = some (.iconst 1) := by decide +kernel
set_option maxRecDepth 1000000 in
theorem lx_k1324 : pw_code 0 1324 = some (.iadd) := by decide +kernel
set_option maxRecDepth 1000000 in
theorem lx_k1325 : pw_code 0 1325 = some (.iaload) := by decide +kernel
set_option maxRecDepth 1000000 in
theorem lx_k1326 : pw_code 0 1326 = some (.invokevirtual 173) := by decide +kernel
set_option maxRecDepth 1000000 in
theorem lx_k1329 : pw_code 0 1329 = some (.aload_n 2) := by decide +kernel
set_option maxRecDepth 1000000 in
theorem lx_k1330 : pw_code 0 1330 = some (.aload_n 0) := by decide +kernel
set_option maxRecDepth 1000000 in
theorem lx_k1331 : pw_code 0 1331 = some (.iload_n 3) := by decide +kernel
set_option maxRecDepth 1000000 in
theorem lx_k1332 : pw_code 0 1332 = some (.iconst 1) := by decide +kernel
set_option maxRecDepth 1000000 in
theorem lx_k1333 : pw_code 0 1333 = some (.iadd) := by decide +kernel
set_option maxRecDepth 1000000 in
theorem lx_k1334 : pw_code 0 1334 = some (.iaload) := by decide +kernel
set_option maxRecDepth 1000000 in
theorem lx_k1335 : pw_code 0 1335 = some (.invokevirtual 176) := by decide +kernel
set_option maxRecDepth 1000000 in
theorem lx_k1338 : pw_code 0 1338 = some (.if_icmp .eq 693) := by decide +kernel
set_option maxRecDepth 1000000 in
theorem lx_k1341 : pw_code 0 1341 = some (.iconst 0) := by decide +kernel
set_option maxRecDepth 1000000 in
theorem lx_k1342 : pw_code 0 1342 = some (.ireturn) := by decide +kernel
set_option maxRecDepth 1000000 in
theorem lx_k1343 : pw_code 0 1343 = some (.aload_n 1) := by decide +kernel
set_option maxRecDepth 1000000 in
theorem lx_k1344 : pw_code 0 1344 = some (.aload_n 0) := by decide +kernel
set_option maxRecDepth 1000000 in
theorem lx_k1345 : pw_code 0 1345 = some (.iload_n 3) := by decide +kernel
set_option maxRecDepth 1000000 in
theorem lx_k1346 : pw_code 0 1346 = some (.iconst 1) := by decide +kernel
set_option maxRecDepth 1000000 in
theorem lx_k1347 : pw_code 0 1347 = some (.iadd) := by decide +kernel
set_option maxRecDepth 1000000 in
theorem lx_k1348 : pw_code 0 1348 = some (.iaload) := by decide +kernel
set_option maxRecDepth 1000000 in
theorem lx_k1349 : pw_code 0 1349 = some (.aload_n 0) := by decide +kernel
set_option maxRecDepth 1000000 in
theorem lx_k1350 : pw_code 0 1350 = some (.iload_n 3) := by decide +kernel
set_option maxRecDepth 1000000 in
theorem lx_k1351 : pw_code 0 1351 = some (.iconst 2) := by decide +kernel
set_option maxRecDepth 1000000 in
theorem lx_k1352 : pw_code 0 1352 = some (.iadd) := by decide +kernel
set_option maxRecDepth 1000000 in
theorem lx_k1353 : pw_code 0 1353 = some (.iaload) := by decide +kernel
set_option maxRecDepth 1000000 in
theorem lx_k1354 : pw_code 0 1354 = some (.aload_n 0) := by decide +kernel
set_option maxRecDepth 1000000 in
theorem lx_k1355 : pw_code 0 1355 = some (.iload_n 3) := by decide +kernel
set_option maxRecDepth 1000000 in
theorem lx_k1356 : pw_code 0 1356 = some (.iconst 3) := by decide +kernel
set_option maxRecDepth 1000000 in
theorem lx_k1357 : pw_code 0 1357 = some (.iadd) := by decide +kernel
set_option maxRecDepth 1000000 in
theorem lx_k1358 : pw_code 0 1358 = some (.iaload) := by decide +kernel
set_option maxRecDepth 1000000 in
theorem lx_k1359 : pw_code 0 1359 = some (.invokevirtual 177) := by decide +kernel
set_option maxRecDepth 1000000 in
theorem lx_k1362 : pw_code 0 1362 = some (.aload_n 2) := by decide +kernel
set_option maxRecDepth 1000000 in
theorem lx_k1363 : pw_code 0 1363 = some (.aload_n 0) := by decide +kernel
set_option maxRecDepth 1000000 in
theorem lx_k1364 : pw_code 0 1364 = some (.iload_n 3) := by decide +kernel
set_option maxRecDepth 1000000 in
theorem lx_k1365 : pw_code 0 1365 = some (.iconst 1) := by decide +kernel
set_option maxRecDepth 1000000 in
theorem lx_k1366 : pw_code 0 1366 = some (.iadd) := by decide +kernel
set_option maxRecDepth 1000000 in
theorem lx_k1367 : pw_code 0 1367 = some (.iaload) := by decide +kernel
set_option maxRecDepth 1000000 in
theorem lx_k1368 : pw_code 0 1368 = some (.aload_n 0) := by decide +kernel
set_option maxRecDepth 1000000 in
theorem lx_k1369 : pw_code 0 1369 = some (.iload_n 3) := by decide +kernel
set_option maxRecDepth 1000000 in
theorem lx_k1370 : pw_code 0 1370 = some (.iconst 2) := by decide +kernel
set_option maxRecDepth 1000000 in
theorem lx_k1371 : pw_code 0 1371 = some (.iadd) := by decide +kernel
set_option maxRecDepth 1000000 in
theorem lx_k1372 : pw_code 0 1372 = some (.iaload) := by decide +kernel
set_option maxRecDepth 1000000 in
theorem lx_k1373 : pw_code 0 1373 = some (.aload_n 0) := by decide +kernel
set_option maxRecDepth 1000000 in
theorem lx_k1374 : pw_code 0 1374 = some (.iload_n 3) := by decide +kernel
set_option maxRecDepth 1000000 in
theorem lx_k1375 : pw_code 0 1375 = some (.iconst 3) := by decide +kernel
set_option maxRecDepth 1000000 in
theorem lx_k1376 : pw_code 0 1376 = some (.iadd) := by decide +kernel
set_option maxRecDepth 1000000 in
theorem lx_k1377 : pw_code 0 1377 = some (.iaload) := by decide +kernel
set_option maxRecDepth 1000000 in
theorem lx_k1378 : pw_code 0 1378 = some (.invokevirtual 180) := by decide +kernel
set_option maxRecDepth 1000000 in
theorem lx_k1381 : pw_code 0 1381 = some (.if_icmp .eq 650) := by decide +kernel
set_option maxRecDepth 1000000 in
theorem lx_k1386 : pw_code 0 1386 = some (.aload_n 1) := by decide +kernel
set_option maxRecDepth 1000000 in
theorem lx_k1387 : pw_code 0 1387 = some (.aload_n 0) := by decide +kernel
set_option maxRecDepth 1000000 in
theorem lx_k1388 : pw_code 0 1388 = some (.iload_n 3) := by decide +kernel
set_option maxRecDepth 1000000 in
theorem lx_k1389 : pw_code 0 1389 = some (.iconst 1) := by decide +kernel
set_option maxRecDepth 1000000 in
theorem lx_k1390 : pw_code 0 1390 = some (.iadd) := by decide +kernel
set_option maxRecDepth 1000000 in
theorem lx_k1391 : pw_code 0 1391 = some (.iaload) := by decide +kernel
set_option maxRecDepth 1000000 in
theorem lx_k1392 : pw_code 0 1392 = some (.aload_n 0) := by decide +kernel
set_option maxRecDepth 1000000 in
theorem lx_k1393 : pw_code 0 1393 = some (.iload_n 3) := by decide +kernel
set_option maxRecDepth 1000000 in
theorem lx_k1394 : pw_code 0 1394 = some (.iconst 2) := by decide +kernel
set_option maxRecDepth 1000000 in
theorem lx_k1395 : pw_code 0 1395 = some (.iadd) := by decide +kernel
set_option maxRecDepth 1000000 in
theorem lx_k1396 : pw_code 0 1396 = some (.iaload) := by decide +kernel
set_option maxRecDepth 1000000 in
theorem lx_k1397 : pw_code 0 1397 = some (.invokevirtual 181) := by decide +kernel
set_option maxRecDepth 1000000 in
theorem lx_k1400 : pw_code 0 1400 = some (.aload_n 2) := by decide +kernel
set_option maxRecDepth 1000000 in
theorem lx_k1401 : pw_code 0 1401 = some (.aload_n 0) := by decide +kernel
set_option maxRecDepth 1000000 in
theorem lx_k1402 : pw_code 0 1402 = some (.iload_n 3) := by decide +kernel
set_option maxRecDepth 1000000 in
theorem lx_k1403 : pw_code 0 1403 = some (.iconst 1) := by decide +kernel
set_option maxRecDepth 1000000 in
theorem lx_k1404 : pw_code 0 1404 = some (.iadd) := by decide +kernel
set_option maxRecDepth 1000000 in
theorem lx_k1405 : pw_code 0 1405 = some (.iaload) := by decide +kernel
set_option maxRecDepth 1000000 in
theorem lx_k1406 : pw_code 0 1406 = some (.aload_n 0) := by decide +kernel
set_option maxRecDepth 1000000 in
theorem lx_k1407 : pw_code 0 1407 = some (.iload_n 3) := by decide +kernel
set_option maxRecDepth 1000000 in
theorem lx_k1408 : pw_code 0 1408 = some (.iconst 2) := by decide +kernel
set_option maxRecDepth 1000000 in
theorem lx_k1409 : pw_code 0 1409 = some (.iadd) := by decide +kernel
set_option maxRecDepth 1000000 in
theorem lx_k1410 : pw_code 0 1410 = some (.iaload) := by decide +kernel
set_option maxRecDepth 1000000 in
theorem lx_k1411 : pw_code 0 1411 = some (.invokevirtual 184) := by decide +kernel
set_option maxRecDepth 1000000 in
theorem lx_k1414 : pw_code 0 1414 = some (.if_icmp .eq 617) := by decide +kernel
set_option maxRecDepth 1000000 in
theorem lx_k1417 : pw_code 0 1417 = some (.iconst 0) := by decide +kernel
set_option maxRecDepth 1000000 in
theorem lx_k1418 : pw_code 0 1418 = some (.ireturn) := by decide +kernel
set_option maxRecDepth 1000000 in
theorem lx_k1419 : pw_code 0 1419 = some (.aload_n 1) := by decide +kernel
set_option maxRecDepth 1000000 in
theorem lx_k1420 : pw_code 0 1420 = some (.invokevirtual 185) := by decide +kernel
set_option maxRecDepth 1000000 in
theorem lx_k1423 : pw_code 0 1423 = some (.aload_n 2) := by decide +kernel
set_option maxRecDepth 1000000 in
theorem lx_k1424 : pw_code 0 1424 = some (.invokevirtual 188) := by decide +kernel
set_option maxRecDepth 1000000 in
theorem lx_k1427 : pw_code 0 1427 = some (.if_icmp .eq 604) := by decide +kernel
set_option maxRecDepth 1000000 in
theorem lx_k1430 : pw_code 0 1430 = some (.iconst 0) := by decide +kernel
set_option maxRecDepth 1000000 in
theorem lx_k1431 : pw_code 0 1431 = some (.ireturn) := by decide +kernel
set_option maxRecDepth 1000000 in
theorem lx_k1432 : pw_code 0 1432 = some (.aload_n 1) := by decide +kernel
set_option maxRecDepth 1000000 in
theorem lx_k1433 : pw_code 0 1433 = some (.aload_n 0) := by decide +kernel
set_option maxRecDepth 1000000 in
theorem lx_k1434 : pw_code 0 1434 = some (.iload_n 3) := by decide +kernel
set_option maxRecDepth 1000000 in
theorem lx_k1435 : pw_code 0 1435 = some (.iconst 1) := by decide +kernel
set_option maxRecDepth 1000000 in
theorem lx_k1436 : pw_code 0 1436 = some (.iadd) := by decide +kernel
set_option maxRecDepth 1000000 in
theorem lx_k1437 : pw_code 0 1437 = some (.iaload) := by decide +kernel
set_option maxRecDepth 1000000 in
theorem lx_k1438 : pw_code 0 1438 = some (.invokevirtual 189) := by decide +kernel
set_option maxRecDepth 1000000 in
theorem lx_k1441 : pw_code 0 1441 = some (.aload_n 2) := by decide +kernel
set_option maxRecDepth 1000000 in
theorem lx_k1442 : pw_code 0 1442 = some (.aload_n 0) := by decide +kernel
set_option maxRecDepth 1000000 in
theorem lx_k1443 : pw_code 0 1443 = some (.iload_n 3) := by decide +kernel
set_option maxRecDepth 1000000 in
theorem lx_k1444 : pw_code 0 1444 = some (.iconst 1) := by decide +kernel
set_option maxRecDepth 1000000 in
theorem lx_k1445 : pw_code 0 1445 = some (.iadd) := by decide +kernel
set_option maxRecDepth 1000000 in
theorem lx_k1446 : pw_code 0 1446 = some (.iaload) := by decide +kernel
set_option maxRecDepth 1000000 in
theorem lx_k1447 : pw_code 0 1447 = some (.invokevirtual 192) := by decide +kernel
set_option maxRecDepth 1000000 in
theorem lx_k1450 : pw_code 0 1450 = some (.if_icmp .eq 581) := by decide +kernel
set_option maxRecDepth 1000000 in
theorem lx_k1453 : pw_code 0 1453 = some (.iconst 0) := by decide +kernel
set_option maxRecDepth 1000000 in
theorem lx_k1454 : pw_code 0 1454 = some (.ireturn) := by decide +kernel
set_option maxRecDepth 1000000 in
theorem lx_k1455 : pw_code 0 1455 = some (.aload_n 1) := by decide +kernel
set_option maxRecDepth 1000000 in
theorem lx_k1456 : pw_code 0 1456 = some (.aload_n 0) := by decide +kernel
set_option maxRecDepth 1000000 in
theorem lx_k1457 : pw_code 0 1457 = some (.iload_n 3) := by decide +kernel
set_option maxRecDepth 1000000 in
theorem lx_k1458 : pw_code 0 1458 = some (.iconst 1) := by decide +kernel
set_option maxRecDepth 1000000 in
theorem lx_k1459 : pw_code 0 1459 = some (.iadd) := by decide +kernel
set_option maxRecDepth 1000000 in
theorem lx_k1460 : pw_code 0 1460 = some (.iaload) := by decide +kernel
set_option maxRecDepth 1000000 in
theorem lx_k1461 : pw_code 0 1461 = some (.invokevirtual 193) := by decide +kernel
set_option maxRecDepth 1000000 in
theorem lx_k1464 : pw_code 0 1464 = some (.aload_n 2) := by decide +kernel
set_option maxRecDepth 1000000 in
theorem lx_k1465 : pw_code 0 1465 = some (.aload_n 0) := by decide +kernel
set_option maxRecDepth 1000000 in
theorem lx_k1466 : pw_code 0 1466 = some (.iload_n 3) := by decide +kernel
set_option maxRecDepth 1000000 in
theorem lx_k1467 : pw_code 0 1467 = some (.iconst 1) := by decide +kernel
set_option maxRecDepth 1000000 in
theorem lx_k1468 : pw_code 0 1468 = some (.iadd) := by decide +kernel
set_option maxRecDepth 1000000 in
theorem lx_k1469 : pw_code 0 1469 = some (.iaload) := by decide +kernel
set_option maxRecDepth 1000000 in
theorem lx_k1470 : pw_code 0 1470 = some (.invokevirtual 196) := by decide +kernel
set_option maxRecDepth 1000000 in
theorem lx_k1473 : pw_code 0 1473 = some (.if_icmp .eq 558) := by decide +kernel
set_option maxRecDepth 1000000 in
theorem lx_k1476 : pw_code 0 1476 = some (.iconst 0) := by decide +kernel
set_option maxRecDepth 1000000 in
theorem lx_k1477 : pw_code 0 1477 = some (.ireturn) := by decide +kernel
set_option maxRecDepth 1000000 in
theorem lx_k1478 : pw_code 0 1478 = some (.aload_n 1) := by decide +kernel
set_option maxRecDepth 1000000 in
theorem lx_k1479 : pw_code 0 1479 = some (.aload_n 0) := by decide +kernel
set_option maxRecDepth 1000000 in
theorem lx_k1480 : pw_code 0 1480 = some (.iload_n 3) := by decide +kernel
set_option maxRecDepth 1000000 in
theorem lx_k1481 : pw_code 0 1481 = some (.iconst 1) := by decide +kernel
set_option maxRecDepth 1000000 in
theorem lx_k1482 : pw_code 0 1482 = some (.iadd) := by decide +kernel
set_option maxRecDepth 1000000 in
theorem lx_k1483 : pw_code 0 1483 = some (.iaload) := by decide +kernel
set_option maxRecDepth 1000000 in
theorem lx_k1484 : pw_code 0 1484 = some (.invokevirtual 197) := by decide +kernel
set_option maxRecDepth 1000000 in
theorem lx_k1487 : pw_code 0 1487 = some (.aload_n 2) := by decide +kernel
set_option maxRecDepth 1000000 in
theorem lx_k1488 : pw_code 0 1488 = some (.aload_n 0) := by decide +kernel
set_option maxRecDepth 1000000 in
theorem lx_k1489 : pw_code 0 1489 = some (.iload_n 3) := by decide +kernel
set_option maxRecDepth 1000000 in
theorem lx_k1490 : pw_code 0 1490 = some (.iconst 1) := by decide +kernel
set_option maxRecDepth 1000000 in
theorem lx_k1491 : pw_code 0 1491 = some (.iadd) := by decide +kernel
set_option maxRecDepth 1000000 in
theorem lx_k1492 : pw_code 0 1492 = some (.iaload) := by decide +kernel
set_option maxRecDepth 1000000 in
theorem lx_k1493 : pw_code 0 1493 = some (.invokevirtual 200) := by decide +kernel
set_option maxRecDepth 1000000 in
theorem lx_k1496 : pw_code 0 1496 = some (.if_icmp .eq 535) := by decide +kernel
set_option maxRecDepth 1000000 in
theorem lx_k1499 : pw_code 0 1499 = some (.iconst 0) := by decide +kernel
set_option maxRecDepth 1000000 in
theorem lx_k1500 : pw_code 0 1500 = some (.ireturn) := by decide +kernel
set_option maxRecDepth 1000000 in
theorem lx_k1501 : pw_code 0 1501 = some (.aload_n 1) := by decide +kernel
set_option maxRecDepth 1000000 in
theorem lx_k1502 : pw_code 0 1502 = some (.aload_n 0) := by decide +kernel
set_option maxRecDepth 1000000 in
theorem lx_k1503 : pw_code 0 1503 = some (.iload_n 3) := by decide +kernel
set_option maxRecDepth 1000000 in
theorem lx_k1504 : pw_code 0 1504 = some (.iconst 1) := by decide +kernel
set_option maxRecDepth 1000000 in
theorem lx_k1505 : pw_code 0 1505 = some (.iadd) := by decide +kernel
set_option maxRecDepth 1000000 in
theorem lx_k1506 : pw_code 0 1506 = some (.iaload) := by decide +kernel
set_option maxRecDepth 1000000 in
theorem lx_k1507 : pw_code 0 1507 = some (.invokevirtual 201) := by decide +kernel
set_option maxRecDepth 1000000 in
theorem lx_k1510 : pw_code 0 1510 = some (.aload_n 2) := by decide +kernel
set_option maxRecDepth 1000000 in
theorem lx_k1511 : pw_code 0 1511 = some (.aload_n 0) := by decide +kernel
set_option maxRecDepth 1000000 in
theorem lx_k1512 : pw_code 0 1512 = some (.iload_n 3) := by decide +kernel
set_option maxRecDepth 1000000 in
theorem lx_k1513 : pw_code 0 1513 = some (.iconst 1) := by decide +kernel
set_option maxRecDepth 1000000 in
theorem lx_k1514 : pw_code 0 1514 = some (.iadd) := by decide +kernel
set_option maxRecDepth 1000000 in
theorem lx_k1515 : pw_code 0 1515 = some (.iaload) := by decide +kernel
set_option maxRecDepth 1000000 in
theorem lx_k1516 : pw_code 0 1516 = some (.invokevirtual 204) := by decide +kernel
set_option maxRecDepth 1000000 in
theorem lx_k1519 : pw_code 0 1519 = some (.if_icmp .eq 512) := by decide +kernel
set_option maxRecDepth 1000000 in
theorem lx_k1522 : pw_code 0 1522 = some (.iconst 0) := by decide +kernel
set_option maxRecDepth 1000000 in
theorem lx_k1523 : pw_code 0 1523 = some (.ireturn) := by decide +kernel
set_option maxRecDepth 1000000 in
theorem lx_k1524 : pw_code 0 1524 = some (.aload_n 1) := by decide +kernel
set_option maxRecDepth 1000000 in
theorem lx_k1525 : pw_code 0 1525 = some (.aload_n 0) := by decide +kernel
set_option maxRecDepth 1000000 in
theorem lx_k1526 : pw_code 0 1526 = some (.iload_n 3) := by decide +kernel
set_option maxRecDepth 1000000 in
theorem lx_k1527 : pw_code 0 1527 = some (.iconst 1) := by decide +kernel
set_option maxRecDepth 1000000 in
theorem lx_k1528 : pw_code 0 1528 = some (.iadd) := by decide +kernel
set_option maxRecDepth 1000000 in
theorem lx_k1529 : pw_code 0 1529 = some (.iaload) := by decide +kernel
set_option maxRecDepth 1000000 in
theorem lx_k1530 : pw_code 0 1530 = some (.invokevirtual 205) := by decide +kernel
set_option maxRecDepth 1000000 in
theorem lx_k1533 : pw_code 0 1533 = some (.aload_n 2) := by decide +kernel
set_option maxRecDepth 1000000 in
theorem lx_k1534 : pw_code 0 1534 = some (.aload_n 0) := by decide +kernel
set_option maxRecDepth 1000000 in
theorem lx_k1535 : pw_code 0 1535 = some (.iload_n 3) := by decide +kernel
set_option maxRecDepth 1000000 in
theorem lx_k1536 : pw_code 0 1536 = some (.iconst 1) := by decide +kernel
set_option maxRecDepth 1000000 in
theorem lx_k1537 : pw_code 0 1537 = some (.iadd) := by decide +kernel
set_option maxRecDepth 1000000 in
theorem lx_k1538 : pw_code 0 1538 = some (.iaload) := by decide +kernel
set_option maxRecDepth 1000000 in
theorem lx_k1539 : pw_code 0 1539 = some (.invokevirtual 208) := by decide +kernel
set_option maxRecDepth 1000000 in
theorem lx_k1542 : pw_code 0 1542 = some (.if_icmp .eq 489) := by decide +kernel
set_option maxRecDepth 1000000 in
theorem lx_k1545 : pw_code 0 1545 = some (.iconst 0) := by decide +kernel
set_option maxRecDepth 1000000 in
theorem lx_k1546 : pw_code 0 1546 = some (.ireturn) := by decide +kernel
set_option maxRecDepth 1000000 in
theorem lx_k1547 : pw_code 0 1547 = some (.aload_n 1) := by decide +kernel
set_option maxRecDepth 1000000 in
theorem lx_k1548 : pw_code 0 1548 = some (.invokevirtual 209) := by decide +kernel
set_option maxRecDepth 1000000 in
theorem lx_k1551 : pw_code 0 1551 = some (.aload_n 2) := by decide +kernel
set_option maxRecDepth 1000000 in
theorem lx_k1552 : pw_code 0 1552 = some (.invokevirtual 212) := by decide +kernel
set_option maxRecDepth 1000000 in
theorem lx_k1555 : pw_code 0 1555 = some (.if_icmp .eq 476) := by decide +kernel
set_option maxRecDepth 1000000 in
theorem lx_k1558 : pw_code 0 1558 = some (.iconst 0) := by decide +kernel
set_option maxRecDepth 1000000 in
theorem lx_k1559 : pw_code 0 1559 = some (.ireturn) := by decide +kernel
set_option maxRecDepth 1000000 in
theorem lx_k1560 : pw_code 0 1560 = some (.aload_n 1) := by decide +kernel
set_option maxRecDepth 1000000 in
theorem lx_k1561 : pw_code 0 1561 = some (.aload_n 0) := by decide +kernel
set_option maxRecDepth 1000000 in
theorem lx_k1562 : pw_code 0 1562 = some (.iload_n 3) := by decide +kernel
set_option maxRecDepth 1000000 in
theorem lx_k1563 : pw_code 0 1563 = some (.iconst 1) := by decide +kernel
set_option maxRecDepth 1000000 in
theorem lx_k1564 : pw_code 0 1564 = some (.iadd) := by decide +kernel
set_option maxRecDepth 1000000 in
theorem lx_k1565 : pw_code 0 1565 = some (.iaload) := by decide +kernel
set_option maxRecDepth 1000000 in
theorem lx_k1566 : pw_code 0 1566 = some (.invokevirtual 213) := by decide +kernel
set_option maxRecDepth 1000000 in
theorem lx_k1569 : pw_code 0 1569 = some (.aload_n 2) := by decide +kernel
set_option maxRecDepth 1000000 in
theorem lx_k1570 : pw_code 0 1570 = some (.aload_n 0) := by decide +kernel
set_option maxRecDepth 1000000 in
theorem lx_k1571 : pw_code 0 1571 = some (.iload_n 3) := by decide +kernel
set_option maxRecDepth 1000000 in
theorem lx_k1572 : pw_code 0 1572 = some (.iconst 1) := by decide +kernel
set_option maxRecDepth 1000000 in
theorem lx_k1573 : pw_code 0 1573 = some (.iadd) := by decide +kernel
set_option maxRecDepth 1000000 in
theorem lx_k1574 : pw_code 0 1574 = some (.iaload) := by decide +kernel
set_option maxRecDepth 1000000 in
theorem lx_k1575 : pw_code 0 1575 = some (.invokevirtual 216) := by decide +kernel
set_option maxRecDepth 1000000 in
theorem lx_k1578 : pw_code 0 1578 = some (.if_icmp .eq 453) := by decide +kernel
set_option maxRecDepth 1000000 in
theorem lx_k1581 : pw_code 0 1581 = some (.iconst 0) := by decide +kernel
set_option maxRecDepth 1000000 in
theorem lx_k1582 : pw_code 0 1582 = some (.ireturn) := by decide +kernel
set_option maxRecDepth 1000000 in
theorem lx_k1583 : pw_code 0 1583 = some (.aload_n 1) := by decide +kernel
set_option maxRecDepth 1000000 in
theorem lx_k1584 : pw_code 0 1584 = some (.aload_n 0) := by decide +kernel
set_option maxRecDepth 1000000 in
theorem lx_k1585 : pw_code 0 1585 = some (.iload_n 3) := by decide +kernel
set_option maxRecDepth 1000000 in
theorem lx_k1586 : pw_code 0 1586 = some (.iconst 1) := by decide +kernel
set_option maxRecDepth 1000000 in
theorem lx_k1587 : pw_code 0 1587 = some (.iadd) := by decide +kernel
set_option maxRecDepth 1000000 in
theorem lx_k1588 : pw_code 0 1588 = some (.iaload) := by decide +kernel
set_option maxRecDepth 1000000 in
theorem lx_k1589 : pw_code 0 1589 = some (.invokevirtual 217) := by decide +kernel
set_option maxRecDepth 1000000 in
theorem lx_k1592 : pw_code 0 1592 = some (.aload_n 2) := by decide +kernel
set_option maxRecDepth 1000000 in
theorem lx_k1593 : pw_code 0 1593 = some (.aload_n 0) := by decide +kernel
set_option maxRecDepth 1000000 in
theorem lx_k1594 : pw_code 0 1594 = some (.iload_n 3) := by decide +kernel
set_option maxRecDepth 1000000 in
theorem lx_k1595 : pw_code 0 1595 = some (.iconst 1) := by decide +kernel
set_option maxRecDepth 1000000 in
theorem lx_k1596 : pw_code 0 1596 = some (.iadd) := by decide +kernel
set_option maxRecDepth 1000000 in
theorem lx_k1597 : pw_code 0 1597 = some (.iaload) := by decide +kernel
set_option maxRecDepth 1000000 in
theorem lx_k1598 : pw_code 0 1598 = some (.invokevirtual 220) := by decide +kernel
set_option maxRecDepth 1000000 in
theorem lx_k1601 : pw_code 0 1601 = some (.if_icmp .eq 430) := by decide +kernel
set_option maxRecDepth 1000000 in
theorem lx_k1604 : pw_code 0 1604 = some (.iconst 0) := by decide +kernel
set_option maxRecDepth 1000000 in
theorem lx_k1605 : pw_code 0 1605 = some (.ireturn) := by decide +kernel
set_option maxRecDepth 1000000 in
theorem lx_k1606 : pw_code 0 1606 = some (.aload_n 1) := by decide +kernel
set_option maxRecDepth 1000000 in
theorem lx_k1607 : pw_code 0 1607 = some (.aload_n 0) := by decide +kernel
set_option maxRecDepth 1000000 in
theorem lx_k1608 : pw_code 0 1608 = some (.iload_n 3) := by decide +kernel
set_option maxRecDepth 1000000 in
theorem lx_k1609 : pw_code 0 1609 = some (.iconst 1) := by decide +kernel
set_option maxRecDepth 1000000 in
theorem lx_k1610 : pw_code 0 1610 = some (.iadd) := by decide +kernel
set_option maxRecDepth 1000000 in
theorem lx_k1611 : pw_code 0 1611 = some (.iaload) := by decide +kernel
set_option maxRecDepth 1000000 in
theorem lx_k1612 : pw_code 0 1612 = some (.aload_n 0) := by decide +kernel
set_option maxRecDepth 1000000 in
theorem lx_k1613 : pw_code 0 1613 = some (.iload_n 3) := by decide +kernel
set_option maxRecDepth 1000000 in
theorem lx_k1614 : pw_code 0 1614 = some (.iconst 2) := by decide +kernel
set_option maxRecDepth 1000000 in
theorem lx_k1615 : pw_code 0 1615 = some (.iadd) := by decide +kernel
set_option maxRecDepth 1000000 in
theorem lx_k1616 : pw_code 0 1616 = some (.iaload) := by decide +kernel
set_option maxRecDepth 1000000 in
theorem lx_k1617 : pw_code 0 1617 = some (.invokevirtual 221) := by decide +kernel
set_option maxRecDepth 1000000 in
theorem lx_k1620 : pw_code 0 1620 = some (.aload_n 2) := by decide +kernel
set_option maxRecDepth 1000000 in
theorem lx_k1621 : pw_code 0 1621 = some (.aload_n 0) := by decide +kernel
set_option maxRecDepth 1000000 in
theorem lx_k1622 : pw_code 0 1622 = some (.iload_n 3) := by decide +kernel
set_option maxRecDepth 1000000 in
theorem lx_k1623 : pw_code 0 1623 = some (.iconst 1) := by decide +kernel
set_option maxRecDepth 1000000 in
theorem lx_k1624 : pw_code 0 1624 = some (.iadd) := by decide +kernel
set_option maxRecDepth 1000000 in
theorem lx_k1625 : pw_code 0 1625 = some (.iaload) := by decide +kernel
set_option maxRecDepth 1000000 in
theorem lx_k1626 : pw_code 0 1626 = some (.aload_n 0) := by decide +kernel
set_option maxRecDepth 1000000 in
theorem lx_k1627 : pw_code 0 1627 = some (.iload_n 3) := by decide +kernel
set_option maxRecDepth 1000000 in
theorem lx_k1628 : pw_code 0 1628 = some (.iconst 2) := by decide +kernel
set_option maxRecDepth 1000000 in
theorem lx_k1629 : pw_code 0 1629 = some (.iadd) := by decide +kernel
set_option maxRecDepth 1000000 in
theorem lx_k1630 : pw_code 0 1630 = some (.iaload) := by decide +kernel
set_option maxRecDepth 1000000 in
theorem lx_k1631 : pw_code 0 1631 = some (.invokevirtual 224) := by decide +kernel
set_option maxRecDepth 1000000 in
theorem lx_k1634 : pw_code 0 1634 = some (.if_icmp .eq 397) := by decide +kernel
set_option maxRecDepth 1000000 in
theorem lx_k1637 : pw_code 0 1637 = some (.iconst 0) := by decide +kernel
set_option maxRecDepth 1000000 in
theorem lx_k1638 : pw_code 0 1638 = some (.ireturn) := by decide +kernel
set_option maxRecDepth 1000000 in
theorem lx_k1639 : pw_code 0 1639 = some (.aload_n 1) := by decide +kernel
set_option maxRecDepth 1000000 in
theorem lx_k1640 : pw_code 0 1640 = some (.aload_n 0) := by decide +kernel
set_option maxRecDepth 1000000 in
theorem lx_k1641 : pw_code 0 1641 = some (.iload_n 3) := by decide +kernel
set_option maxRecDepth 1000000 in
theorem lx_k1642 : pw_code 0 1642 = some (.iconst 1) := by decide +kernel
set_option maxRecDepth 1000000 in
theorem lx_k1643 : pw_code 0 1643 = some (.iadd) := by decide +kernel
set_option maxRecDepth 1000000 in
theorem lx_k1644 : pw_code 0 1644 = some (.iaload) := by decide +kernel
set_option maxRecDepth 1000000 in
theorem lx_k1645 : pw_code 0 1645 = some (.aload_n 0) := by decide +kernel
set_option maxRecDepth 1000000 in
theorem lx_k1646 : pw_code 0 1646 = some (.iload_n 3) := by decide +kernel
set_option maxRecDepth 1000000 in
theorem lx_k1647 : pw_code 0 1647 = some (.iconst 2) := by decide +kernel
set_option maxRecDepth 1000000 in
theorem lx_k1648 : pw_code 0 1648 = some (.iadd) := by decide +kernel
set_option maxRecDepth 1000000 in
theorem lx_k1649 : pw_code 0 1649 = some (.iaload) := by decide +kernel
set_option maxRecDepth 1000000 in
theorem lx_k1650 : pw_code 0 1650 = some (.invokevirtual 225) := by decide +kernel
set_option maxRecDepth 1000000 in
theorem lx_k1653 : pw_code 0 1653 = some (.aload_n 2) := by decide +kernel
set_option maxRecDepth 1000000 in
theorem lx_k1654 : pw_code 0 1654 = some (.aload_n 0) := by decide +kernel
set_option maxRecDepth 1000000 in
theorem lx_k1655 : pw_code 0 1655 = some (.iload_n 3) := by decide +kernel
set_option maxRecDepth 1000000 in
theorem lx_k1656 : pw_code 0 1656 = some (.iconst 1) := by decide +kernel
set_option maxRecDepth 1000000 in
theorem lx_k1657 : pw_code 0 1657 = some (.iadd) := by decide +kernel
set_option maxRecDepth 1000000 in
theorem lx_k1658 : pw_code 0 1658 = some (.iaload) := by decide +kernel
set_option maxRecDepth 1000000 in
theorem lx_k1659 : pw_code 0 1659 = some (.aload_n 0) := by decide +kernel
set_option maxRecDepth 1000000 in
theorem lx_k1660 : pw_code 0 1660 = some (.iload_n 3) := by decide +kernel
set_option maxRecDepth 1000000 in
theorem lx_k1661 : pw_code 0 1661 = some (.iconst 2) := by decide +kernel
set_option maxRecDepth 1000000 in
theorem lx_k1662 : pw_code 0 1662 = some (.iadd) := by decide +kernel
set_option maxRecDepth 1000000 in
theorem lx_k1663 : pw_code 0 1663 = some (.iaload) := by decide +kernel
set_option maxRecDepth 1000000 in
theorem lx_k1664 : pw_code 0 1664 = some (.invokevirtual 228) := by decide +kernel
set_option maxRecDepth 1000000 in
theorem lx_k1667 : pw_code 0 1667 = some (.if_icmp .eq 364) := by decide +kernel
set_option maxRecDepth 1000000 in
theorem lx_k1670 : pw_code 0 1670 = some (.iconst 0) := by decide +kernel
set_option maxRecDepth 1000000 in
theorem lx_k1671 : pw_code 0 1671 = some (.ireturn) := by decide +kernel
set_option maxRecDepth 1000000 in
theorem lx_k1672 : pw_code 0 1672 = some (.aload_n 1) := by decide +kernel
set_option maxRecDepth 1000000 in
theorem lx_k1673 : pw_code 0 1673 = some (.aload_n 0) := by decide +kernel
set_option maxRecDepth 1000000 in
theorem lx_k1674 : pw_code 0 1674 = some (.iload_n 3) := by decide +kernel
set_option maxRecDepth 1000000 in
theorem lx_k1675 : pw_code 0 1675 = some (.iconst 1) := by decide +kernel
set_option maxRecDepth 1000000 in
theorem lx_k1676 : pw_code 0 1676 = some (.iadd) := by decide +kernel
set_option maxRecDepth 1000000 in
theorem lx_k1677 : pw_code 0 1677 = some (.iaload) := by decide +kernel
set_option maxRecDepth 1000000 in
theorem lx_k1678 : pw_code 0 1678 = some (.invokevirtual 229) := by decide +kernel
set_option maxRecDepth 1000000 in
theorem lx_k1681 : pw_code 0 1681 = some (.aload_n 2) := by decide +kernel
set_option maxRecDepth 1000000 in
theorem lx_k1682 : pw_code 0 1682 = some (.aload_n 0) := by decide +kernel
set_option maxRecDepth 1000000 in
theorem lx_k1683 : pw_code 0 1683 = some (.iload_n 3) := by decide +kernel
set_option maxRecDepth 1000000 in
theorem lx_k1684 : pw_code 0 1684 = some (.iconst 1) := by decide +kernel
set_option maxRecDepth 1000000 in
theorem lx_k1685 : pw_code 0 1685 = some (.iadd) := by decide +kernel
set_option maxRecDepth 1000000 in
theorem lx_k1686 : pw_code 0 1686 = some (.iaload) := by decide +kernel
set_option maxRecDepth 1000000 in
theorem lx_k1687 : pw_code 0 1687 = some (.invokevirtual 232) := by decide +kernel
set_option maxRecDepth 1000000 in
theorem lx_k1690 : pw_code 0 1690 = some (.if_icmp .eq 341) := by decide +kernel
set_option maxRecDepth 1000000 in
theorem lx_k1693 : pw_code 0 1693 = some (.iconst 0) := by decide +kernel
set_option maxRecDepth 1000000 in
theorem lx_k1694 : pw_code 0 1694 = some (.ireturn) := by decide +kernel
set_option maxRecDepth 1000000 in
theorem lx_k1695 : pw_code 0 1695 = some (.aload_n 1) := by decide +kernel
set_option maxRecDepth 1000000 in
theorem lx_k1696 : pw_code 0 1696 = some (.invokevirtual 233) := by decide +kernel
set_option maxRecDepth 1000000 in
theorem lx_k1699 : pw_code 0 1699 = some (.aload_n 2) := by decide +kernel
set_option maxRecDepth 1000000 in
theorem lx_k1700 : pw_code 0 1700 = some (.invokevirtual 237) := by decide +kernel
set_option maxRecDepth 1000000 in
theorem lx_k1703 : pw_code 0 1703 = some (.lcmp) := by decide +kernel
set_option maxRecDepth 1000000 in
theorem lx_k1704 : pw_code 0 1704 = some (.ifCond .eq 327) := by decide +kernel
set_option maxRecDepth 1000000 in
theorem lx_k1707 : pw_code 0 1707 = some (.iconst 0) := by decide +kernel
set_option maxRecDepth 1000000 in
theorem lx_k1708 : pw_code 0 1708 = some (.ireturn) := by decide +kernel
set_option maxRecDepth 1000000 in
theorem lx_k1709 : pw_code 0 1709 = some (.aload_n 1) := by decide +kernel
set_option maxRecDepth 1000000 in
theorem lx_k1710 : pw_code 0 1710 = some (.invokevirtual 238) := by decide +kernel
set_option maxRecDepth 1000000 in
theorem lx_k1713 : pw_code 0 1713 = some (.aload_n 2) := by decide +kernel
set_option maxRecDepth 1000000 in
theorem lx_k1714 : pw_code 0 1714 = some (.invokevirtual 241) := by decide +kernel
set_option maxRecDepth 1000000 in
theorem lx_k1717 : pw_code 0 1717 = some (.if_icmp .eq 314) := by decide +kernel
set_option maxRecDepth 1000000 in
theorem lx_k1720 : pw_code 0 1720 = some (.iconst 0) := by decide +kernel
set_option maxRecDepth 1000000 in
theorem lx_k1721 : pw_code 0 1721 = some (.ireturn) := by decide +kernel
set_option maxRecDepth 1000000 in
theorem lx_k1722 : pw_code 0 1722 = some (.aload_n 1) := by decide +kernel
set_option maxRecDepth 1000000 in
theorem lx_k1723 : pw_code 0 1723 = some (.aload_n 0) := by decide +kernel
set_option maxRecDepth 1000000 in
theorem lx_k1724 : pw_code 0 1724 = some (.iload_n 3) := by decide +kernel
set_option maxRecDepth 1000000 in
theorem lx_k1725 : pw_code 0 1725 = some (.iconst 1) := by decide +kernel
set_option maxRecDepth 1000000 in
theorem lx_k1726 : pw_code 0 1726 = some (.iadd) := by decide +kernel
set_option maxRecDepth 1000000 in
theorem lx_k1727 : pw_code 0 1727 = some (.iaload) := by decide +kernel
set_option maxRecDepth 1000000 in
theorem lx_k1728 : pw_code 0 1728 = some (.aload_n 0) := by decide +kernel
set_option maxRecDepth 1000000 in
theorem lx_k1729 : pw_code 0 1729 = some (.iload_n 3) := by decide +kernel
set_option maxRecDepth 1000000 in
theorem lx_k1730 : pw_code 0 1730 = some (.iconst 2) := by decide +kernel
set_option maxRecDepth 1000000 in
theorem lx_k1731 : pw_code 0 1731 = some (.iadd) := by decide +kernel
set_option maxRecDepth 1000000 in
theorem lx_k1732 : pw_code 0 1732 = some (.iaload) := by decide +kernel
set_option maxRecDepth 1000000 in
theorem lx_k1733 : pw_code 0 1733 = some (.invokevirtual 242) := by decide +kernel
set_option maxRecDepth 1000000 in
theorem lx_k1736 : pw_code 0 1736 = some (.aload_n 2) := by decide +kernel
set_option maxRecDepth 1000000 in
theorem lx_k1737 : pw_code 0 1737 = some (.aload_n 0) := by decide +kernel
set_option maxRecDepth 1000000 in
theorem lx_k1738 : pw_code 0 1738 = some (.iload_n 3) := by decide +kernel
set_option maxRecDepth 1000000 in
theorem lx_k1739 : pw_code 0 1739 = some (.iconst 1) := by decide +kernel
set_option maxRecDepth 1000000 in
theorem lx_k1740 : pw_code 0 1740 = some (.iadd) := by decide +kernel
set_option maxRecDepth 1000000 in
theorem lx_k1741 : pw_code 0 1741 = some (.iaload) := by decide +kernel
set_option maxRecDepth 1000000 in
theorem lx_k1742 : pw_code 0 1742 = some (.aload_n 0) := by decide +kernel
set_option maxRecDepth 1000000 in
theorem lx_k1743 : pw_code 0 1743 = some (.iload_n 3) := by decide +kernel
set_option maxRecDepth 1000000 in
theorem lx_k1744 : pw_code 0 1744 = some (.iconst 2) := by decide +kernel
set_option maxRecDepth 1000000 in
theorem lx_k1745 : pw_code 0 1745 = some (.iadd) := by decide +kernel
set_option maxRecDepth 1000000 in
theorem lx_k1746 : pw_code 0 1746 = some (.iaload) := by decide +kernel
set_option maxRecDepth 1000000 in
theorem lx_k1747 : pw_code 0 1747 = some (.invokevirtual 245) := by decide +kernel
set_option maxRecDepth 1000000 in
theorem lx_k1750 : pw_code 0 1750 = some (.if_icmp .eq 281) := by decide +kernel
set_option maxRecDepth 1000000 in
theorem lx_k1753 : pw_code 0 1753 = some (.iconst 0) := by decide +kernel
set_option maxRecDepth 1000000 in
theorem lx_k1754 : pw_code 0 1754 = some (.ireturn) := by decide +kernel
set_option maxRecDepth 1000000 in
theorem lx_k1755 : pw_code 0 1755 = some (.aload_n 1) := by decide +kernel
set_option maxRecDepth 1000000 in
theorem lx_k1756 : pw_code 0 1756 = some (.aload_n 0) := by decide +kernel
set_option maxRecDepth 1000000 in
theorem lx_k1757 : pw_code 0 1757 = some (.iload_n 3) := by decide +kernel
set_option maxRecDepth 1000000 in
theorem lx_k1758 : pw_code 0 1758 = some (.iconst 1) := by decide +kernel
set_option maxRecDepth 1000000 in
theorem lx_k1759 : pw_code 0 1759 = some (.iadd) := by decide +kernel
set_option maxRecDepth 1000000 in
theorem lx_k1760 : pw_code 0 1760 = some (.iaload) := by decide +kernel
set_option maxRecDepth 1000000 in
theorem lx_k1761 : pw_code 0 1761 = some (.aload_n 0) := by decide +kernel
set_option maxRecDepth 1000000 in
theorem lx_k1762 : pw_code 0 1762 = some (.iload_n 3) := by decide +kernel
set_option maxRecDepth 1000000 in
theorem lx_k1763 : pw_code 0 1763 = some (.iconst 2) := by decide +kernel
set_option maxRecDepth 1000000 in
theorem lx_k1764 : pw_code 0 1764 = some (.iadd) := by decide +kernel
set_option maxRecDepth 1000000 in
theorem lx_k1765 : pw_code 0 1765 = some (.iaload) := by decide +kernel
set_option maxRecDepth 1000000 in
theorem lx_k1766 : pw_code 0 1766 = some (.aload_n 0) := by decide +kernel
set_option maxRecDepth 1000000 in
theorem lx_k1767 : pw_code 0 1767 = some (.iload_n 3) := by decide +kernel
set_option maxRecDepth 1000000 in
theorem lx_k1768 : pw_code 0 1768 = some (.iconst 3) := by decide +kernel
set_option maxRecDepth 1000000 in
theorem lx_k1769 : pw_code 0 1769 = some (.iadd) := by decide +kernel
set_option maxRecDepth 1000000 in
theorem lx_k1770 : pw_code 0 1770 = some (.iaload) := by decide +kernel
set_option maxRecDepth 1000000 in
theorem lx_k1771 : pw_code 0 1771 = some (.invokevirtual 246) := by decide +kernel
set_option maxRecDepth 1000000 in
theorem lx_k1774 : pw_code 0 1774 = some (.aload_n 2) := by decide +kernel
set_option maxRecDepth 1000000 in
theorem lx_k1775 : pw_code 0 1775 = some (.aload_n 0) := by decide +kernel
set_option maxRecDepth 1000000 in
theorem lx_k1776 : pw_code 0 1776 = some (.iload_n 3) := by decide +kernel
set_option maxRecDepth 1000000 in
theorem lx_k1777 : pw_code 0 1777 = some (.iconst 1) := by decide +kernel
set_option maxRecDepth 1000000 in
theorem lx_k1778 : pw_code 0 1778 = some (.iadd) := by decide +kernel
set_option maxRecDepth 1000000 in
theorem lx_k1779 : pw_code 0 1779 = some (.iaload) := by decide +kernel
set_option maxRecDepth 1000000 in
theorem lx_k1780 : pw_code 0 1780 = some (.aload_n 0) := by decide +kernel
set_option maxRecDepth 1000000 in
theorem lx_k1781 : pw_code 0 1781 = some (.iload_n 3) := by decide +kernel
set_option maxRecDepth 1000000 in
theorem lx_k1782 : pw_code 0 1782 = some (.iconst 2) := by decide +kernel
set_option maxRecDepth 1000000 in
theorem lx_k1783 : pw_code 0 1783 = some (.iadd) := by decide +kernel
set_option maxRecDepth 1000000 in
theorem lx_k1784 : pw_code 0 1784 = some (.iaload) := by decide +kernel
set_option maxRecDepth 1000000 in
theorem lx_k1785 : pw_code 0 1785 = some (.aload_n 0) := by decide +kernel
set_option maxRecDepth 1000000 in
theorem lx_k1786 : pw_code 0 1786 = some (.iload_n 3) := by decide +kernel
set_option maxRecDepth 1000000 in
theorem lx_k1787 : pw_code 0 1787 = some (.iconst 3) := by decide +kernel
set_option maxRecDepth 1000000 in
theorem lx_k1788 : pw_code 0 1788 = some (.iadd) := by decide +kernel
set_option maxRecDepth 1000000 in
theorem lx_k1789 : pw_code 0 1789 = some (.iaload) := by decide +kernel
set_option maxRecDepth 1000000 in
theorem lx_k1790 : pw_code 0 1790 = some (.invokevirtual 249) := by decide +kernel
set_option maxRecDepth 1000000 in
theorem lx_k1793 : pw_code 0 1793 = some (.if_icmp .eq 238) := by decide +kernel
set_option maxRecDepth 1000000 in
theorem lx_k1798 : pw_code 0 1798 = some (.aload_n 1) := by decide +kernel
set_option maxRecDepth 1000000 in
theorem lx_k1799 : pw_code 0 1799 = some (.aload_n 0) := by decide +kernel
set_option maxRecDepth 1000000 in
theorem lx_k1800 : pw_code 0 1800 = some (.iload_n 3) := by decide +kernel
set_option maxRecDepth 1000000 in
theorem lx_k1801 : pw_code 0 1801 = some (.iconst 1) := by decide +kernel
set_option maxRecDepth 1000000 in
theorem lx_k1802 : pw_code 0 1802 = some (.iadd) := by decide +kernel
set_option maxRecDepth 1000000 in
theorem lx_k1803 : pw_code 0 1803 = some (.iaload) := by decide +kernel
set_option maxRecDepth 1000000 in
theorem lx_k1804 : pw_code 0 1804 = some (.invokevirtual 250) := by decide +kernel
set_option maxRecDepth 1000000 in
theorem lx_k1807 : pw_code 0 1807 = some (.aload_n 2) := by decide +kernel
set_option maxRecDepth 1000000 in
theorem lx_k1808 : pw_code 0 1808 = some (.aload_n 0) := by decide +kernel
set_option maxRecDepth 1000000 in
theorem lx_k1809 : pw_code 0 1809 = some (.iload_n 3) := by decide +kernel
set_option maxRecDepth 1000000 in
theorem lx_k1810 : pw_code 0 1810 = some (.iconst 1) := by decide +kernel
set_option maxRecDepth 1000000 in
theorem lx_k1811 : pw_code 0 1811 = some (.iadd) := by decide +kernel
set_option maxRecDepth 1000000 in
theorem lx_k1812 : pw_code 0 1812 = some (.iaload) := by decide +kernel
set_option maxRecDepth 1000000 in
theorem lx_k1813 : pw_code 0 1813 = some (.invokevirtual 253) := by decide +kernel
set_option maxRecDepth 1000000 in
theorem lx_k1816 : pw_code 0 1816 = some (.if_icmp .eq 215) := by decide +kernel
set_option maxRecDepth 1000000 in
theorem lx_k1819 : pw_code 0 1819 = some (.iconst 0) := by decide +kernel
set_option maxRecDepth 1000000 in
theorem lx_k1820 : pw_code 0 1820 = some (.ireturn) := by decide +kernel
set_option maxRecDepth 1000000 in
theorem lx_k1821 : pw_code 0 1821 = some (.aload_n 1) := by decide +kernel
set_option maxRecDepth 1000000 in
theorem lx_k1822 : pw_code 0 1822 = some (.invokevirtual 254) := by decide +kernel
set_option maxRecDepth 1000000 in
theorem lx_k1825 : pw_code 0 1825 = some (.aload_n 2) := by decide +kernel
set_option maxRecDepth 1000000 in
theorem lx_k1826 : pw_code 0 1826 = some (.invokevirtual 257) := by decide +kernel
set_option maxRecDepth 1000000 in
theorem lx_k1829 : pw_code 0 1829 = some (.if_icmp .eq 202) := by decide +kernel
set_option maxRecDepth 1000000 in
theorem lx_k1832 : pw_code 0 1832 = some (.iconst 0) := by decide +kernel
set_option maxRecDepth 1000000 in
theorem lx_k1833 : pw_code 0 1833 = some (.ireturn) := by decide +kernel
set_option maxRecDepth 1000000 in
theorem lx_k1834 : pw_code 0 1834 = some (.aload_n 1) := by decide +kernel
set_option maxRecDepth 1000000 in
theorem lx_k1835 : pw_code 0 1835 = some (.aload_n 0) := by decide +kernel
set_option maxRecDepth 1000000 in
theorem lx_k1836 : pw_code 0 1836 = some (.iload_n 3) := by decide +kernel
set_option maxRecDepth 1000000 in
theorem lx_k1837 : pw_code 0 1837 = some (.iconst 1) := by decide +kernel
set_option maxRecDepth 1000000 in
theorem lx_k1838 : pw_code 0 1838 = some (.iadd) := by decide +kernel
set_option maxRecDepth 1000000 in
theorem lx_k1839 : pw_code 0 1839 = some (.iaload) := by decide +kernel
set_option maxRecDepth 1000000 in
theorem lx_k1840 : pw_code 0 1840 = some (.invokevirtual 258) := by decide +kernel
set_option maxRecDepth 1000000 in
theorem lx_k1843 : pw_code 0 1843 = some (.aload_n 2) := by decide +kernel
set_option maxRecDepth 1000000 in
theorem lx_k1844 : pw_code 0 1844 = some (.aload_n 0) := by decide +kernel
set_option maxRecDepth 1000000 in
theorem lx_k1845 : pw_code 0 1845 = some (.iload_n 3) := by decide +kernel
set_option maxRecDepth 1000000 in
theorem lx_k1846 : pw_code 0 1846 = some (.iconst 1) := by decide +kernel
set_option maxRecDepth 1000000 in
theorem lx_k1847 : pw_code 0 1847 = some (.iadd) := by decide +kernel
set_option maxRecDepth 1000000 in
theorem lx_k1848 : pw_code 0 1848 = some (.iaload) := by decide +kernel
set_option maxRecDepth 1000000 in
theorem lx_k1849 : pw_code 0 1849 = some (.invokevirtual 261) := by decide +kernel
set_option maxRecDepth 1000000 in
theorem lx_k1852 : pw_code 0 1852 = some (.if_icmp .eq 179) := by decide +kernel
set_option maxRecDepth 1000000 in
theorem lx_k1855 : pw_code 0 1855 = some (.iconst 0) := by decide +kernel
set_option maxRecDepth 1000000 in
theorem lx_k1856 : pw_code 0 1856 = some (.ireturn) := by decide +kernel
set_option maxRecDepth 1000000 in
theorem lx_k1857 : pw_code 0 1857 = some (.aload_n 1) := by decide +kernel
set_option maxRecDepth 1000000 in
theorem lx_k1858 : pw_code 0 1858 = some (.aload_n 0) := by decide +kernel
set_option maxRecDepth 1000000 in
theorem lx_k1859 : pw_code 0 1859 = some (.iload_n 3) := by decide +kernel
set_option maxRecDepth 1000000 in
theorem lx_k1860 : pw_code 0 1860 = some (.iconst 1) := by decide +kernel
set_option maxRecDepth 1000000 in
theorem lx_k1861 : pw_code 0 1861 = some (.iadd) := by decide +kernel
set_option maxRecDepth 1000000 in
theorem lx_k1862 : pw_code 0 1862 = some (.iaload) := by decide +kernel
set_option maxRecDepth 1000000 in
theorem lx_k1863 : pw_code 0 1863 = some (.aload_n 0) := by decide +kernel
set_option maxRecDepth 1000000 in
theorem lx_k1864 : pw_code 0 1864 = some (.iload_n 3) := by decide +kernel
set_option maxRecDepth 1000000 in
theorem lx_k1865 : pw_code 0 1865 = some (.iconst 2) := by decide +kernel
set_option maxRecDepth 1000000 in
theorem lx_k1866 : pw_code 0 1866 = some (.iadd) := by decide +kernel
set_option maxRecDepth 1000000 in
theorem lx_k1867 : pw_code 0 1867 = some (.iaload) := by decide +kernel
set_option maxRecDepth 1000000 in
theorem lx_k1868 : pw_code 0 1868 = some (.invokevirtual 262) := by decide +kernel
set_option maxRecDepth 1000000 in
theorem lx_k1871 : pw_code 0 1871 = some (.aload_n 2) := by decide +kernel
set_option maxRecDepth 1000000 in
theorem lx_k1872 : pw_code 0 1872 = some (.aload_n 0) := by decide +kernel
set_option maxRecDepth 1000000 in
theorem lx_k1873 : pw_code 0 1873 = some (.iload_n 3) := by decide +kernel
set_option maxRecDepth 1000000 in
theorem lx_k1874 : pw_code 0 1874 = some (.iconst 1) := by decide +kernel
set_option maxRecDepth 1000000 in
theorem lx_k1875 : pw_code 0 1875 = some (.iadd) := by decide +kernel
set_option maxRecDepth 1000000 in
theorem lx_k1876 : pw_code 0 1876 = some (.iaload) := by decide +kernel
set_option maxRecDepth 1000000 in
theorem lx_k1877 : pw_code 0 1877 = some (.aload_n 0) := by decide +kernel
set_option maxRecDepth 1000000 in
theorem lx_k1878 : pw_code 0 1878 = some (.iload_n 3) := by decide +kernel
set_option maxRecDepth 1000000 in
theorem lx_k1879 : pw_code 0 1879 = some (.iconst 2) := by decide +kernel
set_option maxRecDepth 1000000 in
theorem lx_k1880 : pw_code 0 1880 = some (.iadd) := by decide +kernel
set_option maxRecDepth 1000000 in
theorem lx_k1881 : pw_code 0 1881 = some (.iaload) := by decide +kernel
set_option maxRecDepth 1000000 in
theorem lx_k1882 : pw_code 0 1882 = some (.invokevirtual 265) := by decide +kernel
set_option maxRecDepth 1000000 in
theorem lx_k1885 : pw_code 0 1885 = some (.if_icmp .eq 146) := by decide +kernel
set_option maxRecDepth 1000000 in
theorem lx_k1888 : pw_code 0 1888 = some (.iconst 0) := by decide +kernel
set_option maxRecDepth 1000000 in
theorem lx_k1889 : pw_code 0 1889 = some (.ireturn) := by decide +kernel
set_option maxRecDepth 1000000 in
theorem lx_k1890 : pw_code 0 1890 = some (.aload_n 1) := by decide +kernel
set_option maxRecDepth 1000000 in
theorem lx_k1891 : pw_code 0 1891 = some (.aload_n 0) := by decide +kernel
set_option maxRecDepth 1000000 in
theorem lx_k1892 : pw_code 0 1892 = some (.iload_n 3) := by decide +kernel
set_option maxRecDepth 1000000 in
theorem lx_k1893 : pw_code 0 1893 = some (.iconst 1) := by decide +kernel
set_option maxRecDepth 1000000 in
theorem lx_k1894 : pw_code 0 1894 = some (.iadd) := by decide +kernel
set_option maxRecDepth 1000000 in
theorem lx_k1895 : pw_code 0 1895 = some (.iaload) := by decide +kernel
set_option maxRecDepth 1000000 in
theorem lx_k1896 : pw_code 0 1896 = some (.aload_n 0) := by decide +kernel
set_option maxRecDepth 1000000 in
theorem lx_k1897 : pw_code 0 1897 = some (.iload_n 3) := by decide +kernel
set_option maxRecDepth 1000000 in
theorem lx_k1898 : pw_code 0 1898 = some (.iconst 2) := by decide +kernel
set_option maxRecDepth 1000000 in
theorem lx_k1899 : pw_code 0 1899 = some (.iadd) := by decide +kernel
set_option maxRecDepth 1000000 in
theorem lx_k1900 : pw_code 0 1900 = some (.iaload) := by decide +kernel
set_option maxRecDepth 1000000 in
theorem lx_k1901 : pw_code 0 1901 = some (.invokevirtual 266) := by decide +kernel
set_option maxRecDepth 1000000 in
theorem lx_k1904 : pw_code 0 1904 = some (.aload_n 2) := by decide +kernel
set_option maxRecDepth 1000000 in
theorem lx_k1905 : pw_code 0 1905 = some (.aload_n 0) := by decide +kernel
set_option maxRecDepth 1000000 in
theorem lx_k1906 : pw_code 0 1906 = some (.iload_n 3) := by decide +kernel
set_option maxRecDepth 1000000 in
theorem lx_k1907 : pw_code 0 1907 = some (.iconst 1) := by decide +kernel
set_option maxRecDepth 1000000 in
theorem lx_k1908 : pw_code 0 1908 = some (.iadd) := by decide +kernel
set_option maxRecDepth 1000000 in
theorem lx_k1909 : pw_code 0 1909 = some (.iaload) := by decide +kernel
set_option maxRecDepth 1000000 in
theorem lx_k1910 : pw_code 0 1910 = some (.aload_n 0) := by decide +kernel
set_option maxRecDepth 1000000 in
theorem lx_k1911 : pw_code 0 1911 = some (.iload_n 3) := by decide +kernel
set_option maxRecDepth 1000000 in
theorem lx_k1912 : pw_code 0 1912 = some (.iconst 2) := by decide +kernel
set_option maxRecDepth 1000000 in
theorem lx_k1913 : pw_code 0 1913 = some (.iadd) := by decide +kernel
set_option maxRecDepth 1000000 in
theorem lx_k1914 : pw_code 0 1914 = some (.iaload) := by decide +kernel
set_option maxRecDepth 1000000 in
theorem lx_k1915 : pw_code 0 1915 = some (.invokevirtual 269) := by decide +kernel
set_option maxRecDepth 1000000 in
theorem lx_k1918 : pw_code 0 1918 = some (.if_icmp .eq 113) := by decide +kernel
set_option maxRecDepth 1000000 in
theorem lx_k1921 : pw_code 0 1921 = some (.iconst 0) := by decide +kernel
set_option maxRecDepth 1000000 in
theorem lx_k1922 : pw_code 0 1922 = some (.ireturn) := by decide +kernel
set_option maxRecDepth 1000000 in
theorem lx_k1923 : pw_code 0 1923 = some (.aload_n 1) := by decide +kernel
set_option maxRecDepth 1000000 in
theorem lx_k1924 : pw_code 0 1924 = some (.aload_n 0) := by decide +kernel
set_option maxRecDepth 1000000 in
theorem lx_k1925 : pw_code 0 1925 = some (.iload_n 3) := by decide +kernel
set_option maxRecDepth 1000000 in
theorem lx_k1926 : pw_code 0 1926 = some (.iconst 1) := by decide +kernel
set_option maxRecDepth 1000000 in
theorem lx_k1927 : pw_code 0 1927 = some (.iadd) := by decide +kernel
set_option maxRecDepth 1000000 in
theorem lx_k1928 : pw_code 0 1928 = some (.iaload) := by decide +kernel
set_option maxRecDepth 1000000 in
theorem lx_k1929 : pw_code 0 1929 = some (.invokevirtual 270) := by decide +kernel
set_option maxRecDepth 1000000 in
theorem lx_k1932 : pw_code 0 1932 = some (.aload_n 2) := by decide +kernel
set_option maxRecDepth 1000000 in
theorem lx_k1933 : pw_code 0 1933 = some (.aload_n 0) := by decide +kernel
set_option maxRecDepth 1000000 in
theorem lx_k1934 : pw_code 0 1934 = some (.iload_n 3) := by decide +kernel
set_option maxRecDepth 1000000 in
theorem lx_k1935 : pw_code 0 1935 = some (.iconst 1) := by decide +kernel
set_option maxRecDepth 1000000 in
theorem lx_k1936 : pw_code 0 1936 = some (.iadd) := by decide +kernel
set_option maxRecDepth 1000000 in
theorem lx_k1937 : pw_code 0 1937 = some (.iaload) := by decide +kernel
set_option maxRecDepth 1000000 in
theorem lx_k1938 : pw_code 0 1938 = some (.invokevirtual 273) := by decide +kernel
set_option maxRecDepth 1000000 in
theorem lx_k1941 : pw_code 0 1941 = some (.if_icmp .eq 90) := by decide +kernel
set_option maxRecDepth 1000000 in
theorem lx_k1944 : pw_code 0 1944 = some (.iconst 0) := by decide +kernel
set_option maxRecDepth 1000000 in
theorem lx_k1945 : pw_code 0 1945 = some (.ireturn) := by decide +kernel
set_option maxRecDepth 1000000 in
theorem lx_k1946 : pw_code 0 1946 = some (.aload_n 1) := by decide +kernel
set_option maxRecDepth 1000000 in
theorem lx_k1947 : pw_code 0 1947 = some (.aload_n 0) := by decide +kernel
set_option maxRecDepth 1000000 in
theorem lx_k1948 : pw_code 0 1948 = some (.iload_n 3) := by decide +kernel
set_option maxRecDepth 1000000 in
theorem lx_k1949 : pw_code 0 1949 = some (.iconst 1) := by decide +kernel
set_option maxRecDepth 1000000 in
theorem lx_k1950 : pw_code 0 1950 = some (.iadd) := by decide +kernel
set_option maxRecDepth 1000000 in
theorem lx_k1951 : pw_code 0 1951 = some (.iaload) := by decide +kernel
set_option maxRecDepth 1000000 in
theorem lx_k1952 : pw_code 0 1952 = some (.invokevirtual 274) := by decide +kernel
set_option maxRecDepth 1000000 in
theorem lx_k1955 : pw_code 0 1955 = some (.aload_n 2) := by decide +kernel
set_option maxRecDepth 1000000 in
theorem lx_k1956 : pw_code 0 1956 = some (.aload_n 0) := by decide +kernel
set_option maxRecDepth 1000000 in
theorem lx_k1957 : pw_code 0 1957 = some (.iload_n 3) := by decide +kernel
set_option maxRecDepth 1000000 in
theorem lx_k1958 : pw_code 0 1958 = some (.iconst 1) := by decide +kernel
set_option maxRecDepth 1000000 in
theorem lx_k1959 : pw_code 0 1959 = some (.iadd) := by decide +kernel
set_option maxRecDepth 1000000 in
theorem lx_k1960 : pw_code 0 1960 = some (.iaload) := by decide +kernel
set_option maxRecDepth 1000000 in
theorem lx_k1961 : pw_code 0 1961 = some (.invokevirtual 277) := by decide +kernel
set_option maxRecDepth 1000000 in
theorem lx_k1964 : pw_code 0 1964 = some (.if_icmp .eq 67) := by decide +kernel
set_option maxRecDepth 1000000 in
theorem lx_k1967 : pw_code 0 1967 = some (.iconst 0) := by decide +kernel
set_option maxRecDepth 1000000 in
theorem lx_k1968 : pw_code 0 1968 = some (.ireturn) := by decide +kernel
set_option maxRecDepth 1000000 in
theorem lx_k1969 : pw_code 0 1969 = some (.aload_n 1) := by decide +kernel
set_option maxRecDepth 1000000 in
theorem lx_k1970 : pw_code 0 1970 = some (.aload_n 0) := by decide +kernel
set_option maxRecDepth 1000000 in
theorem lx_k1971 : pw_code 0 1971 = some (.iload_n 3) := by decide +kernel
set_option maxRecDepth 1000000 in
theorem lx_k1972 : pw_code 0 1972 = some (.iconst 1) := by decide +kernel
set_option maxRecDepth 1000000 in
theorem lx_k1973 : pw_code 0 1973 = some (.iadd) := by decide +kernel
set_option maxRecDepth 1000000 in
theorem lx_k1974 : pw_code 0 1974 = some (.iaload) := by decide +kernel
set_option maxRecDepth 1000000 in
theorem lx_k1975 : pw_code 0 1975 = some (.invokevirtual 278) := by decide +kernel
set_option maxRecDepth 1000000 in
theorem lx_k1978 : pw_code 0 1978 = some (.aload_n 2) := by decide +kernel
set_option maxRecDepth 1000000 in
theorem lx_k1979 : pw_code 0 1979 = some (.aload_n 0) := by decide +kernel
set_option maxRecDepth 1000000 in
theorem lx_k1980 : pw_code 0 1980 = some (.iload_n 3) := by decide +kernel
set_option maxRecDepth 1000000 in
theorem lx_k1981 : pw_code 0 1981 = some (.iconst 1) := by decide +kernel
set_option maxRecDepth 1000000 in
theorem lx_k1982 : pw_code 0 1982 = some (.iadd) := by decide +kernel
set_option maxRecDepth 1000000 in
theorem lx_k1983 : pw_code 0 1983 = some (.iaload) := by decide +kernel
set_option maxRecDepth 1000000 in
theorem lx_k1984 : pw_code 0 1984 = some (.invokevirtual 281) := by decide +kernel
set_option maxRecDepth 1000000 in
theorem lx_k1987 : pw_code 0 1987 = some (.if_icmp .eq 44) := by decide +kernel
set_option maxRecDepth 1000000 in
theorem lx_k1990 : pw_code 0 1990 = some (.iconst 0) := by decide +kernel
set_option maxRecDepth 1000000 in
theorem lx_k1991 : pw_code 0 1991 = some (.ireturn) := by decide +kernel
set_option maxRecDepth 1000000 in
theorem lx_k1992 : pw_code 0 1992 = some (.aload_n 1) := by decide +kernel
set_option maxRecDepth 1000000 in
theorem lx_k1993 : pw_code 0 1993 = some (.invokevirtual 282) := by decide +kernel
set_option maxRecDepth 1000000 in
theorem lx_k1996 : pw_code 0 1996 = some (.aload_n 2) := by decide +kernel
set_option maxRecDepth 1000000 in
theorem lx_k1997 : pw_code 0 1997 = some (.invokevirtual 285) := by decide +kernel
set_option maxRecDepth 1000000 in
theorem lx_k2000 : pw_code 0 2000 = some (.if_icmp .eq 31) := by decide +kernel
set_option maxRecDepth 1000000 in
theorem lx_k2003 : pw_code 0 2003 = some (.iconst 0) := by decide +kernel
set_option maxRecDepth 1000000 in
theorem lx_k2004 : pw_code 0 2004 = some (.ireturn) := by decide +kernel
set_option maxRecDepth 1000000 in
theorem lx_k2005 : pw_code 0 2005 = some (.aload_n 1) := by decide +kernel
set_option maxRecDepth 1000000 in
theorem lx_k2006 : pw_code 0 2006 = some (.invokevirtual 286) := by decide +kernel
set_option maxRecDepth 1000000 in
theorem lx_k2009 : pw_code 0 2009 = some (.aload_n 2) := by decide +kernel
set_option maxRecDepth 1000000 in
theorem lx_k2010 : pw_code 0 2010 = some (.invokevirtual 289) := by decide +kernel
set_option maxRecDepth 1000000 in
theorem lx_k2013 : pw_code 0 2013 = some (.if_icmp .eq 18) := by decide +kernel
set_option maxRecDepth 1000000 in
theorem lx_k2016 : pw_code 0 2016 = some (.iconst 0) := by decide +kernel
set_option maxRecDepth 1000000 in
theorem lx_k2017 : pw_code 0 2017 = some (.ireturn) := by decide +kernel
set_option maxRecDepth 1000000 in
theorem lx_k2018 : pw_code 0 2018 = some (.aload_n 1) := by decide +kernel
set_option maxRecDepth 1000000 in
theorem lx_k2019 : pw_code 0 2019 = some (.invokevirtual 290) := by decide +kernel
set_option maxRecDepth 1000000 in
theorem lx_k2022 : pw_code 0 2022 = some (.aload_n 2) := by decide +kernel
set_option maxRecDepth 1000000 in
theorem lx_k2023 : pw_code 0 2023 = some (.invokevirtual 293) := by decide +kernel
set_option maxRecDepth 1000000 in
theorem lx_k2026 : pw_code 0 2026 = some (.if_icmp .eq 5) := by decide +kernel
set_option maxRecDepth 1000000 in
theorem lx_k2029 : pw_code 0 2029 = some (.iconst 0) := by decide +kernel
set_option maxRecDepth 1000000 in
theorem lx_k2030 : pw_code 0 2030 = some (.ireturn) := by decide +kernel
set_option maxRecDepth 1000000 in
theorem lx_k2031 : pw_code 0 2031 = some (.iinc 3 6) := by decide +kernel
set_option maxRecDepth 1000000 in
theorem lx_k2034 : pw_code 0 2034 = some (.goto (-2016)) := by decide +kernel
set_option maxRecDepth 1000000 in
theorem lx_k2037 : pw_code 0 2037 = some (.iconst 1) := by decide +kernel
set_option maxRecDepth 1000000 in
theorem lx_k2038 : pw_code 0 2038 = some (.ireturn) := by decide +kernel
set_option maxRecDepth 1000000 in
theorem lx_l13 : am_cl nw_P0 0 (.invokevirtual 13) = some (101, 4) := by decide +kernel
set_option maxRecDepth 1000000 in
theorem lx_l18 : am_cl nw_P0 0 (.invokevirtual 18) = some (102, 3) := by decide +kernel
set_option maxRecDepth 1000000 in
theorem lx_l23 : am_cl nw_P0 0 (.invokevirtual 23) = some (103, 3) := by decide +kernel
set_option maxRecDepth 1000000 in
theorem lx_l27 : am_cl nw_P0 0 (.invokevirtual 27) = some (104, 3) := by decide +kernel
set_option maxRecDepth 1000000 in
theorem lx_l31 : am_cl nw_P0 0 (.invokevirtual 31) = some (105, 2) := by decide +kernel
set_option maxRecDepth 1000000 in
theorem lx_l36 : am_cl nw_P0 0 (.invokevirtual 36) = some (106, 1) := by decide +kernel
set_option maxRecDepth 1000000 in
theorem lx_l41 : am_cl nw_P0 0 (.invokevirtual 41) = some (107, 1) := by decide +kernel
set_option maxRecDepth 1000000 in
theorem lx_l45 : am_cl nw_P0 0 (.invokevirtual 45) = some (108, 2) := by decide +kernel
set_option maxRecDepth 1000000 in
theorem lx_l50 : am_cl nw_P0 0 (.invokevirtual 50) = some (109, 3) := by decide +kernel
set_option maxRecDepth 1000000 in
theorem lx_l54 : am_cl nw_P0 0 (.invokevirtual 54) = some (110, 3) := by decide +kernel
set_option maxRecDepth 1000000 in
theorem lx_l59 : am_cl nw_P0 0 (.invokevirtual 59) = some (111, 1) := by decide +kernel
set_option maxRecDepth 1000000 in
theorem lx_l64 : am_cl nw_P0 0 (.invokevirtual 64) = some (112, 3) := by decide +kernel
set_option maxRecDepth 1000000 in
theorem lx_l68 : am_cl nw_P0 0 (.invokevirtual 68) = some (113, 2) := by decide +kernel
set_option maxRecDepth 1000000 in
theorem lx_l72 : am_cl nw_P0 0 (.invokevirtual 72) = some (114, 3) := by decide +kernel
set_option maxRecDepth 1000000 in
theorem lx_l76 : am_cl nw_P0 0 (.invokevirtual 76) = some (115, 6) := by decide +kernel
set_option maxRecDepth 1000000 in
theorem lx_l81 : am_cl nw_P0 0 (.invokevirtual 81) = some (116, 1) := by decide +kernel
set_option maxRecDepth 1000000 in
theorem lx_l85 : am_cl nw_P0 0 (.invokevirtual 85) = some (117, 1) := by decide +kernel
set_option maxRecDepth 1000000 in
theorem lx_l89 : am_cl nw_P0 0 (.invokevirtual 89) = some (118, 1) := by decide +kernel
set_option maxRecDepth 1000000 in
theorem lx_l93 : am_cl nw_P0 0 (.invokevirtual 93) = some (119, 1) := by decide +kernel
set_option maxRecDepth 1000000 in
theorem lx_l97 : am_cl nw_P0 0 (.invokevirtual 97) = some (122, 2) := by decide +kernel
set_option maxRecDepth 1000000 in
theorem lx_l101 : am_cl nw_P0 0 (.invokevirtual 101) = some (123, 2) := by decide +kernel
set_option maxRecDepth 1000000 in
theorem lx_l105 : am_cl nw_P0 0 (.invokevirtual 105) = some (124, 3) := by decide +kernel
set_option maxRecDepth 1000000 in
theorem lx_l109 : am_cl nw_P0 0 (.invokevirtual 109) = some (125, 3) := by decide +kernel
set_option maxRecDepth 1000000 in
theorem lx_l113 : am_cl nw_P0 0 (.invokevirtual 113) = some (126, 3) := by decide +kernel
set_option maxRecDepth 1000000 in
theorem lx_l117 : am_cl nw_P0 0 (.invokevirtual 117) = some (127, 3) := by decide +kernel
set_option maxRecDepth 1000000 in
theorem lx_l121 : am_cl nw_P0 0 (.invokevirtual 121) = some (128, 3) := by decide +kernel
set_option maxRecDepth 1000000 in
theorem lx_l125 : am_cl nw_P0 0 (.invokevirtual 125) = some (129, 3) := by decide +kernel
set_option maxRecDepth 1000000 in
theorem lx_l129 : am_cl nw_P0 0 (.invokevirtual 129) = some (130, 2) := by decide +kernel
set_option maxRecDepth 1000000 in
theorem lx_l133 : am_cl nw_P0 0 (.invokevirtual 133) = some (131, 1) := by decide +kernel
set_option maxRecDepth 1000000 in
theorem lx_l137 : am_cl nw_P0 0 (.invokevirtual 137) = some (132, 2) := by decide +kernel
set_option maxRecDepth 1000000 in
theorem lx_l141 : am_cl nw_P0 0 (.invokevirtual 141) = some (133, 3) := by decide +kernel
set_option maxRecDepth 1000000 in
theorem lx_l145 : am_cl nw_P0 0 (.invokevirtual 145) = some (134, 2) := by decide +kernel
set_option maxRecDepth 1000000 in
theorem lx_l149 : am_cl nw_P0 0 (.invokevirtual 149) = some (135, 4) := by decide +kernel
set_option maxRecDepth 1000000 in
theorem lx_l153 : am_cl nw_P0 0 (.invokevirtual 153) = some (136, 2) := by decide +kernel
set_option maxRecDepth 1000000 in
theorem lx_l157 : am_cl nw_P0 0 (.invokevirtual 157) = some (137, 1) := by decide +kernel
set_option maxRecDepth 1000000 in
theorem lx_l161 : am_cl nw_P0 0 (.invokevirtual 161) = some (138, 1) := by decide +kernel
set_option maxRecDepth 1000000 in
theorem lx_l165 : am_cl nw_P0 0 (.invokevirtual 165) = some (139, 1) := by decide +kernel
set_option maxRecDepth 1000000 in
theorem lx_l169 : am_cl nw_P0 0 (.invokevirtual 169) = some (140, 2) := by decide +kernel
set_option maxRecDepth 1000000 in
theorem lx_l173 : am_cl nw_P0 0 (.invokevirtual 173) = some (141, 2) := by decide +kernel
set_option maxRecDepth 1000000 in
theorem lx_l177 : am_cl nw_P0 0 (.invokevirtual 177) = some (142, 4) := by decide +kernel
set_option maxRecDepth 1000000 in
theorem lx_l181 : am_cl nw_P0 0 (.invokevirtual 181) = some (143, 3) := by decide +kernel
set_option maxRecDepth 1000000 in
theorem lx_l185 : am_cl nw_P0 0 (.invokevirtual 185) = some (144, 1) := by decide +kernel
set_option maxRecDepth 1000000 in
theorem lx_l189 : am_cl nw_P0 0 (.invokevirtual 189) = some (145, 2) := by decide +kernel
set_option maxRecDepth 1000000 in
theorem lx_l193 : am_cl nw_P0 0 (.invokevirtual 193) = some (146, 2) := by decide +kernel
set_option maxRecDepth 1000000 in
theorem lx_l197 : am_cl nw_P0 0 (.invokevirtual 197) = some (147, 2) := by decide +kernel
set_option maxRecDepth 1000000 in
theorem lx_l201 : am_cl nw_P0 0 (.invokevirtual 201) = some (148, 2) := by decide +kernel
set_option maxRecDepth 1000000 in
theorem lx_l205 : am_cl nw_P0 0 (.invokevirtual 205) = some (149, 2) := by decide +kernel
set_option maxRecDepth 1000000 in
theorem lx_l209 : am_cl nw_P0 0 (.invokevirtual 209) = some (150, 1) := by decide +kernel
set_option maxRecDepth 1000000 in
theorem lx_l213 : am_cl nw_P0 0 (.invokevirtual 213) = some (151, 2) := by decide +kernel
set_option maxRecDepth 1000000 in
theorem lx_l217 : am_cl nw_P0 0 (.invokevirtual 217) = some (152, 2) := by decide +kernel
set_option maxRecDepth 1000000 in
theorem lx_l221 : am_cl nw_P0 0 (.invokevirtual 221) = some (153, 3) := by decide +kernel
set_option maxRecDepth 1000000 in
theorem lx_l225 : am_cl nw_P0 0 (.invokevirtual 225) = some (154, 3) := by decide +kernel
set_option maxRecDepth 1000000 in
theorem lx_l229 : am_cl nw_P0 0 (.invokevirtual 229) = some (155, 2) := by decide +kernel
set_option maxRecDepth 1000000 in
theorem lx_l233 : am_cl nw_P0 0 (.invokevirtual 233) = some (156, 1) := by decide +kernel
set_option maxRecDepth 1000000 in
theorem lx_l238 : am_cl nw_P0 0 (.invokevirtual 238) = some (157, 1) := by decide +kernel
set_option maxRecDepth 1000000 in
theorem lx_l242 : am_cl nw_P0 0 (.invokevirtual 242) = some (159, 3) := by decide +kernel
set_option maxRecDepth 1000000 in
theorem lx_l246 : am_cl nw_P0 0 (.invokevirtual 246) = some (160, 4) := by decide +kernel
set_option maxRecDepth 1000000 in
theorem lx_l250 : am_cl nw_P0 0 (.invokevirtual 250) = some (161, 2) := by decide +kernel
set_option maxRecDepth 1000000 in
theorem lx_l254 : am_cl nw_P0 0 (.invokevirtual 254) = some (162, 1) := by decide +kernel
set_option maxRecDepth 1000000 in
theorem lx_l258 : am_cl nw_P0 0 (.invokevirtual 258) = some (163, 2) := by decide +kernel
set_option maxRecDepth 1000000 in
theorem lx_l262 : am_cl nw_P0 0 (.invokevirtual 262) = some (164, 3) := by decide +kernel
set_option maxRecDepth 1000000 in
theorem lx_l266 : am_cl nw_P0 0 (.invokevirtual 266) = some (165, 3) := by decide +kernel
set_option maxRecDepth 1000000 in
theorem lx_l270 : am_cl nw_P0 0 (.invokevirtual 270) = some (166, 2) := by decide +kernel
set_option maxRecDepth 1000000 in
theorem lx_l274 : am_cl nw_P0 0 (.invokevirtual 274) = some (167, 2) := by decide +kernel
set_option maxRecDepth 1000000 in
theorem lx_l278 : am_cl nw_P0 0 (.invokevirtual 278) = some (168, 2) := by decide +kernel
set_option maxRecDepth 1000000 in
theorem lx_l282 : am_cl nw_P0 0 (.invokevirtual 282) = some (120, 1) := by decide +kernel
set_option maxRecDepth 1000000 in
theorem lx_l286 : am_cl nw_P0 0 (.invokevirtual 286) = some (121, 1) := by decide +kernel
set_option maxRecDepth 1000000 in
theorem lx_l290 : am_cl nw_P0 0 (.invokevirtual 290) = some (158, 1) := by decide +kernel

end
