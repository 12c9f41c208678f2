/-! 89.13.cheapest.lean.txt -/
section
/-! ===== cheapest ===== -/
section ATCE
variable {L : Nat} {xs : Nat → Int32}
theorem at_v308 : at_Valid at_XI (pw_P L xs) (308, [.inl (76, some 277), .inr (false, -2147483648, 2147483647), .inr (false, -2147483648, 2147483647), .inr (false, -2147483648, 2147483647)], [], some (.inr (false, -2147483648, 2147483647)), false, [(83, false, 0, 16249)]) := by
  intro m vs hg hk _
  obtain ⟨r, rfl, hk2⟩ := at_ag277 hk
  cases r with
  | nil => cases hk2
  | cons v r =>
  obtain ⟨⟨ki, rfl, -, -⟩, hk3⟩ := hk2
  cases r with
  | nil => cases hk3
  | cons v r =>
  obtain ⟨⟨mi_, rfl, -, -⟩, hk4⟩ := hk3
  cases r with
  | nil => cases hk4
  | cons v r =>
  obtain ⟨⟨wi, rfl, -, -⟩, hk5⟩ := hk4
  have hr0 := at_agnil (vs := r) hk5
  subst hr0
  have e24 : (Int8.ofInt 24).toInt32.toInt = 24 := by decide +kernel
  have e12 : (Int8.ofInt 12).toInt32.toInt = 12 := by decide +kernel
  have e1 : (Int32.ofInt 1).toInt = 1 := rfl
  have e0 : (Int32.ofInt 0).toInt = 0 := rfl
  have em1 : (Int32.ofInt (-1)).toInt = -1 := rfl
  have no : fl_Tq (pw_P L xs) 308 29 [some at_this, some (.inl ki), some (.inl mi_), some (.inl wi), none, none, none, none, none, none] [] m (fun v m' => at_Good at_XI m' ∧ at_MD m m' [(83, false, 0, 16249)] ∧ at_rtc at_rI false m' v) := by
    refine fl_Tq.stp rfl rfl (fl_bo rfl) rfl ?_
    exact fl_Tq.ret rfl rfl rfl ⟨hg, at_MD.rf, ⟨_, rfl, (at_i32 _).1, (at_i32 _).2, fun h => by cases h⟩⟩
  refine fl_Tq.stp rfl rfl (fl_bo rfl) rfl ?_
  refine fl_Tq.stp rfl rfl (fl_bo rfl) rfl ?_
  refine fl_Tq.stp rfl rfl (fl_bo rfl) rfl ?_
  refine fl_Tq.cal rfl rfl (fl_bo rfl) rfl ?_
  refine at_isin (fun b hb => ?_)
  rcases hb with ⟨rfl, k1, k2⟩ | ⟨rfl, -⟩
  case inr => exact fl_Tq.zt rfl (fl_bo rfl) (by rw [at_c1]; rfl) rfl no
  refine fl_Tq.zf rfl (fl_bo rfl) (by rw [at_c1]; rfl) rfl ?_
  refine fl_Tq.stp rfl rfl (fl_bo rfl) rfl ?_
  refine fl_Tq.stp rfl rfl (fl_bo rfl) rfl ?_
  refine fl_Tq.stp rfl rfl (fl_bo rfl) rfl ?_
  refine fl_Tq.cal rfl rfl (fl_bo rfl) rfl ?_
  refine at_isin (fun b hb => ?_)
  rcases hb with ⟨rfl, m1, m2⟩ | ⟨rfl, -⟩
  case inr => exact fl_Tq.zt rfl (fl_bo rfl) (by rw [at_c1]; rfl) rfl no
  refine fl_Tq.zf rfl (fl_bo rfl) (by rw [at_c1]; rfl) rfl ?_
  refine fl_Tq.stp rfl rfl (fl_bo rfl) rfl ?_
  refine fl_Tq.stp rfl rfl (fl_bo rfl) rfl ?_
  refine fl_Tq.stp rfl rfl (fl_bo rfl) rfl ?_
  refine fl_Tq.cal rfl rfl (fl_bo rfl) rfl ?_
  refine at_isin (fun b hb => ?_)
  rcases hb with ⟨rfl, w1, w2⟩ | ⟨rfl, -⟩
  case inr => exact fl_Tq.zf rfl (fl_bo rfl) (by rw [at_c1]; rfl) rfl no
  refine fl_Tq.zt rfl (fl_bo rfl) (by rw [at_c1]; rfl) rfl ?_
  rw [e24] at k2
  rw [e0] at k1
  rw [e12] at m2
  rw [e1] at m1
  obtain ⟨k, hk⟩ : ∃ k : Nat, ki.toInt = k := ⟨ki.toInt.toNat, by omega⟩
  obtain ⟨mm, hm⟩ : ∃ k : Nat, mi_.toInt = k := ⟨mi_.toInt.toNat, by omega⟩
  refine fl_Tq.stp rfl rfl (fl_bo rfl) rfl ?_
  refine fl_Tq.cal rfl rfl (fl_bo rfl) rfl ?_
  refine at_lay (m := m) ⟨rfl, fun p j _ => rfl⟩ (fun m2 hT hP => ?_)
  obtain ⟨g1, g2⟩ := hT.good hg
  have fin : ∀ v : Int32, at_Good at_XI m2 ∧ at_MD m m2 [(83, false, 0, 16249)] ∧ at_rtc at_rI false m2 (some (.inl v)) := fun v => ⟨g1, g2, ⟨v, rfl, (at_i32 _).1, (at_i32 _).2, fun h => by cases h⟩⟩
  refine fl_Tq.stp rfl rfl (fl_bo rfl) rfl ?_
  cases hw : am_c1 .ne wi with
  | false =>
    refine fl_Tq.zf rfl (fl_bo rfl) hw rfl ?_
    refine fl_Tq.stp rfl rfl (fl_bo rfl) rfl ?_
    refine fl_Tq.stp rfl rfl (fl_bo rfl) rfl ?_
    refine fl_Tq.stp rfl rfl (fl_bo rfl) rfl ?_
    refine fl_Tq.stp rfl rfl (fl_bo rfl) rfl ?_
    refine fl_Tq.stp rfl rfl (fl_bo rfl) rfl ?_
    refine fl_Tq.stp rfl rfl (fl_bo rfl) rfl ?_
    refine fl_Tq.cal rfl rfl (fl_bo rfl) rfl ?_
    refine at_price (h := 24) (k := k) (mm := mm) (t := 0) e24 hk hm e0 (by omega) (by omega) (by omega) (by omega) (fun v hv => ?_)
    refine fl_Tq.ld (p := 284) (τ := 83) (n := 16250) (z := (0, 0, 0)) (k := at_px 24 k mm 0) rfl (fl_bo rfl) rfl hv (by unfold at_px; omega) ?_
    exact fl_Tq.ret rfl rfl rfl (fin _)
  | true =>
    refine fl_Tq.zt rfl (fl_bo rfl) hw rfl ?_
    have loop : ∀ (h : Nat) (left str tk : Nat) (b li si ti : Int32) (o9 : Option fl_V), h ≤ 24 → left ≤ 24 → str ≤ 12 → tk ≤ 1 → li.toInt = left → si.toInt = str → ti.toInt = tk → fl_Tq (pw_P L xs) 308 69 [some at_this, some (.inl ki), some (.inl mi_), some (.inl wi), some (.inl b), some (.inl li), some (.inl si), some (.inl ti), some (.inl (Int32.ofNat h)), o9] [] m2 (fun v m' => at_Good at_XI m' ∧ at_MD m m' [(83, false, 0, 16249)] ∧ at_rtc at_rI false m' v) := by
      intro h
      induction h with
      | zero =>
        intro left str tk b li si ti o9 bh bl bs bt el es et
        refine fl_Tq.stp rfl rfl (fl_bo rfl) rfl ?_
        refine fl_Tq.zt rfl (fl_bo rfl) (by decide +kernel) rfl ?_
        refine fl_Tq.stp rfl rfl (fl_bo rfl) rfl ?_
        exact fl_Tq.ret rfl rfl rfl (fin _)
      | succ h ih =>
        intro left str tk b li si ti o9 bh bl bs bt el es et
        have eh := at_ofN (k := h + 1) (by omega)
        have edn : Int32.ofNat (h + 1) + Int32.ofInt (-1) = Int32.ofNat h := by
          refine Int32.toInt.inj ?_
          rw [at_add32 (by omega) (by omega), eh, em1, at_ofN (by omega)]
          omega
        refine fl_Tq.stp rfl rfl (fl_bo rfl) rfl ?_
        refine fl_Tq.zf rfl (fl_bo rfl) ?_ rfl ?_
        · rw [at_c1, eh]
          exact decide_eq_false (show ¬ (((h + 1 : Nat) : Int) ≤ 0) by omega)
        refine fl_Tq.stp rfl rfl (fl_bo rfl) rfl ?_
        refine fl_Tq.stp rfl rfl (fl_bo rfl) rfl ?_
        refine fl_Tq.stp rfl rfl (fl_bo rfl) rfl ?_
        refine fl_Tq.stp rfl rfl (fl_bo rfl) rfl ?_
        refine fl_Tq.stp rfl rfl (fl_bo rfl) rfl ?_
        refine fl_Tq.stp rfl rfl (fl_bo rfl) rfl ?_
        refine fl_Tq.stp rfl rfl (fl_bo rfl) rfl ?_
        refine fl_Tq.stp rfl rfl (fl_bo rfl) rfl ?_
        refine fl_Tq.cal rfl rfl (fl_bo rfl) rfl ?_
        refine at_price (h := h + 1 - 1) (k := left) (mm := str) (t := 0) (at_dec eh (by omega)) el es e0 (by omega) (by omega) (by omega) (by omega) (fun v hv => ?_)
        refine fl_Tq.ld (p := 284) (τ := 83) (n := 16250) (z := (0, 0, 0)) (k := at_px (h + 1 - 1) left str 0) rfl (fl_bo rfl) rfl hv (by unfold at_px; omega) ?_
        refine fl_Tq.stp rfl rfl (fl_bo rfl) rfl ?_
        refine fl_Tq.stp rfl rfl (fl_bo rfl) rfl ?_
        refine fl_Tq.stp rfl rfl (fl_bo rfl) rfl ?_
        refine fl_Tq.stp rfl rfl (fl_bo rfl) rfl ?_
        refine fl_Tq.stp rfl rfl (fl_bo rfl) rfl ?_
        refine fl_Tq.stp rfl rfl (fl_bo rfl) rfl ?_
        refine fl_Tq.cal rfl rfl (fl_bo rfl) rfl ?_
        refine at_price (h := h + 1) (k := left) (mm := str) (t := tk) eh el es et (by omega) (by omega) (by omega) (by omega) (fun u hu => ?_)
        refine fl_Tq.ld (p := 284) (τ := 83) (n := 16250) (z := (0, 0, 0)) (k := at_px (h + 1) left str tk) rfl (fl_bo rfl) rfl hu (by unfold at_px; omega) ?_
        have back : ∀ (tk' left' str' : Nat) (b' li' si' ti' : Int32) (o9 : Option fl_V), left' ≤ 24 → str' ≤ 12 → tk' ≤ 1 → li'.toInt = left' → si'.toInt = str' → ti'.toInt = tk' → fl_Tq (pw_P L xs) 308 157 [some at_this, some (.inl ki), some (.inl mi_), some (.inl wi), some (.inl b'), some (.inl li'), some (.inl si'), some (.inl ti'), some (.inl (Int32.ofNat (h + 1))), o9] [] m2 (fun v m' => at_Good at_XI m' ∧ at_MD m m' [(83, false, 0, 16249)] ∧ at_rtc at_rI false m' v) := by
          intro tk' left' str' b' li' si' ti' o9 c1 c2 c3 c4 c5 c6
          refine fl_Tq.stp rfl rfl (fl_bo rfl) rfl ?_
          refine fl_Tq.stp rfl rfl (fl_bo rfl) rfl ?_
          have := ih left' str' tk' b' li' si' ti' o9 (by omega) c1 c2 c3 c4 c5 c6
          rw [← edn] at this
          exact this
        by_cases heq : (m2.1 284 (at_px (h + 1 - 1) left str 0)).toInt = (m2.1 284 (at_px (h + 1) left str tk)).toInt
        · refine fl_Tq.jf rfl (fl_bo rfl) ?_ rfl ?_
          · rw [at_c2]
            show (!decide _) = false
            rw [decide_eq_true (by omega)]; rfl
          refine fl_Tq.stp rfl rfl (fl_bo rfl) rfl ?_
          refine fl_Tq.stp rfl rfl (fl_bo rfl) rfl ?_
          refine fl_Tq.stp rfl rfl (fl_bo rfl) rfl ?_
          refine fl_Tq.stp rfl rfl (fl_bo rfl) rfl ?_
          refine fl_Tq.zt rfl (fl_bo rfl) (by decide +kernel) rfl ?_
          refine fl_Tq.stp rfl rfl (fl_bo rfl) rfl ?_
          refine fl_Tq.zf rfl (fl_bo rfl) (by decide +kernel) rfl ?_
          refine fl_Tq.stp rfl rfl (fl_bo rfl) rfl ?_
          refine fl_Tq.stp rfl rfl (fl_bo rfl) rfl ?_
          refine fl_Tq.stp rfl rfl (fl_bo rfl) rfl ?_
          exact back 0 left str _ _ _ _ _ bl bs (by omega) el es e0
        · have hnc : ¬ (left = 0 ∨ (tk = 0 ∧ str = 0)) := by
            intro hc
            refine heq ?_
            have := hP (h + 1) left (2 * str + tk) (by omega) (by omega) (by omega) (by omega) (by omega) (by omega)
            have q1 : (((h + 1) * 25 + left) * 26 + (2 * str + tk)) = at_px (h + 1) left str tk := by unfold at_px; omega
            have q2 : (((h + 1 - 1) * 25 + left) * 26 + 2 * ((2 * str + tk) / 2)) = at_px (h + 1 - 1) left str 0 := by unfold at_px; omega
            rw [q1, q2] at this
            rw [this]
          refine fl_Tq.jt rfl (fl_bo rfl) ?_ rfl ?_
          · rw [at_c2]
            show (!decide _) = true
            rw [decide_eq_false (by omega)]; rfl
          refine fl_Tq.stp rfl rfl (fl_bo rfl) rfl ?_
          refine fl_Tq.stp rfl rfl (fl_bo rfl) rfl ?_
          refine fl_Tq.stp rfl rfl (fl_bo rfl) rfl ?_
          refine fl_Tq.zf rfl (fl_bo rfl) (by decide +kernel) rfl ?_
          refine fl_Tq.stp rfl rfl (fl_bo rfl) rfl ?_
          refine fl_Tq.stp rfl rfl (fl_bo rfl) rfl ?_
          refine fl_Tq.stp rfl rfl (fl_bo rfl) rfl ?_
          refine fl_Tq.stp rfl rfl (fl_bo rfl) rfl ?_
          refine fl_Tq.stp rfl rfl (fl_bo rfl) rfl ?_
          refine fl_Tq.stp rfl rfl (fl_bo rfl) rfl ?_
          refine fl_Tq.stp rfl rfl (fl_bo rfl) rfl ?_
          refine fl_Tq.stp rfl rfl (fl_bo rfl) rfl ?_
          refine fl_Tq.stp rfl rfl (fl_bo rfl) rfl ?_
          refine fl_Tq.stp rfl rfl (fl_bo rfl) rfl ?_
          refine fl_Tq.stp rfl rfl (fl_bo rfl) rfl ?_
          refine fl_Tq.stp rfl rfl (fl_bo rfl) rfl ?_
          refine fl_Tq.stp rfl rfl (fl_bo rfl) rfl ?_
          refine fl_Tq.stp rfl rfl (fl_bo rfl) rfl ?_
          refine fl_Tq.stp rfl rfl (fl_bo rfl) rfl ?_
          refine fl_Tq.stp rfl rfl (fl_bo rfl) rfl ?_
          have cl : (li + Int32.ofInt (-1)).toInt = ((left - 1 : Nat) : Int) := by
            rw [at_add32] <;> rw [el, em1] <;> omega
          have c1 : (Int32.ofInt 1 - ti).toInt = 1 - (tk : Int) := by
            rw [at_sub32] <;> rw [et, e1] <;> omega
          have cs : (si - (Int32.ofInt 1 - ti)).toInt = ((str - (1 - tk) : Nat) : Int) := by
            rw [at_sub32] <;> rw [es, c1] <;> omega
          refine fl_Tq.zt rfl (fl_bo rfl) (by decide +kernel) rfl ?_
          refine fl_Tq.stp rfl rfl (fl_bo rfl) rfl ?_
          refine fl_Tq.stp rfl rfl (fl_bo rfl) rfl ?_
          exact back 1 (left - 1) (str - (1 - tk)) _ _ _ _ _ (by omega) (by omega) (by omega) cl cs e1
    refine fl_Tq.stp rfl rfl (fl_bo rfl) rfl ?_
    refine fl_Tq.stp rfl rfl (fl_bo rfl) rfl ?_
    show fl_Tq (pw_P L xs) 308 56 [some at_this, some (.inl ki), some (.inl mi_), some (.inl wi), some (.inl (Int32.ofInt 0)), none, none, none, none, none] [] m2 _
    refine fl_Tq.stp rfl rfl (fl_bo rfl) rfl ?_
    refine fl_Tq.stp rfl rfl (fl_bo rfl) rfl ?_
    show fl_Tq (pw_P L xs) 308 59 [some at_this, some (.inl ki), some (.inl mi_), some (.inl wi), some (.inl (Int32.ofInt 0)), some (.inl ki), none, none, none, none] [] m2 _
    refine fl_Tq.stp rfl rfl (fl_bo rfl) rfl ?_
    refine fl_Tq.stp rfl rfl (fl_bo rfl) rfl ?_
    show fl_Tq (pw_P L xs) 308 62 [some at_this, some (.inl ki), some (.inl mi_), some (.inl wi), some (.inl (Int32.ofInt 0)), some (.inl ki), some (.inl mi_), none, none, none] [] m2 _
    refine fl_Tq.stp rfl rfl (fl_bo rfl) rfl ?_
    refine fl_Tq.stp rfl rfl (fl_bo rfl) rfl ?_
    show fl_Tq (pw_P L xs) 308 65 [some at_this, some (.inl ki), some (.inl mi_), some (.inl wi), some (.inl (Int32.ofInt 0)), some (.inl ki), some (.inl mi_), some (.inl (Int32.ofInt 0)), none, none] [] m2 _
    refine fl_Tq.stp rfl rfl (fl_bo rfl) rfl ?_
    refine fl_Tq.stp rfl rfl (fl_bo rfl) rfl ?_
    rw [show (Int8.ofInt 24).toInt32 = Int32.ofNat 24 from by decide +kernel]
    exact loop 24 k mm 0 (Int32.ofInt 0) ki mi_ (Int32.ofInt 0) none (by omega) (by omega) (by omega) (by omega) hk hm e0
end ATCE

end

/-! 89.14.boot.lean.txt -/
section
/-! ===== the two constructors, from the empty heap ===== -/
def at_m1 : fl_M := ((fun p j => if p < 285 then (at_i0 p).getD j 0 else at_W0 ((p - 285) % 90) j), (fun _ _ => 0), 0)
def at_m0 : fl_M := bl_cp 280 0 281 0 29780 at_m1
theorem nw_ckr_ok {N n s : Nat} {wl : Nat → List Int32} {lv : am_L} {st : List Value} {r : Option (am_L × List Value × nw_H)} (h : nw_ckr N wl lv st n s r = true) : ∃ H : nw_H, r = some (lv, st, H) ∧ H.1.length = n ∧ H.2 = s ∧ nw_ckl N wl 0 H.1 = true := by
  unfold nw_ckr at h
  split at h
  · rename_i lv' st' H
    simp only [Bool.and_eq_true, decide_eq_true_eq] at h
    obtain ⟨h1, h2, h3, h4, h5⟩ := h
    subst h1 h2
    exact ⟨H, rfl, Nat.eq_of_beq_eq_true h3, Nat.eq_of_beq_eq_true h4, h5⟩
  · cases h
theorem at_made0 {H1 H3 : nw_H} (l1 : H1.1.length = 277) (s1 : H1.2 = 5395) (c1 : nw_ckl 0 at_i0 0 H1.1 = true) (l3 : H3.1.length = 8) (s3 : H3.2 = 77355) (c3 : nw_ckl 277 (fun r => at_i0 (277 + r)) 0 H3.1 = true) : nw_h (nw_h ([], 0) H1) H3 = fl_H at_m1 := by
  unfold nw_h
  refine Prod.ext ?_ ?_
  · show ([] ++ H1.1.map nw_o) ++ H3.1.map nw_o = (fl_H at_m1).1
    refine List.ext_getElem? (fun p => ?_)
    have hl1 : ([] ++ H1.1.map nw_o : List am_O).length = 277 := by simp [l1]
    have hw : ∀ q : Nat, q < 285 → at_m1.1 q = fun j => (at_i0 q).getD j 0 := fun q hq => by
      funext j
      show (if q < 285 then (at_i0 q).getD j 0 else at_W0 ((q - 285) % 90) j) = _
      rw [if_pos hq]
    by_cases hp : p < 277
    · rw [List.getElem?_append_left (by rw [hl1]; exact hp), List.nil_append, nw_ckl_ok H1.1 0 c1 p (by omega), fl_get (m := at_m1) (show p < fl_N 0 by unfold fl_N; omega), hw p (by omega)]
      have e : 0 + (0 + p) = p := by omega
      have e2 : 0 + p = p := by omega
      rw [e, e2]
      rfl
    · rw [List.getElem?_append_right (by rw [hl1]; omega), hl1]
      by_cases hp2 : p < 285
      · rw [nw_ckl_ok H3.1 0 c3 (p - 277) (by omega), fl_get (m := at_m1) (show p < fl_N 0 by unfold fl_N; omega), hw p hp2]
        have e : 277 + (0 + (p - 277)) = p := by omega
        rw [e]
        rfl
      · rw [List.getElem?_eq_none (by rw [List.length_map]; omega), List.getElem?_eq_none (by unfold fl_H; simp; show fl_N 0 ≤ p; unfold fl_N; omega)]
  · show 0 + H1.2 + H3.2 = fl_S 0
    unfold fl_S
    omega
theorem pw_cod {L : Nat} {xs : Nat → Int32} {mi pc : Nat} {ins : Instr} (h : pw_code mi pc = some ins) : am_code (pw_P L xs) mi pc = some ins := h
set_option maxRecDepth 1000000 in
theorem pw_cod765 : pw_code 183 765 = some (.invokestatic 38) := by decide +kernel
set_option maxRecDepth 1000000 in
theorem pw_cod768 : pw_code 183 768 = some .return_ := by decide +kernel
theorem at_boot {L : Nat} {xs : Nat → Int32} {Q : Option fl_V → fl_M → Prop} (k : fl_Tq (pw_P L xs) 0 15 [some (.inr (.inr (.inr (.inl 0)))), some (.inr (.inr (.inl (0, 0)))), none, none] [.inr (.inr (.inl (76, 277)))] at_m0 Q) : am_To (pw_P L xs) 0 0 (lv_args 0 [.retAddr 0]) [] ([], 0) (fun v M => ∃ v' m', v = v'.map fl_c ∧ M = fl_H m' ∧ Q v' m') := by
  obtain ⟨H1, e1, l1, s1, c1⟩ := nw_ckr_ok nw_r1_ck
  obtain ⟨lv3, H3, e3, l3, s3, c3⟩ : ∃ (lv3 : am_L) (H3 : nw_H), nw_r3 = some (lv3, [.ref 281, .ref 280], H3) ∧ H3.1.length = 8 ∧ H3.2 = 77355 ∧ nw_ckl 277 (fun r => at_i0 (277 + r)) 0 H3.1 = true := by
    have h := nw_r3_ck
    split at h
    · rename_i lv' st' H e
      simp only [Bool.and_eq_true, decide_eq_true_eq] at h
      obtain ⟨h2, h3, h4, h5⟩ := h
      subst h2
      exact ⟨lv', H, e, Nat.eq_of_beq_eq_true h3, Nat.eq_of_beq_eq_true h4, h5⟩
    · cases h
  have hB : (nw_h ([], 0) H1).1.length = 277 := by unfold nw_h; simp [l1]
  have h0 : ∀ B : am_M, nw_h B ([], 0) = B := fun B => by unfold nw_h; simp
  have hm1 := at_made0 l1 s1 c1 l3 s3 c3
  generalize hBg : nw_h ([], 0) H1 = B at hB hm1
  have k1 := nw_to_ok (B := ([], 0)) (L := L) (xs := xs) (Q := fun v M => ∃ v' m', v = v'.map fl_c ∧ M = fl_H m' ∧ Q v' m') 5000 0 (lv_args 0 [.retAddr 0]) [] ([], 0) _ _ H1 e1
  rw [hBg, h0] at k1
  refine k1 ?_
  have e2 := nw_r2_ck
  unfold nw_r2 at e2
  rw [← hB] at e2
  have k2 := nw_to_ok (B := B) (L := L) (xs := xs) (Q := fun v M => ∃ v' m', v = v'.map fl_c ∧ M = fl_H m' ∧ Q v' m') 5000 8 [(1, .ref 0), (0, .retAddr 0)] [] ([], 0) _ _ _ e2
  rw [h0] at k2
  refine k2 ?_
  refine am_To.cal (ins := .invokespecial 12) (mj := 183) (n := 1) rfl rfl rfl ?_
  unfold nw_r3 at e3
  rw [← hB] at e3
  refine nw_to_ok (B := B) (L := L) (xs := xs) 5000 0 _ [] ([nw_obj1], 10) _ _ H3 (by rw [hB] at e3 ⊢; exact e3) ?_
  rw [hm1]
  refine am_To.cal (ins := .invokestatic 38) (mj := 184) (n := 2) (pw_cod pw_cod765) rfl rfl ?_
  have k80 : fk_K 281 = 80 := by decide +kernel
  have hc := at_copy (L := L) (xs := xs) (m := at_m1) (p := 280) (q := 281) (tp := 79) (tq := 80) (Q := fun v m' => v = none ∧ m' = at_m0) fk_K_280 k80 (by decide) (by decide) rfl rfl (by decide) ⟨rfl, rfl⟩
  have hc2 := hc (lv_args 0 [.ref 280, .ref 281]) (fl_args_LR _ [.inr (.inr (.inl (79, 280))), .inr (.inr (.inl (80, 281)))])
  refine am_To.mono hc2 ?_
  rintro v M ⟨v', m', rfl, rfl, rfl, rfl⟩
  refine am_To.ret (ins := .return_) (v := none) (pw_cod pw_cod768) rfl rfl ?_
  rw [hB]
  refine k [(1, .ref 0), (0, .retAddr 0)] (fun i v hv => ?_)
  match i, hv with
  | 0, hv => cases hv; rfl
  | 1, hv => cases hv; rfl
  | 2, hv => cases hv
  | 3, hv => cases hv
  | n + 4, hv => simp at hv
/-! ===== all is good at the start ===== -/
theorem at_i0_rg : (List.range 285).all (fun p => (at_rg (fk_K p)).all (at_rok (fun i => ((at_i0 p).getD i 0).toInt))) = true := by decide +kernel
theorem at_0_rg : (at_rg at_TA).all (fun r => decide (r.2.2.2.2.2.1 ≤ 0 ∧ 0 ≤ r.2.2.2.2.2.2)) = true := by decide +kernel
theorem at_i0_ln : (at_i0 280).length ≤ 1420 := by decide +kernel
theorem at_AK0 : at_AK (fun _ => 0) := by
  refine ⟨fun r hr j _ _ => ?_, fun c _ hl => ?_, fun k _ => Int.le_refl _⟩
  · exact of_decide_eq_true (List.all_eq_true.mp at_0_rg r hr)
  · exfalso
    have hl : (c : Int) < 0 := hl
    omega
theorem at_start : at_Good at_XI at_m0 := by
  have ne : ∀ p j : Nat, p ≠ 281 → at_m0.1 p j = at_m1.1 p j := fun p j e => bl_cp_out (fun h => absurd h e)
  have hw : ∀ q j : Nat, q < 285 → at_m1.1 q j = (at_i0 q).getD j 0 := fun q j hq => by
    show (if q < 285 then (at_i0 q).getD j 0 else at_W0 ((q - 285) % 90) j) = _
    rw [if_pos hq]
  have h280 : ∀ j : Nat, at_m0.1 280 j = (at_i0 280).getD j 0 := fun j => by rw [ne 280 j (by decide), hw 280 j (by decide)]
  have h281 : ∀ j : Nat, j < 29780 → at_m0.1 281 j = (at_i0 280).getD j 0 := fun j hj => by
    show (bl_cp 280 0 281 0 29780 at_m1).1 281 j = _
    rw [bl_cp_in (by omega) (by omega)]
    show at_m1.1 280 j = _
    rw [hw 280 j (by decide)]
  have hz : ∀ j : Nat, 1420 ≤ j → (at_i0 280).getD j 0 = 0 := fun j hj => by
    have := at_i0_ln
    rw [List.getD_eq_getElem?_getD, List.getElem?_eq_none (by omega)]
    rfl
  have hg : at_Good (fun _ => True) at_m0 := by
    refine ⟨fun p hp r hr j hm => ?_, ⟨fun c hc hl => ?_, fun k hk => ?_⟩, True.intro⟩
    · have hp : p < 285 := by
        have hp : p < fl_N 0 := hp
        unfold fl_N at hp
        omega
      by_cases e : p = 281
      · subst e
        have : at_rg (fk_K 281) = [] := by decide +kernel
        rw [this] at hr
        cases hr
      · rw [ne p j e, hw p j hp]
        have b1 := List.all_eq_true.mp at_i0_rg p (List.mem_range.mpr hp)
        have b2 := List.all_eq_true.mp b1 r hr
        exact at_rok_ok b2 hm
    · exfalso
      have hl : (c : Int) < (at_m0.1 280 2).toInt := hl
      rw [h280 2] at hl
      have : ((at_i0 280).getD 2 0).toInt = 0 := by decide +kernel
      omega
    · show (at_m0.1 280 (341 + 35 * k)).toInt ≤ (at_m0.1 280 2).toInt
      rw [h280, h280]
      have : ∀ k : Fin 3, ((at_i0 280).getD (341 + 35 * k.val) 0).toInt ≤ ((at_i0 280).getD 2 0).toInt := by decide +kernel
      exact this ⟨k, hk⟩
  have hA := hg.AK
  have hX : at_XI at_m0 := by
    refine ⟨fun q hq i hi => ?_, ?_, fun p hp i => ?_, ?_, fun s hs => ?_, ⟨?_, ?_, ?_⟩, fun s hs => ?_, fun p j hp => ?_⟩
    · left
      rw [ne q i (by omega), hw q i (by omega)]
      rcases hq with rfl | rfl <;> rfl
    · have c0 : ∀ q, q = 272 ∨ q = 274 → at_cnt at_m0 q = 0 := by
        intro q hq
        unfold at_cnt at_nzr
        have : ∀ i, at_m0.1 q i = 0 := fun i => by
          rw [ne q i (by omega), hw q i (by omega)]
          rcases hq with rfl | rfl <;> rfl
        simp only [this]
        decide +kernel
      rw [c0 272 (Or.inl rfl), c0 274 (Or.inr rfl)]
      rfl
    · have hp : fl_N 0 ≤ p := hp
      unfold fl_N at hp
      rw [ne p i (by omega)]
      show (if p < 285 then (at_i0 p).getD i 0 else at_W0 ((p - 285) % 90) i) = _
      rw [if_neg (by omega)]
    · refine at_AK0.congr (fun j _ _ => ?_)
      rw [ne 283 _ (by decide), hw 283 _ (by decide)]
      rfl
    · refine at_AK0.congr (fun j _ _ => ?_)
      rw [h280, hz _ (by omega)]
      rfl
    · refine hA.congr (fun j _ _ => ?_)
      rw [h281 j (by omega), ← h280 j]
      rfl
    · rw [h281 0 (by decide)]
      decide +kernel
    · rw [h281 1 (by decide)]
      decide +kernel
    · refine at_AK0.congr (fun j _ _ => ?_)
      rw [h281 _ (by omega), hz _ (by omega)]
      rfl
    · rw [ne p j (by omega), hw p j (by omega)]
  exact ⟨hg.1, hg.2.1, hX⟩

end

/-! 89.15.lawtools.lean.txt -/
section
/-! ===== the law: its calls by their contracts ===== -/
section LWT
variable {L : Nat} {xs : Nat → Int32} {m : fl_M} {Q : Option fl_V → fl_M → Prop}
def lx_lv (i : Nat) : fl_L := [some (.inr (.inr (.inr (.inl 0)))), some (.inr (.inr (.inl (0, 0)))), some (.inr (.inr (.inl (76, 277)))), some (.inl (Int32.ofNat i))]
def lx_x : fl_V := .inr (.inr (.inl (0, 0)))
theorem lx_kx (h : Nat) : ∃ p, lx_x = .inr (.inr (.inl (0, p))) ∧ fk_K p = 0 ∧ p < fl_N h ∧ ∀ q, some 0 = some q → p = q := ⟨0, rfl, by decide +kernel, by unfold fl_N; omega, fun q h => by cases h; rfl⟩
theorem lx_ki (x : Int32) : ∃ y : Int32, (.inl x : fl_V) = .inl y ∧ -2147483648 ≤ y.toInt ∧ y.toInt ≤ 2147483647 := ⟨x, rfl, (at_i32 x).1, (at_i32 x).2⟩
theorem fl_Tq.tld {P : am_Pg} {mi pc k n c : Nat} {f : Nat → Int32} {lv : fl_L} {r : List fl_V} {i : Int32} (hc : am_code P mi pc = some .iaload) (hok : ∀ v ∈ (.inl i :: .inr (.inr (.inr (.inl c))) :: r : List fl_V), fl_ok m.2.2 v) (hcst : am_cst P c = some (n, f)) (hi : i.toInt = k) (hlt : k < n) (q : fl_Tq P mi (pc + 1) lv (.inl (f k) :: r) m Q) : fl_Tq P mi pc lv (.inl i :: .inr (.inr (.inr (.inl c))) :: r) m Q := by
  refine fl_Tq.stp (pc' := pc + 1) (lv' := lv) (st' := .inl (f k) :: r) (m' := m) hc rfl hok ?_ q
  obtain ⟨h1, h2⟩ := at_in_ok (i := i) (n := n) (by omega) (by omega)
  have h3 : i.toNatClampNeg = k := by omega
  show ((match am_cst P c with
    | some (n, f) => bif am_in i n then some (pc + 1, lv, .inl (f i.toNatClampNeg) :: r, m) else none
    | _ => none) : Option fl_C) = _
  rw [hcst]
  show ((bif am_in i n then some (pc + 1, lv, .inl (f i.toNatClampNeg) :: r, m) else none) : Option fl_C) = _
  rw [h1, h3]
  rfl
/-- a number of the script -/
theorem lx_arg {pc i jn : Nat} {j : Int} {st : List fl_V} (h1 : am_code (pw_P L xs) 0 pc = some (.aload_n 0)) (h2 : am_code (pw_P L xs) 0 (pc + 1) = some (.iload_n 3)) (h3 : am_code (pw_P L xs) 0 (pc + 2) = some (.iconst j)) (h4 : am_code (pw_P L xs) 0 (pc + 3) = some .iadd) (h5 : am_code (pw_P L xs) 0 (pc + 4) = some .iaload) (hj : (Int32.ofInt j).toInt = jn) (hok : ∀ v ∈ st, fl_ok m.2.2 v) (hL : L ≤ 3072) (hlt : i + jn < L) (k : fl_Tq (pw_P L xs) 0 (pc + 5) (lx_lv i) (.inl (xs (i + jn)) :: st) m Q) : fl_Tq (pw_P L xs) 0 pc (lx_lv i) st m Q := by
  have ok1 : ∀ v ∈ (.inr (.inr (.inr (.inl 0))) :: st : List fl_V), fl_ok m.2.2 v := fun v hv => by
    rcases List.mem_cons.mp hv with rfl | hv
    · exact True.intro
    · exact hok v hv
  have ok2 : ∀ x : Int32, ∀ v ∈ (.inl x :: .inr (.inr (.inr (.inl 0))) :: st : List fl_V), fl_ok m.2.2 v := fun x v hv => by
    rcases List.mem_cons.mp hv with rfl | hv
    · exact True.intro
    · exact ok1 v hv
  have ok3 : ∀ x y : Int32, ∀ v ∈ (.inl x :: .inl y :: .inr (.inr (.inr (.inl 0))) :: st : List fl_V), fl_ok m.2.2 v := fun x y v hv => by
    rcases List.mem_cons.mp hv with rfl | hv
    · exact True.intro
    · exact ok2 y v hv
  refine fl_Tq.stp h1 rfl hok rfl ?_
  refine fl_Tq.stp h2 rfl ok1 rfl ?_
  refine fl_Tq.stp h3 rfl (ok2 _) rfl ?_
  refine fl_Tq.stp h4 rfl (ok3 _ _) rfl ?_
  have ei := at_ofN (k := i) (by omega)
  have e : (Int32.ofNat i + Int32.ofInt j).toInt = ((i + jn : Nat) : Int) := by rw [at_add32] <;> rw [ei, hj] <;> omega
  exact fl_Tq.tld (n := L) (f := xs) (k := i + jn) h5 (ok2 _) rfl e hlt k
theorem lx_bool {pc : Nat} {lv : fl_L} {st : List fl_V} {x : Int32} (h1 : am_code (pw_P L xs) 0 pc = some (.ifCond .eq 7)) (h2 : am_code (pw_P L xs) 0 (pc + 3) = some (.iconst 1)) (h3 : am_code (pw_P L xs) 0 (pc + 4) = some (.goto 4)) (h4 : am_code (pw_P L xs) 0 (pc + 7) = some (.iconst 0)) (hok : ∀ v ∈ (.inl x :: st : List fl_V), fl_ok m.2.2 v) (ht : am_tg pc 7 = some (pc + 7)) (ht2 : am_tg (pc + 4) 4 = some (pc + 8)) (k : ∀ b : Int32, 0 ≤ b.toInt → b.toInt ≤ 1 → fl_Tq (pw_P L xs) 0 (pc + 8) lv (.inl b :: st) m Q) : fl_Tq (pw_P L xs) 0 pc lv (.inl x :: st) m Q := by
  have ok : ∀ v ∈ st, fl_ok m.2.2 v := fun v hv => hok v (List.mem_cons_of_mem _ hv)
  have ok1 : ∀ y : Int32, ∀ v ∈ (.inl y :: st : List fl_V), fl_ok m.2.2 v := fun y v hv => by
    rcases List.mem_cons.mp hv with rfl | hv
    · exact True.intro
    · exact ok v hv
  cases hb : am_c1 .eq x with
  | true =>
    refine fl_Tq.zt h1 hok hb ht ?_
    refine fl_Tq.stp h4 rfl ok rfl ?_
    exact k _ (by decide) (by decide)
  | false =>
    refine fl_Tq.zf h1 hok hb ht ?_
    refine fl_Tq.stp h2 rfl ok rfl ?_
    refine fl_Tq.stp (pc' := pc + 8) (lv' := lv) (st' := .inl (Int32.ofInt 1) :: st) (m' := m) h3 rfl (ok1 _) ?_ ?_
    · show fl_go (pc + 3 + 1) 4 lv _ m = _
      unfold fl_go
      rw [show pc + 3 + 1 = pc + 4 by omega, ht2]
    · exact k _ (by decide) (by decide)
/-- a call whose answer, an int, is dropped -/
theorem lx_callI {pc mj n : Nat} {ins : Instr} {lv : fl_L} {st as_ : List fl_V} {c : at_C} {lo hi : Int} (hc : am_code (pw_P L xs) 0 pc = some ins) (hcl : am_cl (pw_P L xs) 0 ins = some (mj, n)) (hp : am_code (pw_P L xs) 0 (pc + 3) = some .pop) (hrc : fl_rc (pw_P L xs) ins mj n st = true) (hok : ∀ v ∈ st, fl_ok m.2.2 v) (hst : (st.take n).reverse = as_) (hd : st.drop n = []) (hV : at_Valid at_XI (pw_P L xs) c) (hcm : c.1 = mj) (hg : at_Good at_XI m) (hk : at_agk m.2.2 c.2.1 as_) (hl : c.2.2.1 = []) (hr : c.2.2.2.1 = some (.inr (false, lo, hi))) (k : ∀ m', at_Good at_XI m' → fl_Tq (pw_P L xs) 0 (pc + 4) lv [] m' Q) : fl_Tq (pw_P L xs) 0 pc lv st m Q := by
  refine fl_Tq.cal hc hcl hok hrc ?_
  rw [hst, hd]
  subst hcm
  refine fl_Tq.mono (hV m as_ hg hk (fun q hq => by rw [hl] at hq; cases hq)) (fun v m' ⟨hg', _, hv⟩ => ?_)
  rw [hr] at hv
  obtain ⟨x, rfl, -⟩ := hv
  refine fl_Tq.stp hp rfl (fl_bo rfl) rfl ?_
  exact k m' hg'
/-- a long -/
theorem lx_callJ {pc mj n : Nat} {ins : Instr} {lv : fl_L} {st as_ : List fl_V} {c : at_C} {lo hi : Int} (hc : am_code (pw_P L xs) 0 pc = some ins) (hcl : am_cl (pw_P L xs) 0 ins = some (mj, n)) (hp : am_code (pw_P L xs) 0 (pc + 3) = some .pop2) (hrc : fl_rc (pw_P L xs) ins mj n st = true) (hok : ∀ v ∈ st, fl_ok m.2.2 v) (hst : (st.take n).reverse = as_) (hd : st.drop n = []) (hV : at_Valid at_XI (pw_P L xs) c) (hcm : c.1 = mj) (hg : at_Good at_XI m) (hk : at_agk m.2.2 c.2.1 as_) (hl : c.2.2.1 = []) (hr : c.2.2.2.1 = some (.inr (true, lo, hi))) (k : ∀ m', at_Good at_XI m' → fl_Tq (pw_P L xs) 0 (pc + 4) lv [] m' Q) : fl_Tq (pw_P L xs) 0 pc lv st m Q := by
  refine fl_Tq.cal hc hcl hok hrc ?_
  rw [hst, hd]
  subst hcm
  refine fl_Tq.mono (hV m as_ hg hk (fun q hq => by rw [hl] at hq; cases hq)) (fun v m' ⟨hg', _, hv⟩ => ?_)
  rw [hr] at hv
  obtain ⟨x, rfl, -⟩ := hv
  refine fl_Tq.stp hp rfl (fl_bo rfl) rfl ?_
  exact k m' hg'
end LWT

end
