/-! ===== THE LOOKER'S STEP IS A STEP ===== -/
theorem at_b32 {z : Int} (h1 : at_m4 ≤ z) (h2 : z ≤ at_x4) : z.bmod (2 ^ 32) = z := by
  unfold at_m4 at h1
  unfold at_x4 at h2
  exact Int.bmod_eq_of_le (by omega) (by omega)
theorem at_b64 {z : Int} (h1 : at_m8 ≤ z) (h2 : z ≤ at_x8) : z.bmod (2 ^ 64) = z := by
  unfold at_m8 at h1
  unfold at_x8 at h2
  exact Int.bmod_eq_of_le (by omega) (by omega)
theorem at_and32 {x y : Int32} (h : 0 ≤ y.toInt) : 0 ≤ (x &&& y).toInt ∧ (x &&& y).toInt ≤ y.toInt := by
  have e : (x &&& y).toInt = (x.toBitVec &&& y.toBitVec).toInt := rfl
  have ey : y.toInt = y.toBitVec.toInt := rfl
  rw [ey] at h ⊢
  rw [e]
  have hm : y.toBitVec.msb = false := by
    rw [BitVec.msb_eq_toInt]
    simp only [decide_eq_false_iff_not]
    omega
  have hm2 : (x.toBitVec &&& y.toBitVec).msb = false := by rw [BitVec.msb_and, hm, Bool.and_false]
  rw [BitVec.toInt_eq_toNat_of_msb hm2, BitVec.toInt_eq_toNat_of_msb hm, BitVec.toNat_and]
  have := Nat.and_le_right (n := x.toBitVec.toNat) (m := y.toBitVec.toNat)
  omega
theorem at_and32' {x y : Int32} (h : 0 ≤ x.toInt) : 0 ≤ (x &&& y).toInt ∧ (x &&& y).toInt ≤ x.toInt := by
  rw [Int32.and_comm]
  exact at_and32 h
theorem at_rem32 {x y : Int32} (h1 : at_m4 ≤ x.toInt.tmod y.toInt) (h2 : x.toInt.tmod y.toInt ≤ at_x4) : (x - (x / y) * y).toInt = x.toInt.tmod y.toInt := by
  have e : x - (x / y) * y = Int32.ofInt (x.toInt.tmod y.toInt) := by
    refine Int32.toInt_inj.mp ?_
    rw [Int32.toInt_ofInt, Int32.toInt_sub, Int32.toInt_mul, Int32.toInt_div, Int.tmod_def]
    show _ = Int.bmod _ (2 ^ 32)
    rw [Int.bmod_mul_bmod, Int.sub_bmod_bmod, Int.mul_comm]
  rw [e, Int32.toInt_ofInt]
  exact at_b32 h1 h2
theorem at_shl1 : ∀ k : Nat, k < 31 → ((1 : Int32) <<< (Int32.ofNat k &&& 31)).toInt = 2 ^ k := by decide
theorem at_c1 (c : ClassFile.Cond) (x : Int32) : am_c1 c x = at_cz c x.toInt := by
  have h0 : (x = 0) ↔ x.toInt = 0 := ⟨fun h => by rw [h]; rfl, fun h => Int32.toInt.inj h⟩
  cases c
  · show decide (x = 0) = decide (x.toInt = 0); simp only [h0]
  · show (!decide (x = 0)) = !decide (x.toInt = 0); simp only [h0]
  · show decide (x < 0) = decide (x.toInt < 0); simp only [Int32.lt_iff_toInt_lt]; rfl
  · show decide (0 ≤ x) = decide (0 ≤ x.toInt); simp only [Int32.le_iff_toInt_le]; rfl
  · show decide (0 < x) = decide (0 < x.toInt); simp only [Int32.lt_iff_toInt_lt]; rfl
  · show decide (x ≤ 0) = decide (x.toInt ≤ 0); simp only [Int32.le_iff_toInt_le]; rfl
theorem at_c2 (c : ClassFile.Cond) (x y : Int32) : am_c2 c x y = at_cz c (x.toInt - y.toInt) := by
  have h0 : (x = y) ↔ x.toInt - y.toInt = 0 := ⟨fun h => by rw [h]; omega, fun h => Int32.toInt.inj (by omega)⟩
  cases c
  · show decide (x = y) = decide (x.toInt - y.toInt = 0); simp only [h0]
  · show (!decide (x = y)) = !decide (x.toInt - y.toInt = 0); simp only [h0]
  · show decide (x < y) = decide (x.toInt - y.toInt < 0); rw [decide_eq_decide, Int32.lt_iff_toInt_lt]; omega
  · show decide (y ≤ x) = decide (0 ≤ x.toInt - y.toInt); rw [decide_eq_decide, Int32.le_iff_toInt_le]; omega
  · show decide (y < x) = decide (0 < x.toInt - y.toInt); rw [decide_eq_decide, Int32.lt_iff_toInt_lt]; omega
  · show decide (x ≤ y) = decide (x.toInt - y.toInt ≤ 0); rw [decide_eq_decide, Int32.le_iff_toInt_le]; omega
theorem at_c3 (c : ClassFile.Cond) {x : Int32} {d : Int} (h : (x = 1 ∧ 0 < d) ∨ (x = 0 ∧ d = 0) ∨ (x = -1 ∧ d < 0)) : am_c1 c x = at_cz c d := by
  rcases h with ⟨rfl, h⟩ | ⟨rfl, h⟩ | ⟨rfl, h⟩ <;> cases c <;> simp [am_c1, at_cz] <;> omega
section ATZ
variable {X : fl_M → Prop} {m0 m : fl_M} {ν ν' : Nat → Int} {S : at_S} {lv : at_L} {st r : List at_V} {fl : fl_L} {fs : List fl_V} {L : Nat} {xs : Nat → Int32} {mi pc : Nat}
theorem at_sh_ok {P : at_P} (hP : at_KP ν P) {a b : at_A} {x y : Int32} (ea : x.toInt = at_ev ν a) (eb : y.toInt = at_ev ν b) : at_Sp ν P (at_sh P a b) (x <<< (y &&& 31)).toInt := by
  obtain ⟨k1, k2⟩ := at_i32' (x <<< (y &&& 31))
  unfold at_sh
  split
  · rename_i e
    have e1 := at_ic_ok hP.1.1 e
    cases hb : decide (0 ≤ at_lo P.1 b) && decide (at_hi P.1 b ≤ 30) with
    | false => exact at_fr_ok hP k1 k2
    | true =>
      simp only [Bool.and_eq_true, decide_eq_true_eq] at hb
      have l := at_lo_le hP.1.1 b
      have u := at_hi_le hP.1.1 b
      have hx : x = 1 := Int32.toInt.inj (by rw [ea, e1]; rfl)
      obtain ⟨k, hk⟩ : ∃ k : Nat, y.toInt = k := ⟨y.toInt.toNat, by omega⟩
      have hy : y = Int32.ofNat k := Int32.toInt.inj (by rw [at_ofNat (by omega), hk])
      have hs := at_shl1 k (by omega)
      rw [hx, hy, hs]
      refine at_fr_ok hP ?_ ?_
      · have : (at_lo P.1 b).toNat ≤ k := by omega
        have := Nat.pow_le_pow_right (show 0 < 2 by decide) this
        exact_mod_cast this
      · have : k ≤ (at_hi P.1 b).toNat := by omega
        have := Nat.pow_le_pow_right (show 0 < 2 by decide) this
        exact_mod_cast this
  · exact at_fr_ok hP k1 k2
theorem at_cpy_ok (hX : at_XX X) {alts : List at_N} (h : at_G X m0 m ν S lv st fl fs) (e : at_cpy pc S lv st = some alts) : ∃ c, fl_n1 pc fl fs m = some c ∧ at_Nx X m0 ν S.1.1.length alts c := by
  unfold at_cpy at e
  split at e
  · rename_i an ad qb asp qa r
    obtain ⟨tb, pb⟩ := qb
    obtain ⟨ta, pa⟩ := qa
    obtain ⟨v0, s0, rfl, ⟨n, rfl, en⟩, hw0, hG0⟩ := h.pop
    obtain ⟨v1, s1, rfl, ⟨dp, rfl, ed⟩, hw1, hG1⟩ := hG0.pop
    obtain ⟨v2, s2, rfl, ⟨b, rfl, eb, hkb, hpb⟩, hw2, hG2⟩ := hG1.pop
    obtain ⟨v3, s3, rfl, ⟨sp, rfl, es⟩, hw3, hG3⟩ := hG2.pop
    obtain ⟨v4, s4, rfl, ⟨a, rfl, ea, hka, hpa⟩, hw4, hG4⟩ := hG3.pop
    dsimp only at e eb hkb ea hka
    split at e
    · rename_i n0 z0 n1 z1 e1 e2
      split at e
      · rename_i kn kd ks c1 c2 c3
        obtain ⟨hb, e⟩ := am_bif e
        simp only [Bool.and_eq_true, decide_eq_true_eq] at hb
        obtain ⟨b1, b2, b3, b4, b5, b6⟩ := hb
        split at e
        · rename_i S' eS
          cases e
          have c1 := at_ic_ok h.1.1.1.1 c1
          have c2 := at_ic_ok h.1.1.1.1 c2
          have c3 := at_ic_ok h.1.1.1.1 c3
          have tn : (n.toNatClampNeg : Int) = kn := by have : n.toNatClampNeg = n.toInt.toNat := rfl; omega
          have td : (dp.toNatClampNeg : Int) = kd := by have : dp.toNatClampNeg = dp.toInt.toNat := rfl; omega
          have ts : (sp.toNatClampNeg : Int) = ks := by have : sp.toNatClampNeg = sp.toInt.toNat := rfl; omega
          rw [← tn, ← td, ← ts] at eS
          obtain ⟨q1, q2⟩ := at_cp_ok (fun m p w => hX.2.2 m p w) h.1 (a := a) (b := b) (N := n0) hka hkb hpa hpb (by omega) eS
          have hneg : ∀ x : Int32, 0 ≤ x.toInt → ¬ x < 0 := fun x hx => by
            rw [Int32.lt_iff_toInt_lt]
            show ¬ x.toInt < 0
            omega
          have hcond : (decide (fl_sum s4 ≤ 8) && (!(decide (sp < 0)) && (!(decide (dp < 0)) && (!(decide (n < 0)) && (decide (sp.toNatClampNeg + n.toNatClampNeg ≤ n0) && decide (dp.toNatClampNeg + n.toNatClampNeg ≤ n1)))))) = true := by
            rw [hG4.2.2.2.1.sum, decide_eq_true b6, decide_eq_false (hneg sp (by omega)), decide_eq_false (hneg dp (by omega)), decide_eq_false (hneg n (by omega)), decide_eq_true (show sp.toNatClampNeg + n.toNatClampNeg ≤ n0 by omega), decide_eq_true (show dp.toNatClampNeg + n.toNatClampNeg ≤ n1 by omega)]
            rfl
          unfold fl_n1
          dsimp only
          rw [e1, e2]
          refine ⟨(pc + 3, fl, s4, (fl_row m.1 b (va_cpy (m.1 a) (m.1 b) sp.toNatClampNeg dp.toNatClampNeg n.toNatClampNeg), m.2)), ?_, at_Nx.one (by rfl) (ν' := ν) at_ag.rfl (by rw [q1]; exact Nat.le_refl _) (hG4.mem (m' := (fl_row m.1 b (va_cpy (m.1 a) (m.1 b) sp.toNatClampNeg dp.toNatClampNeg n.toNatClampNeg), m.2)) at_ag.rfl (by rw [q1]; exact Nat.le_refl _) (Nat.le_refl _) q2)⟩
          show (bif (decide (fl_sum s4 ≤ 8) && (!(decide (sp < 0)) && (!(decide (dp < 0)) && (!(decide (n < 0)) && (decide (sp.toNatClampNeg + n.toNatClampNeg ≤ n0) && decide (dp.toNatClampNeg + n.toNatClampNeg ≤ n1)))))) then _ else none) = _
          rw [hcond]
          rfl
        · cases e
      · cases e
    · cases e
  · cases e
theorem at_ts_ok {d lo hi : Int} {offs : Array Int} {x : Int32} {a : at_A} {alts : List at_N} (h : at_G X m0 m ν S lv r fl fs) (ha : at_wf S.1.1.length a) (ea : x.toInt = at_ev ν a) (e : at_ts a d lo hi offs pc S lv r = some alts) : ∃ c, (bif am_swk x lo hi offs then fl_go pc (am_sw x d lo hi offs) fl fs m else none) = some c ∧ at_Nx X m0 ν S.1.1.length alts c := by
  unfold at_ts at e
  obtain ⟨hb, e⟩ := am_bif e
  cases e
  simp only [Bool.and_eq_true, decide_eq_true_eq] at hb
  obtain ⟨b1, b2, b3⟩ := hb
  by_cases hx : x.toInt < lo ∨ hi < x.toInt
  · have e1 : am_swk x lo hi offs = true := by
      unfold am_swk
      rw [decide_eq_true hx]
      rfl
    have e2 : am_sw x d lo hi offs = d := by
      unfold am_sw
      rw [if_pos hx]
    rw [e1, e2]
    obtain ⟨t, et⟩ := Option.isSome_iff_exists.mp b3
    refine ⟨(t, fl, fs, m), ?_, (t, S, lv, r), ?_, ν, rfl, at_ag.rfl, Nat.le_refl _, h⟩
    · show fl_go pc d fl fs m = _
      unfold fl_go
      rw [et]
    · refine List.mem_append_right _ ?_
      have l := at_lo_le h.1.1.1.1 a
      have u := at_hi_le h.1.1.1.1 a
      have : (decide (lo ≤ at_lo S.1.1 a) && decide (at_hi S.1.1 a ≤ hi)) = false := by
        cases hc : decide (lo ≤ at_lo S.1.1 a) && decide (at_hi S.1.1 a ≤ hi) with
        | false => rfl
        | true =>
          simp only [Bool.and_eq_true, decide_eq_true_eq] at hc
          omega
      rw [this, et]
      exact List.mem_cons_self
  · have hk : (x.toInt - lo).toNat < offs.size := by omega
    obtain ⟨k, hk0⟩ : ∃ k, (x.toInt - lo).toNat = k := ⟨_, rfl⟩
    rw [hk0] at hk
    have e0 : offs[k]? = some offs[k] := Array.getElem?_eq_getElem hk
    have e1 : am_swk x lo hi offs = true := by
      unfold am_swk
      rw [hk0, e0]
      simp
    have e2 : am_sw x d lo hi offs = (offs[k]?).getD 0 := by
      unfold am_sw
      rw [if_neg hx, hk0, e0]
      rfl
    rw [e1, e2]
    have := List.all_eq_true.mp b2 k (List.mem_range.mpr hk)
    obtain ⟨t, et⟩ := Option.isSome_iff_exists.mp this
    have hz : at_cz .eq (at_ev ν (at_sub a (at_c (lo + k)))) = true := by
      rw [at_ev_sub, at_ev_c]
      exact decide_eq_true (by omega)
    obtain ⟨P', e3, hx3⟩ := at_cd_ok h.1.1 (at_wf_sub ha at_wf_c) hz
    refine ⟨(t, fl, fs, m), ?_, (t, (P', S.2), lv, r), ?_, ν, rfl, hx3.1, hx3.2.1, h.ext hx3⟩
    · show fl_go pc _ fl fs m = _
      unfold fl_go
      rw [et]
    · refine List.mem_append_left _ (List.mem_flatMap.mpr ⟨k, List.mem_range.mpr hk, ?_⟩)
      unfold at_tc
      rw [et]
      dsimp only
      rw [e3]
      exact List.mem_cons_self
end ATZ
