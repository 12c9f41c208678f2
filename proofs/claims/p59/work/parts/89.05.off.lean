/-! ===== the class's off ===== -/
theorem fl_Tq.qld {P : am_Pg} {mi pc p k : Nat} {lv : fl_L} {r : List fl_V} {m : fl_M} {τ n t b d : Nat} {i : Int32} {Q : Option fl_V → fl_M → Prop} (hc : am_code P mi pc = some .aaload) (hok : ∀ v ∈ (.inl i :: .inr (.inr (.inl (τ, p))) :: r : List fl_V), fl_ok m.2.2 v) (hk : fk_kd τ = .inr (2, n, t, b, d + 1)) (hi : i.toInt = k) (hlt : k < n) (q : fl_Tq P mi (pc + 1) lv (.inr (.inr (.inl (t, p + b + (d + 1) * k))) :: r) m Q) : fl_Tq P mi pc lv (.inl i :: .inr (.inr (.inl (τ, p))) :: r) m Q := by
  refine fl_Tq.stp (pc' := pc + 1) (lv' := lv) (st' := .inr (.inr (.inl (t, p + b + (d + 1) * k))) :: r) (m' := m) hc rfl hok ?_ q
  obtain ⟨h1, h2⟩ := at_in_ok (i := i) (n := n) (by omega) (by omega)
  have h3 : i.toNatClampNeg = k := by omega
  show ((match fk_kd τ with
    | .inr (t, n, τ', b, d) => bif decide (2 ≤ t ∧ t < 5) && (decide (d ≠ 0) && am_in i n) then some (pc + 1, lv, .inr (.inr (.inl (τ', p + b + d * i.toNatClampNeg))) :: r, m) else none
    | _ => none) : Option fl_C) = _
  rw [hk]
  show ((bif decide (2 ≤ 2 ∧ 2 < 5) && (decide (d + 1 ≠ 0) && am_in i n) then some (pc + 1, lv, .inr (.inr (.inl (t, p + b + (d + 1) * i.toNatClampNeg))) :: r, m) else none) : Option fl_C) = _
  rw [h1, h3, decide_eq_true (show d + 1 ≠ 0 by omega)]
  rfl
section ATOF
variable {L : Nat} {xs : Nat → Int32}
theorem at_v157 : at_Valid at_XI (pw_P L xs) (157, [.inl (0, some 0)], [], some (.inr (false, -2147483648, 2147483647)), false, []) := by
  intro m vs hg hk _
  cases vs with
  | nil => cases hk
  | cons v r =>
  obtain ⟨⟨p, rfl, e1, e2, e3⟩, hr⟩ := hk
  have e4 := e3 0 rfl
  subst e4
  have hr0 := at_agnil (vs := r) hr
  subst hr0
  have w2 : 0 ≤ (m.1 1 5).toInt ∧ (m.1 1 5).toInt ≤ 16 := by
    refine hg.1 1 (by unfold fl_N; omega) (0, 5, 0, 1, 1, 0, 16) ?_ 5 ⟨0, 0, by decide, by decide, by decide, by decide, by decide⟩
    decide +kernel
  have kc : ∀ n : Nat, n < 16 → fk_K (18 + 4 * n) = 18 := by
    intro n hn
    have : ∀ n : Fin 16, fk_K (18 + 4 * n.val) = 18 := by decide +kernel
    exact this ⟨n, hn⟩
  refine fl_Tq.stp rfl rfl (fl_bo rfl) rfl ?_
  refine fl_Tq.stp rfl rfl (fl_bo rfl) rfl ?_
  refine fl_Tq.stp rfl rfl (fl_bo rfl) rfl ?_
  cases hb : am_c1 .ne (m.1 1 5) with
  | false =>
    refine fl_Tq.zf rfl (fl_bo rfl) hb rfl ?_
    refine fl_Tq.stp rfl rfl (fl_bo rfl) rfl ?_
    exact fl_Tq.ret rfl rfl rfl ⟨hg, at_MD.rf, ⟨_, rfl, (at_i32 _).1, (at_i32 _).2, fun h => by cases h⟩⟩
  | true =>
    have hx : m.1 1 5 ≠ 0 := fun h => by rw [h] at hb; exact absurd hb (by decide)
    refine fl_Tq.zt rfl (fl_bo rfl) hb rfl ?_
    refine fl_Tq.stp rfl rfl (fl_bo rfl) rfl ?_
    refine fl_Tq.stp rfl rfl (fl_bo rfl) rfl ?_
    refine fl_Tq.stp rfl rfl (fl_bo rfl) rfl ?_
    refine fl_Tq.stp rfl rfl (fl_bo rfl) rfl ?_
    have loop : ∀ (d n : Nat) (s : Int32) (m1 : fl_M), ((n + d : Nat) : Int) = (m.1 1 5).toInt → at_Good at_XI m1 → at_MD m m1 [] → fl_Tq (pw_P L xs) 157 16 [some (.inr (.inr (.inl (0, 0)))), some (.inl s), some (.inl (Int32.ofNat n))] [] m1 (fun v m' => at_Good at_XI m' ∧ at_MD m m' [] ∧ at_rtc at_rI false m' v) := by
      intro d
      induction d with
      | zero =>
        intro n s m1 hn hg1 hm1
        have en := at_ofN (k := n) (by omega)
        refine fl_Tq.stp rfl rfl (fl_bo rfl) rfl ?_
        refine fl_Tq.stp rfl rfl (fl_bo rfl) rfl ?_
        refine fl_Tq.stp rfl rfl (fl_bo rfl) rfl ?_
        refine fl_Tq.stp rfl rfl (fl_bo rfl) rfl ?_
        have hw : m1.1 (0 + 1) 5 = m.1 1 5 := by rw [hm1.same]
        refine fl_Tq.jt rfl (fl_bo rfl) ?_ rfl ?_
        · show am_c2 .ge (Int32.ofNat n) (m1.1 (0 + 1) 5) = true
          rw [hw, at_c2, en]
          exact decide_eq_true (by omega)
        refine fl_Tq.stp rfl rfl (fl_bo rfl) rfl ?_
        refine fl_Tq.un (w := fl_f (FP.i2f s)) rfl rfl rfl (fun _ _ _ => rfl) ?_
        refine fl_Tq.stp rfl rfl (fl_bo rfl) rfl ?_
        refine fl_Tq.stp rfl rfl (fl_bo rfl) rfl ?_
        refine fl_Tq.stp rfl rfl (fl_bo rfl) rfl ?_
        refine fl_Tq.un (w := fl_f (FP.i2f (m1.1 (0 + 1) 5))) rfl rfl rfl (fun _ _ _ => rfl) ?_
        have hx' : m1.1 (0 + 1) 5 ≠ 0 := by rw [hw]; exact hx
        have nn : vf_n32 (FP.fdiv (FP.i2f s) (FP.i2f (m1.1 (0 + 1) 5))) := fp_div32 (fp_of_int32 s).1 ((fp_of_int32 _).2 hx').1 ((fp_of_int32 _).2 hx').2
        refine fl_Tq.bi (u := fl_f (FP.fdiv (FP.i2f s) (FP.i2f (m1.1 (0 + 1) 5)))) rfl rfl rfl (fl_fbin (fun _ _ _ => rfl) nn) ?_
        refine fl_Tq.cal rfl rfl (fl_bo rfl) rfl ?_
        refine at_182 nn (fun z => ?_)
        exact fl_Tq.ret rfl rfl rfl ⟨hg1, hm1, ⟨z, rfl, (at_i32 _).1, (at_i32 _).2, fun h => by cases h⟩⟩
      | succ d ih =>
        intro n s m1 hn hg1 hm1
        have en := at_ofN (k := n) (by omega)
        have hn16 : n < 16 := by omega
        refine fl_Tq.stp rfl rfl (fl_bo rfl) rfl ?_
        refine fl_Tq.stp rfl rfl (fl_bo rfl) rfl ?_
        refine fl_Tq.stp rfl rfl (fl_bo rfl) rfl ?_
        refine fl_Tq.stp rfl rfl (fl_bo rfl) rfl ?_
        have hw : m1.1 (0 + 1) 5 = m.1 1 5 := by rw [hm1.same]
        refine fl_Tq.jf rfl (fl_bo rfl) ?_ rfl ?_
        · show am_c2 .ge (Int32.ofNat n) (m1.1 (0 + 1) 5) = false
          rw [hw, at_c2, en]
          exact decide_eq_false (by omega)
        refine fl_Tq.stp rfl rfl (fl_bo rfl) rfl ?_
        refine fl_Tq.stp rfl rfl (fl_bo rfl) rfl ?_
        refine fl_Tq.stp rfl rfl (fl_bo rfl) rfl ?_
        refine fl_Tq.stp rfl rfl (fl_bo rfl) rfl ?_
        refine fl_Tq.stp rfl rfl (fl_bo rfl) rfl ?_
        have kcell : ∀ h : Nat, fl_ok h (.inr (.inr (.inl (18, 2 + 16 + (3 + 1) * n)))) := fun h => ⟨by have := kc n hn16; rw [show 2 + 16 + (3 + 1) * n = 18 + 4 * n by omega]; exact this, by show 2 + 16 + (3 + 1) * n < fl_N h; unfold fl_N; omega⟩
        refine fl_Tq.qld (p := 2) (τ := 2) (n := 16) (t := 18) (b := 16) (d := 3) (k := n) rfl (fl_bo rfl) rfl en hn16 ?_
        refine fl_Tq.cal rfl rfl (fl_oks_ok ⟨kcell _, True.intro, True.intro⟩) rfl ?_
        refine fl_Tq.mono (at_vok at_cRP_k m1 [.inr (.inr (.inl (18, 2 + 16 + (3 + 1) * n)))] hg1 ⟨⟨_, rfl, (kcell m1.2.2).1, (kcell m1.2.2).2, fun q h => by cases h⟩, True.intro⟩ (fun q hq => by cases hq)) (fun v m2 ⟨hg2, hm2, hv2⟩ => ?_)
        obtain ⟨x, rfl, -⟩ := hv2
        refine fl_Tq.stp rfl rfl (fl_bo rfl) rfl ?_
        refine fl_Tq.stp rfl rfl (fl_bo rfl) rfl ?_
        refine fl_Tq.stp rfl rfl (fl_bo rfl) rfl ?_
        refine fl_Tq.stp rfl rfl (fl_bo rfl) rfl ?_
        refine fl_Tq.qld (p := 2) (τ := 2) (n := 16) (t := 18) (b := 16) (d := 3) (k := n) rfl (fl_bo rfl) rfl en hn16 ?_
        refine fl_Tq.stp rfl rfl (fl_oks_ok ⟨kcell _, True.intro, True.intro, True.intro⟩) rfl ?_
        refine fl_Tq.stp rfl rfl (fl_bo rfl) rfl ?_
        refine fl_Tq.cal rfl rfl (fl_bo rfl) rfl ?_
        refine fl_Tq.mono (at_vok at_cAbs_k m2 [.inl (x - m2.1 (2 + 16 + (3 + 1) * n) 3)] hg2 (at_kint _) (fun q hq => by cases hq)) (fun v m3 ⟨hg3, hm3, hv3⟩ => ?_)
        obtain ⟨u, rfl, -⟩ := hv3
        refine fl_Tq.stp rfl rfl (fl_bo rfl) rfl ?_
        refine fl_Tq.stp rfl rfl (fl_bo rfl) rfl ?_
        refine fl_Tq.stp rfl rfl (fl_bo rfl) rfl ?_
        refine fl_Tq.stp rfl rfl (fl_bo rfl) rfl ?_
        have := ih (n + 1) (s + u) m3 (by omega) hg3 ((hm1.tr hm2).tr hm3)
        rw [← at_inc (by omega)] at this
        exact this
    exact loop (m.1 1 5).toInt.toNat 0 0 m (by omega) hg at_MD.rf
end ATOF
