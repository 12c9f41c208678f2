/-! ===== fullness, off: by hand, the sums by the looker ===== -/
theorem at_vok {L : Nat} {xs : Nat → Int32} {c : at_C} (e : at_chk [] at_JT 4000 c = true) : at_Valid at_XI (pw_P L xs) c := at_chk_ok at_XI_XX (fun m h => by have := h.h40; omega) (fun c hc => by cases hc) e
theorem at_MD.rf {m : fl_M} {w : List at_W} : at_MD m m w := ⟨Nat.le_refl _, fun p j h => absurd rfl h⟩
theorem at_MD.tr {m0 m1 m2 : fl_M} {w : List at_W} (h1 : at_MD m0 m1 w) (h2 : at_MD m1 m2 w) : at_MD m0 m2 w := by
  refine ⟨Nat.le_trans h1.1 h2.1, fun p j hne => ?_⟩
  by_cases e : m2.1 p j = m1.1 p j
  · exact h1.2 p j (by rw [← e]; exact hne)
  · exact h2.2 p j e
theorem at_MD.wk {m0 m1 : fl_M} {w w' : List at_W} (h : at_MD m0 m1 w) (hs : ∀ x ∈ w, x ∈ w') : at_MD m0 m1 w' :=
  ⟨h.1, fun p j hne => by obtain ⟨x, hx, hc⟩ := h.2 p j hne; exact ⟨x, hs x hx, hc⟩⟩
theorem at_MD.same {m0 m1 : fl_M} (h : at_MD m0 m1 []) : m1.1 = m0.1 := by
  funext p j
  by_cases e : m1.1 p j = m0.1 p j
  · exact e
  · obtain ⟨x, hx, -⟩ := h.2 p j e
    cases hx
def at_kI : at_K := .inr (false, -2147483648, 2147483647)
def at_rI : Option (Nat ⊕ (Bool × Int × Int)) := some (.inr (false, -2147483648, 2147483647))
def at_rJ : Option (Nat ⊕ (Bool × Int × Int)) := some (.inr (true, -9223372036854775808, 9223372036854775807))
def at_cGet : at_C := (193, [.inl (76, some 277), .inr (false, 0, 15), .inr (false, 0, 60)], [], at_rI, false, [])
def at_cFull : at_C := (195, [.inl (76, some 277), .inr (false, 0, 15)], [], at_rI, false, [])
def at_cPAt : at_C := (196, [.inl (76, some 277), .inr (false, 0, 15), at_kI], [(1, 0)], at_rI, false, [])
def at_cPOf : at_C := (197, [.inl (76, some 277), .inr (false, 0, 15)], [(1, 0)], at_rI, false, [])
def at_cSize : at_C := (188, [at_kI], [], at_rI, false, [])
def at_cAF : at_C := (43, [.inl (1, some 1)], [], at_rJ, false, [])
def at_cAC : at_C := (42, [.inl (1, some 1)], [], at_rJ, false, [])
def at_cRP : at_C := (7, [.inl (18, none)], [], at_rI, false, [])
def at_cAbs : at_C := (333, [at_kI], [], at_rI, false, [])
set_option maxRecDepth 1000000 in
theorem at_cGet_k : at_chk [] at_JT 4000 at_cGet = true := by decide +kernel
set_option maxRecDepth 1000000 in
theorem at_cFull_k : at_chk [] at_JT 4000 at_cFull = true := by decide +kernel
set_option maxRecDepth 1000000 in
theorem at_cPAt_k : at_chk [] at_JT 4000 at_cPAt = true := by decide +kernel
set_option maxRecDepth 1000000 in
theorem at_cPOf_k : at_chk [] at_JT 4000 at_cPOf = true := by decide +kernel
set_option maxRecDepth 1000000 in
theorem at_cSize_k : at_chk [] at_JT 4000 at_cSize = true := by decide +kernel
set_option maxRecDepth 1000000 in
theorem at_cAF_k : at_chk [] at_JT 4000 at_cAF = true := by decide +kernel
set_option maxRecDepth 1000000 in
theorem at_cAC_k : at_chk [] at_JT 4000 at_cAC = true := by decide +kernel
set_option maxRecDepth 1000000 in
theorem at_cRP_k : at_chk [] at_JT 4000 at_cRP = true := by decide +kernel
set_option maxRecDepth 1000000 in
theorem at_cAbs_k : at_chk [] at_JT 4000 at_cAbs = true := by decide +kernel
theorem at_k277 (h : Nat) : ∃ p, (at_this : fl_V) = .inr (.inr (.inl (76, p))) ∧ fk_K p = 76 ∧ p < fl_N h ∧ ∀ q, some 277 = some q → p = q := ⟨277, rfl, by decide +kernel, by unfold fl_N; omega, fun q h => by cases h; rfl⟩
theorem at_kint (h : Nat) {x : Int32} : at_agk h [at_kI] [.inl x] := ⟨⟨x, rfl, (at_i32 x).1, (at_i32 x).2⟩, True.intro⟩
section ATFL
variable {L : Nat} {xs : Nat → Int32}
theorem at_v156 : at_Valid at_XI (pw_P L xs) (156, [.inl (0, some 0)], [], some (.inr (true, -9223372036854775808, 9223372036854775807)), false, []) := by
  intro m vs hg hk _
  cases vs with
  | nil => cases hk
  | cons v r =>
  obtain ⟨⟨p, rfl, e1, e2, e3⟩, hr⟩ := hk
  have e4 := e3 0 rfl
  subst e4
  have hr0 := at_agnil (vs := r) hr
  subst hr0
  have k1 : ∀ h : Nat, at_agk h [.inl (1, some 1)] [.inr (.inr (.inl (1, 1)))] := fun h => ⟨⟨1, rfl, by decide +kernel, by unfold fl_N; omega, fun q h => by cases h; rfl⟩, True.intro⟩
  refine fl_Tq.stp rfl rfl (fl_bo rfl) rfl ?_
  refine fl_Tq.stp rfl rfl (fl_bo rfl) rfl ?_
  refine fl_Tq.cal rfl rfl (fl_bo rfl) rfl ?_
  refine fl_Tq.mono (at_vok at_cAF_k m [.inr (.inr (.inl (1, 1)))] hg (k1 _) (fun q hq => by cases hq)) (fun v m1 ⟨hg1, hm1, hv1⟩ => ?_)
  obtain ⟨x, rfl, -⟩ := hv1
  refine fl_Tq.stp rfl rfl (fl_bo rfl) rfl ?_
  refine fl_Tq.stp rfl rfl (fl_bo rfl) rfl ?_
  refine fl_Tq.stp rfl rfl (fl_bo rfl) rfl ?_
  refine fl_Tq.stp rfl rfl (fl_bo rfl) rfl ?_
  cases hb : am_c1 .ne (lg_cmp x 0) with
  | false =>
    refine fl_Tq.zf rfl (fl_bo rfl) hb rfl ?_
    refine fl_Tq.stp rfl rfl (fl_bo rfl) rfl ?_
    exact fl_Tq.ret rfl rfl rfl ⟨hg1, hm1, ⟨0, rfl, by decide, by decide, fun h => by cases h⟩⟩
  | true =>
    have hx : x ≠ 0 := fun h => by rw [h] at hb; exact absurd hb (by decide)
    refine fl_Tq.zt rfl (fl_bo rfl) hb rfl ?_
    refine fl_Tq.stp rfl rfl (fl_bo rfl) rfl ?_
    refine fl_Tq.stp rfl rfl (fl_bo rfl) rfl ?_
    refine fl_Tq.cal rfl rfl (fl_bo rfl) rfl ?_
    refine fl_Tq.mono (at_vok at_cAC_k m1 [.inr (.inr (.inl (1, 1)))] hg1 (k1 _) (fun q hq => by cases hq)) (fun v m2 ⟨hg2, hm2, hv2⟩ => ?_)
    obtain ⟨y, rfl, -⟩ := hv2
    refine fl_Tq.un (w := fl_d (FP.l2d y)) rfl rfl rfl (fun _ _ _ => rfl) ?_
    refine fl_Tq.stp rfl rfl (fl_bo rfl) rfl ?_
    refine fl_Tq.un (w := fl_d (FP.l2d x)) rfl rfl rfl (fun _ _ _ => rfl) ?_
    have nn : vf_n64 (FP.ddiv (FP.l2d y) (FP.l2d x)) := fp_div64 (fp_of_int64 y).1 ((fp_of_int64 x).2 hx).1 ((fp_of_int64 x).2 hx).2
    refine fl_Tq.bi (u := fl_d (FP.ddiv (FP.l2d y) (FP.l2d x))) rfl rfl rfl (fl_dbin (fun _ _ _ => rfl) nn) ?_
    refine fl_Tq.cal rfl rfl (fl_bo rfl) rfl ?_
    refine at_181 nn (fun z => ?_)
    refine fl_Tq.ret rfl rfl rfl ⟨hg2, hm1.tr hm2, ⟨z, rfl, ?_, ?_, fun h => by cases h⟩⟩
    · exact Int64.le_toInt z
    · have := Int64.toInt_lt z; omega
theorem at_v292 : at_Valid at_XI (pw_P L xs) (292, [.inl (76, some 277)], [], some (.inr (true, -9223372036854775808, 9223372036854775807)), false, []) := by
  intro m vs hg hk _
  obtain ⟨r, rfl, hk2⟩ := at_ag277 hk
  have hr0 := at_agnil (vs := r) hk2
  subst hr0
  have w2 : 0 ≤ (m.1 280 2).toInt ∧ (m.1 280 2).toInt ≤ 16 := hg.w2
  refine fl_Tq.stp rfl rfl (fl_bo rfl) rfl ?_
  refine fl_Tq.stp rfl rfl (fl_bo rfl) rfl ?_
  refine fl_Tq.stp rfl rfl (fl_bo rfl) rfl ?_
  refine fl_Tq.stp rfl rfl (fl_bo rfl) rfl ?_
  refine fl_Tq.stp rfl rfl (fl_bo rfl) rfl ?_
  refine fl_Tq.stp rfl rfl (fl_bo rfl) rfl ?_
  have loop : ∀ (d n : Nat) (s a : Int64) (m1 : fl_M), ((n + d : Nat) : Int) = (m.1 280 2).toInt → at_Good at_XI m1 → at_MD m m1 [] → fl_Tq (pw_P L xs) 292 7 [some at_this, some (fl_j s), none, some (fl_j a), none, some (.inl (Int32.ofNat n))] [] m1 (fun v m' => at_Good at_XI m' ∧ at_MD m m' [] ∧ at_rtc at_rJ false m' v) := by
    intro d
    induction d with
    | zero =>
      intro n s a m1 hn hg1 hm1
      have en := at_ofN (k := n) (by omega)
      refine fl_Tq.stp rfl rfl (fl_bo rfl) rfl ?_
      refine fl_Tq.stp rfl rfl (fl_bo rfl) rfl ?_
      refine fl_Tq.stp rfl rfl (fl_bo rfl) rfl ?_
      refine fl_Tq.stp rfl rfl (fl_bo rfl) rfl ?_
      refine fl_Tq.ld (p := 280) (τ := 79) (n := 29780) (z := (0, 0, 0)) (k := 2) rfl (fl_bo rfl) rfl rfl (by decide) ?_
      rw [hm1.same]
      refine fl_Tq.jt rfl (fl_bo rfl) ?_ rfl ?_
      · rw [at_c2, en]
        exact decide_eq_true (by omega)
      refine fl_Tq.stp rfl rfl (fl_bo rfl) rfl ?_
      refine fl_Tq.stp rfl rfl (fl_bo rfl) rfl ?_
      refine fl_Tq.stp rfl rfl (fl_bo rfl) rfl ?_
      cases hb : am_c1 .ne (lg_cmp a 0) with
      | false =>
        refine fl_Tq.zf rfl (fl_bo rfl) hb rfl ?_
        refine fl_Tq.stp rfl rfl (fl_bo rfl) rfl ?_
        refine fl_Tq.stp rfl rfl (fl_bo rfl) rfl ?_
        exact fl_Tq.ret rfl rfl rfl ⟨hg1, hm1, ⟨0, rfl, by decide, by decide, fun h => by cases h⟩⟩
      | true =>
        have hx : a ≠ 0 := fun h => by rw [h] at hb; exact absurd hb (by decide)
        refine fl_Tq.zt rfl (fl_bo rfl) hb rfl ?_
        refine fl_Tq.stp rfl rfl (fl_bo rfl) rfl ?_
        refine fl_Tq.un (w := fl_d (FP.l2d s)) rfl rfl rfl (fun _ _ _ => rfl) ?_
        refine fl_Tq.stp rfl rfl (fl_bo rfl) rfl ?_
        refine fl_Tq.un (w := fl_d (FP.l2d a)) rfl rfl rfl (fun _ _ _ => rfl) ?_
        have nn : vf_n64 (FP.ddiv (FP.l2d s) (FP.l2d a)) := fp_div64 (fp_of_int64 s).1 ((fp_of_int64 a).2 hx).1 ((fp_of_int64 a).2 hx).2
        refine fl_Tq.bi (u := fl_d (FP.ddiv (FP.l2d s) (FP.l2d a))) rfl rfl rfl (fl_dbin (fun _ _ _ => rfl) nn) ?_
        refine fl_Tq.cal rfl rfl (fl_bo rfl) rfl ?_
        refine at_327 (fun z => ?_)
        refine fl_Tq.ret rfl rfl rfl ⟨hg1, hm1, ⟨z, rfl, ?_, ?_, fun h => by cases h⟩⟩
        · exact Int64.le_toInt z
        · have := Int64.toInt_lt z; omega
    | succ d ih =>
      intro n s a m1 hn hg1 hm1
      have en := at_ofN (k := n) (by omega)
      refine fl_Tq.stp rfl rfl (fl_bo rfl) rfl ?_
      refine fl_Tq.stp rfl rfl (fl_bo rfl) rfl ?_
      refine fl_Tq.stp rfl rfl (fl_bo rfl) rfl ?_
      refine fl_Tq.stp rfl rfl (fl_bo rfl) rfl ?_
      refine fl_Tq.ld (p := 280) (τ := 79) (n := 29780) (z := (0, 0, 0)) (k := 2) rfl (fl_bo rfl) rfl rfl (by decide) ?_
      rw [hm1.same]
      refine fl_Tq.jf rfl (fl_bo rfl) ?_ rfl ?_
      · rw [at_c2, en]
        exact decide_eq_false (by omega)
      refine fl_Tq.stp rfl rfl (fl_bo rfl) rfl ?_
      refine fl_Tq.stp rfl rfl (fl_bo rfl) rfl ?_
      refine fl_Tq.stp rfl rfl (fl_bo rfl) rfl ?_
      refine fl_Tq.stp rfl rfl (fl_bo rfl) rfl ?_
      refine fl_Tq.cal rfl rfl (fl_bo rfl) rfl ?_
      refine fl_Tq.mono (at_vok at_cGet_k m1 [at_this, .inl (Int32.ofNat n), .inl (Int32.ofInt 1)] hg1 ⟨at_k277 _, ⟨_, rfl, by omega, by omega⟩, ⟨_, rfl, by decide, by decide⟩, True.intro⟩ (fun q hq => by cases hq)) (fun v m2 ⟨hg2, hm2, hv2⟩ => ?_)
      obtain ⟨x, rfl, -⟩ := hv2
      refine fl_Tq.stp rfl rfl (fl_bo rfl) rfl ?_
      refine fl_Tq.stp rfl rfl (fl_bo rfl) rfl ?_
      refine fl_Tq.stp rfl rfl (fl_bo rfl) rfl ?_
      refine fl_Tq.stp rfl rfl (fl_bo rfl) rfl ?_
      refine fl_Tq.stp rfl rfl (fl_bo rfl) rfl ?_
      refine fl_Tq.stp rfl rfl (fl_bo rfl) rfl ?_
      refine fl_Tq.cal rfl rfl (fl_bo rfl) rfl ?_
      refine fl_Tq.mono (at_vok at_cFull_k m2 [at_this, .inl (Int32.ofNat n)] hg2 ⟨at_k277 _, ⟨_, rfl, by omega, by omega⟩, True.intro⟩ (fun q hq => by cases hq)) (fun v m3 ⟨hg3, hm3, hv3⟩ => ?_)
      obtain ⟨y, rfl, -⟩ := hv3
      refine fl_Tq.stp rfl rfl (fl_bo rfl) rfl ?_
      refine fl_Tq.stp rfl rfl (fl_bo rfl) rfl ?_
      refine fl_Tq.stp rfl rfl (fl_bo rfl) rfl ?_
      refine fl_Tq.stp rfl rfl (fl_bo rfl) rfl ?_
      refine fl_Tq.stp rfl rfl (fl_bo rfl) rfl ?_
      have := ih (n + 1) (s + x.toInt64) (a + y.toInt64) m3 (by omega) hg3 ((hm1.tr hm2).tr hm3)
      rw [← at_inc (by omega)] at this
      exact this
  exact loop (m.1 280 2).toInt.toNat 0 0 0 m (by omega) hg at_MD.rf
theorem at_v293 : at_Valid at_XI (pw_P L xs) (293, [.inl (76, some 277)], [], some (.inr (false, -2147483648, 2147483647)), false, []) := by
  intro m vs hg hk _
  obtain ⟨r, rfl, hk2⟩ := at_ag277 hk
  have hr0 := at_agnil (vs := r) hk2
  subst hr0
  have w2 : 0 ≤ (m.1 280 2).toInt ∧ (m.1 280 2).toInt ≤ 16 := hg.w2
  refine fl_Tq.stp rfl rfl (fl_bo rfl) rfl ?_
  refine fl_Tq.stp rfl rfl (fl_bo rfl) rfl ?_
  refine fl_Tq.stp rfl rfl (fl_bo rfl) rfl ?_
  refine fl_Tq.stp rfl rfl (fl_bo rfl) rfl ?_
  have loop : ∀ (d n : Nat) (s : Int32) (m1 : fl_M), ((n + d : Nat) : Int) = (m.1 280 2).toInt → at_Good at_XI m1 → at_MD m m1 [] → fl_Tq (pw_P L xs) 293 4 [some at_this, some (.inl s), some (.inl (Int32.ofNat n))] [] m1 (fun v m' => at_Good at_XI m' ∧ at_MD m m' [] ∧ at_rtc at_rI false m' v) := by
    intro d
    induction d with
    | zero =>
      intro n s m1 hn hg1 hm1
      have en := at_ofN (k := n) (by omega)
      refine fl_Tq.stp rfl rfl (fl_bo rfl) rfl ?_
      refine fl_Tq.stp rfl rfl (fl_bo rfl) rfl ?_
      refine fl_Tq.stp rfl rfl (fl_bo rfl) rfl ?_
      refine fl_Tq.stp rfl rfl (fl_bo rfl) rfl ?_
      refine fl_Tq.ld (p := 280) (τ := 79) (n := 29780) (z := (0, 0, 0)) (k := 2) rfl (fl_bo rfl) rfl rfl (by decide) ?_
      rw [hm1.same]
      refine fl_Tq.jt rfl (fl_bo rfl) ?_ rfl ?_
      · rw [at_c2, en]
        exact decide_eq_true (by omega)
      refine fl_Tq.stp rfl rfl (fl_bo rfl) rfl ?_
      refine fl_Tq.stp rfl rfl (fl_bo rfl) rfl ?_
      refine fl_Tq.stp rfl rfl (fl_bo rfl) rfl ?_
      refine fl_Tq.ld (p := 280) (τ := 79) (n := 29780) (z := (0, 0, 0)) (k := 2) rfl (fl_bo rfl) rfl rfl (by decide) ?_
      rw [hm1.same]
      cases hb : am_c1 .ne (m.1 280 2) with
      | false =>
        refine fl_Tq.zf rfl (fl_bo rfl) hb rfl ?_
        refine fl_Tq.stp rfl rfl (fl_bo rfl) rfl ?_
        refine fl_Tq.stp rfl rfl (fl_bo rfl) rfl ?_
        exact fl_Tq.ret rfl rfl rfl ⟨hg1, hm1, ⟨_, rfl, (at_i32 _).1, (at_i32 _).2, fun h => by cases h⟩⟩
      | true =>
        have hx : m.1 280 2 ≠ 0 := fun h => by rw [h] at hb; exact absurd hb (by decide)
        refine fl_Tq.zt rfl (fl_bo rfl) hb rfl ?_
        refine fl_Tq.stp rfl rfl (fl_bo rfl) rfl ?_
        refine fl_Tq.un (w := fl_f (FP.i2f s)) rfl rfl rfl (fun _ _ _ => rfl) ?_
        refine fl_Tq.stp rfl rfl (fl_bo rfl) rfl ?_
        refine fl_Tq.stp rfl rfl (fl_bo rfl) rfl ?_
        refine fl_Tq.stp rfl rfl (fl_bo rfl) rfl ?_
        refine fl_Tq.ld (p := 280) (τ := 79) (n := 29780) (z := (0, 0, 0)) (k := 2) rfl (fl_bo rfl) rfl rfl (by decide) ?_
        rw [hm1.same]
        refine fl_Tq.un (w := fl_f (FP.i2f (m.1 280 2))) rfl rfl rfl (fun _ _ _ => rfl) ?_
        have nn : vf_n32 (FP.fdiv (FP.i2f s) (FP.i2f (m.1 280 2))) := fp_div32 (fp_of_int32 s).1 ((fp_of_int32 _).2 hx).1 ((fp_of_int32 _).2 hx).2
        refine fl_Tq.bi (u := fl_f (FP.fdiv (FP.i2f s) (FP.i2f (m.1 280 2)))) rfl rfl rfl (fl_fbin (fun _ _ _ => rfl) nn) ?_
        refine fl_Tq.cal rfl rfl (fl_bo rfl) rfl ?_
        refine at_329 (fun z => ?_)
        exact fl_Tq.ret rfl rfl rfl ⟨hg1, hm1, ⟨z, rfl, (at_i32 _).1, (at_i32 _).2, fun h => by cases h⟩⟩
    | succ d ih =>
      intro n s m1 hn hg1 hm1
      have en := at_ofN (k := n) (by omega)
      have lt : ∀ m' : fl_M, m'.1 = m.1 → (Int32.ofNat n).toInt + 0 + 1 ≤ at_w m' 2 := fun m' e => by
        unfold at_w
        rw [e, en]
        omega
      refine fl_Tq.stp rfl rfl (fl_bo rfl) rfl ?_
      refine fl_Tq.stp rfl rfl (fl_bo rfl) rfl ?_
      refine fl_Tq.stp rfl rfl (fl_bo rfl) rfl ?_
      refine fl_Tq.stp rfl rfl (fl_bo rfl) rfl ?_
      refine fl_Tq.ld (p := 280) (τ := 79) (n := 29780) (z := (0, 0, 0)) (k := 2) rfl (fl_bo rfl) rfl rfl (by decide) ?_
      rw [hm1.same]
      refine fl_Tq.jf rfl (fl_bo rfl) ?_ rfl ?_
      · rw [at_c2, en]
        exact decide_eq_false (by omega)
      refine fl_Tq.stp rfl rfl (fl_bo rfl) rfl ?_
      refine fl_Tq.stp rfl rfl (fl_bo rfl) rfl ?_
      refine fl_Tq.stp rfl rfl (fl_bo rfl) rfl ?_
      refine fl_Tq.stp rfl rfl (fl_bo rfl) rfl ?_
      refine fl_Tq.stp rfl rfl (fl_bo rfl) rfl ?_
      refine fl_Tq.stp rfl rfl (fl_bo rfl) rfl ?_
      refine fl_Tq.cal rfl rfl (fl_bo rfl) rfl ?_
      refine fl_Tq.mono (at_vok at_cGet_k m1 [at_this, .inl (Int32.ofNat n), .inl (Int32.ofInt 4)] hg1 ⟨at_k277 _, ⟨_, rfl, by omega, by omega⟩, ⟨_, rfl, by decide, by decide⟩, True.intro⟩ (fun q hq => by cases hq)) (fun v m2 ⟨hg2, hm2, hv2⟩ => ?_)
      obtain ⟨x, rfl, -⟩ := hv2
      have s2 := (hm1.tr hm2).same
      refine fl_Tq.cal rfl rfl (fl_bo rfl) rfl ?_
      refine fl_Tq.mono (at_vok at_cPAt_k m2 [at_this, .inl (Int32.ofNat n), .inl x] hg2 ⟨at_k277 _, ⟨_, rfl, by omega, by omega⟩, at_kint _⟩ (fun q hq => by cases List.mem_singleton.mp hq; exact ⟨_, rfl, lt m2 s2⟩)) (fun v m3 ⟨hg3, hm3, hv3⟩ => ?_)
      obtain ⟨y, rfl, -⟩ := hv3
      have s3 := ((hm1.tr hm2).tr hm3).same
      refine fl_Tq.stp rfl rfl (fl_bo rfl) rfl ?_
      refine fl_Tq.stp rfl rfl (fl_bo rfl) rfl ?_
      refine fl_Tq.cal rfl rfl (fl_bo rfl) rfl ?_
      refine fl_Tq.mono (at_vok at_cPOf_k m3 [at_this, .inl (Int32.ofNat n)] hg3 ⟨at_k277 _, ⟨_, rfl, by omega, by omega⟩, True.intro⟩ (fun q hq => by cases List.mem_singleton.mp hq; exact ⟨_, rfl, lt m3 s3⟩)) (fun v m4 ⟨hg4, hm4, hv4⟩ => ?_)
      obtain ⟨z, rfl, -⟩ := hv4
      refine fl_Tq.stp rfl rfl (fl_bo rfl) rfl ?_
      refine fl_Tq.cal rfl rfl (fl_bo rfl) rfl ?_
      refine fl_Tq.mono (at_vok at_cSize_k m4 [.inl (y - z)] hg4 (at_kint _) (fun q hq => by cases hq)) (fun v m5 ⟨hg5, hm5, hv5⟩ => ?_)
      obtain ⟨u, rfl, -⟩ := hv5
      refine fl_Tq.stp rfl rfl (fl_bo rfl) rfl ?_
      refine fl_Tq.stp rfl rfl (fl_bo rfl) rfl ?_
      refine fl_Tq.stp rfl rfl (fl_bo rfl) rfl ?_
      refine fl_Tq.stp rfl rfl (fl_bo rfl) rfl ?_
      have := ih (n + 1) (s + u) m5 (by omega) hg5 ((((hm1.tr hm2).tr hm3).tr hm4).tr hm5)
      rw [← at_inc (by omega)] at this
      exact this
  exact loop (m.1 280 2).toInt.toNat 0 0 m (by omega) hg at_MD.rf
end ATFL
