/-! ===== layPrices, cheapest ===== -/
section ATLY
variable {L : Nat} {xs : Nat → Int32} {m : fl_M} {Q : Option fl_V → fl_M → Prop}
/-- one place of the table -/
theorem at_lay1 {h k x : Nat} (bh : h ≤ 24) (bk : k < 25) (bx : x < 26) {m1 : fl_M} (hT : at_TL m m1) (hP : at_LP ((h * 25 + k) * 26 + x) m1) (o4 o5 : Option fl_V)
    (kk : ∀ (m2 : fl_M) (o4 o5 : Option fl_V), at_TL m m2 → at_LP ((h * 25 + k) * 26 + x + 1) m2 → fl_Tq (pw_P L xs) 307 18 [some at_this, some (.inl (Int32.ofNat h)), some (.inl (Int32.ofNat k)), some (.inl (Int32.ofNat (x + 1))), o4, o5] [] m2 Q) :
    fl_Tq (pw_P L xs) 307 24 [some at_this, some (.inl (Int32.ofNat h)), some (.inl (Int32.ofNat k)), some (.inl (Int32.ofNat x)), o4, o5] [] m1 Q := by
  have eh := at_ofN (k := h) (by omega)
  have ek := at_ofN (k := k) (by omega)
  have ex := at_ofN (k := x) (by omega)
  obtain ⟨exd, exm⟩ := at_half ex
  have hN : at_px h k (x / 2) (x % 2) = (h * 25 + k) * 26 + x := by unfold at_px; omega
  have bN : (h * 25 + k) * 26 + x < 16250 := by omega
  generalize hNg : (h * 25 + k) * 26 + x = N at *
  -- behind the table's own step: place 98
  have p98 : ∀ (ai tv : Int32) (m2 : fl_M), ai.toInt = N → at_TL m m2 → (∀ j : Nat, j ≠ N → m2.1 284 j = m1.1 284 j) → (1 ≤ h → (k = 0 ∨ x = 0) → tv = Int32.ofInt (-1) ∧ m2.1 284 N = m1.1 284 (((h - 1) * 25 + k) * 26 + 2 * (x / 2))) → fl_Tq (pw_P L xs) 307 98 [some at_this, some (.inl (Int32.ofNat h)), some (.inl (Int32.ofNat k)), some (.inl (Int32.ofNat x)), some (.inl ai), some (.inl tv)] [] m2 Q := by
    intro ai tv m2 ea hT2 hs hc
    have old : ∀ m3 : fl_M, (∀ j : Nat, j ≠ N → m3.1 284 j = m1.1 284 j) → (1 ≤ h → (k = 0 ∨ x = 0) → m3.1 284 N = m1.1 284 (((h - 1) * 25 + k) * 26 + 2 * (x / 2))) → at_LP (N + 1) m3 := by
      intro m3 h3 h4 h' k' x' b1 b2 b3 b4 b5 b6
      by_cases e : (h' * 25 + k') * 26 + x' = N
      · have e1 : h' = h ∧ k' = k ∧ x' = x := by omega
        obtain ⟨rfl, rfl, rfl⟩ := e1
        rw [e, h4 b1 b6, h3 _ (by omega)]
      · rw [h3 _ e, h3 _ (by omega)]
        exact hP h' k' x' b1 b2 b3 b4 (by omega) b6
    have go : ∀ (m3 : fl_M), at_TL m m3 → at_LP (N + 1) m3 → fl_Tq (pw_P L xs) 307 136 [some at_this, some (.inl (Int32.ofNat h)), some (.inl (Int32.ofNat k)), some (.inl (Int32.ofNat x)), some (.inl ai), some (.inl tv)] [] m3 Q := by
      intro m3 hT3 hP3
      refine fl_Tq.stp rfl rfl (fl_bo rfl) rfl ?_
      refine fl_Tq.stp rfl rfl (fl_bo rfl) rfl ?_
      have := kk m3 (some (.inl ai)) (some (.inl tv)) hT3 hP3
      rw [← at_inc (by omega)] at this
      exact this
    refine fl_Tq.stp rfl rfl (fl_bo rfl) rfl ?_
    refine fl_Tq.stp rfl rfl (fl_bo rfl) rfl ?_
    by_cases h1 : tv.toInt = -1
    · refine fl_Tq.jt rfl (fl_bo rfl) ?_ rfl ?_
      · rw [at_c2, h1]; rfl
      exact go m2 hT2 (old m2 hs (fun b1 b2 => (hc b1 b2).2))
    have hnc : ¬ (1 ≤ h ∧ (k = 0 ∨ x = 0)) := by
      rintro ⟨b1, b2⟩
      have := (hc b1 b2).1
      rw [this] at h1
      exact h1 rfl
    refine fl_Tq.jf rfl (fl_bo rfl) ?_ rfl ?_
    · rw [at_c2]
      exact decide_eq_false (by show ¬ (tv.toInt - -1 = 0); omega)
    have put : fl_Tq (pw_P L xs) 307 127 [some at_this, some (.inl (Int32.ofNat h)), some (.inl (Int32.ofNat k)), some (.inl (Int32.ofNat x)), some (.inl ai), some (.inl tv)] [] m2 Q := by
      refine fl_Tq.stp rfl rfl (fl_bo rfl) rfl ?_
      refine fl_Tq.stp rfl rfl (fl_bo rfl) rfl ?_
      refine fl_Tq.stp rfl rfl (fl_bo rfl) rfl ?_
      refine fl_Tq.stp rfl rfl (fl_bo rfl) rfl ?_
      refine fl_Tq.sv (p := 284) (τ := 83) (n := 16250) (z := (0, 0, 0)) (k := N) rfl (fl_bo rfl) rfl ea bN ?_
      refine go _ (hT2.up bN) (old _ (fun j hj => ?_) (fun b1 b2 => absurd ⟨b1, b2⟩ hnc))
      show fl_up m2.1 284 N tv 284 j = _
      rw [bl_un (fun _ => hj)]
      exact hs j hj
    refine fl_Tq.stp rfl rfl (fl_bo rfl) rfl ?_
    refine fl_Tq.stp rfl rfl (fl_bo rfl) rfl ?_
    refine fl_Tq.stp rfl rfl (fl_bo rfl) rfl ?_
    refine fl_Tq.ld (p := 284) (τ := 83) (n := 16250) (z := (0, 0, 0)) (k := N) rfl (fl_bo rfl) rfl ea bN ?_
    refine fl_Tq.stp rfl rfl (fl_bo rfl) rfl ?_
    by_cases h2 : (m2.1 284 N).toInt = -1
    · refine fl_Tq.jt rfl (fl_bo rfl) ?_ rfl ?_
      · rw [at_c2, h2]; rfl
      exact put
    refine fl_Tq.jf rfl (fl_bo rfl) ?_ rfl ?_
    · rw [at_c2]
      exact decide_eq_false (by show ¬ ((m2.1 284 N).toInt - -1 = 0); omega)
    refine fl_Tq.stp rfl rfl (fl_bo rfl) rfl ?_
    refine fl_Tq.stp rfl rfl (fl_bo rfl) rfl ?_
    refine fl_Tq.stp rfl rfl (fl_bo rfl) rfl ?_
    refine fl_Tq.stp rfl rfl (fl_bo rfl) rfl ?_
    refine fl_Tq.ld (p := 284) (τ := 83) (n := 16250) (z := (0, 0, 0)) (k := N) rfl (fl_bo rfl) rfl ea bN ?_
    by_cases h3 : tv.toInt < (m2.1 284 N).toInt
    · refine fl_Tq.jf rfl (fl_bo rfl) (by rw [at_c2]; exact decide_eq_false (by omega)) rfl ?_
      exact put
    · refine fl_Tq.jt rfl (fl_bo rfl) (by rw [at_c2]; exact decide_eq_true (by omega)) rfl ?_
      exact go m2 hT2 (old m2 hs (fun b1 b2 => absurd ⟨b1, b2⟩ hnc))
  -- the step's value is on the stack: place 75
  have p75 : ∀ (ai v : Int32) , ai.toInt = N → (1 ≤ h → v = m1.1 284 (((h - 1) * 25 + k) * 26 + 2 * (x / 2))) → fl_Tq (pw_P L xs) 307 75 [some at_this, some (.inl (Int32.ofNat h)), some (.inl (Int32.ofNat k)), some (.inl (Int32.ofNat x)), some (.inl ai), o5] [.inl v, .inl ai, .inr (.inr (.inl (83, 284)))] m1 Q := by
    intro ai v ea hv
    refine fl_Tq.sv (p := 284) (τ := 83) (n := 16250) (z := (0, 0, 0)) (k := N) rfl (fl_bo rfl) rfl ea bN ?_
    have hT2 := hT.up (x := v) bN
    have hs : ∀ j : Nat, j ≠ N → fl_up m1.1 284 N v 284 j = m1.1 284 j := fun j hj => bl_un (fun _ => hj)
    have hn : fl_up m1.1 284 N v 284 N = v := bl_ue
    refine fl_Tq.stp rfl rfl (fl_bo rfl) rfl ?_
    by_cases h0 : h = 0
    · refine fl_Tq.zf rfl (fl_bo rfl) (by rw [at_c1, eh, h0]; rfl) rfl ?_
      refine fl_Tq.stp rfl rfl (fl_bo rfl) rfl ?_
      refine fl_Tq.stp rfl rfl (fl_bo rfl) rfl ?_
      refine fl_Tq.stp rfl rfl (fl_bo rfl) rfl ?_
      exact p98 ai _ _ ea hT2 hs (fun b => by omega)
    refine fl_Tq.zt rfl (fl_bo rfl) ?_ rfl ?_
    · rw [at_c1, eh]
      show (!decide ((h : Int) = 0)) = true
      rw [decide_eq_false (by omega)]; rfl
    refine fl_Tq.stp rfl rfl (fl_bo rfl) rfl ?_
    refine fl_Tq.stp rfl rfl (fl_bo rfl) rfl ?_
    refine fl_Tq.stp rfl rfl (fl_bo rfl) rfl ?_
    refine fl_Tq.stp rfl rfl (fl_bo rfl) rfl ?_
    refine fl_Tq.stp rfl rfl (fl_bo rfl) rfl ?_
    refine fl_Tq.dv rfl (fl_bo rfl) (by decide +kernel) ?_
    refine fl_Tq.stp rfl rfl (fl_bo rfl) rfl ?_
    refine fl_Tq.stp rfl rfl (fl_bo rfl) rfl ?_
    refine fl_Tq.rm rfl (fl_bo rfl) (by decide +kernel) ?_
    refine fl_Tq.cal rfl rfl (fl_bo rfl) rfl ?_
    refine at_taken (h := h) (k := k) (mm := x / 2) (t := x % 2) eh ek exd exm bh (by omega) (by omega) (by omega) (by omega) (fun tv htv => ?_)
    refine fl_Tq.stp rfl rfl (fl_bo rfl) rfl ?_
    exact p98 ai tv _ ea hT2 hs (fun b1 b2 => ⟨htv (by omega), by show fl_up m1.1 284 N v 284 N = _; rw [hn]; exact hv b1⟩)
  refine fl_Tq.stp rfl rfl (fl_bo rfl) rfl ?_
  refine fl_Tq.stp rfl rfl (fl_bo rfl) rfl ?_
  refine fl_Tq.stp rfl rfl (fl_bo rfl) rfl ?_
  refine fl_Tq.stp rfl rfl (fl_bo rfl) rfl ?_
  refine fl_Tq.dv rfl (fl_bo rfl) (by decide +kernel) ?_
  refine fl_Tq.stp rfl rfl (fl_bo rfl) rfl ?_
  refine fl_Tq.stp rfl rfl (fl_bo rfl) rfl ?_
  refine fl_Tq.rm rfl (fl_bo rfl) (by decide +kernel) ?_
  refine fl_Tq.cal rfl rfl (fl_bo rfl) rfl ?_
  refine at_price (h := h) (k := k) (mm := x / 2) (t := x % 2) eh ek exd exm bh (by omega) (by omega) (by omega) (fun ai ea => ?_)
  rw [hN] at ea
  refine fl_Tq.stp rfl rfl (fl_bo rfl) rfl ?_
  refine fl_Tq.stp rfl rfl (fl_bo rfl) rfl ?_
  refine fl_Tq.stp rfl rfl (fl_bo rfl) rfl ?_
  refine fl_Tq.stp rfl rfl (fl_bo rfl) rfl ?_
  refine fl_Tq.stp rfl rfl (fl_bo rfl) rfl ?_
  by_cases h0 : h = 0
  · refine fl_Tq.zf rfl (fl_bo rfl) (by rw [at_c1, eh, h0]; rfl) rfl ?_
    refine fl_Tq.stp rfl rfl (fl_bo rfl) rfl ?_
    by_cases k0 : k = 0
    · refine fl_Tq.zf rfl (fl_bo rfl) (by rw [at_c1, ek, k0]; rfl) rfl ?_
      refine fl_Tq.stp rfl rfl (fl_bo rfl) rfl ?_
      refine fl_Tq.stp rfl rfl (fl_bo rfl) rfl ?_
      exact p75 ai _ ea (fun b => by omega)
    · refine fl_Tq.zt rfl (fl_bo rfl) ?_ rfl ?_
      · rw [at_c1, ek]
        show (!decide ((k : Int) = 0)) = true
        rw [decide_eq_false (by omega)]; rfl
      refine fl_Tq.stp rfl rfl (fl_bo rfl) rfl ?_
      refine fl_Tq.stp rfl rfl (fl_bo rfl) rfl ?_
      exact p75 ai _ ea (fun b => by omega)
  · refine fl_Tq.zt rfl (fl_bo rfl) ?_ rfl ?_
    · rw [at_c1, eh]
      show (!decide ((h : Int) = 0)) = true
      rw [decide_eq_false (by omega)]; rfl
    refine fl_Tq.stp rfl rfl (fl_bo rfl) rfl ?_
    refine fl_Tq.stp rfl rfl (fl_bo rfl) rfl ?_
    refine fl_Tq.stp rfl rfl (fl_bo rfl) rfl ?_
    refine fl_Tq.stp rfl rfl (fl_bo rfl) rfl ?_
    refine fl_Tq.stp rfl rfl (fl_bo rfl) rfl ?_
    refine fl_Tq.stp rfl rfl (fl_bo rfl) rfl ?_
    refine fl_Tq.stp rfl rfl (fl_bo rfl) rfl ?_
    refine fl_Tq.stp rfl rfl (fl_bo rfl) rfl ?_
    refine fl_Tq.dv rfl (fl_bo rfl) (by decide +kernel) ?_
    refine fl_Tq.stp rfl rfl (fl_bo rfl) rfl ?_
    refine fl_Tq.cal rfl rfl (fl_bo rfl) rfl ?_
    refine at_price (h := h - 1) (k := k) (mm := x / 2) (t := 0) (at_dec eh (by omega)) ek exd rfl (by omega) (by omega) (by omega) (by omega) (fun v hv => ?_)
    have hpv : at_px (h - 1) k (x / 2) 0 = ((h - 1) * 25 + k) * 26 + 2 * (x / 2) := by unfold at_px; omega
    rw [hpv] at hv
    refine fl_Tq.ld (p := 284) (τ := 83) (n := 16250) (z := (0, 0, 0)) (k := ((h - 1) * 25 + k) * 26 + 2 * (x / 2)) rfl (fl_bo rfl) rfl hv (by omega) ?_
    exact p75 ai _ ea (fun _ => rfl)
theorem at_lay (hg : at_TL m m) (kk : ∀ m2 : fl_M, at_TL m m2 → at_LP 16250 m2 → Q none m2) : fl_Tq (pw_P L xs) 307 0 (fl_args (am_mxl (pw_P L xs) 307) [at_this]) [] m Q := by
  have lx : ∀ (h k : Nat), h ≤ 24 → k < 25 → ∀ (d x : Nat) (m1 : fl_M) (o4 o5 : Option fl_V), x + d = 26 → at_TL m m1 → at_LP ((h * 25 + k) * 26 + x) m1 → (∀ (m2 : fl_M) (o4 o5 : Option fl_V), at_TL m m2 → at_LP ((h * 25 + k) * 26 + 26) m2 → fl_Tq (pw_P L xs) 307 142 [some at_this, some (.inl (Int32.ofNat h)), some (.inl (Int32.ofNat k)), some (.inl (Int32.ofNat 26)), o4, o5] [] m2 Q) → fl_Tq (pw_P L xs) 307 18 [some at_this, some (.inl (Int32.ofNat h)), some (.inl (Int32.ofNat k)), some (.inl (Int32.ofNat x)), o4, o5] [] m1 Q := by
    intro h k bh bk d
    induction d with
    | zero =>
      intro x m1 o4 o5 hx hT hP kn
      have hx : x = 26 := by omega
      subst hx
      refine fl_Tq.stp rfl rfl (fl_bo rfl) rfl ?_
      refine fl_Tq.stp rfl rfl (fl_bo rfl) rfl ?_
      refine fl_Tq.jt rfl (fl_bo rfl) (by decide +kernel) rfl ?_
      exact kn m1 o4 o5 hT hP
    | succ d ih =>
      intro x m1 o4 o5 hx hT hP kn
      have ex := at_ofN (k := x) (by omega)
      refine fl_Tq.stp rfl rfl (fl_bo rfl) rfl ?_
      refine fl_Tq.stp rfl rfl (fl_bo rfl) rfl ?_
      refine fl_Tq.jf rfl (fl_bo rfl) ?_ rfl ?_
      · rw [at_c2, ex]
        exact decide_eq_false (by show ¬ (0 ≤ (x : Int) - 26); omega)
      exact at_lay1 bh bk (by omega) hT hP o4 o5 (fun m2 o4 o5 hT2 hP2 => ih (x + 1) m2 o4 o5 (by omega) hT2 hP2 kn)
  have lk : ∀ (h : Nat), h ≤ 24 → ∀ (d k : Nat) (m1 : fl_M) (o3 o4 o5 : Option fl_V), k + d = 25 → at_TL m m1 → at_LP ((h * 25 + k) * 26) m1 → (∀ (m2 : fl_M) (o3 o4 o5 : Option fl_V), at_TL m m2 → at_LP ((h * 25 + 25) * 26) m2 → fl_Tq (pw_P L xs) 307 148 [some at_this, some (.inl (Int32.ofNat h)), some (.inl (Int32.ofNat 25)), o3, o4, o5] [] m2 Q) → fl_Tq (pw_P L xs) 307 10 [some at_this, some (.inl (Int32.ofNat h)), some (.inl (Int32.ofNat k)), o3, o4, o5] [] m1 Q := by
    intro h bh d
    induction d with
    | zero =>
      intro k m1 o3 o4 o5 hk hT hP kn
      have hk : k = 25 := by omega
      subst hk
      refine fl_Tq.stp rfl rfl (fl_bo rfl) rfl ?_
      refine fl_Tq.stp rfl rfl (fl_bo rfl) rfl ?_
      refine fl_Tq.jt rfl (fl_bo rfl) (by decide +kernel) rfl ?_
      exact kn m1 o3 o4 o5 hT hP
    | succ d ih =>
      intro k m1 o3 o4 o5 hk hT hP kn
      have ek := at_ofN (k := k) (by omega)
      refine fl_Tq.stp rfl rfl (fl_bo rfl) rfl ?_
      refine fl_Tq.stp rfl rfl (fl_bo rfl) rfl ?_
      refine fl_Tq.jf rfl (fl_bo rfl) ?_ rfl ?_
      · rw [at_c2, ek]
        exact decide_eq_false (by show ¬ (0 ≤ (k : Int) - 25); omega)
      refine fl_Tq.stp rfl rfl (fl_bo rfl) rfl ?_
      refine fl_Tq.stp rfl rfl (fl_bo rfl) rfl ?_
      refine lx h k bh (by omega) 26 0 m1 o4 o5 (by omega) hT hP (fun m2 o4 o5 hT2 hP2 => ?_)
      refine fl_Tq.stp rfl rfl (fl_bo rfl) rfl ?_
      refine fl_Tq.stp rfl rfl (fl_bo rfl) rfl ?_
      have := ih (k + 1) m2 (some (.inl (Int32.ofNat 26))) o4 o5 (by omega) hT2 (by rw [show (h * 25 + (k + 1)) * 26 = (h * 25 + k) * 26 + 26 by omega]; exact hP2) kn
      rw [← at_inc (by omega)] at this
      exact this
  have lh : ∀ (d h : Nat) (m1 : fl_M) (o2 o3 o4 o5 : Option fl_V), h + d = 25 → at_TL m m1 → at_LP (h * 25 * 26) m1 → fl_Tq (pw_P L xs) 307 2 [some at_this, some (.inl (Int32.ofNat h)), o2, o3, o4, o5] [] m1 Q := by
    intro d
    induction d with
    | zero =>
      intro h m1 o2 o3 o4 o5 hh hT hP
      have hh : h = 25 := by omega
      subst hh
      refine fl_Tq.stp rfl rfl (fl_bo rfl) rfl ?_
      refine fl_Tq.stp rfl rfl (fl_bo rfl) rfl ?_
      refine fl_Tq.jt rfl (fl_bo rfl) (by decide +kernel) rfl ?_
      exact fl_Tq.ret rfl rfl rfl (kk m1 hT hP)
    | succ d ih =>
      intro h m1 o2 o3 o4 o5 hh hT hP
      have eh := at_ofN (k := h) (by omega)
      refine fl_Tq.stp rfl rfl (fl_bo rfl) rfl ?_
      refine fl_Tq.stp rfl rfl (fl_bo rfl) rfl ?_
      refine fl_Tq.jf rfl (fl_bo rfl) ?_ rfl ?_
      · rw [at_c2, eh]
        exact decide_eq_false (by show ¬ (0 < (h : Int) - 24); omega)
      refine fl_Tq.stp rfl rfl (fl_bo rfl) rfl ?_
      refine fl_Tq.stp rfl rfl (fl_bo rfl) rfl ?_
      refine lk h (by omega) 25 0 m1 o3 o4 o5 (by omega) hT (by rw [show (h * 25 + 0) * 26 = h * 25 * 26 by omega]; exact hP) (fun m2 o3 o4 o5 hT2 hP2 => ?_)
      refine fl_Tq.stp rfl rfl (fl_bo rfl) rfl ?_
      refine fl_Tq.stp rfl rfl (fl_bo rfl) rfl ?_
      have := ih (h + 1) m2 (some (.inl (Int32.ofNat 25))) o3 o4 o5 (by omega) hT2 (by rw [show (h + 1) * 25 * 26 = (h * 25 + 25) * 26 by omega]; exact hP2)
      rw [← at_inc (by omega)] at this
      exact this
  refine fl_Tq.stp rfl rfl (fl_bo rfl) rfl ?_
  refine fl_Tq.stp rfl rfl (fl_bo rfl) rfl ?_
  exact lh 25 0 m none none none none (by omega) hg (fun h k x _ _ _ _ b => by omega)
end ATLY
