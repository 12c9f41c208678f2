/-! ===== run, drive ===== -/
section T2MQ7
variable {L : Nat} {xs : Nat → Int32} {m : fl_M} {f g F G : t2_F} {l l' : t2_L} {Q : Option fl_V → fl_M → Prop} {a : Int32}
abbrev t2_MidG (L : Nat) (xs : Nat → Int32) (mr : Nat) (ar : List fl_V) (v : Option fl_V) (m1 : fl_M) : Prop := t2_U m1 ∧ (∃ y, v = some (.inl y)) ∧ (at_Good at_XI m1 → fl_Tq (pw_P L xs) mr 0 (fl_args (am_mxl (pw_P L xs) mr) ar) [] m1 (fun v2 m2 => v2 = v ∧ t2_W m2.1 m2.1 m2.2.2 ∧ t2_U m2))
theorem t2_stepG {c1 c2 : at_C} {ac ar : List fl_V} {mc mr : Nat} (hv1 : at_Valid at_XI (pw_P L xs) c1) (hv2 : at_Valid at_XI (pw_P L xs) c2) (e1 : c1.1 = mc) (e2 : c2.1 = mr) (Z : t2_Z m) (k1 : at_agk m.2.2 c1.2.1 ac) (l1 : c1.2.2.1 = []) (k2 : ∀ h, at_agk h c2.2.1 ar) (l2 : c2.2.2.1 = []) (F : fl_Tq (pw_P L xs) mc 0 (fl_args (am_mxl (pw_P L xs) mc) ac) [] m (t2_MidG L xs mr ar)) : fl_Tq (pw_P L xs) mc 0 (fl_args (am_mxl (pw_P L xs) mc) ac) [] m (t2_End L xs mr ar) := by
  subst e1 e2
  refine fl_Tq.mono (t2_join F (hv1 m ac Z.1 k1 (fun q hq => by rw [l1] at hq; cases hq))) ?_
  rintro v m1 ⟨⟨u, y, G⟩, v2, m2, e1, e2, g2, -, -⟩
  have g1 := t2_Good e2 g2 u
  refine ⟨y, fl_Tq.mono (t2_join (G g1) (hv2 m1 ar g1 (k2 _) (fun q hq => by rw [l2] at hq; cases hq))) ?_⟩
  rintro v3 m3 ⟨⟨e3, w3, u3⟩, v4, m4, e4, e5, g4, -, -⟩
  exact ⟨e3, t2_Good e5 g4 u3, w3⟩
/-- the reference's keep, where all is good -/
theorem t2_Z.rkeepG (Z : t2_Z (f, l)) (gG : at_Good at_XI (F, l')) (e : F 280 = f 280) (k : ∀ g : t2_F, (∀ p : Nat, p ≠ 280 → g p = F p) → t2_RK F g → at_Good at_XI (g, l') → Q none (g, l')) : fl_Tq (pw_P L xs) 241 0 (fl_args (am_mxl (pw_P L xs) 241) [.inr (.inr (.inl (76, 277)))]) [] (F, l') Q := by
  refine fl_Tq.mono (t2_join (Z.rkeep (L := L) (xs := xs) (l' := l') (Q := fun v m' => v = none ∧ ∃ g : t2_F, m' = (g, l') ∧ (∀ p : Nat, p ≠ 280 → g p = F p) ∧ t2_RK F g) e (fun g a b => ⟨rfl, g, rfl, a, b⟩)) (at_v241 (L := L) (xs := xs) (F, l') [at_this] gG ⟨at_k277 _, True.intro⟩ (fun q hq => by cases hq))) ?_
  rintro v m' ⟨⟨rfl, g, rfl, h1, h2⟩, v2, m2, -, e2, g2, -, -⟩
  refine k g h1 h2 (t2_Good e2 g2 (fun p hp i => ?_))
  have hp : fl_N l'.2 ≤ p := hp
  show g p i = _
  rw [h1 p (by unfold fl_N at hp; omega)]
  exact gG.2.2.2.2.1 p hp i
theorem t2_Z.finB {F G H : t2_F} (Z : t2_Z (f, l)) (C : t2_CK f g l l') (hF : ∀ p : Nat, 91 ≤ p → F p = g p) (K : t2_RK F G) (hG : ∀ p : Nat, p ≠ 280 → G p = F p) (hH : ∀ p : Nat, p < 277 ∨ p = 281 ∨ 285 ≤ p → H p = G p) (h7 : H 277 7 = G 277 7) (hH2 : ∀ w : Nat, w < 29780 → (w < 2 ∨ 1420 ≤ w) → H 280 w = G 280 w) (J : c0_I F H) : t2_W H H l'.2 ∧ t2_U (H, l') := by
  have W1 := Z.keep C (C.F280 hF) K
  refine ⟨W1.upd (J.ext (fun p h1 h2 => by rw [hH p (by omega), hG p (by omega)]) (fun w _ _ => rfl)) (fun p hp => by rw [hH p (by omega), hG p (by omega), hF p (by omega)]) (fun w hw2 hw => by show H 280 w = (if 280 = 280 then G 280 else f 280) w; rw [if_pos rfl]; exact hH2 w hw2 hw) (fun w _ => by show H 281 w = (if 281 = 280 then G 280 else f 281) w; rw [if_neg (by decide), hH 281 (by omega), hG 281 (by decide), hF 281 (by decide), C.now (by decide) (by decide) (by decide)]) (by show H 277 7 = (if 277 = 280 then G 280 else f 277) 7; rw [if_neg (by decide), h7, hG 277 (by decide), hF 277 (by decide), C.now (by decide) (by decide) (by decide)]), fun p hp i => ?_⟩
  have hp : fl_N l'.2 ≤ p := hp
  have h285 : 285 ≤ fl_N l'.2 := by unfold fl_N; omega
  show H p i = _
  rw [hH p (by omega), hG p (by omega), hF p (by omega)]
  exact (C.U Z.U) p hp i
/-- the words that a second's contract keeps out of -/
theorem t2_r280 {m2 : fl_M} {ws : List at_W} {H : t2_F} (e : fl_H (H, l') = fl_H m2) (h : at_MD (G, l') m2 ws) (w1 : t2_nw ws 79 0 1 = true) (w2 : t2_nw ws 79 1420 29779 = true) : ∀ w : Nat, w < 29780 → (w < 2 ∨ 1420 ≤ w) → H 280 w = G 280 w := fun w hw hw2 => by
  have e1 : H 280 = m2.1 280 := t2_Hi e (n := 29780) (z := (0, 0, 0)) (by decide) (by decide +kernel)
  rw [e1]
  rcases hw2 with hw2 | hw2
  · exact t2_fr h 0 1 fk_K_280 w1 (by omega) (by omega)
  · exact t2_fr h 1420 29779 fk_K_280 w2 (by omega) (by omega)
/-- run -/
theorem t2_run (hall : ∀ c ∈ at_CM ++ at_CA, at_Valid at_XI (pw_P L xs) c) (Z : t2_Z (f, l)) : fl_Tq (pw_P L xs) 105 0 (fl_args (am_mxl (pw_P L xs) 105) [lx_x, .inl a]) [] (f, l) (t2_MidG L xs 250 [at_this, .inl a]) := by
  have I : c0_I f f := Z.2.1
  have ZK : c0_K f f := Z.K
  have c1 : (1 : Int32).toInt = 1 := by decide +kernel
  have c3 : (300 : Int32).toInt = 300 := by decide +kernel
  have c9 : (9999 : Int32).toInt = 9999 := by decide +kernel
  have e6 : f 1 6 = f 280 7 := I.1.1.2.1
  have t7 := I.2.2.2.2.2.1.2.2.2
  have ea : (1 ≤ a.toInt ∧ a.toInt ≤ 300) → ((f 280 7) + a).toInt = (f 280 7).toInt + a.toInt := fun h => at_add32 (by omega) (by omega)
  show fl_Tq (pw_P L xs) 105 0 [some (.inr (.inr (.inl (0, 0)))), some (.inl a)] [] (f, l) _
  have no : ¬ ((1 ≤ a.toInt ∧ a.toInt ≤ 300) ∧ (f 280 7).toInt + a.toInt ≤ 9999) → t2_MidG L xs 250 [at_this, .inl a] (some (.inl (-1 : Int32))) (f, l) := fun hn => by
    refine ⟨Z.U, ⟨_, rfl⟩, fun _ => ?_⟩
    show fl_Tq (pw_P L xs) 250 0 [some (.inr (.inr (.inl (76, 277)))), some (.inl a)] [] (f, l) _
    refine y_run_A (fun h1 => ⟨rfl, Z.2, Z.U⟩) (fun h1 h2 => ⟨rfl, Z.2, Z.U⟩) (fun h1 h2 => ?_)
    rw [r_i0, c1, c3, Classical.not_not] at h1
    rw [c9, ea h1] at h2
    omega
  refine x_run_A (fun h1 => no (by rw [t2_w0, c1, c3] at h1; exact fun h => h1 h.1)) (fun h1 h2 => no (fun h => ?_)) (fun h1 h2 => ?_)
  · rw [e6, c9, ea h.1] at h2
    omega
  rw [t2_w0, c1, c3, Classical.not_not] at h1
  rw [e6, c9, ea h1] at h2
  refine fl_Tq.cal rfl rfl (fl_bo rfl) rfl ?_
  refine t2_ckeep Z (fun g l' C => ?_)
  refine x_run_B ?_
  refine fl_Tq.cal rfl rfl (fl_bo rfl) rfl ?_
  have gn : ∀ p : Nat, p < 91 → g p = f p := fun p hp => C.now (by omega) (by omega) (by omega)
  have Jg : c0_J g := ZK.2.1.congr (fun p hp => gn p (by omega))
  have Kg : c0_K g f := ⟨I.ext (fun p _ h => gn p h) (fun w _ _ => rfl), Jg, ZK.2.2.1, ZK.2.2.2⟩
  refine c0_passSeconds_q (fr := f) Kg.1 Kg.2.1 Kg.2.2.1 Kg.2.2.2 (by omega) (by omega) ?_
  refine fl_Tq.ret rfl rfl rfl ?_
  have hF : ∀ p : Nat, 91 ≤ p → c0_runN g a.toInt.toNat p = g p := fun p hp => Kg.runP hp _ (by omega)
  have F280 := C.F280 hF
  refine ⟨fun p hp i => by show c0_runN g a.toInt.toNat p i = _; rw [hF p (by have : fl_N l'.2 ≤ p := hp; unfold fl_N at this; omega)]; exact C.U Z.U p hp i, ⟨_, rfl⟩, fun gG => ?_⟩
  show fl_Tq (pw_P L xs) 250 0 [some (.inr (.inr (.inl (76, 277)))), some (.inl a)] [] _ _
  refine y_run_A (fun h => ?_) (fun _ h => ?_) (fun _ _ => ?_)
  · rw [r_i0, c1, c3] at h
    omega
  · rw [F280, c9, ea h1] at h
    omega
  refine fl_Tq.cal rfl rfl (fl_bo rfl) rfl ?_
  refine Z.rkeepG gG F280 (fun G hG K gG2 => ?_)
  refine y_run_B ?_
  have I0 := Z.I0 C F280 K
  have Go : ∀ p : Nat, 91 ≤ p → p < 285 → p ≠ 271 → p ≠ 272 → p ≠ 280 → G p = f p := fun p h1 h2 h3 h4 h5 => by rw [hG p h5, hF p h1, C.now h3 h4 h2]
  have KG : c0_K g G := ⟨I0, Jg, ZK.2.2.1.same (Go 279 (by decide) (by decide) (by decide) (by decide) (by decide)), by rw [Go 277 (by decide) (by decide) (by decide) (by decide) (by decide)]; exact ZK.2.2.2⟩
  have G7 : G 280 7 = f 280 7 := by rw [← I0.1.1.2.1, gn 1 (by decide)]; exact e6
  obtain ⟨R1, R2, R3⟩ := KG.run (0 : Int32) (k := a.toInt.toNat) (by rw [G7]; omega)
  refine fl_Tq.cal rfl rfl (fl_bo rfl) rfl ?_
  refine fl_Tq.mono (t2_join (c0_secondsNow_q (L := L) (xs := xs) (l := l') (x := a) (fc := g) (fr := G) (Q := fun v m' => v = some (.inl (r_runV G (0 : Int32) a.toInt.toNat)) ∧ m' = (r_runN G a.toInt.toNat, l')) KG.1 KG.2.1 KG.2.2.1 KG.2.2.2 (by omega) (by rw [G7]; omega) ⟨rfl, rfl⟩) (hall _ t2_c248_in (G, l') [at_this, .inl a] gG2 ⟨at_k277 _, lx_ki _, True.intro⟩ (fun q hq => by cases hq))) ?_
  rintro v m' ⟨⟨rfl, rfl⟩, v2, m2, -, e2, -, md, -⟩
  refine fl_Tq.ret rfl rfl rfl ?_
  have fin := Z.finB C hF K hG (H := r_runN G a.toInt.toNat) (fun p hp => r_runP (by omega) (by omega) (by omega) _) (by rw [R1.2.2.2, KG.2.2.2]) (t2_r280 e2 md rfl rfl) R1.1
  exact ⟨by rw [R3], fin.1, fin.2⟩
/-- how long a drive is -/
noncomputable def r_long (f : t2_F) : Nat → Int32
  | 0 => (0 : Int32)
  | j + 1 => r_long f j + f 280 ((119 + (2 * j)) + 1)
theorem r_long_q {n : Nat} (hn : (f 280 19).toInt = (n : Int)) (h24 : n ≤ 24) (k : Q (some (.inl (r_long f n))) (f, l)) : fl_Tq (pw_P L xs) 265 0 (fl_args (am_mxl (pw_P L xs) 265) [.inr (.inr (.inl (76, 277)))]) [] (f, l) Q := by
  show fl_Tq (pw_P L xs) 265 0 [some (.inr (.inr (.inl (76, 277)))), none, none] [] (f, l) Q
  refine y_long_A ?_
  refine t2_for (n := n) (S := fun j => fl_Tq (pw_P L xs) 265 4 [some (.inr (.inr (.inl (76, 277)))), some (.inl (r_long f j)), some (.inl (Int32.ofNat j))] [] (f, l) Q) (fun j hj hS => ?_) ?_
  · refine y_long_B (by omega) (t2_lk hj hn) ?_
    rw [t2_k1]
    exact hS
  · exact y_long_C (t2_ln hn) k
theorem r_long_eq {fc : t2_F} {fr : t2_F} (h : ∀ j : Nat, (j : Int) < 2 * (fr 280 19).toInt → fc 8 j = fr 280 (119 + j)) : ∀ n : Nat, (n : Int) ≤ (fr 280 19).toInt → c0_pieceSeconds_a4 fc n = r_long fr n := by
  intro n
  induction n with
  | zero => intro _; rfl
  | succ n ih =>
    intro hn
    show c0_pieceSeconds_a4 fc n + fc 8 ((n * 2) + 1) = r_long fr n + fr 280 ((119 + (2 * n)) + 1)
    rw [ih (by omega), h _ (by omega), show 119 + (n * 2 + 1) = 119 + 2 * n + 1 by omega]
/-- drive -/
theorem t2_drive (hall : ∀ c ∈ at_CM ++ at_CA, at_Valid at_XI (pw_P L xs) c) (Z : t2_Z (f, l)) : fl_Tq (pw_P L xs) 118 0 (fl_args (am_mxl (pw_P L xs) 118) [lx_x]) [] (f, l) (t2_MidG L xs 267 [at_this]) := by
  have I : c0_I f f := Z.2.1
  have ZK : c0_K f f := Z.K
  have c9 : (9999 : Int32).toInt = 9999 := by decide +kernel
  have e6 : f 1 6 = f 280 7 := I.1.1.2.1
  have e7 : f 3 7 = f 280 19 := I.2.2.1.1.2.2.2.2.1
  have n19 := I.2.2.2.2.2.2.2.2.2.1.1
  have el : c0_pieceSeconds_v f = r_long f (f 280 19).toInt.toNat := by
    unfold c0_pieceSeconds_v
    rw [e7]
    exact r_long_eq I.2.2.1.1.2.2.2.2.2 _ (by omega)
  have hn : (f 280 19).toInt = (((f 280 19).toInt.toNat : Nat) : Int) := by omega
  show fl_Tq (pw_P L xs) 118 0 [some (.inr (.inr (.inl (0, 0))))] [] (f, l) _
  have no : ¬ (¬ (f 280 19).toInt = 0 ∧ ¬ (9999 < ((f 280 7) + r_long f (f 280 19).toInt.toNat).toInt)) → t2_MidG L xs 267 [at_this] (some (.inl (-1 : Int32))) (f, l) := fun hno => by
    refine ⟨Z.U, ⟨_, rfl⟩, fun _ => ?_⟩
    show fl_Tq (pw_P L xs) 267 0 [some (.inr (.inr (.inl (76, 277))))] [] (f, l) _
    refine y_drive_A (fun h1 => ⟨rfl, Z.2, Z.U⟩) (fun h1 => ?_)
    refine fl_Tq.cal rfl rfl (fl_bo rfl) rfl ?_
    refine r_long_q hn (by omega) ?_
    refine y_drive_A2 (fun h2 => ⟨rfl, Z.2, Z.U⟩) (fun h2 => ?_)
    rw [c9] at h2
    exact absurd ⟨h1, h2⟩ hno
  refine x_drive_A (by rw [e7]; exact n19) (fun h1 => no (by rw [e7] at h1; exact fun h => h.1 h1)) (fun h1 h2 => no (by rw [e6, el, c9] at h2; exact fun h => h.2 h2)) (fun h1 h2 => ?_)
  rw [e7] at h1
  rw [e6, el, c9] at h2
  refine fl_Tq.cal rfl rfl (fl_bo rfl) rfl ?_
  refine t2_ckeep Z (fun g l' C => ?_)
  refine x_drive_B ?_
  refine fl_Tq.cal rfl rfl (fl_bo rfl) rfl ?_
  have gn : ∀ p : Nat, p < 91 → g p = f p := fun p hp => C.now (by omega) (by omega) (by omega)
  have Jg : c0_J g := ZK.2.1.congr (fun p hp => gn p (by omega))
  have Kg : c0_K g f := ⟨I.ext (fun p _ h => gn p h) (fun w _ _ => rfl), Jg, ZK.2.2.1, ZK.2.2.2⟩
  refine c0_passDrive_q (fr := f) Kg ?_
  refine fl_Tq.ret rfl rfl rfl ?_
  have hF : ∀ p : Nat, 91 ≤ p → (c0_drv g (f 280 19).toInt.toNat).1 p = g p := fun p hp => Kg.drvP hp _ (by omega)
  have F280 := C.F280 hF
  refine ⟨fun p hp i => by show (c0_drv g (f 280 19).toInt.toNat).1 p i = _; rw [hF p (by have : fl_N l'.2 ≤ p := hp; unfold fl_N at this; omega)]; exact C.U Z.U p hp i, ⟨_, rfl⟩, fun gG => ?_⟩
  show fl_Tq (pw_P L xs) 267 0 [some (.inr (.inr (.inl (76, 277))))] [] _ _
  refine y_drive_A (fun h => ?_) (fun _ => ?_)
  · rw [F280] at h
    exact absurd h h1
  refine fl_Tq.cal rfl rfl (fl_bo rfl) rfl ?_
  refine r_long_q (n := (f 280 19).toInt.toNat) (by rw [F280]; exact hn) (by omega) ?_
  have eF : ∀ n : Nat, r_long (c0_drv g (f 280 19).toInt.toNat).1 n = r_long f n := fun n => by
    induction n with
    | zero => rfl
    | succ n ih =>
      show r_long (c0_drv g (f 280 19).toInt.toNat).1 n + (c0_drv g (f 280 19).toInt.toNat).1 280 ((119 + (2 * n)) + 1) = r_long f n + f 280 ((119 + (2 * n)) + 1)
      rw [ih, F280]
  rw [eF, F280]
  refine y_drive_A2 (fun h => ?_) (fun _ => ?_)
  · rw [c9] at h
    exact absurd h h2
  refine fl_Tq.cal rfl rfl (fl_bo rfl) rfl ?_
  refine Z.rkeepG gG F280 (fun G hG K gG2 => ?_)
  refine y_drive_B ?_
  have I0 := Z.I0 C F280 K
  have Go : ∀ p : Nat, 91 ≤ p → p < 285 → p ≠ 271 → p ≠ 272 → p ≠ 280 → G p = f p := fun p h1 h2 h3 h4 h5 => by rw [hG p h5, hF p h1, C.now h3 h4 h2]
  have KG : c0_K g G := ⟨I0, Jg, ZK.2.2.1.same (Go 279 (by decide) (by decide) (by decide) (by decide) (by decide)), by rw [Go 277 (by decide) (by decide) (by decide) (by decide) (by decide)]; exact ZK.2.2.2⟩
  have G19 : G 280 19 = f 280 19 := by rw [← I0.2.2.1.1.2.2.2.2.1, gn 3 (by decide)]; exact e7
  obtain ⟨R1, R2, R3⟩ := KG.drv (f 280 19).toInt.toNat (by rw [G19]; omega)
  refine fl_Tq.cal rfl rfl (fl_bo rfl) rfl ?_
  refine fl_Tq.mono (t2_join (c0_driveNow_q (L := L) (xs := xs) (l := l') (fc := g) (fr := G) (Q := fun v m' => v = some (.inl (r_drv G (G 280 19).toInt.toNat).2) ∧ m' = ((r_drv G (G 280 19).toInt.toNat).1, l')) KG ⟨rfl, rfl⟩) (hall _ t2_c266_in (G, l') [at_this] gG2 ⟨at_k277 _, True.intro⟩ (fun q hq => by cases hq))) ?_
  rintro v m' ⟨⟨rfl, rfl⟩, v2, m2, -, e2, -, md, -⟩
  rw [G19] at e2 ⊢
  refine fl_Tq.ret rfl rfl rfl ?_
  have fin := Z.finB C hF K hG (H := (r_drv G (f 280 19).toInt.toNat).1) (fun p hp => r_drvP (by omega) (by omega) (by omega) _) (by rw [R1.2.2.2, KG.2.2.2]) (t2_r280 e2 md rfl rfl) R1.1
  exact ⟨by rw [R3], fin.1, fin.2⟩
end T2MQ7
