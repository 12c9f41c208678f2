/-! ===== the whole relation between the law's calls; a call of the class, then the reference's ===== -/
section T2Z
variable {L : Nat} {xs : Nat → Int32} {m m1 : fl_M} {Q : Option fl_V → fl_M → Prop} {f g : t2_F} {l l' : t2_L}
def t2_Z (m : fl_M) : Prop := at_Good at_XI m ∧ t2_W m.1 m.1 m.2.2
/-- states that aren't made yet are as a constructor leaves them -/
def t2_U (m : fl_M) : Prop := ∀ p, fl_N m.2.2 ≤ p → ∀ i, m.1 p i = at_W0 ((p - 285) % 90) i
theorem t2_Z.U (Z : t2_Z m) : t2_U m := Z.1.2.2.2.2.1
theorem t2_Good.k1 (hg : at_Good at_XI m) {p τ j : Nat} {v : Int32} (hp : p < fl_N m.2.2) (hk : fk_K p = τ) (hr : ((0, (j : Int), 0, 1, 1, v.toInt, v.toInt) : at_R) ∈ at_rg τ) : m.1 p j = v := by
  have h := hg.1 p hp (0, (j : Int), 0, 1, 1, v.toInt, v.toInt) (by rw [hk]; exact hr) j ⟨0, 0, by decide, by dsimp only; decide, by decide, by dsimp only; decide, by dsimp only; omega⟩
  exact Int32.toInt.inj (by dsimp only at h; omega)
theorem t2_Good.M (hg : at_Good at_XI m) : t2_M m.1 m.2.2 := fun j hj => by
  by_cases e : j < m.2.2
  · have A : t2_blk m.2.2 (285 + 90 * j) 24 := t2_blk_made e
    have a := A.place 12 37 (by decide) (by decide +kernel)
    have b := A.place 15 40 (by decide) (by decide +kernel)
    exact ⟨t2_Good.k1 hg (j := 0) a.2 a.1 (by decide +kernel), t2_Good.k1 hg (j := 0) b.2 b.1 (by decide +kernel)⟩
  · have u := hg.2.2.2.2.1
    have u1 := u (285 + 90 * j + 12) (by unfold fl_N; omega) 0
    have u2 := u (285 + 90 * j + 15) (by unfold fl_N; omega) 0
    rw [show (285 + 90 * j + 12 - 285) % 90 = 12 by omega] at u1
    rw [show (285 + 90 * j + 15 - 285) % 90 = 15 by omega] at u2
    exact ⟨u1.trans (by decide +kernel), u2.trans (by decide +kernel)⟩
theorem t2_Good.RS (hg : at_Good at_XI m) : t2_RS m.1 := fun j => hg.2.2.2.2.2.2.2.2.2 279 j (Or.inr rfl)
theorem t2_Good.J (hg : at_Good at_XI m) : c0_J m.1 := by
  refine ⟨fun i hi k hk => ?_, fun k hk => ?_⟩
  · have a := (t2_kK hi).2.2.1
    have h := hg.1 (20 + 4 * i) (by unfold fl_N; omega) (0, 0, 0, 1, 32, 0, 9999000) (by rw [a]; decide +kernel) k ⟨0, k, by decide, by dsimp only; decide, by omega, by dsimp only; omega, by dsimp only; omega⟩
    exact h
  · have h := hg.1 9 (by unfold fl_N; omega) (0, 3, 5, 8, 1, 0, 29) (by decide +kernel) (k * 5 + 3) ⟨k, 0, by omega, by dsimp only; omega, by decide, by dsimp only; decide, by dsimp only; omega⟩
    exact h
theorem t2_Z.K (Z : t2_Z m) : c0_K m.1 m.1 := ⟨Z.2.1, t2_Good.J Z.1, t2_Good.RS Z.1, Z.2.2.2.2⟩
theorem t2_Z.U' (hX : at_XI m) : t2_U m := hX.2.2.1
/-- the class's keep of now, run -/
theorem t2_ckeep (Z : t2_Z (f, l)) (k : ∀ (g : t2_F) (l' : t2_L), t2_CK f g l l' → Q none (g, l')) : fl_Tq (pw_P L xs) 20 0 (fl_args (am_mxl (pw_P L xs) 20) [.inr (.inr (.inl (73, 271))), .inr (.inr (.inl (1, 1)))]) [] (f, l) Q := by
  obtain ⟨hg, I, ⟨⟨b1, b2, b3, -⟩, -⟩, -⟩ := Z
  have b1 : f 271 2 = f 280 0 := b1
  have b2 : 0 ≤ (f 271 1).toInt ∧ (f 271 1).toInt ≤ 19 := b2
  have b3 : 0 ≤ (f 280 0).toInt ∧ (f 280 0).toInt ≤ 20 := b3
  obtain ⟨s1, s2, s3⟩ := (t2_B.of_now I).src (by decide)
  exact hk_q hg.2.2 b2 (by rw [b1]; exact b3) s1 s2 s3 (fun g l' i d a b c d' e f' g' h' => k g l' ⟨i, d, a, b, c, d', e, f', g', h'⟩)
/-- the reference's -/
theorem t2_rkeep (w0 : 0 ≤ (f 280 0).toInt ∧ (f 280 0).toInt ≤ 20) (w1 : 0 ≤ (f 280 1).toInt ∧ (f 280 1).toInt ≤ 19) (k : ∀ g : t2_F, (∀ p : Nat, p ≠ 280 → g p = f p) → t2_RK f g → Q none (g, l)) : fl_Tq (pw_P L xs) 241 0 (fl_args (am_mxl (pw_P L xs) 241) [.inr (.inr (.inl (76, 277)))]) [] (f, l) Q :=
  r_keep_q (m := (f, l)) w0 w1 (fun g s h1 h2 h3 h4 h5 h6 h7 => k g h3 ⟨s, h1, h2, h3, h4, h5, h6, h7⟩)
theorem t2_RK.of {f' : t2_F} (K : t2_RK f g) (e : f' 280 = f 280) : t2_RK f' (fun p => if p = 280 then g 280 else f' p) := by
  obtain ⟨s, h1, h2, h3, h4, h5, h6, h7⟩ := K
  refine ⟨s, h1, by rw [e]; exact h2, fun p hp => if_neg hp, fun j hj hj2 => ?_, fun j hj => ?_, ?_, ?_⟩
  · dsimp only
    rw [if_pos rfl, e]
    exact h4 j hj hj2
  · dsimp only
    rw [if_pos rfl, e]
    exact h5 j hj
  · dsimp only
    rw [if_pos rfl, e]
    exact h6
  · dsimp only
    rw [if_pos rfl, e]
    exact h7
theorem t2_CK.U (U : t2_U (f, l)) (C : t2_CK f g l l') : t2_U (g, l') := by
  obtain ⟨i0, d0, -, ⟨-, hl2, -⟩, -, -, cfr, -⟩ := C
  intro p hp i
  have hp : fl_N l'.2 ≤ p := hp
  have hd : d0 + 90 ≤ fl_N l'.2 ∧ fl_N l.2 ≤ fl_N l'.2 := by
    unfold fl_N
    rcases hl2 with ⟨h1, -, j, hj, e⟩ | ⟨h1, -, e, -⟩ <;> omega
  have h285 : 285 ≤ fl_N l'.2 := by unfold fl_N; omega
  show g p i = _
  rw [cfr p (by omega) (by omega) (by omega)]
  exact U p (by show fl_N l.2 ≤ p; omega) i
/-- the whole relation behind both keeps: the class's memory g, the reference's words those of G -/
theorem t2_Z.keep {F G : t2_F} (Z : t2_Z (f, l)) (C : t2_CK f g l l') (eF : F 280 = f 280) (K : t2_RK F G) : t2_W g (fun p => if p = 280 then G 280 else f p) l'.2 :=
  t2_W.keep Z.1.2.2 (t2_Good.M Z.1) Z.2 C (K.of eF.symm)
theorem t2_Z.I0 {F G : t2_F} (Z : t2_Z (f, l)) (C : t2_CK f g l l') (eF : F 280 = f 280) (K : t2_RK F G) : c0_I g G :=
  (Z.keep C eF K).1.ext (fun p _ _ => rfl) (fun w _ _ => by show G 280 w = (if 280 = 280 then G 280 else f 280) w; rw [if_pos rfl])
theorem t2_CK.F280 {F : t2_F} (C : t2_CK f g l l') (hF : ∀ p : Nat, 91 ≤ p → F p = g p) : F 280 = f 280 := (hF 280 (by decide)).trans (C.now (by decide) (by decide) (by decide))
/-- the end of a call that changed now's state, on both sides -/
theorem t2_Z.fin {F G H : t2_F} (Z : t2_Z (f, l)) (C : t2_CK f g l l') (hF : ∀ p : Nat, 91 ≤ p → F p = g p) (K : t2_RK F G) (hG : ∀ p : Nat, p ≠ 280 → G p = F p) (hH : ∀ p : Nat, p < 277 ∨ p = 281 ∨ 285 ≤ p → H p = G p) (h7 : H 277 7 = G 277 7) (hH2 : ∀ w : Nat, (w < 2 ∨ 1420 ≤ w) → H 280 w = G 280 w) (J : c0_I F H) : t2_W H H l'.2 ∧ t2_U (H, l') := by
  have W1 := Z.keep C (C.F280 hF) K
  refine ⟨W1.upd (J.ext (fun p h1 h2 => by rw [hH p (by omega), hG p (by omega)]) (fun w _ _ => rfl)) (fun p hp => by rw [hH p (by omega), hG p (by omega), hF p (by omega)]) (fun w _ hw => by show H 280 w = (if 280 = 280 then G 280 else f 280) w; rw [if_pos rfl]; exact hH2 w hw) (fun w _ => by show H 281 w = (if 281 = 280 then G 280 else f 281) w; rw [if_neg (by decide), hH 281 (by omega), hG 281 (by decide), hF 281 (by decide), C.now (by decide) (by decide) (by decide)]) (by show H 277 7 = (if 277 = 280 then G 280 else f 277) 7; rw [if_neg (by decide), h7, hG 277 (by decide), hF 277 (by decide), C.now (by decide) (by decide) (by decide)]), fun p hp i => ?_⟩
  have hp : fl_N l'.2 ≤ p := hp
  have h285 : 285 ≤ fl_N l'.2 := by unfold fl_N; omega
  show H p i = _
  rw [hH p (by omega), hG p (by omega), hF p (by omega)]
  exact (C.U Z.U) p hp i
abbrev t2_Mid (L : Nat) (xs : Nat → Int32) (mr : Nat) (ar : List fl_V) (v : Option fl_V) (m1 : fl_M) : Prop := t2_U m1 ∧ (∃ y, v = some (.inl y)) ∧ fl_Tq (pw_P L xs) mr 0 (fl_args (am_mxl (pw_P L xs) mr) ar) [] m1 (fun v2 m2 => v2 = v ∧ t2_W m2.1 m2.1 m2.2.2 ∧ t2_U m2)
abbrev t2_End (L : Nat) (xs : Nat → Int32) (mr : Nat) (ar : List fl_V) (v : Option fl_V) (m1 : fl_M) : Prop := (∃ y, v = some (.inl y)) ∧ fl_Tq (pw_P L xs) mr 0 (fl_args (am_mxl (pw_P L xs) mr) ar) [] m1 (fun v2 m2 => v2 = v ∧ t2_Z m2)
theorem t2_step {c1 c2 : at_C} {ac ar : List fl_V} {mc mr : Nat} (hv1 : at_Valid at_XI (pw_P L xs) c1) (hv2 : at_Valid at_XI (pw_P L xs) c2) (e1 : c1.1 = mc) (e2 : c2.1 = mr) (Z : t2_Z m) (k1 : at_agk m.2.2 c1.2.1 ac) (l1 : c1.2.2.1 = []) (k2 : ∀ h, at_agk h c2.2.1 ar) (l2 : c2.2.2.1 = []) (F : fl_Tq (pw_P L xs) mc 0 (fl_args (am_mxl (pw_P L xs) mc) ac) [] m (t2_Mid L xs mr ar)) : fl_Tq (pw_P L xs) mc 0 (fl_args (am_mxl (pw_P L xs) mc) ac) [] m (t2_End L xs mr ar) := by
  subst e1 e2
  refine fl_Tq.mono (t2_join F (hv1 m ac Z.1 k1 (fun q hq => by rw [l1] at hq; cases hq))) ?_
  rintro v m1 ⟨⟨u, y, G⟩, v2, m2, e1, e2, g2, -, -⟩
  have g1 := t2_Good e2 g2 u
  refine ⟨y, fl_Tq.mono (t2_join G (hv2 m1 ar g1 (k2 _) (fun q hq => by rw [l2] at hq; cases hq))) ?_⟩
  rintro v3 m3 ⟨⟨e3, w3, u3⟩, v4, m4, e4, e5, g4, -, -⟩
  exact ⟨e3, t2_Good e5 g4 u3, w3⟩
/-- nothing of the relation is written -/
def t2_quiet (ws : List at_W) : Bool := ws.all (fun w => (Nat.ble 49 w.1 && Nat.ble w.1 72) || (Nat.beq w.1 75 || (Nat.beq w.1 81 || (Nat.beq w.1 82 || Nat.beq w.1 83))))
def t2_qk (k : Nat) : Bool := (Nat.ble 49 k && Nat.ble k 72) || (Nat.beq k 75 || (Nat.beq k 81 || (Nat.beq k 82 || Nat.beq k 83)))
theorem t2_qk0 : (List.range 285).all (fun p => decide ((181 ≤ p ∧ p ≤ 270) ∨ p = 275 ∨ p = 276 ∨ p = 282 ∨ p = 283 ∨ p = 284) || !t2_qk (fk_K p)) = true := by decide +kernel
theorem t2_qk1 : (List.range 90).all (fun o => !t2_qk (fk_K1.getD o 0)) = true := by decide +kernel
theorem t2_qkp {p : Nat} (hp : (p < 181) ∨ (271 ≤ p ∧ p < 275) ∨ p = 277 ∨ p = 278 ∨ p = 279 ∨ p = 280 ∨ p = 281 ∨ 285 ≤ p) : t2_qk (fk_K p) = false := by
  by_cases e : p < 285
  · have h := List.all_eq_true.mp t2_qk0 p (List.mem_range.mpr e)
    cases hq : t2_qk (fk_K p) with
    | false => rfl
    | true =>
      rw [hq] at h
      have h2 := of_decide_eq_true (show decide ((181 ≤ p ∧ p ≤ 270) ∨ p = 275 ∨ p = 276 ∨ p = 282 ∨ p = 283 ∨ p = 284) = true by simpa using h)
      omega
  · obtain ⟨d, r, hr, rfl⟩ : ∃ d r, r < 90 ∧ p = 285 + 90 * d + r := ⟨(p - 285) / 90, (p - 285) % 90, Nat.mod_lt _ (by decide), by omega⟩
    rw [fk_K_hi hr]
    have h := List.all_eq_true.mp t2_qk1 r (List.mem_range.mpr hr)
    simpa using h
theorem t2_quiet_eq {ws : List at_W} (h : at_MD m m1 ws) (hq : t2_quiet ws = true) {p : Nat} (hp : (p < 181) ∨ (271 ≤ p ∧ p < 275) ∨ p = 277 ∨ p = 278 ∨ p = 279 ∨ p = 280 ∨ p = 281 ∨ 285 ≤ p) : m1.1 p = m.1 p := by
  funext j
  apply Classical.byContradiction
  intro hne
  obtain ⟨w, hw, e, -⟩ := h.2 p j hne
  have hb := List.all_eq_true.mp hq w hw
  have hf := t2_qkp hp
  rw [← e] at hf
  unfold t2_qk at hf
  rw [show ((Nat.ble 49 w.1 && Nat.ble w.1 72) || (Nat.beq w.1 75 || (Nat.beq w.1 81 || (Nat.beq w.1 82 || Nat.beq w.1 83)))) = true from hb] at hf
  cases hf
theorem at_XI.cnt_eq (hX : at_XI m) (hX1 : at_XI m1) (e : ∀ q, q = 272 ∨ q = 274 → m1.1 q = m.1 q) : m1.2.2 = m.2.2 := by
  have a := hX.2.1
  have b := hX1.2.1
  have c : ∀ q, q = 272 ∨ q = 274 → at_cnt m1 q = at_cnt m q := fun q hq => t2_cnt (fun i _ => by rw [e q hq])
  rw [c 272 (Or.inl rfl), c 274 (Or.inr rfl)] at b
  omega
theorem t2_Z.quiet {ws : List at_W} (Z : t2_Z m) (hg : at_Good at_XI m1) (h : at_MD m m1 ws) (hq : t2_quiet ws = true) : t2_Z m1 := by
  have E := fun (p : Nat) hp => t2_quiet_eq (p := p) h hq hp
  have hh := at_XI.cnt_eq Z.1.2.2 hg.2.2 (fun q hq => E q (by omega))
  refine ⟨hg, ?_⟩
  rw [hh]
  exact Z.2.ext (fun p hp => E p (by omega)) (fun w _ => by rw [E 280 (by decide)]) (fun w _ => by rw [E 281 (by decide)]) (by rw [E 277 (by decide)])
end T2Z
