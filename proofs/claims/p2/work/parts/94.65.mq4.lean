/-! ===== warm, charge, cell ===== -/
section T2MQ4
variable {L : Nat} {xs : Nat → Int32} {f g F G : t2_F} {l l' : t2_L} {Q : Option fl_V → fl_M → Prop} {a b c z : Int32} {A n : Nat}
/-- whether there is such a cell -/
theorem t2_isc (hn : 0 ≤ (f 1 5).toInt ∧ (f 1 5).toInt ≤ 16) : (c0_hasCell_v f a).toInt = 0 ↔ ¬ (0 ≤ a.toInt ∧ a.toInt < (f 1 5).toInt) := by
  have c0 : (0 : Int32).toInt = 0 := rfl
  have c1 : (1 : Int32).toInt = 1 := by decide +kernel
  unfold c0_hasCell_v
  rw [t2_w0, c0, at_sub32 (by omega) (by omega), c1]
  omega
theorem r_isc (hn : 0 ≤ (f 280 2).toInt ∧ (f 280 2).toInt ≤ 16) : (r_isCell_v f a).toInt = 0 ↔ ¬ (0 ≤ a.toInt ∧ a.toInt < (f 280 2).toInt) := by
  have c0 : (0 : Int32).toInt = 0 := rfl
  have c1 : (1 : Int32).toInt = 1 := by decide +kernel
  unfold r_isCell_v
  rw [r_i0, c0, at_sub32 (by omega) (by omega), c1]
  omega
/-- warm -/
theorem t2_warm (Z : t2_Z (f, l)) : fl_Tq (pw_P L xs) 103 0 (fl_args (am_mxl (pw_P L xs) 103) [lx_x, .inl a, .inl b]) [] (f, l) (t2_Mid L xs 245 [at_this, .inl a, .inl b]) := by
  have I : c0_I f f := Z.2.1
  have e5 : f 1 5 = f 280 2 := I.1.1.1
  have n16 := I.2.2.2.2.2.1.2.2.1
  have cm4 : (-400 : Int32).toInt = -400 := by decide +kernel
  have c12 : (1200 : Int32).toInt = 1200 := by decide +kernel
  show fl_Tq (pw_P L xs) 103 0 [some (.inr (.inr (.inl (0, 0)))), some (.inl a), some (.inl b)] [] (f, l) _
  have no : ¬ ((0 ≤ a.toInt ∧ a.toInt < (f 280 2).toInt) ∧ -400 ≤ b.toInt ∧ b.toInt ≤ 1200) → t2_Mid L xs 245 [at_this, .inl a, .inl b] (some (.inl (0 : Int32))) (f, l) := fun hn => by
    refine ⟨Z.U, ⟨_, rfl⟩, ?_⟩
    show fl_Tq (pw_P L xs) 245 0 [some (.inr (.inr (.inl (76, 277)))), some (.inl a), some (.inl b)] [] (f, l) _
    refine y_warm_A (fun h1 => ⟨rfl, Z.2, Z.U⟩) (fun h1 => y_warm_A2 (fun h2 => ⟨rfl, Z.2, Z.U⟩) (fun h2 => ?_))
    rw [r_isc n16, Classical.not_not] at h1
    rw [r_i0, cm4, c12, Classical.not_not] at h2
    exact absurd ⟨h1, h2⟩ hn
  refine x_warm_A (fun h1 => no (by rw [t2_isc (by rw [e5]; exact n16), e5] at h1; exact fun h => h1 h.1)) (fun h1 => x_warm_A2 (fun h2 => no (by rw [t2_w0, cm4, c12] at h2; exact fun h => h2 h.2)) (fun h2 => ?_))
  rw [t2_isc (by rw [e5]; exact n16), e5, Classical.not_not] at h1
  rw [t2_w0, cm4, c12, Classical.not_not] at h2
  obtain ⟨A, hA⟩ : ∃ A : Nat, a.toInt = A := ⟨a.toInt.toNat, by omega⟩
  have hA1 : A < 16 := by omega
  refine fl_Tq.cal rfl rfl (fl_bo rfl) rfl ?_
  refine t2_ckeep Z (fun g l' C => ?_)
  refine x_warm_B hA hA1 ?_
  have hF : ∀ p : Nat, 91 ≤ p → fl_row g (18 + 4 * A) (upd (g (18 + 4 * A)) 6 b) p = g p := fun p hp => fl_row_ne (by omega)
  have F280 := C.F280 hF
  refine ⟨fun p hp i => by show fl_row g (18 + 4 * A) _ p i = _; rw [fl_row_ne (by have : fl_N l'.2 ≤ p := hp; unfold fl_N at this; omega)]; exact C.U Z.U p hp i, ⟨_, rfl⟩, ?_⟩
  show fl_Tq (pw_P L xs) 245 0 [some (.inr (.inr (.inl (76, 277)))), some (.inl a), some (.inl b)] [] _ _
  refine y_warm_A (fun h => ?_) (fun _ => y_warm_A2 (fun h => ?_) (fun _ => ?_))
  · rw [r_isc (by rw [F280]; exact n16), F280] at h
    exact absurd h1 h
  · rw [r_i0, cm4, c12] at h
    exact absurd h2 h
  refine fl_Tq.cal rfl rfl (fl_bo rfl) rfl ?_
  refine Z.rkeep F280 (fun G hG K => ?_)
  refine y_warm_B hA hA1 ?_
  have I0 := Z.I0 C F280 K
  have G2 : G 280 2 = f 280 2 := by rw [← I0.1.1.1, C.now (by decide) (by decide) (by decide)]; exact e5
  have fin := Z.fin C hF K hG (H := fl_row G 280 (upd (G 280) (444 + 61 * A + 3) b)) (fun p hp => fl_row_ne (by omega)) (by rw [fl_row_ne (by decide)]) (fun w hw => by rw [fl_row_self, upd_ne (by omega)]) (I0.warm (by rw [G2]; omega))
  exact ⟨rfl, fin.1, fin.2⟩
/-- charge -/
theorem t2_charge (Z : t2_Z (f, l)) : fl_Tq (pw_P L xs) 102 0 (fl_args (am_mxl (pw_P L xs) 102) [lx_x, .inl a, .inl b]) [] (f, l) (t2_Mid L xs 244 [at_this, .inl a, .inl b]) := by
  have I : c0_I f f := Z.2.1
  have e5 : f 1 5 = f 280 2 := I.1.1.1
  have n16 := I.2.2.2.2.2.1.2.2.1
  have c0 : (0 : Int32).toInt = 0 := rfl
  have c36 : (3600 : Int32).toInt = 3600 := by decide +kernel
  show fl_Tq (pw_P L xs) 102 0 [some (.inr (.inr (.inl (0, 0)))), some (.inl a), some (.inl b)] [] (f, l) _
  have no1 : ¬ (0 ≤ a.toInt ∧ a.toInt < (f 280 2).toInt) → t2_Mid L xs 244 [at_this, .inl a, .inl b] (some (.inl (0 : Int32))) (f, l) := fun hn => by
    refine ⟨Z.U, ⟨_, rfl⟩, ?_⟩
    show fl_Tq (pw_P L xs) 244 0 [some (.inr (.inr (.inl (76, 277)))), some (.inl a), some (.inl b)] [] (f, l) _
    refine y_charge_A (fun h1 => ⟨rfl, Z.2, Z.U⟩) (fun h1 => ?_)
    rw [r_isc n16, Classical.not_not] at h1
    exact absurd h1 hn
  refine x_charge_A (fun h1 => no1 (by rw [t2_isc (by rw [e5]; exact n16), e5] at h1; exact h1)) (fun h1 => ?_)
  rw [t2_isc (by rw [e5]; exact n16), e5, Classical.not_not] at h1
  obtain ⟨A, hA⟩ : ∃ A : Nat, a.toInt = A := ⟨a.toInt.toNat, by omega⟩
  have hA1 : A < 16 := by omega
  have hAn : (A : Int) < (f 280 2).toInt := by omega
  have rc := (I.2.2.2.1 A hAn).1
  have e0 : f (18 + 4 * A) 0 = f 280 (444 + 61 * A + 0) := rc.1.1
  have hcap : 100 ≤ (f 280 (444 + 61 * A + 0)).toInt ∧ (f 280 (444 + 61 * A + 0)).toInt ≤ 9999 := (I.2.2.2.2.2.2.2.2.2.2.2 A hAn).1.1
  have em : (f 280 (444 + 61 * A + 0) * (3600 : Int32)).toInt = (f 280 (444 + 61 * A + 0)).toInt * 3600 := by rw [at_mul32 (by rw [c36]; omega) (by rw [c36]; omega), c36]
  have em2 : ((3600 : Int32) * f 280 (444 + 61 * A + 0)).toInt = 3600 * (f 280 (444 + 61 * A + 0)).toInt := by rw [at_mul32 (by rw [c36]; omega) (by rw [c36]; omega), c36]
  have no2 : ¬ (0 ≤ b.toInt ∧ b.toInt ≤ 3600 * (f 280 (444 + 61 * A + 0)).toInt) → t2_Mid L xs 244 [at_this, .inl a, .inl b] (some (.inl (0 : Int32))) (f, l) := fun hn => by
    refine ⟨Z.U, ⟨_, rfl⟩, ?_⟩
    show fl_Tq (pw_P L xs) 244 0 [some (.inr (.inr (.inl (76, 277)))), some (.inl a), some (.inl b)] [] (f, l) _
    refine y_charge_A (fun h1 => ⟨rfl, Z.2, Z.U⟩) (fun _ => y_charge_A2 hA hA1 (fun h2 => ⟨rfl, Z.2, Z.U⟩) (fun h2 => ?_))
    rw [r_i0, c0, em2, Classical.not_not] at h2
    exact absurd h2 hn
  refine x_charge_A2 hA hA1 (fun h2 => no2 (by rw [e0, t2_w0, c0, em] at h2; omega)) (fun h2 => ?_)
  rw [e0, t2_w0, c0, em, Classical.not_not] at h2
  refine fl_Tq.cal rfl rfl (fl_bo rfl) rfl ?_
  refine t2_ckeep Z (fun g l' C => ?_)
  refine x_charge_B hA hA1 (by rw [C.now (by omega) (by omega) (by omega), e0]; exact hcap) ?_
  have hF : ∀ p : Nat, 91 ≤ p → c0_putCharge_m g A b p = g p := fun p hp => by unfold c0_putCharge_m; rw [fl_row_ne (by omega)]
  have F280 := C.F280 hF
  refine ⟨fun p hp i => by show c0_putCharge_m g A b p i = _; rw [hF p (by have : fl_N l'.2 ≤ p := hp; unfold fl_N at this; omega)]; exact C.U Z.U p hp i, ⟨_, rfl⟩, ?_⟩
  show fl_Tq (pw_P L xs) 244 0 [some (.inr (.inr (.inl (76, 277)))), some (.inl a), some (.inl b)] [] _ _
  refine y_charge_A (fun h => ?_) (fun _ => y_charge_A2 hA hA1 (fun h => ?_) (fun _ => ?_))
  · rw [r_isc (by rw [F280]; exact n16), F280] at h
    exact absurd h1 h
  · rw [F280, r_i0, c0, em2] at h
    omega
  refine fl_Tq.cal rfl rfl (fl_bo rfl) rfl ?_
  refine Z.rkeep F280 (fun G hG K => ?_)
  refine y_charge_B hA hA1 ?_
  have I0 := Z.I0 C F280 K
  have G2 : G 280 2 = f 280 2 := by rw [← I0.1.1.1, C.now (by decide) (by decide) (by decide)]; exact e5
  have G0 : G 280 (444 + 61 * A + 0) = f 280 (444 + 61 * A + 0) := by
    have := (I0.2.2.2.1 A (by rw [G2]; omega)).1.1.1
    rw [← this, C.now (by omega) (by omega) (by omega)]
    exact e0
  have fin := Z.fin C hF K hG (H := fl_row G 280 (upd (G 280) (444 + 61 * A + 1) b)) (fun p hp => fl_row_ne (by omega)) (by rw [fl_row_ne (by decide)]) (fun w hw => by rw [fl_row_self, upd_ne (by omega)]) (I0.charge (by rw [G2]; omega) (by rw [G0]; omega))
  exact ⟨rfl, fin.1, fin.2⟩
/-- Arrays.fill of a row of cycles -/
noncomputable def t2_fil (f : t2_F) (A : Nat) (z : Int32) (n : Nat) : t2_F := fl_row f (21 + 4 * A) (fun w => if w < n then z else f (21 + 4 * A) w)
theorem t2_fil_0 : t2_fil f A z 0 = f := by
  unfold t2_fil
  funext p
  by_cases h : p = 21 + 4 * A
  · subst h
    rw [fl_row_self]
    funext w
    rw [if_neg (Nat.not_lt_zero w)]
  · rw [fl_row_ne h]
theorem t2_fil_s : fl_row (t2_fil f A z n) (21 + 4 * A) (upd (t2_fil f A z n (21 + 4 * A)) n z) = t2_fil f A z (n + 1) := by
  unfold t2_fil
  rw [fl_row_self, fl_rr]
  congr 1
  funext w
  by_cases e : w = n
  · subst e
    rw [upd_self, if_pos (Nat.lt_succ_self _)]
  · rw [upd_ne e]
    by_cases h : w < n
    · rw [if_pos h, if_pos (by omega)]
    · rw [if_neg h, if_neg (by omega)]
theorem t2_fill_q (hA1 : A < 16) (k : Q none (t2_fil f A z 11, l)) : fl_Tq (pw_P L xs) 338 0 (fl_args (am_mxl (pw_P L xs) 338) [.inr (.inr (.inl (21, 21 + 4 * A))), .inl z]) [] (f, l) Q := by
  have c11 : (Int32.ofNat 11).toInt = (11 : Nat) := at_ofN (by omega)
  show fl_Tq (pw_P L xs) 338 0 [some (.inr (.inr (.inl (21, 21 + 4 * A)))), some (.inl z), none, none] [] (f, l) Q
  refine x_fil_A (j := 0) hA1 ?_
  have loop := t2_for (n := 11) (S := fun j => fl_Tq (pw_P L xs) 338 5 [some (.inr (.inr (.inl (21, 21 + 4 * A)))), some (.inl z), some (.inl (Int32.ofNat j)), some (.inl (Int32.ofNat 11))] [] (t2_fil f A z j, l) Q) (fun j hj hS => ?_) ?_
  · rw [t2_fil_0] at loop
    exact loop
  · refine x_fil_B hA1 hj (t2_lk hj c11) ?_
    rw [t2_k1, t2_fil_s]
    exact hS
  · exact x_fil_C hA1 (t2_ln c11) k
/-- addCell -/
theorem t2_add_q {ch pt : Int32} (hch : ch = t2_heldTo_v (t2_chargeBy_v b a) (0 : Int32) (a * (3600 : Int32))) (hpt : pt = t2_partOf_v ch (a * (3600 : Int32))) (hA : (f 1 5).toInt = (A : Int)) (hA1 : A < 16) (hcp : t2_cap a)
    (k : ∀ F : t2_F, (∀ p : Nat, p ≠ 1 → (p < 18 + 4 * A ∨ 22 + 4 * A ≤ p) → F p = f p) → (∀ j : Nat, j ≠ 5 → F 1 j = f 1 j) → F 1 5 = f 1 5 + (1 : Int32) →
      (F (18 + 4 * A) 0 = a ∧ F (18 + 4 * A) 1 = a ∧ F (18 + 4 * A) 5 = c ∧ F (18 + 4 * A) 6 = f 4 6) → (F (18 + 4 * A) 2 = ch ∧ F (18 + 4 * A) 3 = pt ∧ F (18 + 4 * A) 4 = t2_rb pt ∧ F (18 + 4 * A) 8 = ch) → (F (18 + 4 * A) 7 = 0 ∧ F (18 + 4 * A) 9 = 0 ∧ F (18 + 4 * A) 10 = 0) → (F (18 + 4 * A) 14 = (-1000000 : Int32) ∧ F (18 + 4 * A) 15 = (-1 : Int32) ∧ F (18 + 4 * A) 16 = 0 ∧ F (18 + 4 * A) 17 = (-1 : Int32) ∧ F (18 + 4 * A) 18 = 0) →
      (F (19 + 4 * A) 2 = (1 : Int32) ∧ F (20 + 4 * A) 0 = pt ∧ ∀ j : Nat, j < 11 → F (21 + 4 * A) j = 0) → Q (some (.inl ((f 1 5 + (1 : Int32)) - (1 : Int32)))) (F, l)) :
    fl_Tq (pw_P L xs) 35 0 (fl_args (am_mxl (pw_P L xs) 35) [.inr (.inr (.inl (1, 1))), .inl a, .inl b, .inl c]) [] (f, l) Q := by
  show fl_Tq (pw_P L xs) 35 0 [some (.inr (.inr (.inl (1, 1)))), some (.inl a), some (.inl b), some (.inl c)] [] (f, l) Q
  refine x_add_A hA hA1 ?_
  refine fl_Tq.cal rfl rfl (fl_oks_ok ⟨True.intro, True.intro, True.intro, True.intro, t2_kc0 hA1, True.intro⟩) rfl ?_
  show fl_Tq (pw_P L xs) 2 0 [some (.inr (.inr (.inl (18, 18 + 4 * A)))), some (.inl a), some (.inl b), some (.inl c), some (.inl (f 4 6))] [] (f, l) _
  refine x_beg_A hA1 hcp ?_
  -- the cell's row
  generalize hM : fl_row (c0_putCharge_m (fl_row f (18 + 4 * A) (upd (upd (upd (upd (f (18 + 4 * A)) 0 a) 1 a) 5 c) 6 (f 4 6))) A (t2_chargeBy_v b a)) (18 + 4 * A) _ = M
  have mp : ∀ p : Nat, p ≠ 18 + 4 * A → M p = f p := fun p hp => by rw [← hM, fl_row_ne hp]; unfold c0_putCharge_m; rw [fl_row_ne hp, fl_row_ne hp]
  have e0 : fl_row f (18 + 4 * A) (upd (upd (upd (upd (f (18 + 4 * A)) 0 a) 1 a) 5 c) 6 (f 4 6)) (18 + 4 * A) 0 = a := by rw [fl_row_self, upd_ne (by decide), upd_ne (by decide), upd_ne (by decide), upd_self]
  have pc : ∀ j : Nat, c0_putCharge_m (fl_row f (18 + 4 * A) (upd (upd (upd (upd (f (18 + 4 * A)) 0 a) 1 a) 5 c) 6 (f 4 6))) A (t2_chargeBy_v b a) (18 + 4 * A) j = if j = 4 then t2_rb pt else if j = 3 then pt else if j = 2 then ch else upd (upd (upd (upd (f (18 + 4 * A)) 0 a) 1 a) 5 c) 6 (f 4 6) j := fun j => by
    unfold c0_putCharge_m
    rw [e0, ← hch, ← hpt, fl_row_self, fl_row_self]
    unfold upd
    split
    · rfl
    · split
      · rfl
      · rfl
  have mr : ∀ j : Nat, j < 19 → M (18 + 4 * A) j = if j = 0 then a else if j = 1 then a else if j = 2 then ch else if j = 3 then pt else if j = 4 then t2_rb pt else if j = 5 then c else if j = 6 then f 4 6 else if j = 8 then ch else if j = 14 then (-1000000 : Int32) else if j = 15 then (-1 : Int32) else if j = 17 then (-1 : Int32) else (0 : Int32) := fun j hj => by
    rw [← hM, fl_row_self]
    have : j = 0 ∨ j = 1 ∨ j = 2 ∨ j = 3 ∨ j = 4 ∨ j = 5 ∨ j = 6 ∨ j = 7 ∨ j = 8 ∨ j = 9 ∨ j = 10 ∨ j = 11 ∨ j = 12 ∨ j = 13 ∨ j = 14 ∨ j = 15 ∨ j = 16 ∨ j = 17 ∨ j = 18 := by omega
    rcases this with h | h | h | h | h | h | h | h | h | h | h | h | h | h | h | h | h | h | h <;> subst h <;> simp (disch := omega) only [upd_self, upd_ne, pc, if_pos, if_neg, if_true, if_false] <;> rfl
  have e3 : c0_putCharge_m (fl_row f (18 + 4 * A) (upd (upd (upd (upd (f (18 + 4 * A)) 0 a) 1 a) 5 c) 6 (f 4 6))) A (t2_chargeBy_v b a) (18 + 4 * A) 3 = pt := by rw [pc]; rfl
  rw [e3]
  clear hM pc e3
  refine fl_Tq.cal rfl rfl (fl_oks_ok ⟨True.intro, t2_kt0 hA1, True.intro⟩) rfl ?_
  show fl_Tq (pw_P L xs) 86 0 [some (.inr (.inr (.inl (19, 19 + 4 * A)))), some (.inl pt)] [] (M, l) _
  refine x_tub_A hA1 ?_
  refine fl_Tq.cal rfl rfl (fl_oks_ok ⟨True.intro, t2_ky0 hA1, True.intro⟩) rfl ?_
  refine t2_fill_q hA1 ?_
  refine x_tub_B hA1 ?_
  refine fl_Tq.ret rfl rfl rfl ?_
  refine x_add_B ?_
  have fp : ∀ p : Nat, p ≠ 21 + 4 * A → t2_fil M A (0 : Int32) 11 p = M p := fun p hp => by unfold t2_fil; rw [fl_row_ne hp]
  generalize hX : fl_row (fl_row (t2_fil M A (0 : Int32) 11) (20 + 4 * A) (upd (t2_fil M A (0 : Int32) 11 (20 + 4 * A)) 0 pt)) (19 + 4 * A) (upd (t2_fil M A (0 : Int32) 11 (19 + 4 * A)) 2 (1 : Int32)) = X
  have xp : ∀ p : Nat, p ≠ 19 + 4 * A → p ≠ 20 + 4 * A → p ≠ 21 + 4 * A → X p = M p := fun p h1 h2 h3 => by rw [← hX, fl_row_ne h1, fl_row_ne h2, fp p h3]
  have x1 : X 1 = f 1 := by rw [xp 1 (by omega) (by omega) (by omega), mp 1 (by omega)]
  have q := fun (p : Nat) (hp : p ≠ 1) => fl_row_ne (f := X) (p := 1) (q := p) (w := upd (X 1) 5 (X 1 5 + (1 : Int32))) hp
  have r18 : fl_row X 1 (upd (X 1) 5 (X 1 5 + (1 : Int32))) (18 + 4 * A) = M (18 + 4 * A) := by rw [q _ (by omega), xp _ (by omega) (by omega) (by omega)]
  have K := k (fl_row X 1 (upd (X 1) 5 (X 1 5 + (1 : Int32)))) (fun p h1 h2 => by rw [q p h1, xp p (by omega) (by omega) (by omega), mp p (by omega)]) (fun j hj => by rw [fl_row_self, upd_ne hj, x1]) (by rw [fl_row_self, upd_self, x1])
    (by rw [r18]; exact ⟨mr 0 (by decide), mr 1 (by decide), mr 5 (by decide), mr 6 (by decide)⟩) (by rw [r18]; exact ⟨mr 2 (by decide), mr 3 (by decide), mr 4 (by decide), mr 8 (by decide)⟩) (by rw [r18]; exact ⟨mr 7 (by decide), mr 9 (by decide), mr 10 (by decide)⟩) (by rw [r18]; exact ⟨mr 14 (by decide), mr 15 (by decide), mr 16 (by decide), mr 17 (by decide), mr 18 (by decide)⟩)
    ⟨by rw [q _ (by omega), ← hX, fl_row_self, upd_self], by rw [q _ (by omega), ← hX, fl_row_ne (by omega), fl_row_self, upd_self], fun j hj => by rw [q _ (by omega), ← hX, fl_row_ne (by omega), fl_row_ne (by omega)]; unfold t2_fil; rw [fl_row_self]; exact if_pos hj⟩
  rw [x1] at K ⊢
  exact K
end T2MQ4
