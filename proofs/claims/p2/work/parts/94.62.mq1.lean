/-! ===== the calls that change something, one after the other on both sides ===== -/
theorem t2_w0 {x lo hi : Int32} : (t2_within_v x lo hi).toInt = 0 ↔ ¬ (lo.toInt ≤ x.toInt ∧ x.toInt ≤ hi.toInt) := by
  have c0 : (0 : Int32).toInt = 0 := rfl
  have c1 : (1 : Int32).toInt = 1 := by decide +kernel
  unfold t2_within_v
  split
  · rw [c0]
    omega
  · split
    · rw [c0]
      omega
    · rw [c1]
      omega
theorem r_i0 {x lo hi : Int32} : (r_isIn_v x lo hi).toInt = 0 ↔ ¬ (lo.toInt ≤ x.toInt ∧ x.toInt ≤ hi.toInt) := t2_w0
section T2MQ1
variable {L : Nat} {xs : Nat → Int32} {f : t2_F} {l : t2_L} {Q : Option fl_V → fl_M → Prop} {a b : Int32}
theorem t2_Z.w0 (Z : t2_Z (f, l)) : 0 ≤ (f 280 0).toInt ∧ (f 280 0).toInt ≤ 20 := Z.2.2.1.1.2.2.1
theorem t2_Z.w1 (Z : t2_Z (f, l)) : 0 ≤ (f 280 1).toInt ∧ (f 280 1).toInt ≤ 19 := Z.2.2.1.1.2.2.2.1
theorem t2_Z.rkeep {F : t2_F} {l' : t2_L} (Z : t2_Z (f, l)) (e : F 280 = f 280) (k : ∀ g : t2_F, (∀ p : Nat, p ≠ 280 → g p = F p) → t2_RK F g → Q none (g, l')) : fl_Tq (pw_P L xs) 241 0 (fl_args (am_mxl (pw_P L xs) 241) [.inr (.inr (.inl (76, 277)))]) [] (F, l') Q :=
  t2_rkeep (by rw [e]; exact Z.w0) (by rw [e]; exact Z.w1) k
/-- hear -/
theorem t2_hear (Z : t2_Z (f, l)) : fl_Tq (pw_P L xs) 111 0 (fl_args (am_mxl (pw_P L xs) 111) [lx_x]) [] (f, l) (t2_Mid L xs 255 [at_this]) := by
  show fl_Tq (pw_P L xs) 111 0 [some (.inr (.inr (.inl (0, 0)))), none] [] (f, l) _
  refine x_hear_A ?_
  refine fl_Tq.cal rfl rfl (fl_bo rfl) rfl ?_
  refine t2_ckeep Z (fun g l' C => ?_)
  refine x_hear_B ?_
  have hF : ∀ p : Nat, 91 ≤ p → fl_row g 10 (upd (g 10) 4 (0 : Int32)) p = g p := fun p hp => fl_row_ne (by omega)
  refine ⟨fun p hp i => by show fl_row g 10 _ p i = _; rw [fl_row_ne (by have : fl_N l'.2 ≤ p := hp; unfold fl_N at this; omega)]; exact C.U Z.U p hp i, ⟨_, rfl⟩, ?_⟩
  show fl_Tq (pw_P L xs) 255 0 [some (.inr (.inr (.inl (76, 277)))), none] [] _ _
  refine y_hear_A ?_
  refine fl_Tq.cal rfl rfl (fl_bo rfl) rfl ?_
  refine Z.rkeep (C.F280 hF) (fun G hG K => ?_)
  refine y_hear_B ?_
  have I0 := Z.I0 C (C.F280 hF) K
  have e : G 280 22 = g 10 4 := I0.2.2.1.2.1.1.2.1.symm
  have fin := Z.fin C hF K hG (H := fl_row G 280 (upd (G 280) 22 (0 : Int32))) (fun p hp => fl_row_ne (by omega)) (by rw [fl_row_ne (by decide)]) (fun w hw => by rw [fl_row_self, upd_ne (by omega)]) I0.silence
  exact ⟨by rw [e], fin.1, fin.2⟩
/-- stuck -/
theorem t2_stuck (Z : t2_Z (f, l)) : fl_Tq (pw_P L xs) 109 0 (fl_args (am_mxl (pw_P L xs) 109) [lx_x, .inl a, .inl b]) [] (f, l) (t2_Mid L xs 258 [at_this, .inl a, .inl b]) := by
  have c0 : (0 : Int32).toInt = 0 := rfl
  have c2 : (2 : Int32).toInt = 2 := by decide +kernel
  show fl_Tq (pw_P L xs) 109 0 [some (.inr (.inr (.inl (0, 0)))), some (.inl a), some (.inl b)] [] (f, l) _
  have no : ¬ ((0 ≤ a.toInt ∧ a.toInt ≤ 2) ∧ 0 ≤ b.toInt ∧ b.toInt ≤ 2) → t2_Mid L xs 258 [at_this, .inl a, .inl b] (some (.inl (0 : Int32))) (f, l) := fun hn => by
    refine ⟨Z.U, ⟨_, rfl⟩, ?_⟩
    show fl_Tq (pw_P L xs) 258 0 [some (.inr (.inr (.inl (76, 277)))), some (.inl a), some (.inl b)] [] (f, l) _
    refine y_stuck_A (fun h1 => ⟨rfl, Z.2, Z.U⟩) (fun h1 h2 => ⟨rfl, Z.2, Z.U⟩) (fun h1 h2 => ?_)
    rw [r_i0, c0, c2] at h1 h2
    omega
  refine x_stuck_A (fun h1 => no (by rw [t2_w0, c0, c2] at h1; omega)) (fun h1 h2 => no (by rw [t2_w0, c0, c2] at h2; omega)) (fun h1 h2 => ?_)
  rw [t2_w0, c0, c2, Classical.not_not] at h1 h2
  obtain ⟨A, hA⟩ : ∃ A : Nat, a.toInt = A := ⟨a.toInt.toNat, by omega⟩
  have hA1 : A < 3 := by omega
  have hb : t2_how b := by
    have c1 : (1 : Int32).toInt = 1 := by decide +kernel
    rcases (by omega : b.toInt = 0 ∨ b.toInt = 1 ∨ b.toInt = 2) with e | e | e
    · exact Or.inl (Int32.toInt.inj (by rw [e, c0]))
    · exact Or.inr (Or.inl (Int32.toInt.inj (by rw [e, c1])))
    · exact Or.inr (Or.inr (Int32.toInt.inj (by rw [e, c2])))
  refine fl_Tq.cal rfl rfl (fl_bo rfl) rfl ?_
  refine t2_ckeep Z (fun g l' C => ?_)
  refine x_stuck_B hA hA1 ?_
  have hF : ∀ p : Nat, 91 ≤ p → fl_row g 5 (upd (g 5) A b) p = g p := fun p hp => fl_row_ne (by omega)
  refine ⟨fun p hp i => by show fl_row g 5 _ p i = _; rw [fl_row_ne (by have : fl_N l'.2 ≤ p := hp; unfold fl_N at this; omega)]; exact C.U Z.U p hp i, ⟨_, rfl⟩, ?_⟩
  show fl_Tq (pw_P L xs) 258 0 [some (.inr (.inr (.inl (76, 277)))), some (.inl a), some (.inl b)] [] _ _
  refine y_stuck_A (fun h => ?_) (fun _ h => ?_) (fun _ _ => ?_)
  · rw [r_i0, c0, c2] at h
    omega
  · rw [r_i0, c0, c2] at h
    omega
  refine fl_Tq.cal rfl rfl (fl_bo rfl) rfl ?_
  refine Z.rkeep (C.F280 hF) (fun G hG K => ?_)
  refine y_stuck_B hA hA1 ?_
  have I0 := Z.I0 C (C.F280 hF) K
  have fin := Z.fin C hF K hG (H := fl_row G 280 (upd (G 280) (64 + A) b)) (fun p hp => fl_row_ne (by omega)) (by rw [fl_row_ne (by decide)]) (fun w hw => by rw [fl_row_self, upd_ne (by omega)]) (I0.stuck hA1 hb)
  exact ⟨rfl, fin.1, fin.2⟩
/-- price -/
theorem t2_price (Z : t2_Z (f, l)) : fl_Tq (pw_P L xs) 112 0 (fl_args (am_mxl (pw_P L xs) 112) [lx_x, .inl a, .inl b]) [] (f, l) (t2_Mid L xs 256 [at_this, .inl a, .inl b]) := by
  have c0 : (0 : Int32).toInt = 0 := rfl
  have c23 : (23 : Int32).toInt = 23 := by decide +kernel
  have c999 : (999 : Int32).toInt = 999 := by decide +kernel
  show fl_Tq (pw_P L xs) 112 0 [some (.inr (.inr (.inl (0, 0)))), some (.inl a), some (.inl b)] [] (f, l) _
  have no : ¬ ((0 ≤ a.toInt ∧ a.toInt ≤ 23) ∧ 0 ≤ b.toInt ∧ b.toInt ≤ 999) → t2_Mid L xs 256 [at_this, .inl a, .inl b] (some (.inl (0 : Int32))) (f, l) := fun hn => by
    refine ⟨Z.U, ⟨_, rfl⟩, ?_⟩
    show fl_Tq (pw_P L xs) 256 0 [some (.inr (.inr (.inl (76, 277)))), some (.inl a), some (.inl b)] [] (f, l) _
    refine y_price_A (fun h1 => ⟨rfl, Z.2, Z.U⟩) (fun h1 h2 => ⟨rfl, Z.2, Z.U⟩) (fun h1 h2 => ?_)
    rw [r_i0, c0, c23] at h1
    rw [r_i0, c0, c999] at h2
    omega
  refine x_price_A (fun h1 => no (by rw [t2_w0, c0, c23] at h1; omega)) (fun h1 h2 => no (by rw [t2_w0, c0, c999] at h2; omega)) (fun h1 h2 => ?_)
  rw [t2_w0, c0, c23, Classical.not_not] at h1
  rw [t2_w0, c0, c999, Classical.not_not] at h2
  obtain ⟨A, hA⟩ : ∃ A : Nat, a.toInt = A := ⟨a.toInt.toNat, by omega⟩
  have hA1 : A < 24 := by omega
  refine fl_Tq.cal rfl rfl (fl_bo rfl) rfl ?_
  refine t2_ckeep Z (fun g l' C => ?_)
  refine x_price_B hA hA1 ?_
  have hF : ∀ p : Nat, 91 ≤ p → fl_row g 6 (upd (g 6) A b) p = g p := fun p hp => fl_row_ne (by omega)
  refine ⟨fun p hp i => by show fl_row g 6 _ p i = _; rw [fl_row_ne (by have : fl_N l'.2 ≤ p := hp; unfold fl_N at this; omega)]; exact C.U Z.U p hp i, ⟨_, rfl⟩, ?_⟩
  show fl_Tq (pw_P L xs) 256 0 [some (.inr (.inr (.inl (76, 277)))), some (.inl a), some (.inl b)] [] _ _
  refine y_price_A (fun h => ?_) (fun _ h => ?_) (fun _ _ => ?_)
  · rw [r_i0, c0, c23] at h
    omega
  · rw [r_i0, c0, c999] at h
    omega
  refine fl_Tq.cal rfl rfl (fl_bo rfl) rfl ?_
  refine Z.rkeep (C.F280 hF) (fun G hG K => ?_)
  refine y_price_B hA hA1 ?_
  have I0 := Z.I0 C (C.F280 hF) K
  have fin := Z.fin C hF K hG (H := fl_row G 280 (upd (G 280) (315 + A) b)) (fun p hp => fl_row_ne (by omega)) (by rw [fl_row_ne (by decide)]) (fun w hw => by rw [fl_row_self, upd_ne (by omega)]) (I0.price hA1)
  exact ⟨rfl, fin.1, fin.2⟩
/-- close -/
theorem t2_close (Z : t2_Z (f, l)) : fl_Tq (pw_P L xs) 106 0 (fl_args (am_mxl (pw_P L xs) 106) [lx_x]) [] (f, l) (t2_Mid L xs 251 [at_this]) := by
  have I : c0_I f f := Z.2.1
  have e3 : f 1 7 = f 280 3 := I.1.1.2.2.1
  have e6 : f 10 3 = f 280 6 := I.2.2.1.2.1.1.1
  have e2 : f 1 5 = f 280 2 := I.1.1.1
  show fl_Tq (pw_P L xs) 106 0 [some (.inr (.inr (.inl (0, 0))))] [] (f, l) _
  have no : ¬ ((f 280 3).toInt = 0 ∧ (f 280 6).toInt = 0 ∧ ¬ (f 280 2).toInt = 0) → t2_Mid L xs 251 [at_this] (some (.inl (0 : Int32))) (f, l) := fun hn => by
    refine ⟨Z.U, ⟨_, rfl⟩, ?_⟩
    show fl_Tq (pw_P L xs) 251 0 [some (.inr (.inr (.inl (76, 277))))] [] (f, l) _
    exact y_close_A (fun h1 h2 h3 => ⟨rfl, Z.2, Z.U⟩) (fun h1 h2 h3 => absurd ⟨h1, h2, h3⟩ hn) (fun h1 h2 => ⟨rfl, Z.2, Z.U⟩) (fun h1 => ⟨rfl, Z.2, Z.U⟩)
  refine x_close_A (fun h1 h2 h3 => no (fun h => h.2.2 (by rw [← e2]; exact h3))) (fun h1 h2 h3 => ?_) (fun h1 h2 => no (fun h => h2 (by rw [e6]; exact h.2.1))) (fun h1 => no (fun h => h1 (by rw [e3]; exact h.1)))
  rw [e3] at h1
  rw [e6] at h2
  rw [e2] at h3
  refine fl_Tq.cal rfl rfl (fl_bo rfl) rfl ?_
  refine t2_ckeep Z (fun g l' C => ?_)
  refine x_close_B ?_
  have hF : ∀ p : Nat, 91 ≤ p → fl_row g 1 (upd (g 1) 7 (1 : Int32)) p = g p := fun p hp => fl_row_ne (by omega)
  have F280 := C.F280 hF
  refine ⟨fun p hp i => by show fl_row g 1 _ p i = _; rw [fl_row_ne (by have : fl_N l'.2 ≤ p := hp; unfold fl_N at this; omega)]; exact C.U Z.U p hp i, ⟨_, rfl⟩, ?_⟩
  show fl_Tq (pw_P L xs) 251 0 [some (.inr (.inr (.inl (76, 277))))] [] _ _
  refine y_close_A (fun _ _ h => ?_) (fun _ _ _ => ?_) (fun _ h => ?_) (fun h => ?_)
  · rw [F280] at h
    exact absurd h h3
  · refine fl_Tq.cal rfl rfl (fl_bo rfl) rfl ?_
    refine Z.rkeep F280 (fun G hG K => ?_)
    refine y_close_B ?_
    have I0 := Z.I0 C F280 K
    have fin := Z.fin C hF K hG (H := fl_row G 280 (upd (G 280) 3 (1 : Int32))) (fun p hp => fl_row_ne (by omega)) (by rw [fl_row_ne (by decide)]) (fun w hw => by rw [fl_row_self, upd_ne (by omega)]) I0.state
    exact ⟨rfl, fin.1, fin.2⟩
  · rw [F280] at h
    exact absurd h2 h
  · rw [F280] at h
    exact absurd h1 h
/-- open -/
theorem t2_open (Z : t2_Z (f, l)) : fl_Tq (pw_P L xs) 107 0 (fl_args (am_mxl (pw_P L xs) 107) [lx_x]) [] (f, l) (t2_Mid L xs 252 [at_this]) := by
  have I : c0_I f f := Z.2.1
  have c0 : (0 : Int32).toInt = 0 := rfl
  have e3 : f 1 7 = f 280 3 := I.1.1.2.2.1
  show fl_Tq (pw_P L xs) 107 0 [some (.inr (.inr (.inl (0, 0))))] [] (f, l) _
  refine x_open_A (fun h1 => ?_) (fun h1 => ?_)
  · refine ⟨Z.U, ⟨_, rfl⟩, ?_⟩
    show fl_Tq (pw_P L xs) 252 0 [some (.inr (.inr (.inl (76, 277))))] [] (f, l) _
    exact y_open_A (fun _ => ⟨rfl, Z.2, Z.U⟩) (fun h => absurd (by rw [← e3]; exact h1) h)
  rw [e3] at h1
  refine fl_Tq.cal rfl rfl (fl_bo rfl) rfl ?_
  refine t2_ckeep Z (fun g l' C => ?_)
  refine x_open_B ?_
  have hF : ∀ p : Nat, 91 ≤ p → fl_row g 1 (upd (upd (g 1) 7 (0 : Int32)) 9 (0 : Int32)) p = g p := fun p hp => fl_row_ne (by omega)
  have F280 := C.F280 hF
  refine ⟨fun p hp i => by show fl_row g 1 _ p i = _; rw [fl_row_ne (by have : fl_N l'.2 ≤ p := hp; unfold fl_N at this; omega)]; exact C.U Z.U p hp i, ⟨_, rfl⟩, ?_⟩
  show fl_Tq (pw_P L xs) 252 0 [some (.inr (.inr (.inl (76, 277))))] [] _ _
  refine y_open_A (fun h => ?_) (fun _ => ?_)
  · rw [F280] at h
    exact absurd h h1
  refine fl_Tq.cal rfl rfl (fl_bo rfl) rfl ?_
  refine Z.rkeep F280 (fun G hG K => ?_)
  refine y_open_B ?_
  have I0 := Z.I0 C F280 K
  have J := (I0.state (v := (0 : Int32))).current (v := (0 : Int32)) (by rw [c0]; omega)
  have J2 : c0_I (fl_row g 1 (upd (upd (g 1) 7 (0 : Int32)) 9 (0 : Int32))) (fl_row G 280 (upd (upd (G 280) 3 (0 : Int32)) 5 (0 : Int32))) := J.ext (fun p _ _ => by
    by_cases e : p = 1
    · subst e
      rw [fl_row_self, fl_row_self, fl_row_self]
    · rw [fl_row_ne e, fl_row_ne e, fl_row_ne e]) (fun w _ _ => by rw [fl_row_self, fl_row_self, fl_row_self])
  have fin := Z.fin C hF K hG (H := fl_row G 280 (upd (upd (G 280) 3 (0 : Int32)) 5 (0 : Int32))) (fun p hp => fl_row_ne (by omega)) (by rw [fl_row_ne (by decide)]) (fun w hw => by rw [fl_row_self, upd_ne (by omega), upd_ne (by omega)]) J2
  exact ⟨rfl, fin.1, fin.2⟩
end T2MQ1
