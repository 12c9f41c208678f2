/-! ===== unrule, wipe, mark ===== -/
section T2MQ3
variable {L : Nat} {xs : Nat → Int32} {f g F G : t2_F} {l l' : t2_L} {Q : Option fl_V → fl_M → Prop} {a b c : Int32} {A B N n : Nat}
/-- words of the reference are cleared -/
noncomputable def y_clr (f : t2_F) (B N : Nat) : t2_F := fl_row f 280 (fun w => if B ≤ w ∧ w < B + N then 0 else f 280 w)
theorem y_clr_0 : y_clr f B 0 = f := by
  unfold y_clr
  funext p w
  unfold fl_row
  split
  · rename_i h
    dsimp only
    rw [if_neg (by omega), h]
  · rfl
theorem y_clr_s : fl_row (y_clr f B n) 280 (upd (y_clr f B n 280) (B + n) (0 : Int32)) = y_clr f B (n + 1) := by
  unfold y_clr
  rw [fl_row_self, fl_rr]
  congr 1
  funext w
  by_cases e : w = B + n
  · subst e
    rw [upd_self, if_pos (by omega)]
  · rw [upd_ne e]
    by_cases h : B ≤ w ∧ w < B + n
    · rw [if_pos h, if_pos (by omega)]
    · rw [if_neg h, if_neg (by omega)]
theorem y_clear_q (hA : a.toInt = (A : Int)) (hA1 : A < 29780) (hb : b.toInt = (B : Int)) (hc : c.toInt = ((B + N : Nat) : Int)) (hB : B + N ≤ 29780) (k : Q (some (.inl (f 280 A))) (fl_row (y_clr f B N) 280 (upd (y_clr f B N 280) A (0 : Int32)), l)) : fl_Tq (pw_P L xs) 262 4 [some (.inr (.inr (.inl (76, 277)))), some (.inl a), some (.inl b), some (.inl c), none, none] [] (f, l) Q := by
  have c1 : (1 : Int32).toInt = 1 := by decide +kernel
  refine y_clear_B hA hA1 ?_
  have loop := t2_for (n := N) (S := fun j => ∀ z : Int32, z.toInt = ((B + j : Nat) : Int) → fl_Tq (pw_P L xs) 262 15 [some (.inr (.inr (.inl (76, 277)))), some (.inl a), some (.inl b), some (.inl c), some (.inl (f 280 A)), some (.inl z)] [] (y_clr f B j, l) Q) (fun j hj hS z hz => ?_) (fun z hz => ?_)
  · have := loop b (by rw [hb]; rfl)
    rw [y_clr_0] at this
    exact this
  · refine y_clear_C (Z := B + j) hz (by omega) (by omega) ?_
    rw [y_clr_s]
    exact hS _ (by rw [at_add32 (by omega) (by omega), c1]; omega)
  · exact y_clear_D hA hA1 (by omega) k
/-- unrule -/
theorem t2_unrule (Z : t2_Z (f, l)) : fl_Tq (pw_P L xs) 116 0 (fl_args (am_mxl (pw_P L xs) 116) [lx_x]) [] (f, l) (t2_Mid L xs 263 [at_this]) := by
  show fl_Tq (pw_P L xs) 116 0 [some (.inr (.inr (.inl (0, 0)))), none] [] (f, l) _
  refine x_unrule_A ?_
  refine fl_Tq.cal rfl rfl (fl_bo rfl) rfl ?_
  refine t2_ckeep Z (fun g l' C => ?_)
  refine x_unrule_B ?_
  have hF : ∀ p : Nat, 91 ≤ p → fl_row g 3 (upd (g 3) 8 (0 : Int32)) p = g p := fun p hp => fl_row_ne (by omega)
  refine ⟨fun p hp i => by show fl_row g 3 _ p i = _; rw [fl_row_ne (by have : fl_N l'.2 ≤ p := hp; unfold fl_N at this; omega)]; exact C.U Z.U p hp i, ⟨_, rfl⟩, ?_⟩
  show fl_Tq (pw_P L xs) 263 0 [some (.inr (.inr (.inl (76, 277))))] [] _ _
  refine y_unrule_A ?_
  refine fl_Tq.cal rfl rfl (fl_bo rfl) rfl ?_
  show fl_Tq (pw_P L xs) 262 0 [some (.inr (.inr (.inl (76, 277)))), some (.inl (18 : Int32)), some (.inl (79 : Int32)), some (.inl (119 : Int32)), none, none] [] _ _
  refine y_clear_A ?_
  refine fl_Tq.cal rfl rfl (fl_bo rfl) rfl ?_
  refine Z.rkeep (C.F280 hF) (fun G hG K => ?_)
  have I0 := Z.I0 C (C.F280 hF) K
  refine y_clear_q (A := 18) (B := 79) (N := 40) (by decide +kernel) (by decide) (by decide +kernel) (by decide +kernel) (by decide) ?_
  refine fl_Tq.ret rfl rfl rfl ?_
  have w : ∀ j : Nat, j ≠ 18 → fl_row (y_clr G 79 40) 280 (upd (y_clr G 79 40 280) 18 (0 : Int32)) 280 j = if 79 ≤ j ∧ j < 119 then 0 else G 280 j := fun j hj => by
    rw [fl_row_self, upd_ne hj]
    unfold y_clr
    rw [fl_row_self]
  have J := I0.unrule (G := fl_row (y_clr G 79 40) 280 (upd (y_clr G 79 40 280) 18 (0 : Int32))) (fun j h1 h2 => by rw [w j h1, if_neg (by omega)]) (by rw [fl_row_self, upd_self]) (fun j h1 h2 => by rw [w j (by omega), if_pos ⟨h1, h2⟩])
  have fin := Z.fin C hF K hG (H := fl_row (y_clr G 79 40) 280 (upd (y_clr G 79 40 280) 18 (0 : Int32))) (fun p hp => by unfold y_clr; rw [fl_row_ne (by omega), fl_row_ne (by omega)]) (by unfold y_clr; rw [fl_row_ne (by decide), fl_row_ne (by decide)]) (fun j hj => by rw [w j (by omega), if_neg (by omega)]) J.1
  exact ⟨by rw [J.2], fin.1, fin.2⟩
/-- wipe -/
theorem t2_wipe (Z : t2_Z (f, l)) : fl_Tq (pw_P L xs) 117 0 (fl_args (am_mxl (pw_P L xs) 117) [lx_x]) [] (f, l) (t2_Mid L xs 264 [at_this]) := by
  show fl_Tq (pw_P L xs) 117 0 [some (.inr (.inr (.inl (0, 0)))), none] [] (f, l) _
  refine x_wipe_A ?_
  refine fl_Tq.cal rfl rfl (fl_bo rfl) rfl ?_
  refine t2_ckeep Z (fun g l' C => ?_)
  refine x_wipe_B ?_
  have hF : ∀ p : Nat, 91 ≤ p → fl_row g 3 (upd (g 3) 7 (0 : Int32)) p = g p := fun p hp => fl_row_ne (by omega)
  refine ⟨fun p hp i => by show fl_row g 3 _ p i = _; rw [fl_row_ne (by have : fl_N l'.2 ≤ p := hp; unfold fl_N at this; omega)]; exact C.U Z.U p hp i, ⟨_, rfl⟩, ?_⟩
  show fl_Tq (pw_P L xs) 264 0 [some (.inr (.inr (.inl (76, 277))))] [] _ _
  refine y_wipe_A ?_
  refine fl_Tq.cal rfl rfl (fl_bo rfl) rfl ?_
  show fl_Tq (pw_P L xs) 262 0 [some (.inr (.inr (.inl (76, 277)))), some (.inl (19 : Int32)), some (.inl (119 : Int32)), some (.inl (167 : Int32)), none, none] [] _ _
  refine y_clear_A ?_
  refine fl_Tq.cal rfl rfl (fl_bo rfl) rfl ?_
  refine Z.rkeep (C.F280 hF) (fun G hG K => ?_)
  have I0 := Z.I0 C (C.F280 hF) K
  refine y_clear_q (A := 19) (B := 119) (N := 48) (by decide +kernel) (by decide) (by decide +kernel) (by decide +kernel) (by decide) ?_
  refine fl_Tq.ret rfl rfl rfl ?_
  have w : ∀ j : Nat, j ≠ 19 → fl_row (y_clr G 119 48) 280 (upd (y_clr G 119 48 280) 19 (0 : Int32)) 280 j = if 119 ≤ j ∧ j < 167 then 0 else G 280 j := fun j hj => by
    rw [fl_row_self, upd_ne hj]
    unfold y_clr
    rw [fl_row_self]
  have J := I0.wipe (G := fl_row (y_clr G 119 48) 280 (upd (y_clr G 119 48 280) 19 (0 : Int32))) (fun j h1 h2 => by rw [w j h1, if_neg (by omega)]) (by rw [fl_row_self, upd_self])
  have fin := Z.fin C hF K hG (H := fl_row (y_clr G 119 48) 280 (upd (y_clr G 119 48 280) 19 (0 : Int32))) (fun p hp => by unfold y_clr; rw [fl_row_ne (by omega), fl_row_ne (by omega)]) (by unfold y_clr; rw [fl_row_ne (by decide), fl_row_ne (by decide)]) (fun j hj => by rw [w j (by omega), if_neg (by omega)]) J.1
  exact ⟨by rw [J.2], fin.1, fin.2⟩
/-- layMark -/
noncomputable def t2_lay (g : t2_F) (A n : Nat) : t2_F := fl_row (fl_row g (83 + 3 * A) (fun w => if w < n then g (18 + 4 * w) 3 else g (83 + 3 * A) w)) (84 + 3 * A) (fun w => if w < n then g (18 + 4 * w) 9 else g (84 + 3 * A) w)
theorem t2_lay_fr {p : Nat} (h1 : p ≠ 83 + 3 * A) (h2 : p ≠ 84 + 3 * A) : t2_lay g A n p = g p := by
  unfold t2_lay
  rw [fl_row_ne h2, fl_row_ne h1]
theorem t2_lay_83 : t2_lay g A n (83 + 3 * A) = fun w => if w < n then g (18 + 4 * w) 3 else g (83 + 3 * A) w := by
  unfold t2_lay
  rw [fl_row_ne (by omega), fl_row_self]
theorem t2_lay_84 : t2_lay g A n (84 + 3 * A) = fun w => if w < n then g (18 + 4 * w) 9 else g (84 + 3 * A) w := by
  unfold t2_lay
  rw [fl_row_self]
theorem t2_lay_0 : t2_lay g A 0 = g := by
  funext p
  by_cases h2 : p = 84 + 3 * A
  · subst h2
    rw [t2_lay_84]
    funext w
    rw [if_neg (Nat.not_lt_zero w)]
  · by_cases h1 : p = 83 + 3 * A
    · subst h1
      rw [t2_lay_83]
      funext w
      rw [if_neg (Nat.not_lt_zero w)]
    · exact t2_lay_fr h1 h2
theorem t2_lay_s (hn : n < 16) : fl_row (fl_row (t2_lay g A n) (83 + 3 * A) (upd (t2_lay g A n (83 + 3 * A)) n (t2_lay g A n (18 + 4 * n) 3))) (84 + 3 * A) (upd (t2_lay g A n (84 + 3 * A)) n (t2_lay g A n (18 + 4 * n) 9)) = t2_lay g A (n + 1) := by
  rw [t2_lay_fr (p := 18 + 4 * n) (by omega) (by omega), t2_lay_83, t2_lay_84]
  funext p
  by_cases h2 : p = 84 + 3 * A
  · subst h2
    rw [fl_row_self, t2_lay_84]
    funext w
    by_cases e : w = n
    · subst e
      rw [upd_self, if_pos (Nat.lt_succ_self _)]
    · rw [upd_ne e]
      by_cases h : w < n
      · rw [if_pos h, if_pos (by omega)]
      · rw [if_neg h, if_neg (by omega)]
  · rw [fl_row_ne h2]
    by_cases h1 : p = 83 + 3 * A
    · subst h1
      rw [fl_row_self, t2_lay_83]
      funext w
      by_cases e : w = n
      · subst e
        rw [upd_self, if_pos (Nat.lt_succ_self _)]
      · rw [upd_ne e]
        by_cases h : w < n
        · rw [if_pos h, if_pos (by omega)]
        · rw [if_neg h, if_neg (by omega)]
    · rw [fl_row_ne h1, t2_lay_fr h1 h2, t2_lay_fr h1 h2]
theorem t2_layMark_q (hA : a.toInt = (A : Int)) (hA1 : A < 3) (hn : (g 1 5).toInt = (n : Int)) (h16 : n ≤ 16) (k : Q none (fl_row (t2_lay g A n) (82 + 3 * A) (upd (upd (t2_lay g A n (82 + 3 * A)) 2 (g 1 5)) 3 (g 1 6)), l)) : fl_Tq (pw_P L xs) 36 0 (fl_args (am_mxl (pw_P L xs) 36) [.inr (.inr (.inl (1, 1))), .inl a]) [] (g, l) Q := by
  show fl_Tq (pw_P L xs) 36 0 [some (.inr (.inr (.inl (1, 1)))), some (.inl a), none, none] [] (g, l) Q
  have e1 : ∀ j : Nat, t2_lay g A j 1 = g 1 := fun j => t2_lay_fr (by omega) (by omega)
  refine x_lay_A hA hA1 ?_
  have loop := t2_for (n := n) (S := fun j => fl_Tq (pw_P L xs) 36 9 [some (.inr (.inr (.inl (1, 1)))), some (.inl a), some (.inr (.inr (.inl (22, 82 + 3 * A)))), some (.inl (Int32.ofNat j))] [] (t2_lay g A j, l) Q) (fun j hj hS => ?_) ?_
  · rw [t2_lay_0] at loop
    exact loop
  · refine x_lay_B hA1 (by omega) (by rw [e1]; exact t2_lk hj hn) ?_
    rw [t2_k1, t2_lay_s (by omega)]
    exact hS
  · refine x_lay_C hA1 (by rw [e1]; exact t2_ln hn) ?_
    rw [e1]
    exact k
/-- the reference's mark -/
noncomputable def t2_rmk (G : t2_F) (A n : Nat) : t2_F := fl_row G 280 (fun w => if 339 + 35 * A + 3 ≤ w ∧ w < 339 + 35 * A + 3 + n then r_partOf_v G (Int32.ofNat (w - (339 + 35 * A + 3))) (w - (339 + 35 * A + 3)) else if 339 + 35 * A + 19 ≤ w ∧ w < 339 + 35 * A + 19 + n then G 280 (444 + 61 * (w - (339 + 35 * A + 19)) + 5) else G 280 w)
theorem t2_rmk_fr {p : Nat} (h : p ≠ 280) : t2_rmk G A n p = G p := fl_row_ne h
theorem t2_rmk_w (w : Nat) : t2_rmk G A n 280 w = if 339 + 35 * A + 3 ≤ w ∧ w < 339 + 35 * A + 3 + n then r_partOf_v G (Int32.ofNat (w - (339 + 35 * A + 3))) (w - (339 + 35 * A + 3)) else if 339 + 35 * A + 19 ≤ w ∧ w < 339 + 35 * A + 19 + n then G 280 (444 + 61 * (w - (339 + 35 * A + 19)) + 5) else G 280 w := by
  unfold t2_rmk
  rw [fl_row_self]
theorem t2_rmk_0 : t2_rmk G A 0 = G := by
  funext p
  by_cases h : p = 280
  · subst h
    funext w
    rw [t2_rmk_w, if_neg (by omega), if_neg (by omega)]
  · exact t2_rmk_fr h
theorem t2_rmk_o (hA : A < 3) (hn : n ≤ 16) {w : Nat} (hw : w < 339 + 35 * A + 3 ∨ 339 + 35 * A + 35 ≤ w) : t2_rmk G A n 280 w = G 280 w := by
  rw [t2_rmk_w, if_neg (by omega), if_neg (by omega)]
theorem t2_rmk_s (hA : A < 3) (hn : n < 16) : fl_row (t2_rmk G A n) 280 (upd (upd (t2_rmk G A n 280) (((339 + 35 * A) + 3) + n) (r_partOf_v (t2_rmk G A n) (Int32.ofNat n) n)) (((339 + 35 * A) + 19) + n) (t2_rmk G A n 280 (444 + 61 * n + 5))) = t2_rmk G A (n + 1) := by
  have ep : r_partOf_v (t2_rmk G A n) (Int32.ofNat n) n = r_partOf_v G (Int32.ofNat n) n := by
    unfold r_partOf_v
    rw [t2_rmk_o hA (by omega) (by omega), t2_rmk_o hA (by omega) (by omega)]
  rw [ep, t2_rmk_o (w := 444 + 61 * n + 5) hA (by omega) (by omega)]
  funext p
  by_cases h : p = 280
  · subst h
    rw [fl_row_self]
    funext w
    rw [t2_rmk_w]
    by_cases e2 : w = ((339 + 35 * A) + 19) + n
    · subst e2
      rw [upd_self, if_neg (by omega), if_pos (by omega), show 339 + 35 * A + 19 + n - (339 + 35 * A + 19) = n by omega]
    · rw [upd_ne e2]
      by_cases e1 : w = ((339 + 35 * A) + 3) + n
      · subst e1
        rw [upd_self, if_pos (by omega), show 339 + 35 * A + 3 + n - (339 + 35 * A + 3) = n by omega]
      · rw [upd_ne e1, t2_rmk_w]
        by_cases q1 : 339 + 35 * A + 3 ≤ w ∧ w < 339 + 35 * A + 3 + n
        · rw [if_pos q1, if_pos (by omega)]
        · rw [if_neg q1, if_neg (c := 339 + 35 * A + 3 ≤ w ∧ w < 339 + 35 * A + 3 + (n + 1)) (by omega)]
          by_cases q2 : 339 + 35 * A + 19 ≤ w ∧ w < 339 + 35 * A + 19 + n
          · rw [if_pos q2, if_pos (by omega)]
          · rw [if_neg q2, if_neg (by omega)]
  · rw [fl_row_ne h, t2_rmk_fr h, t2_rmk_fr h]
/-- mark -/
theorem t2_mark (Z : t2_Z (f, l)) : fl_Tq (pw_P L xs) 113 0 (fl_args (am_mxl (pw_P L xs) 113) [lx_x, .inl a]) [] (f, l) (t2_Mid L xs 257 [at_this, .inl a]) := by
  have I : c0_I f f := Z.2.1
  have c0 : (0 : Int32).toInt = 0 := rfl
  have c2 : (2 : Int32).toInt = 2 := by decide +kernel
  show fl_Tq (pw_P L xs) 113 0 [some (.inr (.inr (.inl (0, 0)))), some (.inl a)] [] (f, l) _
  refine x_mark_A (fun h1 => ?_) (fun h1 => ?_)
  · refine ⟨Z.U, ⟨_, rfl⟩, ?_⟩
    show fl_Tq (pw_P L xs) 257 0 [some (.inr (.inr (.inl (76, 277)))), some (.inl a), none, none] [] (f, l) _
    exact y_mark_A (fun _ => ⟨rfl, Z.2, Z.U⟩) (fun h => absurd h1 h)
  have h1' := h1
  rw [t2_w0, c0, c2, Classical.not_not] at h1
  obtain ⟨A, hA⟩ : ∃ A : Nat, a.toInt = A := ⟨a.toInt.toNat, by omega⟩
  have hA1 : A < 3 := by omega
  refine fl_Tq.cal rfl rfl (fl_bo rfl) rfl ?_
  refine t2_ckeep Z (fun g l' C => ?_)
  refine x_mark_B ?_
  refine fl_Tq.cal rfl rfl (fl_bo rfl) rfl ?_
  have g1 : g 1 = f 1 := C.now (by decide) (by decide) (by decide)
  have cn := I.cnt
  obtain ⟨n, hn⟩ : ∃ n : Nat, (f 280 2).toInt.toNat = n := ⟨_, rfl⟩
  rw [hn] at cn
  refine t2_layMark_q (n := n) hA hA1 (by rw [g1]; exact cn.2.2) cn.2.1 ?_
  have hF : ∀ p : Nat, 91 ≤ p → fl_row (t2_lay g A n) (82 + 3 * A) (upd (upd (t2_lay g A n (82 + 3 * A)) 2 (g 1 5)) 3 (g 1 6)) p = g p := fun p hp => by rw [fl_row_ne (by omega), t2_lay_fr (by omega) (by omega)]
  have F280 := C.F280 hF
  have hFl : ∀ p : Nat, (p < 82 + 3 * A ∨ 85 + 3 * A ≤ p) → fl_row (t2_lay g A n) (82 + 3 * A) (upd (upd (t2_lay g A n (82 + 3 * A)) 2 (g 1 5)) 3 (g 1 6)) p = g p := fun p hp => by rw [fl_row_ne (by omega), t2_lay_fr (by omega) (by omega)]
  have f2 : fl_row (t2_lay g A n) (82 + 3 * A) (upd (upd (t2_lay g A n (82 + 3 * A)) 2 (g 1 5)) 3 (g 1 6)) (82 + 3 * A) 2 = g 1 5 := by rw [fl_row_self, upd_ne (by decide), upd_self]
  have f3 : fl_row (t2_lay g A n) (82 + 3 * A) (upd (upd (t2_lay g A n (82 + 3 * A)) 2 (g 1 5)) 3 (g 1 6)) (82 + 3 * A) 3 = g 1 6 := by rw [fl_row_self, upd_self]
  have f4 : ∀ j : Nat, (j : Int) < (g 1 5).toInt → fl_row (t2_lay g A n) (82 + 3 * A) (upd (upd (t2_lay g A n (82 + 3 * A)) 2 (g 1 5)) 3 (g 1 6)) (83 + 3 * A) j = g (18 + 4 * j) 3 := fun j hj => by
    rw [g1] at hj
    rw [fl_row_ne (by omega), t2_lay_83]
    exact if_pos (by omega)
  have f5 : ∀ j : Nat, (j : Int) < (g 1 5).toInt → fl_row (t2_lay g A n) (82 + 3 * A) (upd (upd (t2_lay g A n (82 + 3 * A)) 2 (g 1 5)) 3 (g 1 6)) (84 + 3 * A) j = g (18 + 4 * j) 9 := fun j hj => by
    rw [g1] at hj
    rw [fl_row_ne (by omega), t2_lay_84]
    exact if_pos (by omega)
  generalize fl_row (t2_lay g A n) (82 + 3 * A) (upd (upd (t2_lay g A n (82 + 3 * A)) 2 (g 1 5)) 3 (g 1 6)) = F at *
  refine fl_Tq.stp rfl rfl (fl_bo rfl) rfl ?_
  refine fl_Tq.ret rfl rfl rfl ?_
  refine ⟨fun p hp i => by show F p i = _; rw [hF p (by have : fl_N l'.2 ≤ p := hp; unfold fl_N at this; omega)]; exact C.U Z.U p hp i, ⟨_, rfl⟩, ?_⟩
  show fl_Tq (pw_P L xs) 257 0 [some (.inr (.inr (.inl (76, 277)))), some (.inl a), none, none] [] _ _
  refine y_mark_A (fun h => absurd h h1') (fun _ => ?_)
  refine fl_Tq.cal rfl rfl (fl_bo rfl) rfl ?_
  refine Z.rkeep F280 (fun G hG K => ?_)
  have I0 := Z.I0 C F280 K
  have G2 : G 280 2 = f 280 2 := by rw [← I0.1.1.1, g1]; exact I.1.1.1
  refine y_mark_B hA hA1 ?_
  generalize hG1 : fl_row G 280 (upd (upd (upd (G 280) (339 + 35 * A) (1 : Int32)) ((339 + 35 * A) + 1) (G 280 7)) ((339 + 35 * A) + 2) (G 280 2)) = G1
  have W1 : ∀ w : Nat, (w < 339 + 35 * A ∨ 339 + 35 * A + 3 ≤ w) → G1 280 w = G 280 w := fun w hw => by rw [← hG1, fl_row_self, upd_ne (by omega), upd_ne (by omega), upd_ne (by omega)]
  have P1 : ∀ p : Nat, p ≠ 280 → G1 p = G p := fun p hp => by rw [← hG1, fl_row_ne hp]
  have n2 : ∀ j : Nat, j ≤ 16 → (t2_rmk G1 A j 280 2).toInt = (n : Int) := fun j hj => by rw [t2_rmk_o hA1 hj (by omega), W1 2 (by omega), G2]; exact cn.1
  have ck : ∀ j : Nat, j < n → t2_ck (t2_rmk G1 A j) j := fun j hj => by
    have o := (I0.2.2.2.2.2.2.2.2.2.2.2 j (by rw [G2]; omega)).1
    unfold t2_ck
    rw [t2_rmk_o hA1 (by omega) (by omega), t2_rmk_o hA1 (by omega) (by omega), W1 _ (by omega), W1 _ (by omega)]
    exact o
  have loop := t2_for (n := n) (S := fun j => fl_Tq (pw_P L xs) 257 62 [some (.inr (.inr (.inl (76, 277)))), some (.inl a), some (.inl ((339 : Int32) + ((35 : Int32) * a))), some (.inl (Int32.ofNat j))] [] (t2_rmk G1 A j, l') (fun v2 m2 => v2 = some (.inl (1 : Int32)) ∧ t2_W m2.1 m2.1 m2.2.2 ∧ t2_U m2)) (fun j hj hS => ?_) ?_
  · rw [t2_rmk_0] at loop
    exact loop
  · refine y_mark_C (t2_mi hA hA1) hA1 (by omega) (ck j hj) (t2_lk hj (n2 j (by omega))) ?_
    rw [t2_k1, t2_rmk_s hA1 (by omega)]
    exact hS
  · refine y_mark_D (t2_ln (n2 n cn.2.1)) ?_
    have ep : ∀ j : Nat, j < 16 → r_partOf_v G1 (Int32.ofNat j) j = r_partOf_v G (Int32.ofNat j) j := fun j hj => by
      unfold r_partOf_v
      rw [W1 _ (by omega), W1 _ (by omega)]
    have J := I0.mark (F := F) (G := t2_rmk G1 A n) hA1 (fun p _ _ hp => hFl p hp) (fun w _ hw => by rw [t2_rmk_o hA1 cn.2.1 (by omega), W1 w (by omega)]) f2 f3 f4 f5 (by rw [t2_rmk_o hA1 cn.2.1 (by omega), ← hG1, fl_row_self, upd_ne (by omega), upd_ne (by omega), upd_self]) (by rw [t2_rmk_o hA1 cn.2.1 (by omega), ← hG1, fl_row_self, upd_ne (by omega), upd_self]) (by rw [t2_rmk_o hA1 cn.2.1 (by omega), ← hG1, fl_row_self, upd_self]) (fun j hj => by
      rw [G2] at hj
      rw [t2_rmk_w, if_pos (by omega), show 339 + 35 * A + 3 + j - (339 + 35 * A + 3) = j by omega]
      exact ep j (by omega)) (fun j hj => by
      rw [G2] at hj
      rw [t2_rmk_w, if_neg (by omega), if_pos (by omega), show 339 + 35 * A + 19 + j - (339 + 35 * A + 19) = j by omega]
      exact W1 _ (by omega))
    have fin := Z.fin C hF K hG (H := t2_rmk G1 A n) (fun p hp => by rw [t2_rmk_fr (by omega), P1 p (by omega)]) (by rw [t2_rmk_fr (by decide), P1 277 (by decide)]) (fun w hw => by rw [t2_rmk_o hA1 cn.2.1 (by omega), W1 w (by omega)]) J
    exact ⟨rfl, fin.1, fin.2⟩
end T2MQ3
