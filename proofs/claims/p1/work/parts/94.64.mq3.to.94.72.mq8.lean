/-! 94.64.mq3.lean.txt -/
section
/-! ===== unrule, wipe, mark ===== -/
section T2MQ3
variable {L : Nat} {xs : Nat → Int32} {f g F G : t2_F} {l l' : t2_L} {Q : Option fl_V → fl_M → Prop} {a b c : Int32} {A B N n : Nat}
/-- words of the reference are cleared -/
noncomputable def y_clr (f : t2_F) (B N : Nat) : t2_F := fl_row f 280 (fun w => if B ≤ w ∧ w < B + N then 0 else f 280 w)
theorem y_clr_0 : y_clr f B 0 = f := by
  unfold y_clr
  funext p w
  unfold fl_row
  split
  · rename_i h
    dsimp only
    rw [if_neg (by omega), h]
  · rfl
theorem y_clr_s : fl_row (y_clr f B n) 280 (upd (y_clr f B n 280) (B + n) (0 : Int32)) = y_clr f B (n + 1) := by
  unfold y_clr
  rw [fl_row_self, fl_rr]
  congr 1
  funext w
  by_cases e : w = B + n
  · subst e
    rw [upd_self, if_pos (by omega)]
  · rw [upd_ne e]
    by_cases h : B ≤ w ∧ w < B + n
    · rw [if_pos h, if_pos (by omega)]
    · rw [if_neg h, if_neg (by omega)]
theorem y_clear_q (hA : a.toInt = (A : Int)) (hA1 : A < 29780) (hb : b.toInt = (B : Int)) (hc : c.toInt = ((B + N : Nat) : Int)) (hB : B + N ≤ 29780) (k : Q (some (.inl (f 280 A))) (fl_row (y_clr f B N) 280 (upd (y_clr f B N 280) A (0 : Int32)), l)) : fl_Tq (pw_P L xs) 262 4 [some (.inr (.inr (.inl (76, 277)))), some (.inl a), some (.inl b), some (.inl c), none, none] [] (f, l) Q := by
  have c1 : (1 : Int32).toInt = 1 := by decide +kernel
  refine y_clear_B hA hA1 ?_
  have loop := t2_for (n := N) (S := fun j => ∀ z : Int32, z.toInt = ((B + j : Nat) : Int) → fl_Tq (pw_P L xs) 262 15 [some (.inr (.inr (.inl (76, 277)))), some (.inl a), some (.inl b), some (.inl c), some (.inl (f 280 A)), some (.inl z)] [] (y_clr f B j, l) Q) (fun j hj hS z hz => ?_) (fun z hz => ?_)
  · have := loop b (by rw [hb]; rfl)
    rw [y_clr_0] at this
    exact this
  · refine y_clear_C (Z := B + j) hz (by omega) (by omega) ?_
    rw [y_clr_s]
    exact hS _ (by rw [at_add32 (by omega) (by omega), c1]; omega)
  · exact y_clear_D hA hA1 (by omega) k
/-- unrule -/
theorem t2_unrule (Z : t2_Z (f, l)) : fl_Tq (pw_P L xs) 116 0 (fl_args (am_mxl (pw_P L xs) 116) [lx_x]) [] (f, l) (t2_Mid L xs 263 [at_this]) := by
  show fl_Tq (pw_P L xs) 116 0 [some (.inr (.inr (.inl (0, 0)))), none] [] (f, l) _
  refine x_unrule_A ?_
  refine fl_Tq.cal rfl rfl (fl_bo rfl) rfl ?_
  refine t2_ckeep Z (fun g l' C => ?_)
  refine x_unrule_B ?_
  have hF : ∀ p : Nat, 91 ≤ p → fl_row g 3 (upd (g 3) 8 (0 : Int32)) p = g p := fun p hp => fl_row_ne (by omega)
  refine ⟨fun p hp i => by show fl_row g 3 _ p i = _; rw [fl_row_ne (by have : fl_N l'.2 ≤ p := hp; unfold fl_N at this; omega)]; exact C.U Z.U p hp i, ⟨_, rfl⟩, ?_⟩
  show fl_Tq (pw_P L xs) 263 0 [some (.inr (.inr (.inl (76, 277))))] [] _ _
  refine y_unrule_A ?_
  refine fl_Tq.cal rfl rfl (fl_bo rfl) rfl ?_
  show fl_Tq (pw_P L xs) 262 0 [some (.inr (.inr (.inl (76, 277)))), some (.inl (18 : Int32)), some (.inl (79 : Int32)), some (.inl (119 : Int32)), none, none] [] _ _
  refine y_clear_A ?_
  refine fl_Tq.cal rfl rfl (fl_bo rfl) rfl ?_
  refine Z.rkeep (C.F280 hF) (fun G hG K => ?_)
  have I0 := Z.I0 C (C.F280 hF) K
  refine y_clear_q (A := 18) (B := 79) (N := 40) (by decide +kernel) (by decide) (by decide +kernel) (by decide +kernel) (by decide) ?_
  refine fl_Tq.ret rfl rfl rfl ?_
  have w : ∀ j : Nat, j ≠ 18 → fl_row (y_clr G 79 40) 280 (upd (y_clr G 79 40 280) 18 (0 : Int32)) 280 j = if 79 ≤ j ∧ j < 119 then 0 else G 280 j := fun j hj => by
    rw [fl_row_self, upd_ne hj]
    unfold y_clr
    rw [fl_row_self]
  have J := I0.unrule (G := fl_row (y_clr G 79 40) 280 (upd (y_clr G 79 40 280) 18 (0 : Int32))) (fun j h1 h2 => by rw [w j h1, if_neg (by omega)]) (by rw [fl_row_self, upd_self]) (fun j h1 h2 => by rw [w j (by omega), if_pos ⟨h1, h2⟩])
  have fin := Z.fin C hF K hG (H := fl_row (y_clr G 79 40) 280 (upd (y_clr G 79 40 280) 18 (0 : Int32))) (fun p hp => by unfold y_clr; rw [fl_row_ne (by omega), fl_row_ne (by omega)]) (by unfold y_clr; rw [fl_row_ne (by decide), fl_row_ne (by decide)]) (fun j hj => by rw [w j (by omega), if_neg (by omega)]) J.1
  exact ⟨by rw [J.2], fin.1, fin.2⟩
/-- wipe -/
theorem t2_wipe (Z : t2_Z (f, l)) : fl_Tq (pw_P L xs) 117 0 (fl_args (am_mxl (pw_P L xs) 117) [lx_x]) [] (f, l) (t2_Mid L xs 264 [at_this]) := by
  show fl_Tq (pw_P L xs) 117 0 [some (.inr (.inr (.inl (0, 0)))), none] [] (f, l) _
  refine x_wipe_A ?_
  refine fl_Tq.cal rfl rfl (fl_bo rfl) rfl ?_
  refine t2_ckeep Z (fun g l' C => ?_)
  refine x_wipe_B ?_
  have hF : ∀ p : Nat, 91 ≤ p → fl_row g 3 (upd (g 3) 7 (0 : Int32)) p = g p := fun p hp => fl_row_ne (by omega)
  refine ⟨fun p hp i => by show fl_row g 3 _ p i = _; rw [fl_row_ne (by have : fl_N l'.2 ≤ p := hp; unfold fl_N at this; omega)]; exact C.U Z.U p hp i, ⟨_, rfl⟩, ?_⟩
  show fl_Tq (pw_P L xs) 264 0 [some (.inr (.inr (.inl (76, 277))))] [] _ _
  refine y_wipe_A ?_
  refine fl_Tq.cal rfl rfl (fl_bo rfl) rfl ?_
  show fl_Tq (pw_P L xs) 262 0 [some (.inr (.inr (.inl (76, 277)))), some (.inl (19 : Int32)), some (.inl (119 : Int32)), some (.inl (167 : Int32)), none, none] [] _ _
  refine y_clear_A ?_
  refine fl_Tq.cal rfl rfl (fl_bo rfl) rfl ?_
  refine Z.rkeep (C.F280 hF) (fun G hG K => ?_)
  have I0 := Z.I0 C (C.F280 hF) K
  refine y_clear_q (A := 19) (B := 119) (N := 48) (by decide +kernel) (by decide) (by decide +kernel) (by decide +kernel) (by decide) ?_
  refine fl_Tq.ret rfl rfl rfl ?_
  have w : ∀ j : Nat, j ≠ 19 → fl_row (y_clr G 119 48) 280 (upd (y_clr G 119 48 280) 19 (0 : Int32)) 280 j = if 119 ≤ j ∧ j < 167 then 0 else G 280 j := fun j hj => by
    rw [fl_row_self, upd_ne hj]
    unfold y_clr
    rw [fl_row_self]
  have J := I0.wipe (G := fl_row (y_clr G 119 48) 280 (upd (y_clr G 119 48 280) 19 (0 : Int32))) (fun j h1 h2 => by rw [w j h1, if_neg (by omega)]) (by rw [fl_row_self, upd_self])
  have fin := Z.fin C hF K hG (H := fl_row (y_clr G 119 48) 280 (upd (y_clr G 119 48 280) 19 (0 : Int32))) (fun p hp => by unfold y_clr; rw [fl_row_ne (by omega), fl_row_ne (by omega)]) (by unfold y_clr; rw [fl_row_ne (by decide), fl_row_ne (by decide)]) (fun j hj => by rw [w j (by omega), if_neg (by omega)]) J.1
  exact ⟨by rw [J.2], fin.1, fin.2⟩
/-- layMark -/
noncomputable def t2_lay (g : t2_F) (A n : Nat) : t2_F := fl_row (fl_row g (83 + 3 * A) (fun w => if w < n then g (18 + 4 * w) 3 else g (83 + 3 * A) w)) (84 + 3 * A) (fun w => if w < n then g (18 + 4 * w) 9 else g (84 + 3 * A) w)
theorem t2_lay_fr {p : Nat} (h1 : p ≠ 83 + 3 * A) (h2 : p ≠ 84 + 3 * A) : t2_lay g A n p = g p := by
  unfold t2_lay
  rw [fl_row_ne h2, fl_row_ne h1]
theorem t2_lay_83 : t2_lay g A n (83 + 3 * A) = fun w => if w < n then g (18 + 4 * w) 3 else g (83 + 3 * A) w := by
  unfold t2_lay
  rw [fl_row_ne (by omega), fl_row_self]
theorem t2_lay_84 : t2_lay g A n (84 + 3 * A) = fun w => if w < n then g (18 + 4 * w) 9 else g (84 + 3 * A) w := by
  unfold t2_lay
  rw [fl_row_self]
theorem t2_lay_0 : t2_lay g A 0 = g := by
  funext p
  by_cases h2 : p = 84 + 3 * A
  · subst h2
    rw [t2_lay_84]
    funext w
    rw [if_neg (Nat.not_lt_zero w)]
  · by_cases h1 : p = 83 + 3 * A
    · subst h1
      rw [t2_lay_83]
      funext w
      rw [if_neg (Nat.not_lt_zero w)]
    · exact t2_lay_fr h1 h2
theorem t2_lay_s (hn : n < 16) : fl_row (fl_row (t2_lay g A n) (83 + 3 * A) (upd (t2_lay g A n (83 + 3 * A)) n (t2_lay g A n (18 + 4 * n) 3))) (84 + 3 * A) (upd (t2_lay g A n (84 + 3 * A)) n (t2_lay g A n (18 + 4 * n) 9)) = t2_lay g A (n + 1) := by
  rw [t2_lay_fr (p := 18 + 4 * n) (by omega) (by omega), t2_lay_83, t2_lay_84]
  funext p
  by_cases h2 : p = 84 + 3 * A
  · subst h2
    rw [fl_row_self, t2_lay_84]
    funext w
    by_cases e : w = n
    · subst e
      rw [upd_self, if_pos (Nat.lt_succ_self _)]
    · rw [upd_ne e]
      by_cases h : w < n
      · rw [if_pos h, if_pos (by omega)]
      · rw [if_neg h, if_neg (by omega)]
  · rw [fl_row_ne h2]
    by_cases h1 : p = 83 + 3 * A
    · subst h1
      rw [fl_row_self, t2_lay_83]
      funext w
      by_cases e : w = n
      · subst e
        rw [upd_self, if_pos (Nat.lt_succ_self _)]
      · rw [upd_ne e]
        by_cases h : w < n
        · rw [if_pos h, if_pos (by omega)]
        · rw [if_neg h, if_neg (by omega)]
    · rw [fl_row_ne h1, t2_lay_fr h1 h2, t2_lay_fr h1 h2]
theorem t2_layMark_q (hA : a.toInt = (A : Int)) (hA1 : A < 3) (hn : (g 1 5).toInt = (n : Int)) (h16 : n ≤ 16) (k : Q none (fl_row (t2_lay g A n) (82 + 3 * A) (upd (upd (t2_lay g A n (82 + 3 * A)) 2 (g 1 5)) 3 (g 1 6)), l)) : fl_Tq (pw_P L xs) 36 0 (fl_args (am_mxl (pw_P L xs) 36) [.inr (.inr (.inl (1, 1))), .inl a]) [] (g, l) Q := by
  show fl_Tq (pw_P L xs) 36 0 [some (.inr (.inr (.inl (1, 1)))), some (.inl a), none, none] [] (g, l) Q
  have e1 : ∀ j : Nat, t2_lay g A j 1 = g 1 := fun j => t2_lay_fr (by omega) (by omega)
  refine x_lay_A hA hA1 ?_
  have loop := t2_for (n := n) (S := fun j => fl_Tq (pw_P L xs) 36 9 [some (.inr (.inr (.inl (1, 1)))), some (.inl a), some (.inr (.inr (.inl (22, 82 + 3 * A)))), some (.inl (Int32.ofNat j))] [] (t2_lay g A j, l) Q) (fun j hj hS => ?_) ?_
  · rw [t2_lay_0] at loop
    exact loop
  · refine x_lay_B hA1 (by omega) (by rw [e1]; exact t2_lk hj hn) ?_
    rw [t2_k1, t2_lay_s (by omega)]
    exact hS
  · refine x_lay_C hA1 (by rw [e1]; exact t2_ln hn) ?_
    rw [e1]
    exact k
/-- the reference's mark -/
noncomputable def t2_rmk (G : t2_F) (A n : Nat) : t2_F := fl_row G 280 (fun w => if 339 + 35 * A + 3 ≤ w ∧ w < 339 + 35 * A + 3 + n then r_partOf_v G (Int32.ofNat (w - (339 + 35 * A + 3))) (w - (339 + 35 * A + 3)) else if 339 + 35 * A + 19 ≤ w ∧ w < 339 + 35 * A + 19 + n then G 280 (444 + 61 * (w - (339 + 35 * A + 19)) + 5) else G 280 w)
theorem t2_rmk_fr {p : Nat} (h : p ≠ 280) : t2_rmk G A n p = G p := fl_row_ne h
theorem t2_rmk_w (w : Nat) : t2_rmk G A n 280 w = if 339 + 35 * A + 3 ≤ w ∧ w < 339 + 35 * A + 3 + n then r_partOf_v G (Int32.ofNat (w - (339 + 35 * A + 3))) (w - (339 + 35 * A + 3)) else if 339 + 35 * A + 19 ≤ w ∧ w < 339 + 35 * A + 19 + n then G 280 (444 + 61 * (w - (339 + 35 * A + 19)) + 5) else G 280 w := by
  unfold t2_rmk
  rw [fl_row_self]
theorem t2_rmk_0 : t2_rmk G A 0 = G := by
  funext p
  by_cases h : p = 280
  · subst h
    funext w
    rw [t2_rmk_w, if_neg (by omega), if_neg (by omega)]
  · exact t2_rmk_fr h
theorem t2_rmk_o (hA : A < 3) (hn : n ≤ 16) {w : Nat} (hw : w < 339 + 35 * A + 3 ∨ 339 + 35 * A + 35 ≤ w) : t2_rmk G A n 280 w = G 280 w := by
  rw [t2_rmk_w, if_neg (by omega), if_neg (by omega)]
theorem t2_rmk_s (hA : A < 3) (hn : n < 16) : fl_row (t2_rmk G A n) 280 (upd (upd (t2_rmk G A n 280) (((339 + 35 * A) + 3) + n) (r_partOf_v (t2_rmk G A n) (Int32.ofNat n) n)) (((339 + 35 * A) + 19) + n) (t2_rmk G A n 280 (444 + 61 * n + 5))) = t2_rmk G A (n + 1) := by
  have ep : r_partOf_v (t2_rmk G A n) (Int32.ofNat n) n = r_partOf_v G (Int32.ofNat n) n := by
    unfold r_partOf_v
    rw [t2_rmk_o hA (by omega) (by omega), t2_rmk_o hA (by omega) (by omega)]
  rw [ep, t2_rmk_o (w := 444 + 61 * n + 5) hA (by omega) (by omega)]
  funext p
  by_cases h : p = 280
  · subst h
    rw [fl_row_self]
    funext w
    rw [t2_rmk_w]
    by_cases e2 : w = ((339 + 35 * A) + 19) + n
    · subst e2
      rw [upd_self, if_neg (by omega), if_pos (by omega), show 339 + 35 * A + 19 + n - (339 + 35 * A + 19) = n by omega]
    · rw [upd_ne e2]
      by_cases e1 : w = ((339 + 35 * A) + 3) + n
      · subst e1
        rw [upd_self, if_pos (by omega), show 339 + 35 * A + 3 + n - (339 + 35 * A + 3) = n by omega]
      · rw [upd_ne e1, t2_rmk_w]
        by_cases q1 : 339 + 35 * A + 3 ≤ w ∧ w < 339 + 35 * A + 3 + n
        · rw [if_pos q1, if_pos (by omega)]
        · rw [if_neg q1, if_neg (c := 339 + 35 * A + 3 ≤ w ∧ w < 339 + 35 * A + 3 + (n + 1)) (by omega)]
          by_cases q2 : 339 + 35 * A + 19 ≤ w ∧ w < 339 + 35 * A + 19 + n
          · rw [if_pos q2, if_pos (by omega)]
          · rw [if_neg q2, if_neg (by omega)]
  · rw [fl_row_ne h, t2_rmk_fr h, t2_rmk_fr h]
/-- mark -/
theorem t2_mark (Z : t2_Z (f, l)) : fl_Tq (pw_P L xs) 113 0 (fl_args (am_mxl (pw_P L xs) 113) [lx_x, .inl a]) [] (f, l) (t2_Mid L xs 257 [at_this, .inl a]) := by
  have I : c0_I f f := Z.2.1
  have c0 : (0 : Int32).toInt = 0 := rfl
  have c2 : (2 : Int32).toInt = 2 := by decide +kernel
  show fl_Tq (pw_P L xs) 113 0 [some (.inr (.inr (.inl (0, 0)))), some (.inl a)] [] (f, l) _
  refine x_mark_A (fun h1 => ?_) (fun h1 => ?_)
  · refine ⟨Z.U, ⟨_, rfl⟩, ?_⟩
    show fl_Tq (pw_P L xs) 257 0 [some (.inr (.inr (.inl (76, 277)))), some (.inl a), none, none] [] (f, l) _
    exact y_mark_A (fun _ => ⟨rfl, Z.2, Z.U⟩) (fun h => absurd h1 h)
  have h1' := h1
  rw [t2_w0, c0, c2, Classical.not_not] at h1
  obtain ⟨A, hA⟩ : ∃ A : Nat, a.toInt = A := ⟨a.toInt.toNat, by omega⟩
  have hA1 : A < 3 := by omega
  refine fl_Tq.cal rfl rfl (fl_bo rfl) rfl ?_
  refine t2_ckeep Z (fun g l' C => ?_)
  refine x_mark_B ?_
  refine fl_Tq.cal rfl rfl (fl_bo rfl) rfl ?_
  have g1 : g 1 = f 1 := C.now (by decide) (by decide) (by decide)
  have cn := I.cnt
  obtain ⟨n, hn⟩ : ∃ n : Nat, (f 280 2).toInt.toNat = n := ⟨_, rfl⟩
  rw [hn] at cn
  refine t2_layMark_q (n := n) hA hA1 (by rw [g1]; exact cn.2.2) cn.2.1 ?_
  have hF : ∀ p : Nat, 91 ≤ p → fl_row (t2_lay g A n) (82 + 3 * A) (upd (upd (t2_lay g A n (82 + 3 * A)) 2 (g 1 5)) 3 (g 1 6)) p = g p := fun p hp => by rw [fl_row_ne (by omega), t2_lay_fr (by omega) (by omega)]
  have F280 := C.F280 hF
  have hFl : ∀ p : Nat, (p < 82 + 3 * A ∨ 85 + 3 * A ≤ p) → fl_row (t2_lay g A n) (82 + 3 * A) (upd (upd (t2_lay g A n (82 + 3 * A)) 2 (g 1 5)) 3 (g 1 6)) p = g p := fun p hp => by rw [fl_row_ne (by omega), t2_lay_fr (by omega) (by omega)]
  have f2 : fl_row (t2_lay g A n) (82 + 3 * A) (upd (upd (t2_lay g A n (82 + 3 * A)) 2 (g 1 5)) 3 (g 1 6)) (82 + 3 * A) 2 = g 1 5 := by rw [fl_row_self, upd_ne (by decide), upd_self]
  have f3 : fl_row (t2_lay g A n) (82 + 3 * A) (upd (upd (t2_lay g A n (82 + 3 * A)) 2 (g 1 5)) 3 (g 1 6)) (82 + 3 * A) 3 = g 1 6 := by rw [fl_row_self, upd_self]
  have f4 : ∀ j : Nat, (j : Int) < (g 1 5).toInt → fl_row (t2_lay g A n) (82 + 3 * A) (upd (upd (t2_lay g A n (82 + 3 * A)) 2 (g 1 5)) 3 (g 1 6)) (83 + 3 * A) j = g (18 + 4 * j) 3 := fun j hj => by
    rw [g1] at hj
    rw [fl_row_ne (by omega), t2_lay_83]
    exact if_pos (by omega)
  have f5 : ∀ j : Nat, (j : Int) < (g 1 5).toInt → fl_row (t2_lay g A n) (82 + 3 * A) (upd (upd (t2_lay g A n (82 + 3 * A)) 2 (g 1 5)) 3 (g 1 6)) (84 + 3 * A) j = g (18 + 4 * j) 9 := fun j hj => by
    rw [g1] at hj
    rw [fl_row_ne (by omega), t2_lay_84]
    exact if_pos (by omega)
  generalize fl_row (t2_lay g A n) (82 + 3 * A) (upd (upd (t2_lay g A n (82 + 3 * A)) 2 (g 1 5)) 3 (g 1 6)) = F at *
  refine fl_Tq.stp rfl rfl (fl_bo rfl) rfl ?_
  refine fl_Tq.ret rfl rfl rfl ?_
  refine ⟨fun p hp i => by show F p i = _; rw [hF p (by have : fl_N l'.2 ≤ p := hp; unfold fl_N at this; omega)]; exact C.U Z.U p hp i, ⟨_, rfl⟩, ?_⟩
  show fl_Tq (pw_P L xs) 257 0 [some (.inr (.inr (.inl (76, 277)))), some (.inl a), none, none] [] _ _
  refine y_mark_A (fun h => absurd h h1') (fun _ => ?_)
  refine fl_Tq.cal rfl rfl (fl_bo rfl) rfl ?_
  refine Z.rkeep F280 (fun G hG K => ?_)
  have I0 := Z.I0 C F280 K
  have G2 : G 280 2 = f 280 2 := by rw [← I0.1.1.1, g1]; exact I.1.1.1
  refine y_mark_B hA hA1 ?_
  generalize hG1 : fl_row G 280 (upd (upd (upd (G 280) (339 + 35 * A) (1 : Int32)) ((339 + 35 * A) + 1) (G 280 7)) ((339 + 35 * A) + 2) (G 280 2)) = G1
  have W1 : ∀ w : Nat, (w < 339 + 35 * A ∨ 339 + 35 * A + 3 ≤ w) → G1 280 w = G 280 w := fun w hw => by rw [← hG1, fl_row_self, upd_ne (by omega), upd_ne (by omega), upd_ne (by omega)]
  have P1 : ∀ p : Nat, p ≠ 280 → G1 p = G p := fun p hp => by rw [← hG1, fl_row_ne hp]
  have n2 : ∀ j : Nat, j ≤ 16 → (t2_rmk G1 A j 280 2).toInt = (n : Int) := fun j hj => by rw [t2_rmk_o hA1 hj (by omega), W1 2 (by omega), G2]; exact cn.1
  have ck : ∀ j : Nat, j < n → t2_ck (t2_rmk G1 A j) j := fun j hj => by
    have o := (I0.2.2.2.2.2.2.2.2.2.2.2 j (by rw [G2]; omega)).1
    unfold t2_ck
    rw [t2_rmk_o hA1 (by omega) (by omega), t2_rmk_o hA1 (by omega) (by omega), W1 _ (by omega), W1 _ (by omega)]
    exact o
  have loop := t2_for (n := n) (S := fun j => fl_Tq (pw_P L xs) 257 62 [some (.inr (.inr (.inl (76, 277)))), some (.inl a), some (.inl ((339 : Int32) + ((35 : Int32) * a))), some (.inl (Int32.ofNat j))] [] (t2_rmk G1 A j, l') (fun v2 m2 => v2 = some (.inl (1 : Int32)) ∧ t2_W m2.1 m2.1 m2.2.2 ∧ t2_U m2)) (fun j hj hS => ?_) ?_
  · rw [t2_rmk_0] at loop
    exact loop
  · refine y_mark_C (t2_mi hA hA1) hA1 (by omega) (ck j hj) (t2_lk hj (n2 j (by omega))) ?_
    rw [t2_k1, t2_rmk_s hA1 (by omega)]
    exact hS
  · refine y_mark_D (t2_ln (n2 n cn.2.1)) ?_
    have ep : ∀ j : Nat, j < 16 → r_partOf_v G1 (Int32.ofNat j) j = r_partOf_v G (Int32.ofNat j) j := fun j hj => by
      unfold r_partOf_v
      rw [W1 _ (by omega), W1 _ (by omega)]
    have J := I0.mark (F := F) (G := t2_rmk G1 A n) hA1 (fun p _ _ hp => hFl p hp) (fun w _ hw => by rw [t2_rmk_o hA1 cn.2.1 (by omega), W1 w (by omega)]) f2 f3 f4 f5 (by rw [t2_rmk_o hA1 cn.2.1 (by omega), ← hG1, fl_row_self, upd_ne (by omega), upd_ne (by omega), upd_self]) (by rw [t2_rmk_o hA1 cn.2.1 (by omega), ← hG1, fl_row_self, upd_ne (by omega), upd_self]) (by rw [t2_rmk_o hA1 cn.2.1 (by omega), ← hG1, fl_row_self, upd_self]) (fun j hj => by
      rw [G2] at hj
      rw [t2_rmk_w, if_pos (by omega), show 339 + 35 * A + 3 + j - (339 + 35 * A + 3) = j by omega]
      exact ep j (by omega)) (fun j hj => by
      rw [G2] at hj
      rw [t2_rmk_w, if_neg (by omega), if_pos (by omega), show 339 + 35 * A + 19 + j - (339 + 35 * A + 19) = j by omega]
      exact W1 _ (by omega))
    have fin := Z.fin C hF K hG (H := t2_rmk G1 A n) (fun p hp => by rw [t2_rmk_fr (by omega), P1 p (by omega)]) (by rw [t2_rmk_fr (by decide), P1 277 (by decide)]) (fun w hw => by rw [t2_rmk_o hA1 cn.2.1 (by omega), W1 w (by omega)]) J
    exact ⟨rfl, fin.1, fin.2⟩
end T2MQ3

end

/-! 94.65.mq4.lean.txt -/
section
/-! ===== warm, charge, cell ===== -/
section T2MQ4
variable {L : Nat} {xs : Nat → Int32} {f g F G : t2_F} {l l' : t2_L} {Q : Option fl_V → fl_M → Prop} {a b c z : Int32} {A n : Nat}
/-- whether there is such a cell -/
theorem t2_isc (hn : 0 ≤ (f 1 5).toInt ∧ (f 1 5).toInt ≤ 16) : (c0_hasCell_v f a).toInt = 0 ↔ ¬ (0 ≤ a.toInt ∧ a.toInt < (f 1 5).toInt) := by
  have c0 : (0 : Int32).toInt = 0 := rfl
  have c1 : (1 : Int32).toInt = 1 := by decide +kernel
  unfold c0_hasCell_v
  rw [t2_w0, c0, at_sub32 (by omega) (by omega), c1]
  omega
theorem r_isc (hn : 0 ≤ (f 280 2).toInt ∧ (f 280 2).toInt ≤ 16) : (r_isCell_v f a).toInt = 0 ↔ ¬ (0 ≤ a.toInt ∧ a.toInt < (f 280 2).toInt) := by
  have c0 : (0 : Int32).toInt = 0 := rfl
  have c1 : (1 : Int32).toInt = 1 := by decide +kernel
  unfold r_isCell_v
  rw [r_i0, c0, at_sub32 (by omega) (by omega), c1]
  omega
/-- warm -/
theorem t2_warm (Z : t2_Z (f, l)) : fl_Tq (pw_P L xs) 103 0 (fl_args (am_mxl (pw_P L xs) 103) [lx_x, .inl a, .inl b]) [] (f, l) (t2_Mid L xs 245 [at_this, .inl a, .inl b]) := by
  have I : c0_I f f := Z.2.1
  have e5 : f 1 5 = f 280 2 := I.1.1.1
  have n16 := I.2.2.2.2.2.1.2.2.1
  have cm4 : (-400 : Int32).toInt = -400 := by decide +kernel
  have c12 : (1200 : Int32).toInt = 1200 := by decide +kernel
  show fl_Tq (pw_P L xs) 103 0 [some (.inr (.inr (.inl (0, 0)))), some (.inl a), some (.inl b)] [] (f, l) _
  have no : ¬ ((0 ≤ a.toInt ∧ a.toInt < (f 280 2).toInt) ∧ -400 ≤ b.toInt ∧ b.toInt ≤ 1200) → t2_Mid L xs 245 [at_this, .inl a, .inl b] (some (.inl (0 : Int32))) (f, l) := fun hn => by
    refine ⟨Z.U, ⟨_, rfl⟩, ?_⟩
    show fl_Tq (pw_P L xs) 245 0 [some (.inr (.inr (.inl (76, 277)))), some (.inl a), some (.inl b)] [] (f, l) _
    refine y_warm_A (fun h1 => ⟨rfl, Z.2, Z.U⟩) (fun h1 => y_warm_A2 (fun h2 => ⟨rfl, Z.2, Z.U⟩) (fun h2 => ?_))
    rw [r_isc n16, Classical.not_not] at h1
    rw [r_i0, cm4, c12, Classical.not_not] at h2
    exact absurd ⟨h1, h2⟩ hn
  refine x_warm_A (fun h1 => no (by rw [t2_isc (by rw [e5]; exact n16), e5] at h1; exact fun h => h1 h.1)) (fun h1 => x_warm_A2 (fun h2 => no (by rw [t2_w0, cm4, c12] at h2; exact fun h => h2 h.2)) (fun h2 => ?_))
  rw [t2_isc (by rw [e5]; exact n16), e5, Classical.not_not] at h1
  rw [t2_w0, cm4, c12, Classical.not_not] at h2
  obtain ⟨A, hA⟩ : ∃ A : Nat, a.toInt = A := ⟨a.toInt.toNat, by omega⟩
  have hA1 : A < 16 := by omega
  refine fl_Tq.cal rfl rfl (fl_bo rfl) rfl ?_
  refine t2_ckeep Z (fun g l' C => ?_)
  refine x_warm_B hA hA1 ?_
  have hF : ∀ p : Nat, 91 ≤ p → fl_row g (18 + 4 * A) (upd (g (18 + 4 * A)) 6 b) p = g p := fun p hp => fl_row_ne (by omega)
  have F280 := C.F280 hF
  refine ⟨fun p hp i => by show fl_row g (18 + 4 * A) _ p i = _; rw [fl_row_ne (by have : fl_N l'.2 ≤ p := hp; unfold fl_N at this; omega)]; exact C.U Z.U p hp i, ⟨_, rfl⟩, ?_⟩
  show fl_Tq (pw_P L xs) 245 0 [some (.inr (.inr (.inl (76, 277)))), some (.inl a), some (.inl b)] [] _ _
  refine y_warm_A (fun h => ?_) (fun _ => y_warm_A2 (fun h => ?_) (fun _ => ?_))
  · rw [r_isc (by rw [F280]; exact n16), F280] at h
    exact absurd h1 h
  · rw [r_i0, cm4, c12] at h
    exact absurd h2 h
  refine fl_Tq.cal rfl rfl (fl_bo rfl) rfl ?_
  refine Z.rkeep F280 (fun G hG K => ?_)
  refine y_warm_B hA hA1 ?_
  have I0 := Z.I0 C F280 K
  have G2 : G 280 2 = f 280 2 := by rw [← I0.1.1.1, C.now (by decide) (by decide) (by decide)]; exact e5
  have fin := Z.fin C hF K hG (H := fl_row G 280 (upd (G 280) (444 + 61 * A + 3) b)) (fun p hp => fl_row_ne (by omega)) (by rw [fl_row_ne (by decide)]) (fun w hw => by rw [fl_row_self, upd_ne (by omega)]) (I0.warm (by rw [G2]; omega))
  exact ⟨rfl, fin.1, fin.2⟩
/-- charge -/
theorem t2_charge (Z : t2_Z (f, l)) : fl_Tq (pw_P L xs) 102 0 (fl_args (am_mxl (pw_P L xs) 102) [lx_x, .inl a, .inl b]) [] (f, l) (t2_Mid L xs 244 [at_this, .inl a, .inl b]) := by
  have I : c0_I f f := Z.2.1
  have e5 : f 1 5 = f 280 2 := I.1.1.1
  have n16 := I.2.2.2.2.2.1.2.2.1
  have c0 : (0 : Int32).toInt = 0 := rfl
  have c36 : (3600 : Int32).toInt = 3600 := by decide +kernel
  show fl_Tq (pw_P L xs) 102 0 [some (.inr (.inr (.inl (0, 0)))), some (.inl a), some (.inl b)] [] (f, l) _
  have no1 : ¬ (0 ≤ a.toInt ∧ a.toInt < (f 280 2).toInt) → t2_Mid L xs 244 [at_this, .inl a, .inl b] (some (.inl (0 : Int32))) (f, l) := fun hn => by
    refine ⟨Z.U, ⟨_, rfl⟩, ?_⟩
    show fl_Tq (pw_P L xs) 244 0 [some (.inr (.inr (.inl (76, 277)))), some (.inl a), some (.inl b)] [] (f, l) _
    refine y_charge_A (fun h1 => ⟨rfl, Z.2, Z.U⟩) (fun h1 => ?_)
    rw [r_isc n16, Classical.not_not] at h1
    exact absurd h1 hn
  refine x_charge_A (fun h1 => no1 (by rw [t2_isc (by rw [e5]; exact n16), e5] at h1; exact h1)) (fun h1 => ?_)
  rw [t2_isc (by rw [e5]; exact n16), e5, Classical.not_not] at h1
  obtain ⟨A, hA⟩ : ∃ A : Nat, a.toInt = A := ⟨a.toInt.toNat, by omega⟩
  have hA1 : A < 16 := by omega
  have hAn : (A : Int) < (f 280 2).toInt := by omega
  have rc := (I.2.2.2.1 A hAn).1
  have e0 : f (18 + 4 * A) 0 = f 280 (444 + 61 * A + 0) := rc.1.1
  have hcap : 100 ≤ (f 280 (444 + 61 * A + 0)).toInt ∧ (f 280 (444 + 61 * A + 0)).toInt ≤ 9999 := (I.2.2.2.2.2.2.2.2.2.2.2 A hAn).1.1
  have em : (f 280 (444 + 61 * A + 0) * (3600 : Int32)).toInt = (f 280 (444 + 61 * A + 0)).toInt * 3600 := by rw [at_mul32 (by rw [c36]; omega) (by rw [c36]; omega), c36]
  have em2 : ((3600 : Int32) * f 280 (444 + 61 * A + 0)).toInt = 3600 * (f 280 (444 + 61 * A + 0)).toInt := by rw [at_mul32 (by rw [c36]; omega) (by rw [c36]; omega), c36]
  have no2 : ¬ (0 ≤ b.toInt ∧ b.toInt ≤ 3600 * (f 280 (444 + 61 * A + 0)).toInt) → t2_Mid L xs 244 [at_this, .inl a, .inl b] (some (.inl (0 : Int32))) (f, l) := fun hn => by
    refine ⟨Z.U, ⟨_, rfl⟩, ?_⟩
    show fl_Tq (pw_P L xs) 244 0 [some (.inr (.inr (.inl (76, 277)))), some (.inl a), some (.inl b)] [] (f, l) _
    refine y_charge_A (fun h1 => ⟨rfl, Z.2, Z.U⟩) (fun _ => y_charge_A2 hA hA1 (fun h2 => ⟨rfl, Z.2, Z.U⟩) (fun h2 => ?_))
    rw [r_i0, c0, em2, Classical.not_not] at h2
    exact absurd h2 hn
  refine x_charge_A2 hA hA1 (fun h2 => no2 (by rw [e0, t2_w0, c0, em] at h2; omega)) (fun h2 => ?_)
  rw [e0, t2_w0, c0, em, Classical.not_not] at h2
  refine fl_Tq.cal rfl rfl (fl_bo rfl) rfl ?_
  refine t2_ckeep Z (fun g l' C => ?_)
  refine x_charge_B hA hA1 (by rw [C.now (by omega) (by omega) (by omega), e0]; exact hcap) ?_
  have hF : ∀ p : Nat, 91 ≤ p → c0_putCharge_m g A b p = g p := fun p hp => by unfold c0_putCharge_m; rw [fl_row_ne (by omega)]
  have F280 := C.F280 hF
  refine ⟨fun p hp i => by show c0_putCharge_m g A b p i = _; rw [hF p (by have : fl_N l'.2 ≤ p := hp; unfold fl_N at this; omega)]; exact C.U Z.U p hp i, ⟨_, rfl⟩, ?_⟩
  show fl_Tq (pw_P L xs) 244 0 [some (.inr (.inr (.inl (76, 277)))), some (.inl a), some (.inl b)] [] _ _
  refine y_charge_A (fun h => ?_) (fun _ => y_charge_A2 hA hA1 (fun h => ?_) (fun _ => ?_))
  · rw [r_isc (by rw [F280]; exact n16), F280] at h
    exact absurd h1 h
  · rw [F280, r_i0, c0, em2] at h
    omega
  refine fl_Tq.cal rfl rfl (fl_bo rfl) rfl ?_
  refine Z.rkeep F280 (fun G hG K => ?_)
  refine y_charge_B hA hA1 ?_
  have I0 := Z.I0 C F280 K
  have G2 : G 280 2 = f 280 2 := by rw [← I0.1.1.1, C.now (by decide) (by decide) (by decide)]; exact e5
  have G0 : G 280 (444 + 61 * A + 0) = f 280 (444 + 61 * A + 0) := by
    have := (I0.2.2.2.1 A (by rw [G2]; omega)).1.1.1
    rw [← this, C.now (by omega) (by omega) (by omega)]
    exact e0
  have fin := Z.fin C hF K hG (H := fl_row G 280 (upd (G 280) (444 + 61 * A + 1) b)) (fun p hp => fl_row_ne (by omega)) (by rw [fl_row_ne (by decide)]) (fun w hw => by rw [fl_row_self, upd_ne (by omega)]) (I0.charge (by rw [G2]; omega) (by rw [G0]; omega))
  exact ⟨rfl, fin.1, fin.2⟩
/-- Arrays.fill of a row of cycles -/
noncomputable def t2_fil (f : t2_F) (A : Nat) (z : Int32) (n : Nat) : t2_F := fl_row f (21 + 4 * A) (fun w => if w < n then z else f (21 + 4 * A) w)
theorem t2_fil_0 : t2_fil f A z 0 = f := by
  unfold t2_fil
  funext p
  by_cases h : p = 21 + 4 * A
  · subst h
    rw [fl_row_self]
    funext w
    rw [if_neg (Nat.not_lt_zero w)]
  · rw [fl_row_ne h]
theorem t2_fil_s : fl_row (t2_fil f A z n) (21 + 4 * A) (upd (t2_fil f A z n (21 + 4 * A)) n z) = t2_fil f A z (n + 1) := by
  unfold t2_fil
  rw [fl_row_self, fl_rr]
  congr 1
  funext w
  by_cases e : w = n
  · subst e
    rw [upd_self, if_pos (Nat.lt_succ_self _)]
  · rw [upd_ne e]
    by_cases h : w < n
    · rw [if_pos h, if_pos (by omega)]
    · rw [if_neg h, if_neg (by omega)]
theorem t2_fill_q (hA1 : A < 16) (k : Q none (t2_fil f A z 11, l)) : fl_Tq (pw_P L xs) 338 0 (fl_args (am_mxl (pw_P L xs) 338) [.inr (.inr (.inl (21, 21 + 4 * A))), .inl z]) [] (f, l) Q := by
  have c11 : (Int32.ofNat 11).toInt = (11 : Nat) := at_ofN (by omega)
  show fl_Tq (pw_P L xs) 338 0 [some (.inr (.inr (.inl (21, 21 + 4 * A)))), some (.inl z), none, none] [] (f, l) Q
  refine x_fil_A (j := 0) hA1 ?_
  have loop := t2_for (n := 11) (S := fun j => fl_Tq (pw_P L xs) 338 5 [some (.inr (.inr (.inl (21, 21 + 4 * A)))), some (.inl z), some (.inl (Int32.ofNat j)), some (.inl (Int32.ofNat 11))] [] (t2_fil f A z j, l) Q) (fun j hj hS => ?_) ?_
  · rw [t2_fil_0] at loop
    exact loop
  · refine x_fil_B hA1 hj (t2_lk hj c11) ?_
    rw [t2_k1, t2_fil_s]
    exact hS
  · exact x_fil_C hA1 (t2_ln c11) k
/-- addCell -/
theorem t2_add_q {ch pt : Int32} (hch : ch = t2_heldTo_v (t2_chargeBy_v b a) (0 : Int32) (a * (3600 : Int32))) (hpt : pt = t2_partOf_v ch (a * (3600 : Int32))) (hA : (f 1 5).toInt = (A : Int)) (hA1 : A < 16) (hcp : t2_cap a)
    (k : ∀ F : t2_F, (∀ p : Nat, p ≠ 1 → (p < 18 + 4 * A ∨ 22 + 4 * A ≤ p) → F p = f p) → (∀ j : Nat, j ≠ 5 → F 1 j = f 1 j) → F 1 5 = f 1 5 + (1 : Int32) →
      (F (18 + 4 * A) 0 = a ∧ F (18 + 4 * A) 1 = a ∧ F (18 + 4 * A) 5 = c ∧ F (18 + 4 * A) 6 = f 4 6) → (F (18 + 4 * A) 2 = ch ∧ F (18 + 4 * A) 3 = pt ∧ F (18 + 4 * A) 4 = t2_rb pt ∧ F (18 + 4 * A) 8 = ch) → (F (18 + 4 * A) 7 = 0 ∧ F (18 + 4 * A) 9 = 0 ∧ F (18 + 4 * A) 10 = 0) → (F (18 + 4 * A) 14 = (-1000000 : Int32) ∧ F (18 + 4 * A) 15 = (-1 : Int32) ∧ F (18 + 4 * A) 16 = 0 ∧ F (18 + 4 * A) 17 = (-1 : Int32) ∧ F (18 + 4 * A) 18 = 0) →
      (F (19 + 4 * A) 2 = (1 : Int32) ∧ F (20 + 4 * A) 0 = pt ∧ ∀ j : Nat, j < 11 → F (21 + 4 * A) j = 0) → Q (some (.inl ((f 1 5 + (1 : Int32)) - (1 : Int32)))) (F, l)) :
    fl_Tq (pw_P L xs) 35 0 (fl_args (am_mxl (pw_P L xs) 35) [.inr (.inr (.inl (1, 1))), .inl a, .inl b, .inl c]) [] (f, l) Q := by
  show fl_Tq (pw_P L xs) 35 0 [some (.inr (.inr (.inl (1, 1)))), some (.inl a), some (.inl b), some (.inl c)] [] (f, l) Q
  refine x_add_A hA hA1 ?_
  refine fl_Tq.cal rfl rfl (fl_oks_ok ⟨True.intro, True.intro, True.intro, True.intro, t2_kc0 hA1, True.intro⟩) rfl ?_
  show fl_Tq (pw_P L xs) 2 0 [some (.inr (.inr (.inl (18, 18 + 4 * A)))), some (.inl a), some (.inl b), some (.inl c), some (.inl (f 4 6))] [] (f, l) _
  refine x_beg_A hA1 hcp ?_
  -- the cell's row
  generalize hM : fl_row (c0_putCharge_m (fl_row f (18 + 4 * A) (upd (upd (upd (upd (f (18 + 4 * A)) 0 a) 1 a) 5 c) 6 (f 4 6))) A (t2_chargeBy_v b a)) (18 + 4 * A) _ = M
  have mp : ∀ p : Nat, p ≠ 18 + 4 * A → M p = f p := fun p hp => by rw [← hM, fl_row_ne hp]; unfold c0_putCharge_m; rw [fl_row_ne hp, fl_row_ne hp]
  have e0 : fl_row f (18 + 4 * A) (upd (upd (upd (upd (f (18 + 4 * A)) 0 a) 1 a) 5 c) 6 (f 4 6)) (18 + 4 * A) 0 = a := by rw [fl_row_self, upd_ne (by decide), upd_ne (by decide), upd_ne (by decide), upd_self]
  have pc : ∀ j : Nat, c0_putCharge_m (fl_row f (18 + 4 * A) (upd (upd (upd (upd (f (18 + 4 * A)) 0 a) 1 a) 5 c) 6 (f 4 6))) A (t2_chargeBy_v b a) (18 + 4 * A) j = if j = 4 then t2_rb pt else if j = 3 then pt else if j = 2 then ch else upd (upd (upd (upd (f (18 + 4 * A)) 0 a) 1 a) 5 c) 6 (f 4 6) j := fun j => by
    unfold c0_putCharge_m
    rw [e0, ← hch, ← hpt, fl_row_self, fl_row_self]
    unfold upd
    split
    · rfl
    · split
      · rfl
      · rfl
  have mr : ∀ j : Nat, j < 19 → M (18 + 4 * A) j = if j = 0 then a else if j = 1 then a else if j = 2 then ch else if j = 3 then pt else if j = 4 then t2_rb pt else if j = 5 then c else if j = 6 then f 4 6 else if j = 8 then ch else if j = 14 then (-1000000 : Int32) else if j = 15 then (-1 : Int32) else if j = 17 then (-1 : Int32) else (0 : Int32) := fun j hj => by
    rw [← hM, fl_row_self]
    have : j = 0 ∨ j = 1 ∨ j = 2 ∨ j = 3 ∨ j = 4 ∨ j = 5 ∨ j = 6 ∨ j = 7 ∨ j = 8 ∨ j = 9 ∨ j = 10 ∨ j = 11 ∨ j = 12 ∨ j = 13 ∨ j = 14 ∨ j = 15 ∨ j = 16 ∨ j = 17 ∨ j = 18 := by omega
    rcases this with h | h | h | h | h | h | h | h | h | h | h | h | h | h | h | h | h | h | h <;> subst h <;> simp (disch := omega) only [upd_self, upd_ne, pc, if_pos, if_neg, if_true, if_false] <;> rfl
  have e3 : c0_putCharge_m (fl_row f (18 + 4 * A) (upd (upd (upd (upd (f (18 + 4 * A)) 0 a) 1 a) 5 c) 6 (f 4 6))) A (t2_chargeBy_v b a) (18 + 4 * A) 3 = pt := by rw [pc]; rfl
  rw [e3]
  clear hM pc e3
  refine fl_Tq.cal rfl rfl (fl_oks_ok ⟨True.intro, t2_kt0 hA1, True.intro⟩) rfl ?_
  show fl_Tq (pw_P L xs) 86 0 [some (.inr (.inr (.inl (19, 19 + 4 * A)))), some (.inl pt)] [] (M, l) _
  refine x_tub_A hA1 ?_
  refine fl_Tq.cal rfl rfl (fl_oks_ok ⟨True.intro, t2_ky0 hA1, True.intro⟩) rfl ?_
  refine t2_fill_q hA1 ?_
  refine x_tub_B hA1 ?_
  refine fl_Tq.ret rfl rfl rfl ?_
  refine x_add_B ?_
  have fp : ∀ p : Nat, p ≠ 21 + 4 * A → t2_fil M A (0 : Int32) 11 p = M p := fun p hp => by unfold t2_fil; rw [fl_row_ne hp]
  generalize hX : fl_row (fl_row (t2_fil M A (0 : Int32) 11) (20 + 4 * A) (upd (t2_fil M A (0 : Int32) 11 (20 + 4 * A)) 0 pt)) (19 + 4 * A) (upd (t2_fil M A (0 : Int32) 11 (19 + 4 * A)) 2 (1 : Int32)) = X
  have xp : ∀ p : Nat, p ≠ 19 + 4 * A → p ≠ 20 + 4 * A → p ≠ 21 + 4 * A → X p = M p := fun p h1 h2 h3 => by rw [← hX, fl_row_ne h1, fl_row_ne h2, fp p h3]
  have x1 : X 1 = f 1 := by rw [xp 1 (by omega) (by omega) (by omega), mp 1 (by omega)]
  have q := fun (p : Nat) (hp : p ≠ 1) => fl_row_ne (f := X) (p := 1) (q := p) (w := upd (X 1) 5 (X 1 5 + (1 : Int32))) hp
  have r18 : fl_row X 1 (upd (X 1) 5 (X 1 5 + (1 : Int32))) (18 + 4 * A) = M (18 + 4 * A) := by rw [q _ (by omega), xp _ (by omega) (by omega) (by omega)]
  have K := k (fl_row X 1 (upd (X 1) 5 (X 1 5 + (1 : Int32)))) (fun p h1 h2 => by rw [q p h1, xp p (by omega) (by omega) (by omega), mp p (by omega)]) (fun j hj => by rw [fl_row_self, upd_ne hj, x1]) (by rw [fl_row_self, upd_self, x1])
    (by rw [r18]; exact ⟨mr 0 (by decide), mr 1 (by decide), mr 5 (by decide), mr 6 (by decide)⟩) (by rw [r18]; exact ⟨mr 2 (by decide), mr 3 (by decide), mr 4 (by decide), mr 8 (by decide)⟩) (by rw [r18]; exact ⟨mr 7 (by decide), mr 9 (by decide), mr 10 (by decide)⟩) (by rw [r18]; exact ⟨mr 14 (by decide), mr 15 (by decide), mr 16 (by decide), mr 17 (by decide), mr 18 (by decide)⟩)
    ⟨by rw [q _ (by omega), ← hX, fl_row_self, upd_self], by rw [q _ (by omega), ← hX, fl_row_ne (by omega), fl_row_self, upd_self], fun j hj => by rw [q _ (by omega), ← hX, fl_row_ne (by omega), fl_row_ne (by omega)]; unfold t2_fil; rw [fl_row_self]; exact if_pos hj⟩
  rw [x1] at K ⊢
  exact K
end T2MQ4

end

/-! 94.66.g26.lean.txt -/
section
/-! ===== contracts by name ===== -/
def t2_c248 : at_C := (248, [.inl (76, some 277), .inr (false, -2147483648, 2147483647)], [], some (.inr (false, -2147483648, 2147483647)), false, [(76, false, 4, 4), (76, false, 6, 6), (79, false, 3, 16), (79, false, 20, 63), (79, false, 167, 314), (79, false, 444, 1419), (79, true, 1, 1), (79, true, 3, 4), (79, true, 7, 8), (79, true, 10, 60), (81, false, 0, 15)])
set_option maxRecDepth 100000 in
theorem t2_c248_in : t2_c248 ∈ at_CM ++ at_CA := List.mem_of_getElem? (i := 214) rfl
def t2_c266 : at_C := (266, [.inl (76, some 277)], [], some (.inr (false, -2147483648, 2147483647)), false, [(76, false, 4, 4), (76, false, 6, 6), (79, false, 3, 16), (79, false, 20, 63), (79, false, 167, 314), (79, false, 444, 1419), (79, true, 1, 1), (79, true, 3, 4), (79, true, 7, 8), (79, true, 10, 60), (81, false, 0, 15)])
set_option maxRecDepth 100000 in
theorem t2_c266_in : t2_c266 ∈ at_CM ++ at_CA := List.mem_of_getElem? (i := 230) rfl
def t2_c237 : at_C := (237, [.inl (76, some 277)], [], some (.inr (false, -2147483648, 2147483647)), false, [(76, false, 4, 4), (76, false, 6, 6), (79, false, 3, 16), (79, false, 20, 63), (79, false, 167, 314), (79, false, 444, 1419), (79, true, 1, 1), (79, true, 3, 4), (79, true, 7, 8), (79, true, 10, 60), (81, false, 0, 15)])
set_option maxRecDepth 100000 in
theorem t2_c237_in : t2_c237 ∈ at_CM ++ at_CA := List.mem_of_getElem? (i := 213) rfl
def t2_c268 : at_C := (268, [.inl (76, some 277), .inr (false, -2147483648, 2147483647)], [], some (.inr (false, -2147483648, 2147483647)), false, [])
set_option maxRecDepth 100000 in
theorem t2_c268_in : t2_c268 ∈ at_CM ++ at_CA := List.mem_of_getElem? (i := 211) rfl
def t2_c271 : at_C := (271, [.inl (76, some 277), .inr (false, -2147483648, 2147483647), .inr (false, -2147483648, 2147483647)], [], some (.inr (false, -2147483648, 2147483647)), false, [])
set_option maxRecDepth 100000 in
theorem t2_c271_in : t2_c271 ∈ at_CM ++ at_CA := List.mem_of_getElem? (i := 234) rfl
def t2_c205 : at_C := (205, [.inl (76, some 277)], [], some (.inr (false, -1000, 1000)), false, [])
set_option maxRecDepth 100000 in
theorem t2_c205_in : t2_c205 ∈ at_CM ++ at_CA := List.mem_of_getElem? (i := 204) rfl
def t2_c320 : at_C := (320, [.inl (76, some 277), .inr (false, -2147483648, 2147483647)], [], some (.inr (false, 0, 1)), false, [])
set_option maxRecDepth 100000 in
theorem t2_c320_in : t2_c320 ∈ at_CM ++ at_CA := List.mem_of_getElem? (i := 274) rfl

end

/-! 94.67.mq5.lean.txt -/
section
/-! ===== cell ===== -/
section T2MQ5
variable {L : Nat} {xs : Nat → Int32} {f g F G : t2_F} {l l' : t2_L} {Q : Option fl_V → fl_M → Prop} {a b c e : Int32} {A n : Nat}
theorem y_clr_w {B N : Nat} (w : Nat) : y_clr f B N 280 w = if B ≤ w ∧ w < B + N then 0 else f 280 w := by
  unfold y_clr
  rw [fl_row_self]
/-- the reference's cell, behind its keep -/
theorem r_cell_q {ch pt : Int32} (hA : (G 280 2).toInt = (A : Int)) (hA1 : A < 16) (ha : t2_cap a) (hb : 0 ≤ b.toInt ∧ b.toInt ≤ 1000) (hch : ch = t2_heldTo_v (t2_chargeBy_v b a) (0 : Int32) (a * (3600 : Int32))) (hpt : pt = t2_partOf_v ch (a * (3600 : Int32)))
    (k : ∀ H : t2_F, (∀ p : Nat, p ≠ 280 → H p = G p) → (∀ w : Nat, w ≠ 2 → (w < 444 + 61 * A ∨ 444 + 61 * A + 61 ≤ w) → H 280 w = G 280 w) → H 280 2 = G 280 2 + (1 : Int32) → (∀ w : Nat, w < 61 → H 280 (444 + 61 * A + w) = t2_nc a c (G 280 40) ch pt w) → (0 ≤ ch.toInt ∧ ch.toInt ≤ 3600 * a.toInt) → Q (some (.inl (G 280 2))) (H, l)) :
    fl_Tq (pw_P L xs) 243 50 [some (.inr (.inr (.inl (76, 277)))), some (.inl a), some (.inl b), some (.inl c), none, none] [] (G, l) Q := by
  have c61 : (61 : Int32).toInt = (61 : Nat) := by decide +kernel
  have c36 : (3600 : Int32).toInt = 3600 := by decide +kernel
  have hcap : 100 ≤ a.toInt ∧ a.toInt ≤ 9999 := ha
  have em : (a * (3600 : Int32)).toInt = a.toInt * 3600 := by rw [at_mul32 (by rw [c36]; omega) (by rw [c36]; omega), c36]
  obtain ⟨q1, q2, q3, q4⟩ := t2_chg hb ha
  have ech : ch = t2_chargeBy_v b a := by rw [hch]; exact t2_held_id q2 (by omega)
  have cb : 0 ≤ ch.toInt ∧ ch.toInt ≤ 3600 * a.toInt := by rw [ech]; exact ⟨q2, q3⟩
  have eC : ∀ M : t2_F, M 280 (444 + 61 * A + 0) = a → r_chargeAt_v M (G 280 2) A b = ch := fun M hM => by
    unfold r_chargeAt_v
    rw [hM, ech]
    exact q4
  refine y_cell_B ?_
  generalize hG1 : fl_row G 280 (upd (G 280) 2 ((G 280 2) + (1 : Int32))) = G1
  have loop := t2_for (n := 61) (S := fun j => fl_Tq (pw_P L xs) 243 71 [some (.inr (.inr (.inl (76, 277)))), some (.inl a), some (.inl b), some (.inl c), some (.inl (G 280 2)), some (.inl (Int32.ofNat j))] [] (y_clr G1 (444 + 61 * A) j, l) Q) (fun j hj hS => ?_) ?_
  · rw [y_clr_0] at loop
    exact loop
  · refine y_cell_C hA hA1 hj (t2_lk hj c61) ?_
    rw [t2_k1, y_clr_s]
    exact hS
  · refine y_cell_D hA hA1 (t2_ln c61) ?_
    have yw : ∀ w : Nat, y_clr G1 (444 + 61 * A) 61 280 w = if 444 + 61 * A ≤ w ∧ w < 444 + 61 * A + 61 then 0 else G1 280 w := y_clr_w
    have yp : ∀ p : Nat, p ≠ 280 → y_clr G1 (444 + 61 * A) 61 p = G p := fun p hp => by unfold y_clr; rw [fl_row_ne hp, ← hG1, fl_row_ne hp]
    generalize y_clr G1 (444 + 61 * A) 61 = Y at yw yp ⊢
    generalize hH1 : fl_row Y 280 (upd (upd (upd (Y 280) (444 + 61 * A + 0) a) (444 + 61 * A + 6) a) (444 + 61 * A + 2) c) = H1
    have h1w : ∀ w : Nat, H1 280 w = if w = 444 + 61 * A + 2 then c else if w = 444 + 61 * A + 6 then a else if w = 444 + 61 * A + 0 then a else Y 280 w := fun w => by
      rw [← hH1, fl_row_self]
      unfold upd
      rfl
    have h1p : ∀ p : Nat, p ≠ 280 → H1 p = G p := fun p hp => by rw [← hH1, fl_row_ne hp, yp p hp]
    clear hH1
    have h10 : H1 280 (444 + 61 * A + 0) = a := by rw [h1w, if_neg (by omega), if_neg (by omega), if_pos rfl]
    have h40 : H1 280 40 = G 280 40 := by rw [h1w, if_neg (by omega), if_neg (by omega), if_neg (by omega), yw, if_neg (by omega), ← hG1, fl_row_self, upd_ne (by decide)]
    refine y_cell_E hA hA1 ?_
    rw [eC (fl_row H1 280 (upd (H1 280) (444 + 61 * A + 3) (H1 280 40))) (by rw [fl_row_self, upd_ne (by omega)]; exact h10), eC (fl_row H1 280 (upd (upd (H1 280) (444 + 61 * A + 3) (H1 280 40)) (444 + 61 * A + 1) ch)) (by rw [fl_row_self, upd_ne (by omega), upd_ne (by omega)]; exact h10), h40]
    generalize hH2 : fl_row H1 280 (upd (upd (upd (upd (upd (upd (upd (upd (upd (H1 280) (444 + 61 * A + 3) (G 280 40)) (444 + 61 * A + 1) ch) (444 + 61 * A + 4) ch) (444 + 61 * A + 7) (-2000000000 : Int32)) (444 + 61 * A + 8) (2000000000 : Int32)) (444 + 61 * A + 11) (-1000000 : Int32)) (444 + 61 * A + 12) (-1 : Int32)) (444 + 61 * A + 16) (-1 : Int32)) (444 + 61 * A + 10) (1 : Int32)) = H2
    have h2w : ∀ w : Nat, H2 280 w = if w = 444 + 61 * A + 10 then (1 : Int32) else if w = 444 + 61 * A + 16 then (-1 : Int32) else if w = 444 + 61 * A + 12 then (-1 : Int32) else if w = 444 + 61 * A + 11 then (-1000000 : Int32) else if w = 444 + 61 * A + 8 then (2000000000 : Int32) else if w = 444 + 61 * A + 7 then (-2000000000 : Int32) else if w = 444 + 61 * A + 4 then ch else if w = 444 + 61 * A + 1 then ch else if w = 444 + 61 * A + 3 then G 280 40 else H1 280 w := fun w => by
      rw [← hH2, fl_row_self]
      unfold upd
      rfl
    have h2p : ∀ p : Nat, p ≠ 280 → H2 p = G p := fun p hp => by rw [← hH2, fl_row_ne hp, h1p p hp]
    clear hH2
    have h20 : H2 280 (444 + 61 * A + 0) = a := by rw [h2w]; simp (disch := omega) only [if_neg]; exact h10
    have h21 : H2 280 (444 + 61 * A + 1) = ch := by rw [h2w]; simp (disch := omega) only [if_neg, if_true]
    have ep : r_partOf_v H2 (G 280 2) A = pt := by
      unfold r_partOf_v
      rw [h20, h21, t2_partAt_eq ha, hpt]
    refine fl_Tq.cal rfl rfl (fl_bo rfl) rfl ?_
    refine r_partOf_q (c := G 280 2) (C := A) hA hA1 ⟨by rw [h20]; exact ha, by rw [h21]; exact cb.1, by rw [h20, h21]; exact cb.2⟩ ?_
    rw [ep]
    refine y_cell_F hA hA1 ?_
    refine k _ (fun p hp => by rw [fl_row_ne hp, h2p p hp]) (fun w h2 hw => ?_) ?_ (fun w hw => ?_) cb
    · rw [fl_row_self, upd_ne (by omega), h2w]
      simp (disch := omega) only [if_neg]
      rw [h1w]
      simp (disch := omega) only [if_neg]
      rw [yw, if_neg (by omega), ← hG1, fl_row_self, upd_ne h2]
    · rw [fl_row_self, upd_ne (by omega), h2w]
      simp (disch := omega) only [if_neg]
      rw [h1w]
      simp (disch := omega) only [if_neg]
      rw [yw, if_neg (by omega), ← hG1, fl_row_self, upd_self]
    · rw [fl_row_self]
      by_cases e17 : w = 17
      · subst e17
        rw [upd_self]
        rfl
      rw [upd_ne (by omega), h2w]
      have e1 : H1 280 (444 + 61 * A + w) = if w = 2 then c else if w = 6 then a else if w = 0 then a else 0 := by
        rw [h1w]
        by_cases w2 : w = 2
        · subst w2
          rw [if_pos rfl, if_pos rfl]
        rw [if_neg (by omega), if_neg w2]
        by_cases w6 : w = 6
        · subst w6
          rw [if_pos rfl, if_pos rfl]
        rw [if_neg (by omega), if_neg w6]
        by_cases w0 : w = 0
        · subst w0
          rw [if_pos rfl, if_pos rfl]
        rw [if_neg (by omega), if_neg w0, yw, if_pos (by omega)]
      rw [e1]
      unfold t2_nc
      have : w = 0 ∨ w = 1 ∨ w = 2 ∨ w = 3 ∨ w = 4 ∨ w = 5 ∨ w = 6 ∨ w = 7 ∨ w = 8 ∨ w = 9 ∨ w = 10 ∨ w = 11 ∨ w = 12 ∨ w = 13 ∨ w = 14 ∨ w = 15 ∨ w = 16 ∨ 18 ≤ w := by omega
      rcases this with h | h | h | h | h | h | h | h | h | h | h | h | h | h | h | h | h | h
      case inr.inr.inr.inr.inr.inr.inr.inr.inr.inr.inr.inr.inr.inr.inr.inr.inr =>
        simp (disch := omega) only [if_neg]
      all_goals
        subst h
        simp (disch := omega) only [if_neg, if_true]
/-- cell -/
theorem t2_cell (Z : t2_Z (f, l)) : fl_Tq (pw_P L xs) 101 0 (fl_args (am_mxl (pw_P L xs) 101) [lx_x, .inl a, .inl b, .inl c]) [] (f, l) (t2_Mid L xs 243 [at_this, .inl a, .inl b, .inl c]) := by
  have I : c0_I f f := Z.2.1
  have e5 : f 1 5 = f 280 2 := I.1.1.1
  have n16 := I.2.2.2.2.2.1.2.2.1
  have c0 : (0 : Int32).toInt = 0 := rfl
  have c1 : (1 : Int32).toInt = 1 := by decide +kernel
  have c16 : (16 : Int32).toInt = 16 := by decide +kernel
  have c100 : (100 : Int32).toInt = 100 := by decide +kernel
  have c9 : (9999 : Int32).toInt = 9999 := by decide +kernel
  have ck : (1000 : Int32).toInt = 1000 := by decide +kernel
  have c99 : (99 : Int32).toInt = 99 := by decide +kernel
  have ej : (x_cell_A_j9_0 a b c).toInt = 0 ↔ ¬ ((100 ≤ a.toInt ∧ a.toInt ≤ 9999) ∧ (0 ≤ b.toInt ∧ b.toInt ≤ 1000) ∧ 0 ≤ c.toInt ∧ c.toInt ≤ 99) := by
    unfold x_cell_A_j9_0
    split
    · rename_i h
      rw [t2_w0, c100, c9] at h
      rw [c0]; omega
    · rename_i h
      rw [t2_w0, c100, c9] at h
      split
      · rename_i h2
        rw [t2_w0, c0, ck] at h2
        rw [c0]; omega
      · rename_i h2
        rw [t2_w0, c0, ck] at h2
        split
        · rename_i h3
          rw [t2_w0, c0, c99] at h3
          rw [c0]; omega
        · rename_i h3
          rw [t2_w0, c0, c99] at h3
          rw [c1]; omega
  show fl_Tq (pw_P L xs) 101 0 [some (.inr (.inr (.inl (0, 0)))), some (.inl a), some (.inl b), some (.inl c), none] [] (f, l) _
  have no : ¬ (((100 ≤ a.toInt ∧ a.toInt ≤ 9999) ∧ (0 ≤ b.toInt ∧ b.toInt ≤ 1000) ∧ 0 ≤ c.toInt ∧ c.toInt ≤ 99) ∧ (f 280 2).toInt < 16) → t2_Mid L xs 243 [at_this, .inl a, .inl b, .inl c] (some (.inl (-1 : Int32))) (f, l) := fun hn => by
    refine ⟨Z.U, ⟨_, rfl⟩, ?_⟩
    show fl_Tq (pw_P L xs) 243 0 [some (.inr (.inr (.inl (76, 277)))), some (.inl a), some (.inl b), some (.inl c), none, none] [] (f, l) _
    refine y_cell_A (fun h1 => ⟨rfl, Z.2, Z.U⟩) (fun h1 h2 => ⟨rfl, Z.2, Z.U⟩) (fun h1 h2 h3 => ⟨rfl, Z.2, Z.U⟩) (fun h1 h2 h3 h4 => ⟨rfl, Z.2, Z.U⟩) (fun h1 h2 h3 h4 => ?_)
    rw [r_i0, c100, c9] at h1
    rw [r_i0, c0, ck] at h2
    rw [r_i0, c0, c99] at h3
    rw [c16] at h4
    omega
  refine x_cell_A (fun h1 => no (fun h => ej.mp h1 h.1)) (fun h1 h2 => ?_) (fun h1 h2 => no (fun h => h2 (by rw [e5, c16]; exact h.2)))
  have g1 := Classical.not_not.mp (fun h => h1 (ej.mpr h))
  rw [e5, c16] at h2
  obtain ⟨A, hA⟩ : ∃ A : Nat, (f 280 2).toInt = A := ⟨(f 280 2).toInt.toNat, by omega⟩
  have hA1 : A < 16 := by omega
  refine fl_Tq.cal rfl rfl (fl_bo rfl) rfl ?_
  refine t2_ckeep Z (fun g l' C => ?_)
  refine fl_Tq.fg (x_cell_B ?_) ⟨rfl, rfl, rfl, rfl, True.intro⟩
  refine fl_Tq.cal rfl rfl (fl_bo rfl) rfl ?_
  have g15 : g 1 5 = f 280 2 := by rw [C.now (by decide) (by decide) (by decide)]; exact e5
  refine t2_add_q (A := A) rfl rfl (by rw [g15]; exact hA) hA1 g1.1 (fun F P P1 P15 r1 r2 r3 r4 r5 => ?_)
  refine fl_Tq.ret rfl rfl rfl ?_
  have hF : ∀ p : Nat, 91 ≤ p → F p = g p := fun p hp => P p (by omega) (by omega)
  have F280 := C.F280 hF
  refine ⟨fun p hp i => by show F p i = _; rw [hF p (by have : fl_N l'.2 ≤ p := hp; unfold fl_N at this; omega)]; exact C.U Z.U p hp i, ⟨_, rfl⟩, ?_⟩
  show fl_Tq (pw_P L xs) 243 0 [some (.inr (.inr (.inl (76, 277)))), some (.inl a), some (.inl b), some (.inl c), none, none] [] _ _
  refine y_cell_A (fun h => ?_) (fun _ h => ?_) (fun _ _ h => ?_) (fun _ _ _ h => ?_) (fun _ _ _ _ => ?_)
  · rw [r_i0, c100, c9] at h
    omega
  · rw [r_i0, c0, ck] at h
    omega
  · rw [r_i0, c0, c99] at h
    omega
  · rw [F280, c16] at h
    omega
  refine fl_Tq.cal rfl rfl (fl_bo rfl) rfl ?_
  refine Z.rkeep F280 (fun G hG K => ?_)
  have I0 := Z.I0 C F280 K
  have G2 : G 280 2 = f 280 2 := by rw [← I0.1.1.1]; exact g15
  refine r_cell_q (A := A) (by rw [G2]; exact hA) hA1 g1.1 g1.2.1 rfl rfl (fun H hH W W2 W3 cb => ?_)
  have J := I0.cell1 (F := F) (G := H) (by rw [G2]; exact hA) hA1 g1.1 g1.2.2 cb rfl (fun p _ _ h1 h2 => P p h1 h2) P1 P15 r1 r2 r3 r4 r5 (fun w h1 h2 => W w (by omega) h2) W2 W3
  have fin := Z.fin C hF K hG (H := H) (fun p hp => hH p (by omega)) (by rw [hH 277 (by decide)]) (fun w hw => W w (by omega) (by omega)) J
  refine ⟨?_, fin.1, fin.2⟩
  rw [G2, g15]
  have e : (f 280 2 + (1 : Int32)) - (1 : Int32) = f 280 2 := Int32.toInt.inj (by
    have h := at_add32 (x := f 280 2) (y := (1 : Int32)) (by omega) (by omega)
    rw [at_sub32 (by omega) (by omega), h]
    omega)
  rw [e]
end T2MQ5

end

/-! 94.68.mq6.lean.txt -/
section
/-! ===== undo, image, back ===== -/
section T2MQ6
variable {L : Nat} {xs : Nat → Int32} {f g F G : t2_F} {l l' : t2_L} {Q : Option fl_V → fl_M → Prop}
/-- undo -/
theorem t2_undo (Z : t2_Z (f, l)) : fl_Tq (pw_P L xs) 119 0 (fl_args (am_mxl (pw_P L xs) 119) [lx_x]) [] (f, l) (t2_Mid L xs 242 [at_this]) := by
  have W : t2_W f f l.2 := Z.2
  obtain ⟨I, ⟨⟨b1, b2, b3, b4, b5⟩, -⟩, -⟩ := id W
  have em : Int32.ofInt (-1) = (-1 : Int32) := by decide +kernel
  show fl_Tq (pw_P L xs) 119 0 [some (.inr (.inr (.inl (0, 0))))] [] (f, l) _
  refine x_undo_A (fun h1 => ?_) (fun h1 => ?_)
  · rw [b1] at h1
    refine ⟨Z.U, ⟨_, rfl⟩, ?_⟩
    exact r_undo_q (m := (f, l)) b3 b4 (fun _ => ⟨by rw [em], Z.2, Z.U⟩) (fun g s hn => absurd h1 hn)
  · rw [b1] at h1
    obtain ⟨j, j1, j2, j3⟩ := b5 ((f 280 0).toInt.toNat - 1) (by omega)
    have j2 : (f 272 (((f 271 1).toInt.toNat + ((f 280 0).toInt.toNat - 1)) % 20)).toInt = 285 + 90 * (j : Int) := j2
    obtain ⟨s1, s2, s3⟩ := j3.src (by omega)
    refine fl_Tq.cal rfl rfl (fl_bo rfl) rfl ?_
    refine hu_q (i := ((f 271 1).toInt.toNat + ((f 280 0).toInt.toNat - 1)) % 20) (j := j) Z.1.2.2 b2 (by rw [b1]; omega) (by rw [b1]; omega) j1 j2 s1 s2 s3 (fun g g2 g1 gfr g0 gsm g13 g16 => ?_)
    refine x_undo_B ?_
    have g280 : g 280 = f 280 := gfr 280 (by decide) (by decide)
    refine ⟨fun p hp i => by
      have hp : fl_N l.2 ≤ p := hp
      have h285 : 285 ≤ fl_N l.2 := by unfold fl_N; omega
      show g p i = _
      rw [gfr p (by omega) (by omega)]
      exact Z.U p hp i, ⟨_, rfl⟩, ?_⟩
    refine r_undo_q (m := (g, l)) (by show 0 ≤ (g 280 0).toInt ∧ (g 280 0).toInt ≤ 20; rw [g280]; exact b3) (by show 0 ≤ (g 280 1).toInt ∧ (g 280 1).toInt ≤ 19; rw [g280]; exact b4) (fun h => absurd (by have h : (g 280 0).toInt = 0 := h; rw [g280] at h; exact h) h1) (fun G s _ hs hs2 hp hj1 hj2 h0 => ?_)
    have hs2 : (s : Int) = ((g 280 1).toInt + ((g 280 0).toInt - 1)) % 20 := hs2
    have hp : ∀ p : Nat, p ≠ 280 → G p = g p := hp
    have hj1 : ∀ j : Nat, (j = 1 ∨ 1420 ≤ j) → G 280 j = g 280 j := hj1
    have hj2 : ∀ j : Nat, j < 1418 → G 280 (2 + j) = g 280 (1420 + 1418 * s + j) := hj2
    have h0 : (G 280 0).toInt = (g 280 0).toInt - 1 := h0
    rw [g280] at hs2 hj1 hj2 h0
    have es : s = ((f 280 1).toInt.toNat + ((f 280 0).toInt.toNat - 1)) % 20 := by omega
    have W1 := W.undo (gc := g) (gr := fun p => if p = 280 then G 280 else f p) (j := j) (s := s) hs2 (by omega) (by rw [es]; exact j3) g2 g1 gfr gsm g13 g16 (fun p hp => if_neg hp) (fun j hj => by rw [if_pos rfl]; exact hj1 j hj) (fun j hj => by rw [if_pos rfl]; exact hj2 j hj) (by rw [if_pos rfl]; exact h0)
    show some (Sum.inl (G 280 0)) = some (Sum.inl (g 271 2)) ∧ t2_W G G l.2 ∧ t2_U (G, l)
    refine ⟨?_, W1.ext (fun p hp' => hp p (by unfold fl_N at hp'; omega)) (fun w _ => by show G 280 w = (if 280 = 280 then G 280 else f 280) w; rw [if_pos rfl]) (fun w _ => by show G 281 w = (if 281 = 280 then G 280 else f 281) w; rw [if_neg (by decide), hp 281 (by decide), gfr 281 (by decide) (by decide)]) (by show G 277 7 = (if 277 = 280 then G 280 else f 277) 7; rw [if_neg (by decide), hp 277 (by decide), gfr 277 (by decide) (by decide)]), fun p hp' i => ?_⟩
    · have e : G 280 0 = g 271 2 := Int32.toInt.inj (by rw [h0, g2, b1])
      rw [e]
    · have hp' : fl_N l.2 ≤ p := hp'
      have h285 : 285 ≤ fl_N l.2 := by unfold fl_N; omega
      show G p i = _
      rw [hp p (by omega), gfr p (by omega) (by omega)]
      exact Z.U p hp' i
/-- what is copied to now, to the image: the rest stays -/
theorem t2_bsX {p q : Nat} (hX : at_XI (f, l)) (hn : 0 ≤ (f q 5).toInt ∧ (f q 5).toInt ≤ 16) (hp : p + 90 ≤ 271) : at_XI (bs_m f p q, l) :=
  at_XI.keep hX rfl (fun r w hr => by
    show bs_m f p q r w = f r w
    rw [bs_fr hn (by
      rcases hr with h | h | h | h | h | h | h | h
      · omega
      · omega
      · unfold fl_N at h; omega
      · omega
      · omega
      · omega
      · omega
      · omega)])
/-- image -/
theorem t2_image (Z : t2_Z (f, l)) : fl_Tq (pw_P L xs) 120 0 (fl_args (am_mxl (pw_P L xs) 120) [lx_x]) [] (f, l) (t2_Mid L xs 323 [at_this]) := by
  have W : t2_W f f l.2 := Z.2
  obtain ⟨I, ⟨H1, B1, H3⟩, D, p7⟩ := id W
  have hM : t2_M f l.2 := t2_Good.M Z.1
  show fl_Tq (pw_P L xs) 120 0 [some (.inr (.inr (.inl (0, 0))))] [] (f, l) _
  refine x_image_A ?_
  obtain ⟨s1, s2, s3⟩ := (t2_B.of_now I).src (by decide)
  refine fl_Tq.cal rfl rfl (fl_bo rfl) rfl ?_
  refine bs_24_0_q (p := 91) (q := 1) t2_blk_image t2_blk_now (by omega) s1 s2 s3 ?_
  refine x_image_B ?_
  refine fl_Tq.cal rfl rfl (fl_bo rfl) rfl ?_
  have S := bs_same (f := f) (p := 91) (q := 1) (by omega) s1
  have mf : ∀ r : Nat, (r < 91 ∨ 181 ≤ r) → bs_m f 91 1 r = f r := fun r hr => bs_fr s1 (by omega)
  have mX := t2_bsX (p := 91) Z.1.2.2 s1 (by decide)
  have B91 : t2_B (bs_m f 91 1) 91 (f 280) 0 := (t2_B.of_now I).same (by decide) S.1 (by rw [S.2.1]; exact t2_Good.k1 (j := 0) Z.1 (p := 103) (τ := 37) (by unfold fl_N; omega) (by decide +kernel) (by decide +kernel)) (by rw [S.2.2]; exact t2_Good.k1 (j := 0) Z.1 (p := 106) (τ := 40) (by unfold fl_N; omega) (by decide +kernel) (by decide +kernel))
  generalize bs_m f 91 1 = M at mf mX B91 ⊢
  refine hi_q (R := f 280) mX (fun j hj => by rw [mf _ (by omega), mf _ (by omega)]; exact hM j hj) (D.ext (fun q i hq _ => by rw [mf q (by omega)])) (H1.ext (mf _ (by decide)) (fun i _ => by rw [mf 272 (by decide)]) (fun i j _ _ _ o _ => mf _ (by omega)) rfl rfl (fun w _ _ => rfl) (Nat.le_refl _)) (fun g l' e1 e2 gX gH gD gfr gO => ?_)
  refine x_image_C ?_
  have g280 : g 280 = f 280 := by rw [gfr 280 (by decide) (by decide) (by decide), mf 280 (by decide)]
  have gn : ∀ p : Nat, p < 91 → g p = f p := fun p hp => by rw [gfr p (by omega) (by omega) (by omega), mf p (by omega)]
  refine ⟨gX.2.2.1, ⟨_, rfl⟩, ?_⟩
  refine r_image_q (m := (g, l')) (fun G hp h1 => ?_)
  have hp : ∀ p : Nat, p ≠ 281 → G p = g p := hp
  have h1 : ∀ j : Nat, j < 29780 → G 281 j = g 280 j := h1
  rw [g280] at h1
  have G280 : G 280 = f 280 := by rw [hp 280 (by decide)]; exact g280
  have Gn : ∀ p : Nat, p < 91 → G p = f p := fun p hp2 => by rw [hp p (by omega)]; exact gn p hp2
  show some (Sum.inl (G 280 7)) = some (Sum.inl (g 1 6)) ∧ t2_W G G l'.2 ∧ t2_U (G, l')
  refine ⟨?_, ⟨I.ext (fun p _ h => Gn p h) (fun w _ _ => by rw [G280]), ⟨H1.ext ?_ (fun i _ => ?_) (fun i j hi hj hv o ho => ?_) (by rw [G280]) (by rw [G280]) (fun w _ _ => by rw [G280]) e2, t2_B.ext B91 (fun o ho => ?_) (fun w h3 h4 => h1 _ (by omega)), gH.ext (hp _ (by decide)) (fun i _ => by rw [hp 274 (by decide)]) (fun i j _ _ _ o _ => hp _ (by omega)) (h1 0 (by decide)) (h1 1 (by decide)) (fun w _ hw => h1 w hw) (Nat.le_refl _)⟩, gD.ext (fun q i hq _ => by rw [hp q (by omega)]), ?_⟩, fun p hp2 i => ?_⟩
  · rw [G280, gn 1 (by decide)]
    rw [I.1.1.2.1]
  · rw [hp 271 (by decide), gfr 271 (by decide) (by decide) (by decide), mf 271 (by decide)]
  · rw [hp 272 (by decide), gfr 272 (by decide) (by decide) (by decide), mf 272 (by decide)]
  · rw [hp _ (by omega), gO i j hi hj (by rw [mf 272 (by decide)]; exact hv) o ho, mf _ (by omega)]
  · rw [hp _ (by omega), gfr _ (by omega) (by omega) (by omega)]
  · rw [hp 277 (by decide), gfr 277 (by decide) (by decide) (by decide), mf 277 (by decide)]
    exact p7
  · have hp2 : fl_N l'.2 ≤ p := hp2
    have h285 : 285 ≤ fl_N l'.2 := by unfold fl_N; omega
    show G p i = _
    rw [hp p (by omega)]
    exact gX.2.2.1 p hp2 i
/-- back -/
theorem t2_back (Z : t2_Z (f, l)) : fl_Tq (pw_P L xs) 121 0 (fl_args (am_mxl (pw_P L xs) 121) [lx_x]) [] (f, l) (t2_Mid L xs 324 [at_this]) := by
  have W : t2_W f f l.2 := Z.2
  obtain ⟨I, ⟨H1, B1, H3⟩, D, p7⟩ := id W
  have hM : t2_M f l.2 := t2_Good.M Z.1
  show fl_Tq (pw_P L xs) 121 0 [some (.inr (.inr (.inl (0, 0))))] [] (f, l) _
  refine x_back_A ?_
  obtain ⟨s1, s2, s3⟩ := B1.src (by decide)
  refine fl_Tq.cal rfl rfl (fl_bo rfl) rfl ?_
  refine bs_0_24_q (p := 1) (q := 91) t2_blk_now t2_blk_image (by omega) s1 s2 s3 ?_
  refine x_back_B ?_
  refine fl_Tq.cal rfl rfl (fl_bo rfl) rfl ?_
  have S := bs_same (f := f) (p := 1) (q := 91) (by omega) s1
  have mf : ∀ r : Nat, (r < 1 ∨ 91 ≤ r) → bs_m f 1 91 r = f r := fun r hr => bs_fr s1 (by omega)
  have mX := t2_bsX (p := 1) Z.1.2.2 s1 (by decide)
  have BN : t2_B (bs_m f 1 91) 1 (f 281) 0 := B1.same (by decide) S.1 (by rw [S.2.1]; exact I.2.2.1.2.1.2.2.2.1) (by rw [S.2.2]; exact I.2.2.1.2.2.1.1)
  have e6 : bs_m f 1 91 1 6 = f 281 7 := BN.1.1.2.1
  generalize bs_m f 1 91 = M at mf mX BN e6 ⊢
  refine hb_q (R := f 281) mX (fun j hj => by rw [mf _ (by omega), mf _ (by omega)]; exact hM j hj) (D.ext (fun q i hq _ => by rw [mf q (by omega)])) (H3.ext (mf _ (by decide)) (fun i _ => by rw [mf 274 (by decide)]) (fun i j _ _ _ o _ => mf _ (by omega)) rfl rfl (fun w _ _ => rfl) (Nat.le_refl _)) (fun g l' e1 e2 gX gH gD gfr gO => ?_)
  refine x_back_C ?_
  have g281 : g 281 = f 281 := by rw [gfr 281 (by decide) (by decide) (by decide), mf 281 (by decide)]
  refine ⟨gX.2.2.1, ⟨_, rfl⟩, ?_⟩
  refine r_back_q (m := (g, l')) (fun G hp h1 => ?_)
  have hp : ∀ p : Nat, p ≠ 280 → G p = g p := hp
  have h1 : ∀ j : Nat, j < 29780 → G 280 j = g 281 j := h1
  rw [g281] at h1
  have G281 : G 281 = f 281 := by rw [hp 281 (by decide)]; exact g281
  show some (Sum.inl (G 280 7)) = some (Sum.inl (g 1 6)) ∧ t2_W G G l'.2 ∧ t2_U (G, l')
  refine ⟨?_, ⟨t2_B.now (t2_B.ext BN (fun o ho => ?_) (fun w h3 h4 => h1 _ (by omega))), ⟨gH.ext (hp _ (by decide)) (fun i _ => by rw [hp 272 (by decide)]) (fun i j _ _ _ o _ => hp _ (by omega)) (h1 0 (by decide)) (h1 1 (by decide)) (fun w _ hw => h1 w hw) (Nat.le_refl _), t2_B.ext B1 (fun o ho => ?_) (fun w _ _ => by rw [G281]), H3.ext ?_ (fun i _ => ?_) (fun i j hi hj hv o ho => ?_) (by rw [G281]) (by rw [G281]) (fun w _ _ => by rw [G281]) e2⟩, gD.ext (fun q i hq _ => by rw [hp q (by omega)]), ?_⟩, fun p hp2 i => ?_⟩
  · rw [h1 7 (by decide), gfr 1 (by decide) (by decide) (by decide), e6]
  · rw [hp _ (by omega), gfr _ (by omega) (by omega) (by omega)]
  · rw [hp _ (by omega), gfr _ (by omega) (by omega) (by omega), mf _ (by omega)]
  · rw [hp 273 (by decide), gfr 273 (by decide) (by decide) (by decide), mf 273 (by decide)]
  · rw [hp 274 (by decide), gfr 274 (by decide) (by decide) (by decide), mf 274 (by decide)]
  · rw [hp _ (by omega), gO i j hi hj (by rw [mf 274 (by decide)]; exact hv) o ho, mf _ (by omega)]
  · rw [hp 277 (by decide), gfr 277 (by decide) (by decide) (by decide), mf 277 (by decide)]
    exact p7
  · have hp2 : fl_N l'.2 ≤ p := hp2
    have h285 : 285 ≤ fl_N l'.2 := by unfold fl_N; omega
    show G p i = _
    rw [hp p (by omega)]
    exact gX.2.2.1 p hp2 i
end T2MQ6

end

/-! 94.69.frm2.lean.txt -/
section
/-! ===== what seconds, drives leave alone ===== -/
section C0FRM2
variable {fc fr : t2_F} {p : Nat}
theorem c0_I.curP' (h : c0_I fc fr) (hp : 91 ≤ p) : c0_letCurrent_m fc p = fc p := by
  have cn := h.cnt
  obtain ⟨⟨⟨g5, g6, g7, g8⟩, -⟩, rs, gx, cl, ok⟩ := id h
  have hm0 : t2_lo 4 ≤ (fr 280 38).toInt ∧ (fr 280 38).toInt ≤ t2_hi 4 := ok.s (k := 4) (by decide)
  have l4 : t2_lo 4 = 1 := by decide
  have h4 : t2_hi 4 = 99999 := by decide
  obtain ⟨-, -, -, k4, -⟩ := c0_cur_eq h.rl g7 gx.1.1 ok.2.2.1 (by omega)
  exact funext (fun k => k4 p k (fun q => absurd q (by omega)) (fun C c q => absurd q (by omega)))
theorem c0_I.balP' (h : c0_I fc fr) (hp : 91 ≤ p) : c0_balance_m fc p = fc p := by
  have hh := h
  obtain ⟨⟨⟨g5, g6, g7, g8⟩, ⟨g9, g10, g11, g12⟩, g13, g14, g15, g16⟩, rs, gx, cl, ok⟩ := h
  have cn := hh.cnt
  generalize hnn : (fr 280 2).toInt.toNat = n at *
  have hM : (fc 1 5).toInt.toNat = n := by omega
  have oc : ∀ C : Nat, C < n → t2_OC (fr 280) C := fun C hC => (hh.cell (by omega)).2
  have rc : ∀ C : Nat, C < n → c0_Rc fc fr C := fun C hC => (hh.cell (by omega)).1.1
  have rb : c0_RB fc fr n := ⟨rs, fun C hC => ⟨rc C hC, by rw [(rc C hC).1.1]; exact (oc C hC).1.1, (oc C hC).1⟩, g14, g15, g11, g13, g16⟩
  have b13 : t2_lo 13 ≤ (fr 280 47).toInt ∧ (fr 280 47).toInt ≤ t2_hi 13 := ok.s (k := 13) (by decide)
  have q13 : t2_lo 13 = 0 ∧ t2_hi 13 = 16 := by decide
  have hl : fc 10 3 = fr 280 6 := gx.2.1.1.1
  obtain ⟨P, -, -, -⟩ := c0_balance_o hM hnn cn.2.1 rb hl g6 (by omega)
  exact P p (by omega) (fun C hC => by omega)
theorem c0_u6_P (h : c0_I fc fr) (ht : (fr 280 7).toInt < 9999) (hp : 91 ≤ p) : c0_u6 fc p = fc p := by
  obtain ⟨i1, i2, i3, i4, i5, i6, -⟩ := h.chain ht
  have b6 := i6.hc
  unfold c0_u6
  rw [(c0_measure_o (n := (c0_s5 (c0_balance_m (c0_passCells_m (c0_letCurrent_m (c0_moveBus_m (c0_s1 fc))))) 1 5).toInt.toNat) rfl).1 p (by omega) (by omega) (fun C hC => by omega)]
  have e5 : ∀ f : t2_F, c0_s5 f p = f p := fun f => fl_row_ne (by omega)
  rw [e5, i4.balP' hp, c0_cells_p (Or.inr (fun C hC => by omega)) (by have := i3.hc; omega), i2.curP' hp, c0_moveBus_fr (by omega)]
  exact fl_row_ne (by omega)
theorem c0_I.secP (h : c0_I fc fr) (ht : (fr 280 7).toInt < 9999) (hp : 91 ≤ p) : c0_sec_m fc p = fc p := by
  obtain ⟨-, -, -, -, -, -, -, -, ⟨i8, -⟩, -, -⟩ := h.chain ht
  have b8 := i8.hc
  unfold c0_sec_m c0_s9
  rw [fl_row_ne (by omega), c0_obeyRules_fr (by omega)]
  unfold c0_sKeep_m
  rw [c0_sKeep_f25_fr (fun j hj => by omega) (fun j hj => by omega) (fun j hj => by omega) (fun j hj => by omega), c0_tadd_fr (by omega) (by omega), c0_s8_p (by omega) (by omega), c0_u6_P h ht hp]
theorem c0_K.runP (h : c0_K fc fr) (hp : 91 ≤ p) : ∀ k : Nat, (fr 280 7).toInt + k ≤ 9999 → c0_runN fc k p = fc p := by
  intro k
  induction k with
  | zero => intro _; rfl
  | succ k ih =>
    intro hk
    obtain ⟨⟨a, -⟩, t, -⟩ := h.run (0 : Int32) (k := k) (by omega)
    show c0_sec_m (c0_runN fc k) p = _
    rw [a.secP (by omega) hp, ih (by omega)]
theorem r_runP (h1 : p ≠ 280) (h2 : p ≠ 277) (h3 : p ≠ 282) : ∀ k : Nat, r_runN fr k p = fr p := by
  intro k
  induction k with
  | zero => rfl
  | succ k ih =>
    show r_sec_m (r_runN fr k) p = _
    rw [r_sec_p h1 h2 h3, ih]
theorem c0_K.drvP (h : c0_K fc fr) (hp : 91 ≤ p) : ∀ j : Nat, (j : Int) ≤ (fr 280 19).toInt → (c0_drv fc j).1 p = fc p := by
  have q20 : t2_lo 20 = -99999 ∧ t2_hi 20 = 99999 := by decide
  intro j
  induction j with
  | zero => intro _; rfl
  | succ j ih =>
    intro hj
    obtain ⟨a, b, d⟩ := h.drv j (by omega)
    obtain ⟨p1, p2, p3, p4, p5, p6⟩ := a.pn (j := j) (by rw [b]; omega)
    have s := a.set (k := 20) (v := (r_drv fr j).1 280 (119 + 2 * j)) (by decide) (by omega)
    have t7 : r_set (r_drv fr j).1 20 ((r_drv fr j).1 280 (119 + 2 * j)) 280 7 = (r_drv fr j).1 280 7 := by unfold r_set; rw [fl_row_self, upd_ne (by decide)]
    show c0_runN (c0_set (c0_drv fc j).1 20 ((c0_drv fc j).1 8 (j * 2))) (c0_pn (c0_drv fc j).1 j).toInt.toNat p = _
    rw [p1, p4, s.runP hp _ (by rw [t7]; omega)]
    unfold c0_set
    rw [fl_row_ne (by omega), ih (by omega)]
theorem r_drvP (h1 : p ≠ 280) (h2 : p ≠ 277) (h3 : p ≠ 282) : ∀ j : Nat, (r_drv fr j).1 p = fr p := by
  intro j
  induction j with
  | zero => rfl
  | succ j ih =>
    show r_runN (r_set (r_drv fr j).1 20 ((r_drv fr j).1 280 (119 + 2 * j))) (r_pn (r_drv fr j).1 j) p = _
    rw [r_runP h1 h2 h3]
    unfold r_set
    rw [fl_row_ne h1, ih]
end C0FRM2

end

/-! 94.70.mq7.lean.txt -/
section
/-! ===== run, drive ===== -/
section T2MQ7
variable {L : Nat} {xs : Nat → Int32} {m : fl_M} {f g F G : t2_F} {l l' : t2_L} {Q : Option fl_V → fl_M → Prop} {a : Int32}
abbrev t2_MidG (L : Nat) (xs : Nat → Int32) (mr : Nat) (ar : List fl_V) (v : Option fl_V) (m1 : fl_M) : Prop := t2_U m1 ∧ (∃ y, v = some (.inl y)) ∧ (at_Good at_XI m1 → fl_Tq (pw_P L xs) mr 0 (fl_args (am_mxl (pw_P L xs) mr) ar) [] m1 (fun v2 m2 => v2 = v ∧ t2_W m2.1 m2.1 m2.2.2 ∧ t2_U m2))
theorem t2_stepG {c1 c2 : at_C} {ac ar : List fl_V} {mc mr : Nat} (hv1 : at_Valid at_XI (pw_P L xs) c1) (hv2 : at_Valid at_XI (pw_P L xs) c2) (e1 : c1.1 = mc) (e2 : c2.1 = mr) (Z : t2_Z m) (k1 : at_agk m.2.2 c1.2.1 ac) (l1 : c1.2.2.1 = []) (k2 : ∀ h, at_agk h c2.2.1 ar) (l2 : c2.2.2.1 = []) (F : fl_Tq (pw_P L xs) mc 0 (fl_args (am_mxl (pw_P L xs) mc) ac) [] m (t2_MidG L xs mr ar)) : fl_Tq (pw_P L xs) mc 0 (fl_args (am_mxl (pw_P L xs) mc) ac) [] m (t2_End L xs mr ar) := by
  subst e1 e2
  refine fl_Tq.mono (t2_join F (hv1 m ac Z.1 k1 (fun q hq => by rw [l1] at hq; cases hq))) ?_
  rintro v m1 ⟨⟨u, y, G⟩, v2, m2, e1, e2, g2, -, -⟩
  have g1 := t2_Good e2 g2 u
  refine ⟨y, fl_Tq.mono (t2_join (G g1) (hv2 m1 ar g1 (k2 _) (fun q hq => by rw [l2] at hq; cases hq))) ?_⟩
  rintro v3 m3 ⟨⟨e3, w3, u3⟩, v4, m4, e4, e5, g4, -, -⟩
  exact ⟨e3, t2_Good e5 g4 u3, w3⟩
/-- the reference's keep, where all is good -/
theorem t2_Z.rkeepG (Z : t2_Z (f, l)) (gG : at_Good at_XI (F, l')) (e : F 280 = f 280) (k : ∀ g : t2_F, (∀ p : Nat, p ≠ 280 → g p = F p) → t2_RK F g → at_Good at_XI (g, l') → Q none (g, l')) : fl_Tq (pw_P L xs) 241 0 (fl_args (am_mxl (pw_P L xs) 241) [.inr (.inr (.inl (76, 277)))]) [] (F, l') Q := by
  refine fl_Tq.mono (t2_join (Z.rkeep (L := L) (xs := xs) (l' := l') (Q := fun v m' => v = none ∧ ∃ g : t2_F, m' = (g, l') ∧ (∀ p : Nat, p ≠ 280 → g p = F p) ∧ t2_RK F g) e (fun g a b => ⟨rfl, g, rfl, a, b⟩)) (at_v241 (L := L) (xs := xs) (F, l') [at_this] gG ⟨at_k277 _, True.intro⟩ (fun q hq => by cases hq))) ?_
  rintro v m' ⟨⟨rfl, g, rfl, h1, h2⟩, v2, m2, -, e2, g2, -, -⟩
  refine k g h1 h2 (t2_Good e2 g2 (fun p hp i => ?_))
  have hp : fl_N l'.2 ≤ p := hp
  show g p i = _
  rw [h1 p (by unfold fl_N at hp; omega)]
  exact gG.2.2.2.2.1 p hp i
theorem t2_Z.finB {F G H : t2_F} (Z : t2_Z (f, l)) (C : t2_CK f g l l') (hF : ∀ p : Nat, 91 ≤ p → F p = g p) (K : t2_RK F G) (hG : ∀ p : Nat, p ≠ 280 → G p = F p) (hH : ∀ p : Nat, p < 277 ∨ p = 281 ∨ 285 ≤ p → H p = G p) (h7 : H 277 7 = G 277 7) (hH2 : ∀ w : Nat, w < 29780 → (w < 2 ∨ 1420 ≤ w) → H 280 w = G 280 w) (J : c0_I F H) : t2_W H H l'.2 ∧ t2_U (H, l') := by
  have W1 := Z.keep C (C.F280 hF) K
  refine ⟨W1.upd (J.ext (fun p h1 h2 => by rw [hH p (by omega), hG p (by omega)]) (fun w _ _ => rfl)) (fun p hp => by rw [hH p (by omega), hG p (by omega), hF p (by omega)]) (fun w hw2 hw => by show H 280 w = (if 280 = 280 then G 280 else f 280) w; rw [if_pos rfl]; exact hH2 w hw2 hw) (fun w _ => by show H 281 w = (if 281 = 280 then G 280 else f 281) w; rw [if_neg (by decide), hH 281 (by omega), hG 281 (by decide), hF 281 (by decide), C.now (by decide) (by decide) (by decide)]) (by show H 277 7 = (if 277 = 280 then G 280 else f 277) 7; rw [if_neg (by decide), h7, hG 277 (by decide), hF 277 (by decide), C.now (by decide) (by decide) (by decide)]), fun p hp i => ?_⟩
  have hp : fl_N l'.2 ≤ p := hp
  have h285 : 285 ≤ fl_N l'.2 := by unfold fl_N; omega
  show H p i = _
  rw [hH p (by omega), hG p (by omega), hF p (by omega)]
  exact (C.U Z.U) p hp i
/-- the words that a second's contract keeps out of -/
theorem t2_r280 {m2 : fl_M} {ws : List at_W} {H : t2_F} (e : fl_H (H, l') = fl_H m2) (h : at_MD (G, l') m2 ws) (w1 : t2_nw ws 79 0 1 = true) (w2 : t2_nw ws 79 1420 29779 = true) : ∀ w : Nat, w < 29780 → (w < 2 ∨ 1420 ≤ w) → H 280 w = G 280 w := fun w hw hw2 => by
  have e1 : H 280 = m2.1 280 := t2_Hi e (n := 29780) (z := (0, 0, 0)) (by decide) (by decide +kernel)
  rw [e1]
  rcases hw2 with hw2 | hw2
  · exact t2_fr h 0 1 fk_K_280 w1 (by omega) (by omega)
  · exact t2_fr h 1420 29779 fk_K_280 w2 (by omega) (by omega)
/-- run -/
theorem t2_run (hall : ∀ c ∈ at_CM ++ at_CA, at_Valid at_XI (pw_P L xs) c) (Z : t2_Z (f, l)) : fl_Tq (pw_P L xs) 105 0 (fl_args (am_mxl (pw_P L xs) 105) [lx_x, .inl a]) [] (f, l) (t2_MidG L xs 250 [at_this, .inl a]) := by
  have I : c0_I f f := Z.2.1
  have ZK : c0_K f f := Z.K
  have c1 : (1 : Int32).toInt = 1 := by decide +kernel
  have c3 : (300 : Int32).toInt = 300 := by decide +kernel
  have c9 : (9999 : Int32).toInt = 9999 := by decide +kernel
  have e6 : f 1 6 = f 280 7 := I.1.1.2.1
  have t7 := I.2.2.2.2.2.1.2.2.2
  have ea : (1 ≤ a.toInt ∧ a.toInt ≤ 300) → ((f 280 7) + a).toInt = (f 280 7).toInt + a.toInt := fun h => at_add32 (by omega) (by omega)
  show fl_Tq (pw_P L xs) 105 0 [some (.inr (.inr (.inl (0, 0)))), some (.inl a)] [] (f, l) _
  have no : ¬ ((1 ≤ a.toInt ∧ a.toInt ≤ 300) ∧ (f 280 7).toInt + a.toInt ≤ 9999) → t2_MidG L xs 250 [at_this, .inl a] (some (.inl (-1 : Int32))) (f, l) := fun hn => by
    refine ⟨Z.U, ⟨_, rfl⟩, fun _ => ?_⟩
    show fl_Tq (pw_P L xs) 250 0 [some (.inr (.inr (.inl (76, 277)))), some (.inl a)] [] (f, l) _
    refine y_run_A (fun h1 => ⟨rfl, Z.2, Z.U⟩) (fun h1 h2 => ⟨rfl, Z.2, Z.U⟩) (fun h1 h2 => ?_)
    rw [r_i0, c1, c3, Classical.not_not] at h1
    rw [c9, ea h1] at h2
    omega
  refine x_run_A (fun h1 => no (by rw [t2_w0, c1, c3] at h1; exact fun h => h1 h.1)) (fun h1 h2 => no (fun h => ?_)) (fun h1 h2 => ?_)
  · rw [e6, c9, ea h.1] at h2
    omega
  rw [t2_w0, c1, c3, Classical.not_not] at h1
  rw [e6, c9, ea h1] at h2
  refine fl_Tq.cal rfl rfl (fl_bo rfl) rfl ?_
  refine t2_ckeep Z (fun g l' C => ?_)
  refine x_run_B ?_
  refine fl_Tq.cal rfl rfl (fl_bo rfl) rfl ?_
  have gn : ∀ p : Nat, p < 91 → g p = f p := fun p hp => C.now (by omega) (by omega) (by omega)
  have Jg : c0_J g := ZK.2.1.congr (fun p hp => gn p (by omega))
  have Kg : c0_K g f := ⟨I.ext (fun p _ h => gn p h) (fun w _ _ => rfl), Jg, ZK.2.2.1, ZK.2.2.2⟩
  refine c0_passSeconds_q (fr := f) Kg.1 Kg.2.1 Kg.2.2.1 Kg.2.2.2 (by omega) (by omega) ?_
  refine fl_Tq.ret rfl rfl rfl ?_
  have hF : ∀ p : Nat, 91 ≤ p → c0_runN g a.toInt.toNat p = g p := fun p hp => Kg.runP hp _ (by omega)
  have F280 := C.F280 hF
  refine ⟨fun p hp i => by show c0_runN g a.toInt.toNat p i = _; rw [hF p (by have : fl_N l'.2 ≤ p := hp; unfold fl_N at this; omega)]; exact C.U Z.U p hp i, ⟨_, rfl⟩, fun gG => ?_⟩
  show fl_Tq (pw_P L xs) 250 0 [some (.inr (.inr (.inl (76, 277)))), some (.inl a)] [] _ _
  refine y_run_A (fun h => ?_) (fun _ h => ?_) (fun _ _ => ?_)
  · rw [r_i0, c1, c3] at h
    omega
  · rw [F280, c9, ea h1] at h
    omega
  refine fl_Tq.cal rfl rfl (fl_bo rfl) rfl ?_
  refine Z.rkeepG gG F280 (fun G hG K gG2 => ?_)
  refine y_run_B ?_
  have I0 := Z.I0 C F280 K
  have Go : ∀ p : Nat, 91 ≤ p → p < 285 → p ≠ 271 → p ≠ 272 → p ≠ 280 → G p = f p := fun p h1 h2 h3 h4 h5 => by rw [hG p h5, hF p h1, C.now h3 h4 h2]
  have KG : c0_K g G := ⟨I0, Jg, ZK.2.2.1.same (Go 279 (by decide) (by decide) (by decide) (by decide) (by decide)), by rw [Go 277 (by decide) (by decide) (by decide) (by decide) (by decide)]; exact ZK.2.2.2⟩
  have G7 : G 280 7 = f 280 7 := by rw [← I0.1.1.2.1, gn 1 (by decide)]; exact e6
  obtain ⟨R1, R2, R3⟩ := KG.run (0 : Int32) (k := a.toInt.toNat) (by rw [G7]; omega)
  refine fl_Tq.cal rfl rfl (fl_bo rfl) rfl ?_
  refine fl_Tq.mono (t2_join (c0_secondsNow_q (L := L) (xs := xs) (l := l') (x := a) (fc := g) (fr := G) (Q := fun v m' => v = some (.inl (r_runV G (0 : Int32) a.toInt.toNat)) ∧ m' = (r_runN G a.toInt.toNat, l')) KG.1 KG.2.1 KG.2.2.1 KG.2.2.2 (by omega) (by rw [G7]; omega) ⟨rfl, rfl⟩) (hall _ t2_c248_in (G, l') [at_this, .inl a] gG2 ⟨at_k277 _, lx_ki _, True.intro⟩ (fun q hq => by cases hq))) ?_
  rintro v m' ⟨⟨rfl, rfl⟩, v2, m2, -, e2, -, md, -⟩
  refine fl_Tq.ret rfl rfl rfl ?_
  have fin := Z.finB C hF K hG (H := r_runN G a.toInt.toNat) (fun p hp => r_runP (by omega) (by omega) (by omega) _) (by rw [R1.2.2.2, KG.2.2.2]) (t2_r280 e2 md rfl rfl) R1.1
  exact ⟨by rw [R3], fin.1, fin.2⟩
/-- how long a drive is -/
noncomputable def r_long (f : t2_F) : Nat → Int32
  | 0 => (0 : Int32)
  | j + 1 => r_long f j + f 280 ((119 + (2 * j)) + 1)
theorem r_long_q {n : Nat} (hn : (f 280 19).toInt = (n : Int)) (h24 : n ≤ 24) (k : Q (some (.inl (r_long f n))) (f, l)) : fl_Tq (pw_P L xs) 265 0 (fl_args (am_mxl (pw_P L xs) 265) [.inr (.inr (.inl (76, 277)))]) [] (f, l) Q := by
  show fl_Tq (pw_P L xs) 265 0 [some (.inr (.inr (.inl (76, 277)))), none, none] [] (f, l) Q
  refine y_long_A ?_
  refine t2_for (n := n) (S := fun j => fl_Tq (pw_P L xs) 265 4 [some (.inr (.inr (.inl (76, 277)))), some (.inl (r_long f j)), some (.inl (Int32.ofNat j))] [] (f, l) Q) (fun j hj hS => ?_) ?_
  · refine y_long_B (by omega) (t2_lk hj hn) ?_
    rw [t2_k1]
    exact hS
  · exact y_long_C (t2_ln hn) k
theorem r_long_eq {fc : t2_F} {fr : t2_F} (h : ∀ j : Nat, (j : Int) < 2 * (fr 280 19).toInt → fc 8 j = fr 280 (119 + j)) : ∀ n : Nat, (n : Int) ≤ (fr 280 19).toInt → c0_pieceSeconds_a4 fc n = r_long fr n := by
  intro n
  induction n with
  | zero => intro _; rfl
  | succ n ih =>
    intro hn
    show c0_pieceSeconds_a4 fc n + fc 8 ((n * 2) + 1) = r_long fr n + fr 280 ((119 + (2 * n)) + 1)
    rw [ih (by omega), h _ (by omega), show 119 + (n * 2 + 1) = 119 + 2 * n + 1 by omega]
/-- drive -/
theorem t2_drive (hall : ∀ c ∈ at_CM ++ at_CA, at_Valid at_XI (pw_P L xs) c) (Z : t2_Z (f, l)) : fl_Tq (pw_P L xs) 118 0 (fl_args (am_mxl (pw_P L xs) 118) [lx_x]) [] (f, l) (t2_MidG L xs 267 [at_this]) := by
  have I : c0_I f f := Z.2.1
  have ZK : c0_K f f := Z.K
  have c9 : (9999 : Int32).toInt = 9999 := by decide +kernel
  have e6 : f 1 6 = f 280 7 := I.1.1.2.1
  have e7 : f 3 7 = f 280 19 := I.2.2.1.1.2.2.2.2.1
  have n19 := I.2.2.2.2.2.2.2.2.2.1.1
  have el : c0_pieceSeconds_v f = r_long f (f 280 19).toInt.toNat := by
    unfold c0_pieceSeconds_v
    rw [e7]
    exact r_long_eq I.2.2.1.1.2.2.2.2.2 _ (by omega)
  have hn : (f 280 19).toInt = (((f 280 19).toInt.toNat : Nat) : Int) := by omega
  show fl_Tq (pw_P L xs) 118 0 [some (.inr (.inr (.inl (0, 0))))] [] (f, l) _
  have no : ¬ (¬ (f 280 19).toInt = 0 ∧ ¬ (9999 < ((f 280 7) + r_long f (f 280 19).toInt.toNat).toInt)) → t2_MidG L xs 267 [at_this] (some (.inl (-1 : Int32))) (f, l) := fun hno => by
    refine ⟨Z.U, ⟨_, rfl⟩, fun _ => ?_⟩
    show fl_Tq (pw_P L xs) 267 0 [some (.inr (.inr (.inl (76, 277))))] [] (f, l) _
    refine y_drive_A (fun h1 => ⟨rfl, Z.2, Z.U⟩) (fun h1 => ?_)
    refine fl_Tq.cal rfl rfl (fl_bo rfl) rfl ?_
    refine r_long_q hn (by omega) ?_
    refine y_drive_A2 (fun h2 => ⟨rfl, Z.2, Z.U⟩) (fun h2 => ?_)
    rw [c9] at h2
    exact absurd ⟨h1, h2⟩ hno
  refine x_drive_A (by rw [e7]; exact n19) (fun h1 => no (by rw [e7] at h1; exact fun h => h.1 h1)) (fun h1 h2 => no (by rw [e6, el, c9] at h2; exact fun h => h.2 h2)) (fun h1 h2 => ?_)
  rw [e7] at h1
  rw [e6, el, c9] at h2
  refine fl_Tq.cal rfl rfl (fl_bo rfl) rfl ?_
  refine t2_ckeep Z (fun g l' C => ?_)
  refine x_drive_B ?_
  refine fl_Tq.cal rfl rfl (fl_bo rfl) rfl ?_
  have gn : ∀ p : Nat, p < 91 → g p = f p := fun p hp => C.now (by omega) (by omega) (by omega)
  have Jg : c0_J g := ZK.2.1.congr (fun p hp => gn p (by omega))
  have Kg : c0_K g f := ⟨I.ext (fun p _ h => gn p h) (fun w _ _ => rfl), Jg, ZK.2.2.1, ZK.2.2.2⟩
  refine c0_passDrive_q (fr := f) Kg ?_
  refine fl_Tq.ret rfl rfl rfl ?_
  have hF : ∀ p : Nat, 91 ≤ p → (c0_drv g (f 280 19).toInt.toNat).1 p = g p := fun p hp => Kg.drvP hp _ (by omega)
  have F280 := C.F280 hF
  refine ⟨fun p hp i => by show (c0_drv g (f 280 19).toInt.toNat).1 p i = _; rw [hF p (by have : fl_N l'.2 ≤ p := hp; unfold fl_N at this; omega)]; exact C.U Z.U p hp i, ⟨_, rfl⟩, fun gG => ?_⟩
  show fl_Tq (pw_P L xs) 267 0 [some (.inr (.inr (.inl (76, 277))))] [] _ _
  refine y_drive_A (fun h => ?_) (fun _ => ?_)
  · rw [F280] at h
    exact absurd h h1
  refine fl_Tq.cal rfl rfl (fl_bo rfl) rfl ?_
  refine r_long_q (n := (f 280 19).toInt.toNat) (by rw [F280]; exact hn) (by omega) ?_
  have eF : ∀ n : Nat, r_long (c0_drv g (f 280 19).toInt.toNat).1 n = r_long f n := fun n => by
    induction n with
    | zero => rfl
    | succ n ih =>
      show r_long (c0_drv g (f 280 19).toInt.toNat).1 n + (c0_drv g (f 280 19).toInt.toNat).1 280 ((119 + (2 * n)) + 1) = r_long f n + f 280 ((119 + (2 * n)) + 1)
      rw [ih, F280]
  rw [eF, F280]
  refine y_drive_A2 (fun h => ?_) (fun _ => ?_)
  · rw [c9] at h
    exact absurd h h2
  refine fl_Tq.cal rfl rfl (fl_bo rfl) rfl ?_
  refine Z.rkeepG gG F280 (fun G hG K gG2 => ?_)
  refine y_drive_B ?_
  have I0 := Z.I0 C F280 K
  have Go : ∀ p : Nat, 91 ≤ p → p < 285 → p ≠ 271 → p ≠ 272 → p ≠ 280 → G p = f p := fun p h1 h2 h3 h4 h5 => by rw [hG p h5, hF p h1, C.now h3 h4 h2]
  have KG : c0_K g G := ⟨I0, Jg, ZK.2.2.1.same (Go 279 (by decide) (by decide) (by decide) (by decide) (by decide)), by rw [Go 277 (by decide) (by decide) (by decide) (by decide) (by decide)]; exact ZK.2.2.2⟩
  have G19 : G 280 19 = f 280 19 := by rw [← I0.2.2.1.1.2.2.2.2.1, gn 3 (by decide)]; exact e7
  obtain ⟨R1, R2, R3⟩ := KG.drv (f 280 19).toInt.toNat (by rw [G19]; omega)
  refine fl_Tq.cal rfl rfl (fl_bo rfl) rfl ?_
  refine fl_Tq.mono (t2_join (c0_driveNow_q (L := L) (xs := xs) (l := l') (fc := g) (fr := G) (Q := fun v m' => v = some (.inl (r_drv G (G 280 19).toInt.toNat).2) ∧ m' = ((r_drv G (G 280 19).toInt.toNat).1, l')) KG ⟨rfl, rfl⟩) (hall _ t2_c266_in (G, l') [at_this] gG2 ⟨at_k277 _, True.intro⟩ (fun q hq => by cases hq))) ?_
  rintro v m' ⟨⟨rfl, rfl⟩, v2, m2, -, e2, -, md, -⟩
  rw [G19] at e2 ⊢
  refine fl_Tq.ret rfl rfl rfl ?_
  have fin := Z.finB C hF K hG (H := (r_drv G (f 280 19).toInt.toNat).1) (fun p hp => r_drvP (by omega) (by omega) (by omega) _) (by rw [R1.2.2.2, KG.2.2.2]) (t2_r280 e2 md rfl rfl) R1.1
  exact ⟨by rw [R3], fin.1, fin.2⟩
end T2MQ7

end

/-! 94.71.g27.lean.txt -/
section
noncomputable def r_canRun_v (f : t2_F) (a b : Int32) : Int32 := if (r_isIn_v a (1 : Int32) b).toInt = 0 then (0 : Int32) else (if (9999 : Int32).toInt < ((f 280 7) + a).toInt then (0 : Int32) else (1 : Int32))
theorem r_canRun_q {L : Nat} {xs : Nat → Int32} {f : t2_F} {l : t2_L} {Q : Option fl_V → fl_M → Prop} {a b : Int32}  (k : Q (some (.inl (r_canRun_v f a b))) (f, l)) : fl_Tq (pw_P L xs) 249 0 (fl_args (am_mxl (pw_P L xs) 249) [.inr (.inr (.inl (76, 277))), .inl a, .inl b]) [] (f, l) Q := by
  refine fl_Tq.stp (pc' := 1) (lv' := [some (.inr (.inr (.inl (76, 277)))), some (.inl a), some (.inl b)]) (st' := [.inl a]) (m' := (f, l)) rfl rfl (fl_bo rfl) rfl ?_
  refine fl_Tq.cI (c := (1 : Int32)) rfl (by decide +kernel) (fl_bo rfl) ?_
  refine fl_Tq.stp (pc' := 3) (lv' := [some (.inr (.inr (.inl (76, 277)))), some (.inl a), some (.inl b)]) (st' := [.inl b, .inl (1 : Int32), .inl a]) (m' := (f, l)) rfl rfl (fl_bo rfl) rfl ?_
  refine fl_Tq.cal rfl rfl (fl_bo rfl) rfl ?_
  refine r_isIn_q  ?_
  show fl_Tq _ 249 6 [some (.inr (.inr (.inl (76, 277)))), some (.inl a), some (.inl b)] [.inl (r_isIn_v a (1 : Int32) b)] (f, l) _
  by_cases h1 : (r_isIn_v a (1 : Int32) b).toInt = 0
  · refine fl_Tq.zt rfl (fl_bo rfl) (c1_eq_t h1) rfl ?_
    refine fl_Tq.cI (c := (0 : Int32)) rfl (by decide +kernel) (fl_bo rfl) ?_
    refine fl_Tq.ret rfl rfl rfl ?_
    unfold r_canRun_v at k
    simp only [if_pos h1] at k
    exact k
  · refine fl_Tq.zf rfl (fl_bo rfl) (c1_eq_f h1) rfl ?_
    refine fl_Tq.stp (pc' := 10) (lv' := [some (.inr (.inr (.inl (76, 277)))), some (.inl a), some (.inl b)]) (st' := [.inr (.inr (.inl (76, 277)))]) (m' := (f, l)) rfl rfl (fl_bo rfl) rfl ?_
    refine fl_Tq.stp (pc' := 13) (lv' := [some (.inr (.inr (.inl (76, 277)))), some (.inl a), some (.inl b)]) (st' := [.inr (.inr (.inl (79, 280)))]) (m' := (f, l)) rfl rfl (fl_bo rfl) rfl ?_
    refine fl_Tq.cB (c := (7 : Int32)) rfl (by decide +kernel) (fl_bo rfl) ?_
    refine fl_Tq.ldV (p := 280) (τ := 79) (n := 29780) (z := (0, 0, 0)) (k := 7) (v := f 280 7) rfl (fl_bo rfl) rfl (by decide +kernel) (by decide) rfl ?_
    refine fl_Tq.stp (pc' := 17) (lv' := [some (.inr (.inr (.inl (76, 277)))), some (.inl a), some (.inl b)]) (st' := [.inl a, .inl (f 280 7)]) (m' := (f, l)) rfl rfl (fl_bo rfl) rfl ?_
    refine fl_Tq.stp (pc' := 18) (lv' := [some (.inr (.inr (.inl (76, 277)))), some (.inl a), some (.inl b)]) (st' := [.inl ((f 280 7) + a)]) (m' := (f, l)) rfl rfl (fl_bo rfl) rfl ?_
    refine fl_Tq.cS (c := (9999 : Int32)) rfl (by decide +kernel) (fl_bo rfl) ?_
    by_cases h2 : (9999 : Int32).toInt < ((f 280 7) + a).toInt
    · refine fl_Tq.jt rfl (fl_bo rfl) (c2_gt_t h2) rfl ?_
      refine fl_Tq.cI (c := (0 : Int32)) rfl (by decide +kernel) (fl_bo rfl) ?_
      refine fl_Tq.ret rfl rfl rfl ?_
      unfold r_canRun_v at k
      simp only [if_neg h1, if_pos h2] at k
      exact k
    · refine fl_Tq.jf rfl (fl_bo rfl) (c2_gt_f h2) rfl ?_
      refine fl_Tq.cI (c := (1 : Int32)) rfl (by decide +kernel) (fl_bo rfl) ?_
      refine fl_Tq.stp (pc' := 29) (lv' := [some (.inr (.inr (.inl (76, 277)))), some (.inl a), some (.inl b)]) (st' := [.inl (1 : Int32)]) (m' := (f, l)) rfl rfl (fl_bo rfl) rfl ?_
      refine fl_Tq.ret rfl rfl rfl ?_
      unfold r_canRun_v at k
      simp only [if_neg h1, if_neg h2] at k
      exact k
theorem z310_A {L : Nat} {xs : Nat → Int32} {f : t2_F} {l : t2_L} {Q : Option fl_V → fl_M → Prop} {a b : Int32}  (k : fl_Tq (pw_P L xs) 310 5 [some (.inr (.inr (.inl (76, 277)))), some (.inl a), some (.inl b), none, none] [.inl (300 : Int32), .inl a, .inr (.inr (.inl (76, 277)))] (f, l) Q) : fl_Tq (pw_P L xs) 310 0 [some (.inr (.inr (.inl (76, 277)))), some (.inl a), some (.inl b), none, none] [] (f, l) Q := by
  refine fl_Tq.stp (pc' := 1) (lv' := [some (.inr (.inr (.inl (76, 277)))), some (.inl a), some (.inl b), none, none]) (st' := [.inr (.inr (.inl (76, 277)))]) (m' := (f, l)) rfl rfl (fl_bo rfl) rfl ?_
  refine fl_Tq.stp (pc' := 2) (lv' := [some (.inr (.inr (.inl (76, 277)))), some (.inl a), some (.inl b), none, none]) (st' := [.inl a, .inr (.inr (.inl (76, 277)))]) (m' := (f, l)) rfl rfl (fl_bo rfl) rfl ?_
  refine fl_Tq.cS (c := (300 : Int32)) rfl (by decide +kernel) (fl_bo rfl) ?_
  exact k
theorem z310_B {L : Nat} {xs : Nat → Int32} {f : t2_F} {l : t2_L} {Q : Option fl_V → fl_M → Prop} {a b z : Int32}  (k : (z.toInt = 0) → Q (some (.inl (-1000000000 : Int32))) (f, l)) (k1 : (¬ (z.toInt = 0)) → fl_Tq (pw_P L xs) 310 16 [some (.inr (.inr (.inl (76, 277)))), some (.inl a), some (.inl b), none, none] [.inr (.inr (.inl (76, 277)))] (f, l) Q) : fl_Tq (pw_P L xs) 310 8 [some (.inr (.inr (.inl (76, 277)))), some (.inl a), some (.inl b), none, none] [.inl z] (f, l) Q := by
  by_cases h1 : z.toInt = 0
  · refine fl_Tq.zf rfl (fl_bo rfl) (c1_ne_f h1) rfl ?_
    refine fl_Tq.stp (pc' := 14) (lv' := [some (.inr (.inr (.inl (76, 277)))), some (.inl a), some (.inl b), none, none]) (st' := [.inl (-1000000000 : Int32)]) (m' := (f, l)) rfl rfl (fl_bo rfl) rfl ?_
    exact fl_Tq.ret rfl rfl rfl (k h1)
  · refine fl_Tq.zt rfl (fl_bo rfl) (c1_ne_t h1) rfl ?_
    refine fl_Tq.stp (pc' := 16) (lv' := [some (.inr (.inr (.inl (76, 277)))), some (.inl a), some (.inl b), none, none]) (st' := [.inr (.inr (.inl (76, 277)))]) (m' := (f, l)) rfl rfl (fl_bo rfl) rfl ?_
    exact k1 h1
theorem z310_C {L : Nat} {xs : Nat → Int32} {f : t2_F} {l : t2_L} {Q : Option fl_V → fl_M → Prop} {a b : Int32}  (k : fl_Tq (pw_P L xs) 310 21 [some (.inr (.inr (.inl (76, 277)))), some (.inl a), some (.inl b), none, none] [.inl a, .inr (.inr (.inl (76, 277)))] (f, l) Q) : fl_Tq (pw_P L xs) 310 19 [some (.inr (.inr (.inl (76, 277)))), some (.inl a), some (.inl b), none, none] [] (f, l) Q := by
  refine fl_Tq.stp (pc' := 20) (lv' := [some (.inr (.inr (.inl (76, 277)))), some (.inl a), some (.inl b), none, none]) (st' := [.inr (.inr (.inl (76, 277)))]) (m' := (f, l)) rfl rfl (fl_bo rfl) rfl ?_
  refine fl_Tq.stp (pc' := 21) (lv' := [some (.inr (.inr (.inl (76, 277)))), some (.inl a), some (.inl b), none, none]) (st' := [.inl a, .inr (.inr (.inl (76, 277)))]) (m' := (f, l)) rfl rfl (fl_bo rfl) rfl ?_
  exact k
theorem z310_D {L : Nat} {xs : Nat → Int32} {f : t2_F} {l : t2_L} {Q : Option fl_V → fl_M → Prop} {a b z : Int32}  (k : fl_Tq (pw_P L xs) 310 27 [some (.inr (.inr (.inl (76, 277)))), some (.inl a), some (.inl b), some (.inl z), none] [.inl b, .inr (.inr (.inl (76, 277)))] (f, l) Q) : fl_Tq (pw_P L xs) 310 24 [some (.inr (.inr (.inl (76, 277)))), some (.inl a), some (.inl b), none, none] [.inl z] (f, l) Q := by
  refine fl_Tq.stp (pc' := 25) (lv' := [some (.inr (.inr (.inl (76, 277)))), some (.inl a), some (.inl b), some (.inl z), none]) (st' := []) (m' := (f, l)) rfl rfl (fl_bo rfl) rfl ?_
  refine fl_Tq.stp (pc' := 26) (lv' := [some (.inr (.inr (.inl (76, 277)))), some (.inl a), some (.inl b), some (.inl z), none]) (st' := [.inr (.inr (.inl (76, 277)))]) (m' := (f, l)) rfl rfl (fl_bo rfl) rfl ?_
  refine fl_Tq.stp (pc' := 27) (lv' := [some (.inr (.inr (.inl (76, 277)))), some (.inl a), some (.inl b), some (.inl z), none]) (st' := [.inl b, .inr (.inr (.inl (76, 277)))]) (m' := (f, l)) rfl rfl (fl_bo rfl) rfl ?_
  exact k
theorem z310_E {L : Nat} {xs : Nat → Int32} {f : t2_F} {l : t2_L} {Q : Option fl_V → fl_M → Prop} {a b y z : Int32}  (k : fl_Tq (pw_P L xs) 310 33 [some (.inr (.inr (.inl (76, 277)))), some (.inl a), some (.inl b), some (.inl z), some (.inl y)] [.inr (.inr (.inl (76, 277)))] (f, l) Q) : fl_Tq (pw_P L xs) 310 30 [some (.inr (.inr (.inl (76, 277)))), some (.inl a), some (.inl b), some (.inl z), none] [.inl y] (f, l) Q := by
  refine fl_Tq.stp (pc' := 32) (lv' := [some (.inr (.inr (.inl (76, 277)))), some (.inl a), some (.inl b), some (.inl z), some (.inl y)]) (st' := []) (m' := (f, l)) rfl rfl (fl_bo rfl) rfl ?_
  refine fl_Tq.stp (pc' := 33) (lv' := [some (.inr (.inr (.inl (76, 277)))), some (.inl a), some (.inl b), some (.inl z), some (.inl y)]) (st' := [.inr (.inr (.inl (76, 277)))]) (m' := (f, l)) rfl rfl (fl_bo rfl) rfl ?_
  exact k
theorem z310_F {L : Nat} {xs : Nat → Int32} {f : t2_F} {l : t2_L} {Q : Option fl_V → fl_M → Prop} {a b y z : Int32}  (k : Q (some (.inl y)) (f, l)) : fl_Tq (pw_P L xs) 310 36 [some (.inr (.inr (.inl (76, 277)))), some (.inl a), some (.inl b), some (.inl z), some (.inl y)] [] (f, l) Q := by
  refine fl_Tq.stp (pc' := 38) (lv' := [some (.inr (.inr (.inl (76, 277)))), some (.inl a), some (.inl b), some (.inl z), some (.inl y)]) (st' := [.inl y]) (m' := (f, l)) rfl rfl (fl_bo rfl) rfl ?_
  exact fl_Tq.ret rfl rfl rfl k
theorem z311_A {L : Nat} {xs : Nat → Int32} {f : t2_F} {l : t2_L} {Q : Option fl_V → fl_M → Prop} {a b c : Int32}  (k : fl_Tq (pw_P L xs) 311 5 [some (.inr (.inr (.inl (76, 277)))), some (.inl a), some (.inl b), some (.inl c), none, none] [.inl (300 : Int32), .inl a, .inr (.inr (.inl (76, 277)))] (f, l) Q) : fl_Tq (pw_P L xs) 311 0 [some (.inr (.inr (.inl (76, 277)))), some (.inl a), some (.inl b), some (.inl c), none, none] [] (f, l) Q := by
  refine fl_Tq.stp (pc' := 1) (lv' := [some (.inr (.inr (.inl (76, 277)))), some (.inl a), some (.inl b), some (.inl c), none, none]) (st' := [.inr (.inr (.inl (76, 277)))]) (m' := (f, l)) rfl rfl (fl_bo rfl) rfl ?_
  refine fl_Tq.stp (pc' := 2) (lv' := [some (.inr (.inr (.inl (76, 277)))), some (.inl a), some (.inl b), some (.inl c), none, none]) (st' := [.inl a, .inr (.inr (.inl (76, 277)))]) (m' := (f, l)) rfl rfl (fl_bo rfl) rfl ?_
  refine fl_Tq.cS (c := (300 : Int32)) rfl (by decide +kernel) (fl_bo rfl) ?_
  exact k
theorem z311_B {L : Nat} {xs : Nat → Int32} {f : t2_F} {l : t2_L} {Q : Option fl_V → fl_M → Prop} {a b c z : Int32}  (k : (z.toInt = 0) → Q (some (.inl (-1000000000 : Int32))) (f, l)) (k1 : (¬ (z.toInt = 0)) → fl_Tq (pw_P L xs) 311 16 [some (.inr (.inr (.inl (76, 277)))), some (.inl a), some (.inl b), some (.inl c), none, none] [.inr (.inr (.inl (76, 277)))] (f, l) Q) : fl_Tq (pw_P L xs) 311 8 [some (.inr (.inr (.inl (76, 277)))), some (.inl a), some (.inl b), some (.inl c), none, none] [.inl z] (f, l) Q := by
  by_cases h1 : z.toInt = 0
  · refine fl_Tq.zf rfl (fl_bo rfl) (c1_ne_f h1) rfl ?_
    refine fl_Tq.stp (pc' := 14) (lv' := [some (.inr (.inr (.inl (76, 277)))), some (.inl a), some (.inl b), some (.inl c), none, none]) (st' := [.inl (-1000000000 : Int32)]) (m' := (f, l)) rfl rfl (fl_bo rfl) rfl ?_
    exact fl_Tq.ret rfl rfl rfl (k h1)
  · refine fl_Tq.zt rfl (fl_bo rfl) (c1_ne_t h1) rfl ?_
    refine fl_Tq.stp (pc' := 16) (lv' := [some (.inr (.inr (.inl (76, 277)))), some (.inl a), some (.inl b), some (.inl c), none, none]) (st' := [.inr (.inr (.inl (76, 277)))]) (m' := (f, l)) rfl rfl (fl_bo rfl) rfl ?_
    exact k1 h1
theorem z311_C {L : Nat} {xs : Nat → Int32} {f : t2_F} {l : t2_L} {Q : Option fl_V → fl_M → Prop} {a b c : Int32}  (k : fl_Tq (pw_P L xs) 311 21 [some (.inr (.inr (.inl (76, 277)))), some (.inl a), some (.inl b), some (.inl c), none, none] [.inl a, .inr (.inr (.inl (76, 277)))] (f, l) Q) : fl_Tq (pw_P L xs) 311 19 [some (.inr (.inr (.inl (76, 277)))), some (.inl a), some (.inl b), some (.inl c), none, none] [] (f, l) Q := by
  refine fl_Tq.stp (pc' := 20) (lv' := [some (.inr (.inr (.inl (76, 277)))), some (.inl a), some (.inl b), some (.inl c), none, none]) (st' := [.inr (.inr (.inl (76, 277)))]) (m' := (f, l)) rfl rfl (fl_bo rfl) rfl ?_
  refine fl_Tq.stp (pc' := 21) (lv' := [some (.inr (.inr (.inl (76, 277)))), some (.inl a), some (.inl b), some (.inl c), none, none]) (st' := [.inl a, .inr (.inr (.inl (76, 277)))]) (m' := (f, l)) rfl rfl (fl_bo rfl) rfl ?_
  exact k
theorem z311_D {L : Nat} {xs : Nat → Int32} {f : t2_F} {l : t2_L} {Q : Option fl_V → fl_M → Prop} {a b c z : Int32}  (k : fl_Tq (pw_P L xs) 311 29 [some (.inr (.inr (.inl (76, 277)))), some (.inl a), some (.inl b), some (.inl c), some (.inl z), none] [.inl c, .inl b, .inr (.inr (.inl (76, 277)))] (f, l) Q) : fl_Tq (pw_P L xs) 311 24 [some (.inr (.inr (.inl (76, 277)))), some (.inl a), some (.inl b), some (.inl c), none, none] [.inl z] (f, l) Q := by
  refine fl_Tq.stp (pc' := 26) (lv' := [some (.inr (.inr (.inl (76, 277)))), some (.inl a), some (.inl b), some (.inl c), some (.inl z), none]) (st' := []) (m' := (f, l)) rfl rfl (fl_bo rfl) rfl ?_
  refine fl_Tq.stp (pc' := 27) (lv' := [some (.inr (.inr (.inl (76, 277)))), some (.inl a), some (.inl b), some (.inl c), some (.inl z), none]) (st' := [.inr (.inr (.inl (76, 277)))]) (m' := (f, l)) rfl rfl (fl_bo rfl) rfl ?_
  refine fl_Tq.stp (pc' := 28) (lv' := [some (.inr (.inr (.inl (76, 277)))), some (.inl a), some (.inl b), some (.inl c), some (.inl z), none]) (st' := [.inl b, .inr (.inr (.inl (76, 277)))]) (m' := (f, l)) rfl rfl (fl_bo rfl) rfl ?_
  refine fl_Tq.stp (pc' := 29) (lv' := [some (.inr (.inr (.inl (76, 277)))), some (.inl a), some (.inl b), some (.inl c), some (.inl z), none]) (st' := [.inl c, .inl b, .inr (.inr (.inl (76, 277)))]) (m' := (f, l)) rfl rfl (fl_bo rfl) rfl ?_
  exact k
theorem z311_E {L : Nat} {xs : Nat → Int32} {f : t2_F} {l : t2_L} {Q : Option fl_V → fl_M → Prop} {a b c y z : Int32}  (k : fl_Tq (pw_P L xs) 311 35 [some (.inr (.inr (.inl (76, 277)))), some (.inl a), some (.inl b), some (.inl c), some (.inl z), some (.inl y)] [.inr (.inr (.inl (76, 277)))] (f, l) Q) : fl_Tq (pw_P L xs) 311 32 [some (.inr (.inr (.inl (76, 277)))), some (.inl a), some (.inl b), some (.inl c), some (.inl z), none] [.inl y] (f, l) Q := by
  refine fl_Tq.stp (pc' := 34) (lv' := [some (.inr (.inr (.inl (76, 277)))), some (.inl a), some (.inl b), some (.inl c), some (.inl z), some (.inl y)]) (st' := []) (m' := (f, l)) rfl rfl (fl_bo rfl) rfl ?_
  refine fl_Tq.stp (pc' := 35) (lv' := [some (.inr (.inr (.inl (76, 277)))), some (.inl a), some (.inl b), some (.inl c), some (.inl z), some (.inl y)]) (st' := [.inr (.inr (.inl (76, 277)))]) (m' := (f, l)) rfl rfl (fl_bo rfl) rfl ?_
  exact k
theorem z311_F {L : Nat} {xs : Nat → Int32} {f : t2_F} {l : t2_L} {Q : Option fl_V → fl_M → Prop} {a b c y z : Int32}  (k : Q (some (.inl y)) (f, l)) : fl_Tq (pw_P L xs) 311 38 [some (.inr (.inr (.inl (76, 277)))), some (.inl a), some (.inl b), some (.inl c), some (.inl z), some (.inl y)] [] (f, l) Q := by
  refine fl_Tq.stp (pc' := 40) (lv' := [some (.inr (.inr (.inl (76, 277)))), some (.inl a), some (.inl b), some (.inl c), some (.inl z), some (.inl y)]) (st' := [.inl y]) (m' := (f, l)) rfl rfl (fl_bo rfl) rfl ?_
  exact fl_Tq.ret rfl rfl rfl k
theorem z312_A {L : Nat} {xs : Nat → Int32} {f : t2_F} {l : t2_L} {Q : Option fl_V → fl_M → Prop} {a : Int32}  (k : fl_Tq (pw_P L xs) 312 1 [some (.inr (.inr (.inl (76, 277)))), some (.inl a), none, none] [.inr (.inr (.inl (76, 277)))] (f, l) Q) : fl_Tq (pw_P L xs) 312 0 [some (.inr (.inr (.inl (76, 277)))), some (.inl a), none, none] [] (f, l) Q := by
  refine fl_Tq.stp (pc' := 1) (lv' := [some (.inr (.inr (.inl (76, 277)))), some (.inl a), none, none]) (st' := [.inr (.inr (.inl (76, 277)))]) (m' := (f, l)) rfl rfl (fl_bo rfl) rfl ?_
  exact k
theorem z312_B {L : Nat} {xs : Nat → Int32} {f : t2_F} {l : t2_L} {Q : Option fl_V → fl_M → Prop} {a : Int32}  (k : fl_Tq (pw_P L xs) 312 5 [some (.inr (.inr (.inl (76, 277)))), some (.inl a), none, none] [.inr (.inr (.inl (76, 277)))] (f, l) Q) : fl_Tq (pw_P L xs) 312 4 [some (.inr (.inr (.inl (76, 277)))), some (.inl a), none, none] [] (f, l) Q := by
  refine fl_Tq.stp (pc' := 5) (lv' := [some (.inr (.inr (.inl (76, 277)))), some (.inl a), none, none]) (st' := [.inr (.inr (.inl (76, 277)))]) (m' := (f, l)) rfl rfl (fl_bo rfl) rfl ?_
  exact k
theorem z312_C {L : Nat} {xs : Nat → Int32} {f : t2_F} {l : t2_L} {Q : Option fl_V → fl_M → Prop} {a z : Int32}  (k : fl_Tq (pw_P L xs) 312 11 [some (.inr (.inr (.inl (76, 277)))), some (.inl a), some (.inl z), none] [.inl a, .inr (.inr (.inl (76, 277)))] (f, l) Q) : fl_Tq (pw_P L xs) 312 8 [some (.inr (.inr (.inl (76, 277)))), some (.inl a), none, none] [.inl z] (f, l) Q := by
  refine fl_Tq.stp (pc' := 9) (lv' := [some (.inr (.inr (.inl (76, 277)))), some (.inl a), some (.inl z), none]) (st' := []) (m' := (f, l)) rfl rfl (fl_bo rfl) rfl ?_
  refine fl_Tq.stp (pc' := 10) (lv' := [some (.inr (.inr (.inl (76, 277)))), some (.inl a), some (.inl z), none]) (st' := [.inr (.inr (.inl (76, 277)))]) (m' := (f, l)) rfl rfl (fl_bo rfl) rfl ?_
  refine fl_Tq.stp (pc' := 11) (lv' := [some (.inr (.inr (.inl (76, 277)))), some (.inl a), some (.inl z), none]) (st' := [.inl a, .inr (.inr (.inl (76, 277)))]) (m' := (f, l)) rfl rfl (fl_bo rfl) rfl ?_
  exact k
theorem z312_D {L : Nat} {xs : Nat → Int32} {f : t2_F} {l : t2_L} {Q : Option fl_V → fl_M → Prop} {a y z : Int32}  (k : fl_Tq (pw_P L xs) 312 16 [some (.inr (.inr (.inl (76, 277)))), some (.inl a), some (.inl z), some (.inl y)] [.inr (.inr (.inl (76, 277)))] (f, l) Q) : fl_Tq (pw_P L xs) 312 14 [some (.inr (.inr (.inl (76, 277)))), some (.inl a), some (.inl z), none] [.inl y] (f, l) Q := by
  refine fl_Tq.stp (pc' := 15) (lv' := [some (.inr (.inr (.inl (76, 277)))), some (.inl a), some (.inl z), some (.inl y)]) (st' := []) (m' := (f, l)) rfl rfl (fl_bo rfl) rfl ?_
  refine fl_Tq.stp (pc' := 16) (lv' := [some (.inr (.inr (.inl (76, 277)))), some (.inl a), some (.inl z), some (.inl y)]) (st' := [.inr (.inr (.inl (76, 277)))]) (m' := (f, l)) rfl rfl (fl_bo rfl) rfl ?_
  exact k
theorem z312_E {L : Nat} {xs : Nat → Int32} {f : t2_F} {l : t2_L} {Q : Option fl_V → fl_M → Prop} {a y z : Int32}  (k : Q (some (.inl y)) (f, l)) : fl_Tq (pw_P L xs) 312 19 [some (.inr (.inr (.inl (76, 277)))), some (.inl a), some (.inl z), some (.inl y)] [] (f, l) Q := by
  refine fl_Tq.stp (pc' := 20) (lv' := [some (.inr (.inr (.inl (76, 277)))), some (.inl a), some (.inl z), some (.inl y)]) (st' := [.inl y]) (m' := (f, l)) rfl rfl (fl_bo rfl) rfl ?_
  exact fl_Tq.ret rfl rfl rfl k
theorem z313_A {L : Nat} {xs : Nat → Int32} {f : t2_F} {l : t2_L} {Q : Option fl_V → fl_M → Prop}   (k : fl_Tq (pw_P L xs) 313 1 [some (.inr (.inr (.inl (76, 277)))), none, none, none] [.inr (.inr (.inl (76, 277)))] (f, l) Q) : fl_Tq (pw_P L xs) 313 0 [some (.inr (.inr (.inl (76, 277)))), none, none, none] [] (f, l) Q := by
  refine fl_Tq.stp (pc' := 1) (lv' := [some (.inr (.inr (.inl (76, 277)))), none, none, none]) (st' := [.inr (.inr (.inl (76, 277)))]) (m' := (f, l)) rfl rfl (fl_bo rfl) rfl ?_
  exact k
theorem z313_B {L : Nat} {xs : Nat → Int32} {f : t2_F} {l : t2_L} {Q : Option fl_V → fl_M → Prop}   (k : fl_Tq (pw_P L xs) 313 10 [some (.inr (.inr (.inl (76, 277)))), some (.inl (0 : Int32)), some (.inl (0 : Int32)), some (.inl (0 : Int32))] [] (f, l) Q) : fl_Tq (pw_P L xs) 313 4 [some (.inr (.inr (.inl (76, 277)))), none, none, none] [] (f, l) Q := by
  refine fl_Tq.cI (c := (0 : Int32)) rfl (by decide +kernel) (fl_bo rfl) ?_
  refine fl_Tq.stp (pc' := 6) (lv' := [some (.inr (.inr (.inl (76, 277)))), some (.inl (0 : Int32)), none, none]) (st' := []) (m' := (f, l)) rfl rfl (fl_bo rfl) rfl ?_
  refine fl_Tq.cI (c := (0 : Int32)) rfl (by decide +kernel) (fl_bo rfl) ?_
  refine fl_Tq.stp (pc' := 8) (lv' := [some (.inr (.inr (.inl (76, 277)))), some (.inl (0 : Int32)), some (.inl (0 : Int32)), none]) (st' := []) (m' := (f, l)) rfl rfl (fl_bo rfl) rfl ?_
  refine fl_Tq.cI (c := (0 : Int32)) rfl (by decide +kernel) (fl_bo rfl) ?_
  refine fl_Tq.stp (pc' := 10) (lv' := [some (.inr (.inr (.inl (76, 277)))), some (.inl (0 : Int32)), some (.inl (0 : Int32)), some (.inl (0 : Int32))]) (st' := []) (m' := (f, l)) rfl rfl (fl_bo rfl) rfl ?_
  exact k
theorem z313_C {L : Nat} {xs : Nat → Int32} {f : t2_F} {l : t2_L} {Q : Option fl_V → fl_M → Prop} {b c : Int32} {j : Nat}  (k : (c.toInt = 0) → ((Int32.ofNat j).toInt < (2000 : Int32).toInt) → ((f 280 7).toInt < (9999 : Int32).toInt) → fl_Tq (pw_P L xs) 313 36 [some (.inr (.inr (.inl (76, 277)))), some (.inl (Int32.ofNat j)), some (.inl b), some (.inl c)] [.inr (.inr (.inl (76, 277))), .inl b] (f, l) Q) (k1 : (c.toInt = 0) → ((Int32.ofNat j).toInt < (2000 : Int32).toInt) → (¬ ((f 280 7).toInt < (9999 : Int32).toInt)) → fl_Tq (pw_P L xs) 313 61 [some (.inr (.inr (.inl (76, 277)))), some (.inl (Int32.ofNat j)), some (.inl b), some (.inl c)] [.inr (.inr (.inl (76, 277)))] (f, l) Q) (k2 : (c.toInt = 0) → (¬ ((Int32.ofNat j).toInt < (2000 : Int32).toInt)) → fl_Tq (pw_P L xs) 313 61 [some (.inr (.inr (.inl (76, 277)))), some (.inl (Int32.ofNat j)), some (.inl b), some (.inl c)] [.inr (.inr (.inl (76, 277)))] (f, l) Q) (k3 : (¬ (c.toInt = 0)) → fl_Tq (pw_P L xs) 313 61 [some (.inr (.inr (.inl (76, 277)))), some (.inl (Int32.ofNat j)), some (.inl b), some (.inl c)] [.inr (.inr (.inl (76, 277)))] (f, l) Q) : fl_Tq (pw_P L xs) 313 10 [some (.inr (.inr (.inl (76, 277)))), some (.inl (Int32.ofNat j)), some (.inl b), some (.inl c)] [] (f, l) Q := by
  refine fl_Tq.stp (pc' := 11) (lv' := [some (.inr (.inr (.inl (76, 277)))), some (.inl (Int32.ofNat j)), some (.inl b), some (.inl c)]) (st' := [.inl c]) (m' := (f, l)) rfl rfl (fl_bo rfl) rfl ?_
  by_cases h1 : c.toInt = 0
  · refine fl_Tq.zf rfl (fl_bo rfl) (c1_ne_f h1) rfl ?_
    refine fl_Tq.stp (pc' := 15) (lv' := [some (.inr (.inr (.inl (76, 277)))), some (.inl (Int32.ofNat j)), some (.inl b), some (.inl c)]) (st' := [.inl (Int32.ofNat j)]) (m' := (f, l)) rfl rfl (fl_bo rfl) rfl ?_
    refine fl_Tq.cS (c := (2000 : Int32)) rfl (by decide +kernel) (fl_bo rfl) ?_
    by_cases h2 : (Int32.ofNat j).toInt < (2000 : Int32).toInt
    · refine fl_Tq.jf rfl (fl_bo rfl) (c2_ge_f h2) rfl ?_
      refine fl_Tq.stp (pc' := 22) (lv' := [some (.inr (.inr (.inl (76, 277)))), some (.inl (Int32.ofNat j)), some (.inl b), some (.inl c)]) (st' := [.inr (.inr (.inl (76, 277)))]) (m' := (f, l)) rfl rfl (fl_bo rfl) rfl ?_
      refine fl_Tq.stp (pc' := 25) (lv' := [some (.inr (.inr (.inl (76, 277)))), some (.inl (Int32.ofNat j)), some (.inl b), some (.inl c)]) (st' := [.inr (.inr (.inl (79, 280)))]) (m' := (f, l)) rfl rfl (fl_bo rfl) rfl ?_
      refine fl_Tq.cB (c := (7 : Int32)) rfl (by decide +kernel) (fl_bo rfl) ?_
      refine fl_Tq.ldV (p := 280) (τ := 79) (n := 29780) (z := (0, 0, 0)) (k := 7) (v := f 280 7) rfl (fl_bo rfl) rfl (by decide +kernel) (by decide) rfl ?_
      refine fl_Tq.cS (c := (9999 : Int32)) rfl (by decide +kernel) (fl_bo rfl) ?_
      by_cases h3 : (f 280 7).toInt < (9999 : Int32).toInt
      · refine fl_Tq.jf rfl (fl_bo rfl) (c2_ge_f h3) rfl ?_
        refine fl_Tq.stp (pc' := 35) (lv' := [some (.inr (.inr (.inl (76, 277)))), some (.inl (Int32.ofNat j)), some (.inl b), some (.inl c)]) (st' := [.inl b]) (m' := (f, l)) rfl rfl (fl_bo rfl) rfl ?_
        refine fl_Tq.stp (pc' := 36) (lv' := [some (.inr (.inr (.inl (76, 277)))), some (.inl (Int32.ofNat j)), some (.inl b), some (.inl c)]) (st' := [.inr (.inr (.inl (76, 277))), .inl b]) (m' := (f, l)) rfl rfl (fl_bo rfl) rfl ?_
        exact k h1 h2 h3
      · refine fl_Tq.jt rfl (fl_bo rfl) (c2_ge_t h3) rfl ?_
        refine fl_Tq.stp (pc' := 61) (lv' := [some (.inr (.inr (.inl (76, 277)))), some (.inl (Int32.ofNat j)), some (.inl b), some (.inl c)]) (st' := [.inr (.inr (.inl (76, 277)))]) (m' := (f, l)) rfl rfl (fl_bo rfl) rfl ?_
        exact k1 h1 h2 h3
    · refine fl_Tq.jt rfl (fl_bo rfl) (c2_ge_t h2) rfl ?_
      refine fl_Tq.stp (pc' := 61) (lv' := [some (.inr (.inr (.inl (76, 277)))), some (.inl (Int32.ofNat j)), some (.inl b), some (.inl c)]) (st' := [.inr (.inr (.inl (76, 277)))]) (m' := (f, l)) rfl rfl (fl_bo rfl) rfl ?_
      exact k2 h1 h2
  · refine fl_Tq.zt rfl (fl_bo rfl) (c1_ne_t h1) rfl ?_
    refine fl_Tq.stp (pc' := 61) (lv' := [some (.inr (.inr (.inl (76, 277)))), some (.inl (Int32.ofNat j)), some (.inl b), some (.inl c)]) (st' := [.inr (.inr (.inl (76, 277)))]) (m' := (f, l)) rfl rfl (fl_bo rfl) rfl ?_
    exact k3 h1
noncomputable def z313_D_j48_0 (f : t2_F) (b c z : Int32) (j : Nat) : Int32 := if (f 277 6).toInt = 0 then (1 : Int32) else (0 : Int32)
theorem z313_D {L : Nat} {xs : Nat → Int32} {f : t2_F} {l : t2_L} {Q : Option fl_V → fl_M → Prop} {b c z : Int32} {j : Nat}  (k : fl_Tq (pw_P L xs) 313 10 [some (.inr (.inr (.inl (76, 277)))), some (.inl ((Int32.ofNat j) + (1 : Int32))), some (.inl (b + z)), some (.inl (z313_D_j48_0 f b c z j))] [] (f, l) Q) : fl_Tq (pw_P L xs) 313 39 [some (.inr (.inr (.inl (76, 277)))), some (.inl (Int32.ofNat j)), some (.inl b), some (.inl c)] [.inl z, .inl b] (f, l) Q := by
  refine fl_Tq.stp (pc' := 40) (lv' := [some (.inr (.inr (.inl (76, 277)))), some (.inl (Int32.ofNat j)), some (.inl b), some (.inl c)]) (st' := [.inl (b + z)]) (m' := (f, l)) rfl rfl (fl_bo rfl) rfl ?_
  refine fl_Tq.stp (pc' := 41) (lv' := [some (.inr (.inr (.inl (76, 277)))), some (.inl (Int32.ofNat j)), some (.inl (b + z)), some (.inl c)]) (st' := []) (m' := (f, l)) rfl rfl (fl_bo rfl) rfl ?_
  refine fl_Tq.stp (pc' := 44) (lv' := [some (.inr (.inr (.inl (76, 277)))), some (.inl ((Int32.ofNat j) + (1 : Int32))), some (.inl (b + z)), some (.inl c)]) (st' := []) (m' := (f, l)) rfl rfl (fl_bo rfl) rfl ?_
  refine fl_Tq.stp (pc' := 45) (lv' := [some (.inr (.inr (.inl (76, 277)))), some (.inl ((Int32.ofNat j) + (1 : Int32))), some (.inl (b + z)), some (.inl c)]) (st' := [.inr (.inr (.inl (76, 277)))]) (m' := (f, l)) rfl rfl (fl_bo rfl) rfl ?_
  refine fl_Tq.gfV (k := 6) (v := f 277 6) rfl (fl_bo rfl) rfl rfl ?_
  have hj181 : fl_Tq (pw_P L xs) 313 56 [some (.inr (.inr (.inl (76, 277)))), some (.inl ((Int32.ofNat j) + (1 : Int32))), some (.inl (b + z)), some (.inl c)] [.inl (z313_D_j48_0 f b c z j)] (f, l) Q → fl_Tq (pw_P L xs) 313 48 [some (.inr (.inr (.inl (76, 277)))), some (.inl ((Int32.ofNat j) + (1 : Int32))), some (.inl (b + z)), some (.inl c)] [.inl (f 277 6)] (f, l) Q := by
    intro hJ
    by_cases h1 : (f 277 6).toInt = 0
    · refine fl_Tq.zf rfl (fl_bo rfl) (c1_ne_f h1) rfl ?_
      refine fl_Tq.cI (c := (1 : Int32)) rfl (by decide +kernel) (fl_bo rfl) ?_
      refine fl_Tq.stp (pc' := 56) (lv' := [some (.inr (.inr (.inl (76, 277)))), some (.inl ((Int32.ofNat j) + (1 : Int32))), some (.inl (b + z)), some (.inl c)]) (st' := [.inl (1 : Int32)]) (m' := (f, l)) rfl rfl (fl_bo rfl) rfl ?_
      have e0 : (z313_D_j48_0 f b c z j) = (1 : Int32) := by simp only [z313_D_j48_0, if_pos h1]
      rw [e0] at hJ
      exact hJ
    · refine fl_Tq.zt rfl (fl_bo rfl) (c1_ne_t h1) rfl ?_
      refine fl_Tq.cI (c := (0 : Int32)) rfl (by decide +kernel) (fl_bo rfl) ?_
      have e0 : (z313_D_j48_0 f b c z j) = (0 : Int32) := by simp only [z313_D_j48_0, if_neg h1]
      rw [e0] at hJ
      exact hJ
  refine hj181 ?_
  show fl_Tq _ 313 56 [some (.inr (.inr (.inl (76, 277)))), some (.inl ((Int32.ofNat j) + (1 : Int32))), some (.inl (b + z)), some (.inl c)] [.inl (z313_D_j48_0 f b c z j)] (f, l) _
  refine fl_Tq.stp (pc' := 57) (lv' := [some (.inr (.inr (.inl (76, 277)))), some (.inl ((Int32.ofNat j) + (1 : Int32))), some (.inl (b + z)), some (.inl (z313_D_j48_0 f b c z j))]) (st' := []) (m' := (f, l)) rfl rfl (fl_bo rfl) rfl ?_
  refine fl_Tq.stp (pc' := 10) (lv' := [some (.inr (.inr (.inl (76, 277)))), some (.inl ((Int32.ofNat j) + (1 : Int32))), some (.inl (b + z)), some (.inl (z313_D_j48_0 f b c z j))]) (st' := []) (m' := (f, l)) rfl rfl (fl_bo rfl) rfl ?_
  exact k
noncomputable def z313_E_j65_0 (b c : Int32) (j : Nat) : Int32 := if c.toInt = 0 then (-1 : Int32) else Int32.ofNat j
theorem z313_E {L : Nat} {xs : Nat → Int32} {f : t2_F} {l : t2_L} {Q : Option fl_V → fl_M → Prop} {b c : Int32} {j : Nat}  (k : Q (some (.inl (z313_E_j65_0 b c j))) (f, l)) : fl_Tq (pw_P L xs) 313 64 [some (.inr (.inr (.inl (76, 277)))), some (.inl (Int32.ofNat j)), some (.inl b), some (.inl c)] [] (f, l) Q := by
  refine fl_Tq.stp (pc' := 65) (lv' := [some (.inr (.inr (.inl (76, 277)))), some (.inl (Int32.ofNat j)), some (.inl b), some (.inl c)]) (st' := [.inl c]) (m' := (f, l)) rfl rfl (fl_bo rfl) rfl ?_
  have hj182 : fl_Tq (pw_P L xs) 313 73 [some (.inr (.inr (.inl (76, 277)))), some (.inl (Int32.ofNat j)), some (.inl b), some (.inl c)] [.inl (z313_E_j65_0 b c j)] (f, l) Q → fl_Tq (pw_P L xs) 313 65 [some (.inr (.inr (.inl (76, 277)))), some (.inl (Int32.ofNat j)), some (.inl b), some (.inl c)] [.inl c] (f, l) Q := by
    intro hJ
    by_cases h1 : c.toInt = 0
    · refine fl_Tq.zt rfl (fl_bo rfl) (c1_eq_t h1) rfl ?_
      refine fl_Tq.cI (c := (-1 : Int32)) rfl (by decide +kernel) (fl_bo rfl) ?_
      have e0 : (z313_E_j65_0 b c j) = (-1 : Int32) := by simp only [z313_E_j65_0, if_pos h1]
      rw [e0] at hJ
      exact hJ
    · refine fl_Tq.zf rfl (fl_bo rfl) (c1_eq_f h1) rfl ?_
      refine fl_Tq.stp (pc' := 69) (lv' := [some (.inr (.inr (.inl (76, 277)))), some (.inl (Int32.ofNat j)), some (.inl b), some (.inl c)]) (st' := [.inl (Int32.ofNat j)]) (m' := (f, l)) rfl rfl (fl_bo rfl) rfl ?_
      refine fl_Tq.stp (pc' := 73) (lv' := [some (.inr (.inr (.inl (76, 277)))), some (.inl (Int32.ofNat j)), some (.inl b), some (.inl c)]) (st' := [.inl (Int32.ofNat j)]) (m' := (f, l)) rfl rfl (fl_bo rfl) rfl ?_
      have e0 : (z313_E_j65_0 b c j) = Int32.ofNat j := by simp only [z313_E_j65_0, if_neg h1]
      rw [e0] at hJ
      exact hJ
  refine hj182 ?_
  show fl_Tq _ 313 73 [some (.inr (.inr (.inl (76, 277)))), some (.inl (Int32.ofNat j)), some (.inl b), some (.inl c)] [.inl (z313_E_j65_0 b c j)] (f, l) _
  exact fl_Tq.ret rfl rfl rfl k
theorem z314_A {L : Nat} {xs : Nat → Int32} {f : t2_F} {l : t2_L} {Q : Option fl_V → fl_M → Prop} {a : Int32}  (k : fl_Tq (pw_P L xs) 314 5 [some (.inr (.inr (.inl (76, 277)))), some (.inl a), none, none, none, none] [.inl (300 : Int32), .inl a, .inr (.inr (.inl (76, 277)))] (f, l) Q) : fl_Tq (pw_P L xs) 314 0 [some (.inr (.inr (.inl (76, 277)))), some (.inl a), none, none, none, none] [] (f, l) Q := by
  refine fl_Tq.stp (pc' := 1) (lv' := [some (.inr (.inr (.inl (76, 277)))), some (.inl a), none, none, none, none]) (st' := [.inr (.inr (.inl (76, 277)))]) (m' := (f, l)) rfl rfl (fl_bo rfl) rfl ?_
  refine fl_Tq.stp (pc' := 2) (lv' := [some (.inr (.inr (.inl (76, 277)))), some (.inl a), none, none, none, none]) (st' := [.inl a, .inr (.inr (.inl (76, 277)))]) (m' := (f, l)) rfl rfl (fl_bo rfl) rfl ?_
  refine fl_Tq.cS (c := (300 : Int32)) rfl (by decide +kernel) (fl_bo rfl) ?_
  exact k
theorem z314_B {L : Nat} {xs : Nat → Int32} {f : t2_F} {l : t2_L} {Q : Option fl_V → fl_M → Prop} {a z : Int32}  (k : (z.toInt = 0) → Q (some (.inl (-1 : Int32))) (f, l)) (k1 : (¬ (z.toInt = 0)) → fl_Tq (pw_P L xs) 314 14 [some (.inr (.inr (.inl (76, 277)))), some (.inl a), none, none, none, none] [.inr (.inr (.inl (76, 277)))] (f, l) Q) : fl_Tq (pw_P L xs) 314 8 [some (.inr (.inr (.inl (76, 277)))), some (.inl a), none, none, none, none] [.inl z] (f, l) Q := by
  by_cases h1 : z.toInt = 0
  · refine fl_Tq.zf rfl (fl_bo rfl) (c1_ne_f h1) rfl ?_
    refine fl_Tq.cI (c := (-1 : Int32)) rfl (by decide +kernel) (fl_bo rfl) ?_
    exact fl_Tq.ret rfl rfl rfl (k h1)
  · refine fl_Tq.zt rfl (fl_bo rfl) (c1_ne_t h1) rfl ?_
    refine fl_Tq.stp (pc' := 14) (lv' := [some (.inr (.inr (.inl (76, 277)))), some (.inl a), none, none, none, none]) (st' := [.inr (.inr (.inl (76, 277)))]) (m' := (f, l)) rfl rfl (fl_bo rfl) rfl ?_
    exact k1 h1
theorem z314_C {L : Nat} {xs : Nat → Int32} {f : t2_F} {l : t2_L} {Q : Option fl_V → fl_M → Prop} {a : Int32}  (k : fl_Tq (pw_P L xs) 314 30 [some (.inr (.inr (.inl (76, 277)))), some (.inl a), some (.inl (f 280 6)), some (.inl (0 : Int32)), some (.inl (0 : Int32)), none] [] (f, l) Q) : fl_Tq (pw_P L xs) 314 17 [some (.inr (.inr (.inl (76, 277)))), some (.inl a), none, none, none, none] [] (f, l) Q := by
  refine fl_Tq.stp (pc' := 18) (lv' := [some (.inr (.inr (.inl (76, 277)))), some (.inl a), none, none, none, none]) (st' := [.inr (.inr (.inl (76, 277)))]) (m' := (f, l)) rfl rfl (fl_bo rfl) rfl ?_
  refine fl_Tq.stp (pc' := 21) (lv' := [some (.inr (.inr (.inl (76, 277)))), some (.inl a), none, none, none, none]) (st' := [.inr (.inr (.inl (79, 280)))]) (m' := (f, l)) rfl rfl (fl_bo rfl) rfl ?_
  refine fl_Tq.cB (c := (6 : Int32)) rfl (by decide +kernel) (fl_bo rfl) ?_
  refine fl_Tq.ldV (p := 280) (τ := 79) (n := 29780) (z := (0, 0, 0)) (k := 6) (v := f 280 6) rfl (fl_bo rfl) rfl (by decide +kernel) (by decide) rfl ?_
  refine fl_Tq.stp (pc' := 25) (lv' := [some (.inr (.inr (.inl (76, 277)))), some (.inl a), some (.inl (f 280 6)), none, none, none]) (st' := []) (m' := (f, l)) rfl rfl (fl_bo rfl) rfl ?_
  refine fl_Tq.cI (c := (0 : Int32)) rfl (by decide +kernel) (fl_bo rfl) ?_
  refine fl_Tq.stp (pc' := 27) (lv' := [some (.inr (.inr (.inl (76, 277)))), some (.inl a), some (.inl (f 280 6)), some (.inl (0 : Int32)), none, none]) (st' := []) (m' := (f, l)) rfl rfl (fl_bo rfl) rfl ?_
  refine fl_Tq.cI (c := (0 : Int32)) rfl (by decide +kernel) (fl_bo rfl) ?_
  refine fl_Tq.stp (pc' := 30) (lv' := [some (.inr (.inr (.inl (76, 277)))), some (.inl a), some (.inl (f 280 6)), some (.inl (0 : Int32)), some (.inl (0 : Int32)), none]) (st' := []) (m' := (f, l)) rfl rfl (fl_bo rfl) rfl ?_
  exact k
theorem z314_D {L : Nat} {xs : Nat → Int32} {f : t2_F} {l : t2_L} {Q : Option fl_V → fl_M → Prop} {a b c : Int32} {j : Nat}  (k : ((Int32.ofNat j).toInt < a.toInt) → (c.toInt = 0) → fl_Tq (pw_P L xs) 314 41 [some (.inr (.inr (.inl (76, 277)))), some (.inl a), some (.inl b), some (.inl c), some (.inl (Int32.ofNat j)), none] [.inr (.inr (.inl (76, 277)))] (f, l) Q) (k1 : ((Int32.ofNat j).toInt < a.toInt) → (¬ (c.toInt = 0)) → fl_Tq (pw_P L xs) 314 65 [some (.inr (.inr (.inl (76, 277)))), some (.inl a), some (.inl b), some (.inl c), some (.inl ((f 280 6) &&& (b ^^^ (-1 : Int32)))), none] [.inr (.inr (.inl (76, 277)))] (f, l) Q) (k2 : (¬ ((Int32.ofNat j).toInt < a.toInt)) → fl_Tq (pw_P L xs) 314 65 [some (.inr (.inr (.inl (76, 277)))), some (.inl a), some (.inl b), some (.inl c), some (.inl ((f 280 6) &&& (b ^^^ (-1 : Int32)))), none] [.inr (.inr (.inl (76, 277)))] (f, l) Q) : fl_Tq (pw_P L xs) 314 30 [some (.inr (.inr (.inl (76, 277)))), some (.inl a), some (.inl b), some (.inl c), some (.inl (Int32.ofNat j)), none] [] (f, l) Q := by
  refine fl_Tq.stp (pc' := 32) (lv' := [some (.inr (.inr (.inl (76, 277)))), some (.inl a), some (.inl b), some (.inl c), some (.inl (Int32.ofNat j)), none]) (st' := [.inl (Int32.ofNat j)]) (m' := (f, l)) rfl rfl (fl_bo rfl) rfl ?_
  refine fl_Tq.stp (pc' := 33) (lv' := [some (.inr (.inr (.inl (76, 277)))), some (.inl a), some (.inl b), some (.inl c), some (.inl (Int32.ofNat j)), none]) (st' := [.inl a, .inl (Int32.ofNat j)]) (m' := (f, l)) rfl rfl (fl_bo rfl) rfl ?_
  by_cases h1 : (Int32.ofNat j).toInt < a.toInt
  · refine fl_Tq.jf rfl (fl_bo rfl) (c2_ge_f h1) rfl ?_
    refine fl_Tq.stp (pc' := 37) (lv' := [some (.inr (.inr (.inl (76, 277)))), some (.inl a), some (.inl b), some (.inl c), some (.inl (Int32.ofNat j)), none]) (st' := [.inl c]) (m' := (f, l)) rfl rfl (fl_bo rfl) rfl ?_
    by_cases h2 : c.toInt = 0
    · refine fl_Tq.zf rfl (fl_bo rfl) (c1_ne_f h2) rfl ?_
      refine fl_Tq.stp (pc' := 41) (lv' := [some (.inr (.inr (.inl (76, 277)))), some (.inl a), some (.inl b), some (.inl c), some (.inl (Int32.ofNat j)), none]) (st' := [.inr (.inr (.inl (76, 277)))]) (m' := (f, l)) rfl rfl (fl_bo rfl) rfl ?_
      exact k h1 h2
    · refine fl_Tq.zt rfl (fl_bo rfl) (c1_ne_t h2) rfl ?_
      refine fl_Tq.stp (pc' := 52) (lv' := [some (.inr (.inr (.inl (76, 277)))), some (.inl a), some (.inl b), some (.inl c), some (.inl (Int32.ofNat j)), none]) (st' := [.inr (.inr (.inl (76, 277)))]) (m' := (f, l)) rfl rfl (fl_bo rfl) rfl ?_
      refine fl_Tq.stp (pc' := 55) (lv' := [some (.inr (.inr (.inl (76, 277)))), some (.inl a), some (.inl b), some (.inl c), some (.inl (Int32.ofNat j)), none]) (st' := [.inr (.inr (.inl (79, 280)))]) (m' := (f, l)) rfl rfl (fl_bo rfl) rfl ?_
      refine fl_Tq.cB (c := (6 : Int32)) rfl (by decide +kernel) (fl_bo rfl) ?_
      refine fl_Tq.ldV (p := 280) (τ := 79) (n := 29780) (z := (0, 0, 0)) (k := 6) (v := f 280 6) rfl (fl_bo rfl) rfl (by decide +kernel) (by decide) rfl ?_
      refine fl_Tq.stp (pc' := 59) (lv' := [some (.inr (.inr (.inl (76, 277)))), some (.inl a), some (.inl b), some (.inl c), some (.inl (Int32.ofNat j)), none]) (st' := [.inl b, .inl (f 280 6)]) (m' := (f, l)) rfl rfl (fl_bo rfl) rfl ?_
      refine fl_Tq.cI (c := (-1 : Int32)) rfl (by decide +kernel) (fl_bo rfl) ?_
      refine fl_Tq.stp (pc' := 61) (lv' := [some (.inr (.inr (.inl (76, 277)))), some (.inl a), some (.inl b), some (.inl c), some (.inl (Int32.ofNat j)), none]) (st' := [.inl (b ^^^ (-1 : Int32)), .inl (f 280 6)]) (m' := (f, l)) rfl rfl (fl_bo rfl) rfl ?_
      refine fl_Tq.stp (pc' := 62) (lv' := [some (.inr (.inr (.inl (76, 277)))), some (.inl a), some (.inl b), some (.inl c), some (.inl (Int32.ofNat j)), none]) (st' := [.inl ((f 280 6) &&& (b ^^^ (-1 : Int32)))]) (m' := (f, l)) rfl rfl (fl_bo rfl) rfl ?_
      refine fl_Tq.stp (pc' := 64) (lv' := [some (.inr (.inr (.inl (76, 277)))), some (.inl a), some (.inl b), some (.inl c), some (.inl ((f 280 6) &&& (b ^^^ (-1 : Int32)))), none]) (st' := []) (m' := (f, l)) rfl rfl (fl_bo rfl) rfl ?_
      refine fl_Tq.stp (pc' := 65) (lv' := [some (.inr (.inr (.inl (76, 277)))), some (.inl a), some (.inl b), some (.inl c), some (.inl ((f 280 6) &&& (b ^^^ (-1 : Int32)))), none]) (st' := [.inr (.inr (.inl (76, 277)))]) (m' := (f, l)) rfl rfl (fl_bo rfl) rfl ?_
      exact k1 h1 h2
  · refine fl_Tq.jt rfl (fl_bo rfl) (c2_ge_t h1) rfl ?_
    refine fl_Tq.stp (pc' := 52) (lv' := [some (.inr (.inr (.inl (76, 277)))), some (.inl a), some (.inl b), some (.inl c), some (.inl (Int32.ofNat j)), none]) (st' := [.inr (.inr (.inl (76, 277)))]) (m' := (f, l)) rfl rfl (fl_bo rfl) rfl ?_
    refine fl_Tq.stp (pc' := 55) (lv' := [some (.inr (.inr (.inl (76, 277)))), some (.inl a), some (.inl b), some (.inl c), some (.inl (Int32.ofNat j)), none]) (st' := [.inr (.inr (.inl (79, 280)))]) (m' := (f, l)) rfl rfl (fl_bo rfl) rfl ?_
    refine fl_Tq.cB (c := (6 : Int32)) rfl (by decide +kernel) (fl_bo rfl) ?_
    refine fl_Tq.ldV (p := 280) (τ := 79) (n := 29780) (z := (0, 0, 0)) (k := 6) (v := f 280 6) rfl (fl_bo rfl) rfl (by decide +kernel) (by decide) rfl ?_
    refine fl_Tq.stp (pc' := 59) (lv' := [some (.inr (.inr (.inl (76, 277)))), some (.inl a), some (.inl b), some (.inl c), some (.inl (Int32.ofNat j)), none]) (st' := [.inl b, .inl (f 280 6)]) (m' := (f, l)) rfl rfl (fl_bo rfl) rfl ?_
    refine fl_Tq.cI (c := (-1 : Int32)) rfl (by decide +kernel) (fl_bo rfl) ?_
    refine fl_Tq.stp (pc' := 61) (lv' := [some (.inr (.inr (.inl (76, 277)))), some (.inl a), some (.inl b), some (.inl c), some (.inl (Int32.ofNat j)), none]) (st' := [.inl (b ^^^ (-1 : Int32)), .inl (f 280 6)]) (m' := (f, l)) rfl rfl (fl_bo rfl) rfl ?_
    refine fl_Tq.stp (pc' := 62) (lv' := [some (.inr (.inr (.inl (76, 277)))), some (.inl a), some (.inl b), some (.inl c), some (.inl (Int32.ofNat j)), none]) (st' := [.inl ((f 280 6) &&& (b ^^^ (-1 : Int32)))]) (m' := (f, l)) rfl rfl (fl_bo rfl) rfl ?_
    refine fl_Tq.stp (pc' := 64) (lv' := [some (.inr (.inr (.inl (76, 277)))), some (.inl a), some (.inl b), some (.inl c), some (.inl ((f 280 6) &&& (b ^^^ (-1 : Int32)))), none]) (st' := []) (m' := (f, l)) rfl rfl (fl_bo rfl) rfl ?_
    refine fl_Tq.stp (pc' := 65) (lv' := [some (.inr (.inr (.inl (76, 277)))), some (.inl a), some (.inl b), some (.inl c), some (.inl ((f 280 6) &&& (b ^^^ (-1 : Int32)))), none]) (st' := [.inr (.inr (.inl (76, 277)))]) (m' := (f, l)) rfl rfl (fl_bo rfl) rfl ?_
    exact k2 h1
theorem z314_E {L : Nat} {xs : Nat → Int32} {f : t2_F} {l : t2_L} {Q : Option fl_V → fl_M → Prop} {a b c z : Int32} {j : Nat}  (k : fl_Tq (pw_P L xs) 314 30 [some (.inr (.inr (.inl (76, 277)))), some (.inl a), some (.inl b), some (.inl z), some (.inl ((Int32.ofNat j) + (1 : Int32))), none] [] (f, l) Q) : fl_Tq (pw_P L xs) 314 44 [some (.inr (.inr (.inl (76, 277)))), some (.inl a), some (.inl b), some (.inl c), some (.inl (Int32.ofNat j)), none] [.inl z] (f, l) Q := by
  refine fl_Tq.stp (pc' := 45) (lv' := [some (.inr (.inr (.inl (76, 277)))), some (.inl a), some (.inl b), some (.inl z), some (.inl (Int32.ofNat j)), none]) (st' := []) (m' := (f, l)) rfl rfl (fl_bo rfl) rfl ?_
  refine fl_Tq.stp (pc' := 48) (lv' := [some (.inr (.inr (.inl (76, 277)))), some (.inl a), some (.inl b), some (.inl z), some (.inl ((Int32.ofNat j) + (1 : Int32))), none]) (st' := []) (m' := (f, l)) rfl rfl (fl_bo rfl) rfl ?_
  refine fl_Tq.stp (pc' := 30) (lv' := [some (.inr (.inr (.inl (76, 277)))), some (.inl a), some (.inl b), some (.inl z), some (.inl ((Int32.ofNat j) + (1 : Int32))), none]) (st' := []) (m' := (f, l)) rfl rfl (fl_bo rfl) rfl ?_
  exact k
theorem z314_F {L : Nat} {xs : Nat → Int32} {f : t2_F} {l : t2_L} {Q : Option fl_V → fl_M → Prop} {a b c d : Int32}  (k : fl_Tq (pw_P L xs) 314 71 [some (.inr (.inr (.inl (76, 277)))), some (.inl a), some (.inl b), some (.inl c), some (.inl d), some (.inl (0 : Int32))] [] (f, l) Q) : fl_Tq (pw_P L xs) 314 68 [some (.inr (.inr (.inl (76, 277)))), some (.inl a), some (.inl b), some (.inl c), some (.inl d), none] [] (f, l) Q := by
  refine fl_Tq.cI (c := (0 : Int32)) rfl (by decide +kernel) (fl_bo rfl) ?_
  refine fl_Tq.stp (pc' := 71) (lv' := [some (.inr (.inr (.inl (76, 277)))), some (.inl a), some (.inl b), some (.inl c), some (.inl d), some (.inl (0 : Int32))]) (st' := []) (m' := (f, l)) rfl rfl (fl_bo rfl) rfl ?_
  exact k
theorem z314_G {L : Nat} {xs : Nat → Int32} {f : t2_F} {l : t2_L} {Q : Option fl_V → fl_M → Prop} {a b c d : Int32} {j : Nat}  (k : ((Int32.ofNat j).toInt < (11 : Int32).toInt) → ((r_has_v d (Int32.ofNat j)).toInt = 0) → fl_Tq (pw_P L xs) 314 71 [some (.inr (.inr (.inl (76, 277)))), some (.inl a), some (.inl b), some (.inl c), some (.inl d), some (.inl ((Int32.ofNat j) + (1 : Int32)))] [] (f, l) Q) (k1 : ((Int32.ofNat j).toInt < (11 : Int32).toInt) → (¬ ((r_has_v d (Int32.ofNat j)).toInt = 0)) → Q (some (.inl (Int32.ofNat j))) (f, l)) (k2 : (¬ ((Int32.ofNat j).toInt < (11 : Int32).toInt)) → Q (some (.inl (-1 : Int32))) (f, l)) : fl_Tq (pw_P L xs) 314 71 [some (.inr (.inr (.inl (76, 277)))), some (.inl a), some (.inl b), some (.inl c), some (.inl d), some (.inl (Int32.ofNat j))] [] (f, l) Q := by
  refine fl_Tq.stp (pc' := 73) (lv' := [some (.inr (.inr (.inl (76, 277)))), some (.inl a), some (.inl b), some (.inl c), some (.inl d), some (.inl (Int32.ofNat j))]) (st' := [.inl (Int32.ofNat j)]) (m' := (f, l)) rfl rfl (fl_bo rfl) rfl ?_
  refine fl_Tq.cB (c := (11 : Int32)) rfl (by decide +kernel) (fl_bo rfl) ?_
  by_cases h1 : (Int32.ofNat j).toInt < (11 : Int32).toInt
  · refine fl_Tq.jf rfl (fl_bo rfl) (c2_ge_f h1) rfl ?_
    refine fl_Tq.stp (pc' := 80) (lv' := [some (.inr (.inr (.inl (76, 277)))), some (.inl a), some (.inl b), some (.inl c), some (.inl d), some (.inl (Int32.ofNat j))]) (st' := [.inl d]) (m' := (f, l)) rfl rfl (fl_bo rfl) rfl ?_
    refine fl_Tq.stp (pc' := 82) (lv' := [some (.inr (.inr (.inl (76, 277)))), some (.inl a), some (.inl b), some (.inl c), some (.inl d), some (.inl (Int32.ofNat j))]) (st' := [.inl (Int32.ofNat j), .inl d]) (m' := (f, l)) rfl rfl (fl_bo rfl) rfl ?_
    refine fl_Tq.cal rfl rfl (fl_bo rfl) rfl ?_
    refine r_has_q  ?_
    show fl_Tq _ 314 85 [some (.inr (.inr (.inl (76, 277)))), some (.inl a), some (.inl b), some (.inl c), some (.inl d), some (.inl (Int32.ofNat j))] [.inl (r_has_v d (Int32.ofNat j))] (f, l) _
    by_cases h2 : (r_has_v d (Int32.ofNat j)).toInt = 0
    · refine fl_Tq.zf rfl (fl_bo rfl) (c1_ne_f h2) rfl ?_
      refine fl_Tq.stp (pc' := 91) (lv' := [some (.inr (.inr (.inl (76, 277)))), some (.inl a), some (.inl b), some (.inl c), some (.inl d), some (.inl ((Int32.ofNat j) + (1 : Int32)))]) (st' := []) (m' := (f, l)) rfl rfl (fl_bo rfl) rfl ?_
      refine fl_Tq.stp (pc' := 71) (lv' := [some (.inr (.inr (.inl (76, 277)))), some (.inl a), some (.inl b), some (.inl c), some (.inl d), some (.inl ((Int32.ofNat j) + (1 : Int32)))]) (st' := []) (m' := (f, l)) rfl rfl (fl_bo rfl) rfl ?_
      exact k h1 h2
    · refine fl_Tq.zt rfl (fl_bo rfl) (c1_ne_t h2) rfl ?_
      refine fl_Tq.stp (pc' := 96) (lv' := [some (.inr (.inr (.inl (76, 277)))), some (.inl a), some (.inl b), some (.inl c), some (.inl d), some (.inl (Int32.ofNat j))]) (st' := [.inl (Int32.ofNat j)]) (m' := (f, l)) rfl rfl (fl_bo rfl) rfl ?_
      refine fl_Tq.cB (c := (11 : Int32)) rfl (by decide +kernel) (fl_bo rfl) ?_
      refine fl_Tq.jf rfl (fl_bo rfl) (c2_ge_f h1) rfl ?_
      refine fl_Tq.stp (pc' := 103) (lv' := [some (.inr (.inr (.inl (76, 277)))), some (.inl a), some (.inl b), some (.inl c), some (.inl d), some (.inl (Int32.ofNat j))]) (st' := [.inl (Int32.ofNat j)]) (m' := (f, l)) rfl rfl (fl_bo rfl) rfl ?_
      refine fl_Tq.stp (pc' := 107) (lv' := [some (.inr (.inr (.inl (76, 277)))), some (.inl a), some (.inl b), some (.inl c), some (.inl d), some (.inl (Int32.ofNat j))]) (st' := [.inl (Int32.ofNat j)]) (m' := (f, l)) rfl rfl (fl_bo rfl) rfl ?_
      exact fl_Tq.ret rfl rfl rfl (k1 h1 h2)
  · refine fl_Tq.jt rfl (fl_bo rfl) (c2_ge_t h1) rfl ?_
    refine fl_Tq.stp (pc' := 96) (lv' := [some (.inr (.inr (.inl (76, 277)))), some (.inl a), some (.inl b), some (.inl c), some (.inl d), some (.inl (Int32.ofNat j))]) (st' := [.inl (Int32.ofNat j)]) (m' := (f, l)) rfl rfl (fl_bo rfl) rfl ?_
    refine fl_Tq.cB (c := (11 : Int32)) rfl (by decide +kernel) (fl_bo rfl) ?_
    refine fl_Tq.jt rfl (fl_bo rfl) (c2_ge_t h1) rfl ?_
    refine fl_Tq.cI (c := (-1 : Int32)) rfl (by decide +kernel) (fl_bo rfl) ?_
    exact fl_Tq.ret rfl rfl rfl (k2 h1)
theorem z315_A {L : Nat} {xs : Nat → Int32} {f : t2_F} {l : t2_L} {Q : Option fl_V → fl_M → Prop} {a b : Int32}  (k : fl_Tq (pw_P L xs) 315 1 [some (.inr (.inr (.inl (76, 277)))), some (.inl a), some (.inl b), none, none] [.inr (.inr (.inl (76, 277)))] (f, l) Q) : fl_Tq (pw_P L xs) 315 0 [some (.inr (.inr (.inl (76, 277)))), some (.inl a), some (.inl b), none, none] [] (f, l) Q := by
  refine fl_Tq.stp (pc' := 1) (lv' := [some (.inr (.inr (.inl (76, 277)))), some (.inl a), some (.inl b), none, none]) (st' := [.inr (.inr (.inl (76, 277)))]) (m' := (f, l)) rfl rfl (fl_bo rfl) rfl ?_
  exact k
theorem z315_B {L : Nat} {xs : Nat → Int32} {f : t2_F} {l : t2_L} {Q : Option fl_V → fl_M → Prop} {a b : Int32}  (k : fl_Tq (pw_P L xs) 315 22 [some (.inr (.inr (.inl (76, 277)))), some (.inl a), some (.inl b), some (.inl (1 : Int32)), some (.inl (0 : Int32))] [] (fl_row (fl_row f 277 (upd (f 277) 7 (1 : Int32))) 280 (upd (f 280) 54 a), l) Q) : fl_Tq (pw_P L xs) 315 4 [some (.inr (.inr (.inl (76, 277)))), some (.inl a), some (.inl b), none, none] [] (f, l) Q := by
  refine fl_Tq.stp (pc' := 5) (lv' := [some (.inr (.inr (.inl (76, 277)))), some (.inl a), some (.inl b), none, none]) (st' := [.inr (.inr (.inl (76, 277)))]) (m' := (f, l)) rfl rfl (fl_bo rfl) rfl ?_
  refine fl_Tq.cI (c := (1 : Int32)) rfl (by decide +kernel) (fl_bo rfl) ?_
  refine fl_Tq.pfV (k := 7) (m' := (fl_row f 277 (upd (f 277) 7 (1 : Int32)), l)) rfl (fl_bo rfl) rfl (t2_upn rfl) ?_
  refine fl_Tq.stp (pc' := 10) (lv' := [some (.inr (.inr (.inl (76, 277)))), some (.inl a), some (.inl b), none, none]) (st' := [.inr (.inr (.inl (76, 277)))]) (m' := (fl_row f 277 (upd (f 277) 7 (1 : Int32)), l)) rfl rfl (fl_bo rfl) rfl ?_
  refine fl_Tq.stp (pc' := 13) (lv' := [some (.inr (.inr (.inl (76, 277)))), some (.inl a), some (.inl b), none, none]) (st' := [.inr (.inr (.inl (79, 280)))]) (m' := (fl_row f 277 (upd (f 277) 7 (1 : Int32)), l)) rfl rfl (fl_bo rfl) rfl ?_
  refine fl_Tq.cB (c := (54 : Int32)) rfl (by decide +kernel) (fl_bo rfl) ?_
  refine fl_Tq.stp (pc' := 16) (lv' := [some (.inr (.inr (.inl (76, 277)))), some (.inl a), some (.inl b), none, none]) (st' := [.inl a, .inl (54 : Int32), .inr (.inr (.inl (79, 280)))]) (m' := (fl_row f 277 (upd (f 277) 7 (1 : Int32)), l)) rfl rfl (fl_bo rfl) rfl ?_
  refine fl_Tq.svV (p := 280) (τ := 79) (n := 29780) (z := (0, 0, 0)) (k := 54) (m' := (fl_row (fl_row f 277 (upd (f 277) 7 (1 : Int32))) 280 (upd (f 280) 54 a), l)) rfl (fl_bo rfl) rfl (by decide +kernel) (by decide) (t2_upn (by rw [fl_row_ne (by decide : 280 ≠ 277)])) ?_
  refine fl_Tq.cI (c := (1 : Int32)) rfl (by decide +kernel) (fl_bo rfl) ?_
  refine fl_Tq.stp (pc' := 19) (lv' := [some (.inr (.inr (.inl (76, 277)))), some (.inl a), some (.inl b), some (.inl (1 : Int32)), none]) (st' := []) (m' := (fl_row (fl_row f 277 (upd (f 277) 7 (1 : Int32))) 280 (upd (f 280) 54 a), l)) rfl rfl (fl_bo rfl) rfl ?_
  refine fl_Tq.cI (c := (0 : Int32)) rfl (by decide +kernel) (fl_bo rfl) ?_
  refine fl_Tq.stp (pc' := 22) (lv' := [some (.inr (.inr (.inl (76, 277)))), some (.inl a), some (.inl b), some (.inl (1 : Int32)), some (.inl (0 : Int32))]) (st' := []) (m' := (fl_row (fl_row f 277 (upd (f 277) 7 (1 : Int32))) 280 (upd (f 280) 54 a), l)) rfl rfl (fl_bo rfl) rfl ?_
  exact k
theorem z315_C {L : Nat} {xs : Nat → Int32} {f : t2_F} {l : t2_L} {Q : Option fl_V → fl_M → Prop} {a b c : Int32} {j : Nat}  (k : ((Int32.ofNat j).toInt < b.toInt) → (c.toInt = 0) → fl_Tq (pw_P L xs) 315 67 [some (.inr (.inr (.inl (76, 277)))), some (.inl a), some (.inl b), some (.inl c), some (.inl (Int32.ofNat j))] [.inr (.inr (.inl (76, 277)))] (fl_row f 277 (upd (f 277) 7 (0 : Int32)), l) Q) (k1 : ((Int32.ofNat j).toInt < b.toInt) → (¬ (c.toInt = 0)) → fl_Tq (pw_P L xs) 315 33 [some (.inr (.inr (.inl (76, 277)))), some (.inl a), some (.inl b), some (.inl c), some (.inl (Int32.ofNat j))] [.inr (.inr (.inl (76, 277)))] (f, l) Q) (k2 : (¬ ((Int32.ofNat j).toInt < b.toInt)) → fl_Tq (pw_P L xs) 315 67 [some (.inr (.inr (.inl (76, 277)))), some (.inl a), some (.inl b), some (.inl c), some (.inl (Int32.ofNat j))] [.inr (.inr (.inl (76, 277)))] (fl_row f 277 (upd (f 277) 7 (0 : Int32)), l) Q) : fl_Tq (pw_P L xs) 315 22 [some (.inr (.inr (.inl (76, 277)))), some (.inl a), some (.inl b), some (.inl c), some (.inl (Int32.ofNat j))] [] (f, l) Q := by
  refine fl_Tq.stp (pc' := 24) (lv' := [some (.inr (.inr (.inl (76, 277)))), some (.inl a), some (.inl b), some (.inl c), some (.inl (Int32.ofNat j))]) (st' := [.inl (Int32.ofNat j)]) (m' := (f, l)) rfl rfl (fl_bo rfl) rfl ?_
  refine fl_Tq.stp (pc' := 25) (lv' := [some (.inr (.inr (.inl (76, 277)))), some (.inl a), some (.inl b), some (.inl c), some (.inl (Int32.ofNat j))]) (st' := [.inl b, .inl (Int32.ofNat j)]) (m' := (f, l)) rfl rfl (fl_bo rfl) rfl ?_
  by_cases h1 : (Int32.ofNat j).toInt < b.toInt
  · refine fl_Tq.jf rfl (fl_bo rfl) (c2_ge_f h1) rfl ?_
    refine fl_Tq.stp (pc' := 29) (lv' := [some (.inr (.inr (.inl (76, 277)))), some (.inl a), some (.inl b), some (.inl c), some (.inl (Int32.ofNat j))]) (st' := [.inl c]) (m' := (f, l)) rfl rfl (fl_bo rfl) rfl ?_
    by_cases h2 : c.toInt = 0
    · refine fl_Tq.zt rfl (fl_bo rfl) (c1_eq_t h2) rfl ?_
      refine fl_Tq.stp (pc' := 62) (lv' := [some (.inr (.inr (.inl (76, 277)))), some (.inl a), some (.inl b), some (.inl c), some (.inl (Int32.ofNat j))]) (st' := [.inr (.inr (.inl (76, 277)))]) (m' := (f, l)) rfl rfl (fl_bo rfl) rfl ?_
      refine fl_Tq.cI (c := (0 : Int32)) rfl (by decide +kernel) (fl_bo rfl) ?_
      refine fl_Tq.pfV (k := 7) (m' := (fl_row f 277 (upd (f 277) 7 (0 : Int32)), l)) rfl (fl_bo rfl) rfl (t2_upn rfl) ?_
      refine fl_Tq.stp (pc' := 67) (lv' := [some (.inr (.inr (.inl (76, 277)))), some (.inl a), some (.inl b), some (.inl c), some (.inl (Int32.ofNat j))]) (st' := [.inr (.inr (.inl (76, 277)))]) (m' := (fl_row f 277 (upd (f 277) 7 (0 : Int32)), l)) rfl rfl (fl_bo rfl) rfl ?_
      exact k h1 h2
    · refine fl_Tq.zf rfl (fl_bo rfl) (c1_eq_f h2) rfl ?_
      refine fl_Tq.stp (pc' := 33) (lv' := [some (.inr (.inr (.inl (76, 277)))), some (.inl a), some (.inl b), some (.inl c), some (.inl (Int32.ofNat j))]) (st' := [.inr (.inr (.inl (76, 277)))]) (m' := (f, l)) rfl rfl (fl_bo rfl) rfl ?_
      exact k1 h1 h2
  · refine fl_Tq.jt rfl (fl_bo rfl) (c2_ge_t h1) rfl ?_
    refine fl_Tq.stp (pc' := 62) (lv' := [some (.inr (.inr (.inl (76, 277)))), some (.inl a), some (.inl b), some (.inl c), some (.inl (Int32.ofNat j))]) (st' := [.inr (.inr (.inl (76, 277)))]) (m' := (f, l)) rfl rfl (fl_bo rfl) rfl ?_
    refine fl_Tq.cI (c := (0 : Int32)) rfl (by decide +kernel) (fl_bo rfl) ?_
    refine fl_Tq.pfV (k := 7) (m' := (fl_row f 277 (upd (f 277) 7 (0 : Int32)), l)) rfl (fl_bo rfl) rfl (t2_upn rfl) ?_
    refine fl_Tq.stp (pc' := 67) (lv' := [some (.inr (.inr (.inl (76, 277)))), some (.inl a), some (.inl b), some (.inl c), some (.inl (Int32.ofNat j))]) (st' := [.inr (.inr (.inl (76, 277)))]) (m' := (fl_row f 277 (upd (f 277) 7 (0 : Int32)), l)) rfl rfl (fl_bo rfl) rfl ?_
    exact k2 h1
noncomputable def z315_D_j36_0 (f : t2_F) (a b c z : Int32) (j : Nat) : Int32 := if z.toInt = 0 then (if (f 280 5).toInt = a.toInt then (1 : Int32) else (0 : Int32)) else (0 : Int32)
theorem z315_D {L : Nat} {xs : Nat → Int32} {f : t2_F} {l : t2_L} {Q : Option fl_V → fl_M → Prop} {a b c z : Int32} {j : Nat}  (k : fl_Tq (pw_P L xs) 315 22 [some (.inr (.inr (.inl (76, 277)))), some (.inl a), some (.inl b), some (.inl (z315_D_j36_0 f a b c z j)), some (.inl ((Int32.ofNat j) + (1 : Int32)))] [] (f, l) Q) : fl_Tq (pw_P L xs) 315 36 [some (.inr (.inr (.inl (76, 277)))), some (.inl a), some (.inl b), some (.inl c), some (.inl (Int32.ofNat j))] [.inl z] (f, l) Q := by
  have hj183 : fl_Tq (pw_P L xs) 315 54 [some (.inr (.inr (.inl (76, 277)))), some (.inl a), some (.inl b), some (.inl c), some (.inl (Int32.ofNat j))] [.inl (z315_D_j36_0 f a b c z j)] (f, l) Q → fl_Tq (pw_P L xs) 315 36 [some (.inr (.inr (.inl (76, 277)))), some (.inl a), some (.inl b), some (.inl c), some (.inl (Int32.ofNat j))] [.inl z] (f, l) Q := by
    intro hJ
    by_cases h1 : z.toInt = 0
    · refine fl_Tq.zf rfl (fl_bo rfl) (c1_ne_f h1) rfl ?_
      refine fl_Tq.stp (pc' := 40) (lv' := [some (.inr (.inr (.inl (76, 277)))), some (.inl a), some (.inl b), some (.inl c), some (.inl (Int32.ofNat j))]) (st' := [.inr (.inr (.inl (76, 277)))]) (m' := (f, l)) rfl rfl (fl_bo rfl) rfl ?_
      refine fl_Tq.stp (pc' := 43) (lv' := [some (.inr (.inr (.inl (76, 277)))), some (.inl a), some (.inl b), some (.inl c), some (.inl (Int32.ofNat j))]) (st' := [.inr (.inr (.inl (79, 280)))]) (m' := (f, l)) rfl rfl (fl_bo rfl) rfl ?_
      refine fl_Tq.cI (c := (5 : Int32)) rfl (by decide +kernel) (fl_bo rfl) ?_
      refine fl_Tq.ldV (p := 280) (τ := 79) (n := 29780) (z := (0, 0, 0)) (k := 5) (v := f 280 5) rfl (fl_bo rfl) rfl (by decide +kernel) (by decide) rfl ?_
      refine fl_Tq.stp (pc' := 46) (lv' := [some (.inr (.inr (.inl (76, 277)))), some (.inl a), some (.inl b), some (.inl c), some (.inl (Int32.ofNat j))]) (st' := [.inl a, .inl (f 280 5)]) (m' := (f, l)) rfl rfl (fl_bo rfl) rfl ?_
      by_cases h2 : (f 280 5).toInt = a.toInt
      · refine fl_Tq.jf rfl (fl_bo rfl) (c2_ne_f h2) rfl ?_
        refine fl_Tq.cI (c := (1 : Int32)) rfl (by decide +kernel) (fl_bo rfl) ?_
        refine fl_Tq.stp (pc' := 54) (lv' := [some (.inr (.inr (.inl (76, 277)))), some (.inl a), some (.inl b), some (.inl c), some (.inl (Int32.ofNat j))]) (st' := [.inl (1 : Int32)]) (m' := (f, l)) rfl rfl (fl_bo rfl) rfl ?_
        have e0 : (z315_D_j36_0 f a b c z j) = (1 : Int32) := by simp only [z315_D_j36_0, if_pos h1, if_pos h2]
        rw [e0] at hJ
        exact hJ
      · refine fl_Tq.jt rfl (fl_bo rfl) (c2_ne_t h2) rfl ?_
        refine fl_Tq.cI (c := (0 : Int32)) rfl (by decide +kernel) (fl_bo rfl) ?_
        have e0 : (z315_D_j36_0 f a b c z j) = (0 : Int32) := by simp only [z315_D_j36_0, if_pos h1, if_neg h2]
        rw [e0] at hJ
        exact hJ
    · refine fl_Tq.zt rfl (fl_bo rfl) (c1_ne_t h1) rfl ?_
      refine fl_Tq.cI (c := (0 : Int32)) rfl (by decide +kernel) (fl_bo rfl) ?_
      have e0 : (z315_D_j36_0 f a b c z j) = (0 : Int32) := by simp only [z315_D_j36_0, if_neg h1]
      rw [e0] at hJ
      exact hJ
  refine hj183 ?_
  show fl_Tq _ 315 54 [some (.inr (.inr (.inl (76, 277)))), some (.inl a), some (.inl b), some (.inl c), some (.inl (Int32.ofNat j))] [.inl (z315_D_j36_0 f a b c z j)] (f, l) _
  refine fl_Tq.stp (pc' := 55) (lv' := [some (.inr (.inr (.inl (76, 277)))), some (.inl a), some (.inl b), some (.inl (z315_D_j36_0 f a b c z j)), some (.inl (Int32.ofNat j))]) (st' := []) (m' := (f, l)) rfl rfl (fl_bo rfl) rfl ?_
  refine fl_Tq.stp (pc' := 58) (lv' := [some (.inr (.inr (.inl (76, 277)))), some (.inl a), some (.inl b), some (.inl (z315_D_j36_0 f a b c z j)), some (.inl ((Int32.ofNat j) + (1 : Int32)))]) (st' := []) (m' := (f, l)) rfl rfl (fl_bo rfl) rfl ?_
  refine fl_Tq.stp (pc' := 22) (lv' := [some (.inr (.inr (.inl (76, 277)))), some (.inl a), some (.inl b), some (.inl (z315_D_j36_0 f a b c z j)), some (.inl ((Int32.ofNat j) + (1 : Int32)))]) (st' := []) (m' := (f, l)) rfl rfl (fl_bo rfl) rfl ?_
  exact k
theorem z316_A {L : Nat} {xs : Nat → Int32} {f : t2_F} {l : t2_L} {Q : Option fl_V → fl_M → Prop} {a b : Int32}  (k : ((r_isIn_v a (0 : Int32) (1 : Int32)).toInt = 0) → Q (some (.inl (-1 : Int32))) (f, l)) (k1 : (¬ ((r_isIn_v a (0 : Int32) (1 : Int32)).toInt = 0)) → fl_Tq (pw_P L xs) 316 13 [some (.inr (.inr (.inl (76, 277)))), some (.inl a), some (.inl b), none] [.inl (60 : Int32), .inl b, .inr (.inr (.inl (76, 277)))] (f, l) Q) : fl_Tq (pw_P L xs) 316 0 [some (.inr (.inr (.inl (76, 277)))), some (.inl a), some (.inl b), none] [] (f, l) Q := by
  refine fl_Tq.stp (pc' := 1) (lv' := [some (.inr (.inr (.inl (76, 277)))), some (.inl a), some (.inl b), none]) (st' := [.inl a]) (m' := (f, l)) rfl rfl (fl_bo rfl) rfl ?_
  refine fl_Tq.cI (c := (0 : Int32)) rfl (by decide +kernel) (fl_bo rfl) ?_
  refine fl_Tq.cI (c := (1 : Int32)) rfl (by decide +kernel) (fl_bo rfl) ?_
  refine fl_Tq.cal rfl rfl (fl_bo rfl) rfl ?_
  refine r_isIn_q  ?_
  show fl_Tq _ 316 6 [some (.inr (.inr (.inl (76, 277)))), some (.inl a), some (.inl b), none] [.inl (r_isIn_v a (0 : Int32) (1 : Int32))] (f, l) _
  by_cases h1 : (r_isIn_v a (0 : Int32) (1 : Int32)).toInt = 0
  · refine fl_Tq.zt rfl (fl_bo rfl) (c1_eq_t h1) rfl ?_
    refine fl_Tq.cI (c := (-1 : Int32)) rfl (by decide +kernel) (fl_bo rfl) ?_
    exact fl_Tq.ret rfl rfl rfl (k h1)
  · refine fl_Tq.zf rfl (fl_bo rfl) (c1_eq_f h1) rfl ?_
    refine fl_Tq.stp (pc' := 10) (lv' := [some (.inr (.inr (.inl (76, 277)))), some (.inl a), some (.inl b), none]) (st' := [.inr (.inr (.inl (76, 277)))]) (m' := (f, l)) rfl rfl (fl_bo rfl) rfl ?_
    refine fl_Tq.stp (pc' := 11) (lv' := [some (.inr (.inr (.inl (76, 277)))), some (.inl a), some (.inl b), none]) (st' := [.inl b, .inr (.inr (.inl (76, 277)))]) (m' := (f, l)) rfl rfl (fl_bo rfl) rfl ?_
    refine fl_Tq.cB (c := (60 : Int32)) rfl (by decide +kernel) (fl_bo rfl) ?_
    exact k1 h1
theorem z316_B {L : Nat} {xs : Nat → Int32} {f : t2_F} {l : t2_L} {Q : Option fl_V → fl_M → Prop} {a b z : Int32}  (k : (z.toInt = 0) → Q (some (.inl (-1 : Int32))) (f, l)) (k1 : (¬ (z.toInt = 0)) → ((f 280 3).toInt = (2 : Int32).toInt) → fl_Tq (pw_P L xs) 316 43 [some (.inr (.inr (.inl (76, 277)))), some (.inl a), some (.inl b), some (.inl (((f 280 38) / (100 : Int32)) * (100 : Int32)))] [] (f, l) Q) (k2 : (¬ (z.toInt = 0)) → (¬ ((f 280 3).toInt = (2 : Int32).toInt)) → Q (some (.inl (-1 : Int32))) (f, l)) : fl_Tq (pw_P L xs) 316 16 [some (.inr (.inr (.inl (76, 277)))), some (.inl a), some (.inl b), none] [.inl z] (f, l) Q := by
  by_cases h1 : z.toInt = 0
  · refine fl_Tq.zt rfl (fl_bo rfl) (c1_eq_t h1) rfl ?_
    refine fl_Tq.cI (c := (-1 : Int32)) rfl (by decide +kernel) (fl_bo rfl) ?_
    exact fl_Tq.ret rfl rfl rfl (k h1)
  · refine fl_Tq.zf rfl (fl_bo rfl) (c1_eq_f h1) rfl ?_
    refine fl_Tq.stp (pc' := 20) (lv' := [some (.inr (.inr (.inl (76, 277)))), some (.inl a), some (.inl b), none]) (st' := [.inr (.inr (.inl (76, 277)))]) (m' := (f, l)) rfl rfl (fl_bo rfl) rfl ?_
    refine fl_Tq.stp (pc' := 23) (lv' := [some (.inr (.inr (.inl (76, 277)))), some (.inl a), some (.inl b), none]) (st' := [.inr (.inr (.inl (79, 280)))]) (m' := (f, l)) rfl rfl (fl_bo rfl) rfl ?_
    refine fl_Tq.cI (c := (3 : Int32)) rfl (by decide +kernel) (fl_bo rfl) ?_
    refine fl_Tq.ldV (p := 280) (τ := 79) (n := 29780) (z := (0, 0, 0)) (k := 3) (v := f 280 3) rfl (fl_bo rfl) rfl (by decide +kernel) (by decide) rfl ?_
    refine fl_Tq.cI (c := (2 : Int32)) rfl (by decide +kernel) (fl_bo rfl) ?_
    by_cases h2 : (f 280 3).toInt = (2 : Int32).toInt
    · refine fl_Tq.jt rfl (fl_bo rfl) (c2_eq_t h2) rfl ?_
      refine fl_Tq.stp (pc' := 32) (lv' := [some (.inr (.inr (.inl (76, 277)))), some (.inl a), some (.inl b), none]) (st' := [.inr (.inr (.inl (76, 277)))]) (m' := (f, l)) rfl rfl (fl_bo rfl) rfl ?_
      refine fl_Tq.cI (c := (4 : Int32)) rfl (by decide +kernel) (fl_bo rfl) ?_
      refine fl_Tq.cal rfl rfl (fl_bo rfl) rfl ?_
      refine t2_its (W := 4) (v := f 280 38) (by decide +kernel) (by decide) rfl ?_
      show fl_Tq _ 316 36 [some (.inr (.inr (.inl (76, 277)))), some (.inl a), some (.inl b), none] [.inl (f 280 38)] (f, l) _
      refine fl_Tq.cB (c := (100 : Int32)) rfl (by decide +kernel) (fl_bo rfl) ?_
      refine fl_Tq.dv rfl (fl_bo rfl) (by decide +kernel) ?_
      refine fl_Tq.cB (c := (100 : Int32)) rfl (by decide +kernel) (fl_bo rfl) ?_
      refine fl_Tq.stp (pc' := 42) (lv' := [some (.inr (.inr (.inl (76, 277)))), some (.inl a), some (.inl b), none]) (st' := [.inl (((f 280 38) / (100 : Int32)) * (100 : Int32))]) (m' := (f, l)) rfl rfl (fl_bo rfl) rfl ?_
      refine fl_Tq.stp (pc' := 43) (lv' := [some (.inr (.inr (.inl (76, 277)))), some (.inl a), some (.inl b), some (.inl (((f 280 38) / (100 : Int32)) * (100 : Int32)))]) (st' := []) (m' := (f, l)) rfl rfl (fl_bo rfl) rfl ?_
      exact k1 h1 h2
    · refine fl_Tq.jf rfl (fl_bo rfl) (c2_eq_f h2) rfl ?_
      refine fl_Tq.cI (c := (-1 : Int32)) rfl (by decide +kernel) (fl_bo rfl) ?_
      exact fl_Tq.ret rfl rfl rfl (k2 h1 h2)
theorem z316_C {L : Nat} {xs : Nat → Int32} {f : t2_F} {l : t2_L} {Q : Option fl_V → fl_M → Prop} {a b c : Int32}  (k : (0 < c.toInt) → fl_Tq (pw_P L xs) 316 59 [some (.inr (.inr (.inl (76, 277)))), some (.inl a), some (.inl b), some (.inl c)] [.inl b, .inl (if a.toInt = 0 then c else -c), .inr (.inr (.inl (76, 277)))] (f, l) Q) (k1 : (¬ (0 < c.toInt)) → Q (some (.inl (0 : Int32))) (f, l)) : fl_Tq (pw_P L xs) 316 43 [some (.inr (.inr (.inl (76, 277)))), some (.inl a), some (.inl b), some (.inl c)] [] (f, l) Q := by
  refine fl_Tq.stp (pc' := 44) (lv' := [some (.inr (.inr (.inl (76, 277)))), some (.inl a), some (.inl b), some (.inl c)]) (st' := [.inl c]) (m' := (f, l)) rfl rfl (fl_bo rfl) rfl ?_
  by_cases h1 : 0 < c.toInt
  · refine fl_Tq.zf rfl (fl_bo rfl) (c1_le_f h1) rfl ?_
    refine fl_Tq.stp (pc' := 48) (lv' := [some (.inr (.inr (.inl (76, 277)))), some (.inl a), some (.inl b), some (.inl c)]) (st' := [.inr (.inr (.inl (76, 277)))]) (m' := (f, l)) rfl rfl (fl_bo rfl) rfl ?_
    refine fl_Tq.stp (pc' := 49) (lv' := [some (.inr (.inr (.inl (76, 277)))), some (.inl a), some (.inl b), some (.inl c)]) (st' := [.inl a, .inr (.inr (.inl (76, 277)))]) (m' := (f, l)) rfl rfl (fl_bo rfl) rfl ?_
    have hj184 : fl_Tq (pw_P L xs) 316 58 [some (.inr (.inr (.inl (76, 277)))), some (.inl a), some (.inl b), some (.inl c)] [.inl (if a.toInt = 0 then c else -c), .inr (.inr (.inl (76, 277)))] (f, l) Q → fl_Tq (pw_P L xs) 316 49 [some (.inr (.inr (.inl (76, 277)))), some (.inl a), some (.inl b), some (.inl c)] [.inl a, .inr (.inr (.inl (76, 277)))] (f, l) Q := by
      intro hJ
      by_cases h2 : a.toInt = 0
      · refine fl_Tq.zf rfl (fl_bo rfl) (c1_ne_f h2) rfl ?_
        refine fl_Tq.stp (pc' := 53) (lv' := [some (.inr (.inr (.inl (76, 277)))), some (.inl a), some (.inl b), some (.inl c)]) (st' := [.inl c, .inr (.inr (.inl (76, 277)))]) (m' := (f, l)) rfl rfl (fl_bo rfl) rfl ?_
        refine fl_Tq.stp (pc' := 58) (lv' := [some (.inr (.inr (.inl (76, 277)))), some (.inl a), some (.inl b), some (.inl c)]) (st' := [.inl c, .inr (.inr (.inl (76, 277)))]) (m' := (f, l)) rfl rfl (fl_bo rfl) rfl ?_
        have e0 : (if a.toInt = 0 then c else -c) = c := by simp only [if_pos h2]
        rw [e0] at hJ
        exact hJ
      · refine fl_Tq.zt rfl (fl_bo rfl) (c1_ne_t h2) rfl ?_
        refine fl_Tq.stp (pc' := 57) (lv' := [some (.inr (.inr (.inl (76, 277)))), some (.inl a), some (.inl b), some (.inl c)]) (st' := [.inl c, .inr (.inr (.inl (76, 277)))]) (m' := (f, l)) rfl rfl (fl_bo rfl) rfl ?_
        refine fl_Tq.stp (pc' := 58) (lv' := [some (.inr (.inr (.inl (76, 277)))), some (.inl a), some (.inl b), some (.inl c)]) (st' := [.inl (-c), .inr (.inr (.inl (76, 277)))]) (m' := (f, l)) rfl rfl (fl_bo rfl) rfl ?_
        have e0 : (if a.toInt = 0 then c else -c) = -c := by simp only [if_neg h2]
        rw [e0] at hJ
        exact hJ
    refine hj184 ?_
    show fl_Tq _ 316 58 [some (.inr (.inr (.inl (76, 277)))), some (.inl a), some (.inl b), some (.inl c)] [.inl (if a.toInt = 0 then c else -c), .inr (.inr (.inl (76, 277)))] (f, l) _
    refine fl_Tq.stp (pc' := 59) (lv' := [some (.inr (.inr (.inl (76, 277)))), some (.inl a), some (.inl b), some (.inl c)]) (st' := [.inl b, .inl (if a.toInt = 0 then c else -c), .inr (.inr (.inl (76, 277)))]) (m' := (f, l)) rfl rfl (fl_bo rfl) rfl ?_
    exact k h1
  · refine fl_Tq.zt rfl (fl_bo rfl) (c1_le_t h1) rfl ?_
    refine fl_Tq.cI (c := (0 : Int32)) rfl (by decide +kernel) (fl_bo rfl) ?_
    exact fl_Tq.ret rfl rfl rfl (k1 h1)
theorem z316_D {L : Nat} {xs : Nat → Int32} {f : t2_F} {l : t2_L} {Q : Option fl_V → fl_M → Prop} {a b c z : Int32}  (k : (z.toInt = 0) → fl_Tq (pw_P L xs) 316 43 [some (.inr (.inr (.inl (76, 277)))), some (.inl a), some (.inl b), some (.inl (c + (-100 : Int32)))] [] (f, l) Q) (k1 : (¬ (z.toInt = 0)) → Q (some (.inl (if a.toInt = 0 then c else -c))) (f, l)) : fl_Tq (pw_P L xs) 316 62 [some (.inr (.inr (.inl (76, 277)))), some (.inl a), some (.inl b), some (.inl c)] [.inl z] (f, l) Q := by
  by_cases h1 : z.toInt = 0
  · refine fl_Tq.zt rfl (fl_bo rfl) (c1_eq_t h1) rfl ?_
    refine fl_Tq.stp (pc' := 79) (lv' := [some (.inr (.inr (.inl (76, 277)))), some (.inl a), some (.inl b), some (.inl (c + (-100 : Int32)))]) (st' := []) (m' := (f, l)) rfl rfl (fl_bo rfl) rfl ?_
    refine fl_Tq.stp (pc' := 43) (lv' := [some (.inr (.inr (.inl (76, 277)))), some (.inl a), some (.inl b), some (.inl (c + (-100 : Int32)))]) (st' := []) (m' := (f, l)) rfl rfl (fl_bo rfl) rfl ?_
    exact k h1
  · refine fl_Tq.zf rfl (fl_bo rfl) (c1_eq_f h1) rfl ?_
    refine fl_Tq.stp (pc' := 66) (lv' := [some (.inr (.inr (.inl (76, 277)))), some (.inl a), some (.inl b), some (.inl c)]) (st' := [.inl a]) (m' := (f, l)) rfl rfl (fl_bo rfl) rfl ?_
    have hj185 : fl_Tq (pw_P L xs) 316 75 [some (.inr (.inr (.inl (76, 277)))), some (.inl a), some (.inl b), some (.inl c)] [.inl (if a.toInt = 0 then c else -c)] (f, l) Q → fl_Tq (pw_P L xs) 316 66 [some (.inr (.inr (.inl (76, 277)))), some (.inl a), some (.inl b), some (.inl c)] [.inl a] (f, l) Q := by
      intro hJ
      by_cases h2 : a.toInt = 0
      · refine fl_Tq.zf rfl (fl_bo rfl) (c1_ne_f h2) rfl ?_
        refine fl_Tq.stp (pc' := 70) (lv' := [some (.inr (.inr (.inl (76, 277)))), some (.inl a), some (.inl b), some (.inl c)]) (st' := [.inl c]) (m' := (f, l)) rfl rfl (fl_bo rfl) rfl ?_
        refine fl_Tq.stp (pc' := 75) (lv' := [some (.inr (.inr (.inl (76, 277)))), some (.inl a), some (.inl b), some (.inl c)]) (st' := [.inl c]) (m' := (f, l)) rfl rfl (fl_bo rfl) rfl ?_
        have e0 : (if a.toInt = 0 then c else -c) = c := by simp only [if_pos h2]
        rw [e0] at hJ
        exact hJ
      · refine fl_Tq.zt rfl (fl_bo rfl) (c1_ne_t h2) rfl ?_
        refine fl_Tq.stp (pc' := 74) (lv' := [some (.inr (.inr (.inl (76, 277)))), some (.inl a), some (.inl b), some (.inl c)]) (st' := [.inl c]) (m' := (f, l)) rfl rfl (fl_bo rfl) rfl ?_
        refine fl_Tq.stp (pc' := 75) (lv' := [some (.inr (.inr (.inl (76, 277)))), some (.inl a), some (.inl b), some (.inl c)]) (st' := [.inl (-c)]) (m' := (f, l)) rfl rfl (fl_bo rfl) rfl ?_
        have e0 : (if a.toInt = 0 then c else -c) = -c := by simp only [if_neg h2]
        rw [e0] at hJ
        exact hJ
    refine hj185 ?_
    show fl_Tq _ 316 75 [some (.inr (.inr (.inl (76, 277)))), some (.inl a), some (.inl b), some (.inl c)] [.inl (if a.toInt = 0 then c else -c)] (f, l) _
    exact fl_Tq.ret rfl rfl rfl (k1 h1)
theorem z317_A {L : Nat} {xs : Nat → Int32} {f : t2_F} {l : t2_L} {Q : Option fl_V → fl_M → Prop} {a : Int32}  (k : ((r_isIn_v a (1 : Int32) (99999 : Int32)).toInt = 0) → Q (some (.inl (-1 : Int32))) (f, l)) (k1 : (¬ ((r_isIn_v a (1 : Int32) (99999 : Int32)).toInt = 0)) → fl_Tq (pw_P L xs) 317 13 [some (.inr (.inr (.inl (76, 277)))), some (.inl a), none, none, none] [.inr (.inr (.inl (76, 277)))] (f, l) Q) : fl_Tq (pw_P L xs) 317 0 [some (.inr (.inr (.inl (76, 277)))), some (.inl a), none, none, none] [] (f, l) Q := by
  refine fl_Tq.stp (pc' := 1) (lv' := [some (.inr (.inr (.inl (76, 277)))), some (.inl a), none, none, none]) (st' := [.inl a]) (m' := (f, l)) rfl rfl (fl_bo rfl) rfl ?_
  refine fl_Tq.cI (c := (1 : Int32)) rfl (by decide +kernel) (fl_bo rfl) ?_
  refine fl_Tq.stp (pc' := 4) (lv' := [some (.inr (.inr (.inl (76, 277)))), some (.inl a), none, none, none]) (st' := [.inl (99999 : Int32), .inl (1 : Int32), .inl a]) (m' := (f, l)) rfl rfl (fl_bo rfl) rfl ?_
  refine fl_Tq.cal rfl rfl (fl_bo rfl) rfl ?_
  refine r_isIn_q  ?_
  show fl_Tq _ 317 7 [some (.inr (.inr (.inl (76, 277)))), some (.inl a), none, none, none] [.inl (r_isIn_v a (1 : Int32) (99999 : Int32))] (f, l) _
  by_cases h1 : (r_isIn_v a (1 : Int32) (99999 : Int32)).toInt = 0
  · refine fl_Tq.zf rfl (fl_bo rfl) (c1_ne_f h1) rfl ?_
    refine fl_Tq.cI (c := (-1 : Int32)) rfl (by decide +kernel) (fl_bo rfl) ?_
    exact fl_Tq.ret rfl rfl rfl (k h1)
  · refine fl_Tq.zt rfl (fl_bo rfl) (c1_ne_t h1) rfl ?_
    refine fl_Tq.stp (pc' := 13) (lv' := [some (.inr (.inr (.inl (76, 277)))), some (.inl a), none, none, none]) (st' := [.inr (.inr (.inl (76, 277)))]) (m' := (f, l)) rfl rfl (fl_bo rfl) rfl ?_
    exact k1 h1
theorem z317_B {L : Nat} {xs : Nat → Int32} {f : t2_F} {l : t2_L} {Q : Option fl_V → fl_M → Prop} {a : Int32}  (k : fl_Tq (pw_P L xs) 317 37 [some (.inr (.inr (.inl (76, 277)))), some (.inl a), some (.inl (0 : Int32)), some (.inl (0 : Int32)), some (.inl (0 : Int32))] [] (fl_row (fl_row f 277 (upd (f 277) 7 (1 : Int32))) 280 (upd (f 280) 54 (-a)), l) Q) : fl_Tq (pw_P L xs) 317 16 [some (.inr (.inr (.inl (76, 277)))), some (.inl a), none, none, none] [] (f, l) Q := by
  refine fl_Tq.stp (pc' := 17) (lv' := [some (.inr (.inr (.inl (76, 277)))), some (.inl a), none, none, none]) (st' := [.inr (.inr (.inl (76, 277)))]) (m' := (f, l)) rfl rfl (fl_bo rfl) rfl ?_
  refine fl_Tq.cI (c := (1 : Int32)) rfl (by decide +kernel) (fl_bo rfl) ?_
  refine fl_Tq.pfV (k := 7) (m' := (fl_row f 277 (upd (f 277) 7 (1 : Int32)), l)) rfl (fl_bo rfl) rfl (t2_upn rfl) ?_
  refine fl_Tq.stp (pc' := 22) (lv' := [some (.inr (.inr (.inl (76, 277)))), some (.inl a), none, none, none]) (st' := [.inr (.inr (.inl (76, 277)))]) (m' := (fl_row f 277 (upd (f 277) 7 (1 : Int32)), l)) rfl rfl (fl_bo rfl) rfl ?_
  refine fl_Tq.stp (pc' := 25) (lv' := [some (.inr (.inr (.inl (76, 277)))), some (.inl a), none, none, none]) (st' := [.inr (.inr (.inl (79, 280)))]) (m' := (fl_row f 277 (upd (f 277) 7 (1 : Int32)), l)) rfl rfl (fl_bo rfl) rfl ?_
  refine fl_Tq.cB (c := (54 : Int32)) rfl (by decide +kernel) (fl_bo rfl) ?_
  refine fl_Tq.stp (pc' := 28) (lv' := [some (.inr (.inr (.inl (76, 277)))), some (.inl a), none, none, none]) (st' := [.inl a, .inl (54 : Int32), .inr (.inr (.inl (79, 280)))]) (m' := (fl_row f 277 (upd (f 277) 7 (1 : Int32)), l)) rfl rfl (fl_bo rfl) rfl ?_
  refine fl_Tq.stp (pc' := 29) (lv' := [some (.inr (.inr (.inl (76, 277)))), some (.inl a), none, none, none]) (st' := [.inl (-a), .inl (54 : Int32), .inr (.inr (.inl (79, 280)))]) (m' := (fl_row f 277 (upd (f 277) 7 (1 : Int32)), l)) rfl rfl (fl_bo rfl) rfl ?_
  refine fl_Tq.svV (p := 280) (τ := 79) (n := 29780) (z := (0, 0, 0)) (k := 54) (m' := (fl_row (fl_row f 277 (upd (f 277) 7 (1 : Int32))) 280 (upd (f 280) 54 (-a)), l)) rfl (fl_bo rfl) rfl (by decide +kernel) (by decide) (t2_upn (by rw [fl_row_ne (by decide : 280 ≠ 277)])) ?_
  refine fl_Tq.cI (c := (0 : Int32)) rfl (by decide +kernel) (fl_bo rfl) ?_
  refine fl_Tq.stp (pc' := 32) (lv' := [some (.inr (.inr (.inl (76, 277)))), some (.inl a), some (.inl (0 : Int32)), none, none]) (st' := []) (m' := (fl_row (fl_row f 277 (upd (f 277) 7 (1 : Int32))) 280 (upd (f 280) 54 (-a)), l)) rfl rfl (fl_bo rfl) rfl ?_
  refine fl_Tq.cI (c := (0 : Int32)) rfl (by decide +kernel) (fl_bo rfl) ?_
  refine fl_Tq.stp (pc' := 34) (lv' := [some (.inr (.inr (.inl (76, 277)))), some (.inl a), some (.inl (0 : Int32)), some (.inl (0 : Int32)), none]) (st' := []) (m' := (fl_row (fl_row f 277 (upd (f 277) 7 (1 : Int32))) 280 (upd (f 280) 54 (-a)), l)) rfl rfl (fl_bo rfl) rfl ?_
  refine fl_Tq.cI (c := (0 : Int32)) rfl (by decide +kernel) (fl_bo rfl) ?_
  refine fl_Tq.stp (pc' := 37) (lv' := [some (.inr (.inr (.inl (76, 277)))), some (.inl a), some (.inl (0 : Int32)), some (.inl (0 : Int32)), some (.inl (0 : Int32))]) (st' := []) (m' := (fl_row (fl_row f 277 (upd (f 277) 7 (1 : Int32))) 280 (upd (f 280) 54 (-a)), l)) rfl rfl (fl_bo rfl) rfl ?_
  exact k
theorem z317_C {L : Nat} {xs : Nat → Int32} {f : t2_F} {l : t2_L} {Q : Option fl_V → fl_M → Prop} {a b c : Int32} {j : Nat}  (k : (c.toInt = 0) → ((Int32.ofNat j).toInt < (2000 : Int32).toInt) → ((f 280 7).toInt < (9999 : Int32).toInt) → fl_Tq (pw_P L xs) 317 64 [some (.inr (.inr (.inl (76, 277)))), some (.inl a), some (.inl (Int32.ofNat j)), some (.inl b), some (.inl c)] [.inr (.inr (.inl (76, 277))), .inl b] (f, l) Q) (k1 : (c.toInt = 0) → ((Int32.ofNat j).toInt < (2000 : Int32).toInt) → (¬ ((f 280 7).toInt < (9999 : Int32).toInt)) → fl_Tq (pw_P L xs) 317 99 [some (.inr (.inr (.inl (76, 277)))), some (.inl a), some (.inl (Int32.ofNat j)), some (.inl b), some (.inl c)] [.inr (.inr (.inl (76, 277)))] (fl_row f 277 (upd (f 277) 7 (0 : Int32)), l) Q) (k2 : (c.toInt = 0) → (¬ ((Int32.ofNat j).toInt < (2000 : Int32).toInt)) → fl_Tq (pw_P L xs) 317 99 [some (.inr (.inr (.inl (76, 277)))), some (.inl a), some (.inl (Int32.ofNat j)), some (.inl b), some (.inl c)] [.inr (.inr (.inl (76, 277)))] (fl_row f 277 (upd (f 277) 7 (0 : Int32)), l) Q) (k3 : (¬ (c.toInt = 0)) → fl_Tq (pw_P L xs) 317 99 [some (.inr (.inr (.inl (76, 277)))), some (.inl a), some (.inl (Int32.ofNat j)), some (.inl b), some (.inl c)] [.inr (.inr (.inl (76, 277)))] (fl_row f 277 (upd (f 277) 7 (0 : Int32)), l) Q) : fl_Tq (pw_P L xs) 317 37 [some (.inr (.inr (.inl (76, 277)))), some (.inl a), some (.inl (Int32.ofNat j)), some (.inl b), some (.inl c)] [] (f, l) Q := by
  refine fl_Tq.stp (pc' := 39) (lv' := [some (.inr (.inr (.inl (76, 277)))), some (.inl a), some (.inl (Int32.ofNat j)), some (.inl b), some (.inl c)]) (st' := [.inl c]) (m' := (f, l)) rfl rfl (fl_bo rfl) rfl ?_
  by_cases h1 : c.toInt = 0
  · refine fl_Tq.zf rfl (fl_bo rfl) (c1_ne_f h1) rfl ?_
    refine fl_Tq.stp (pc' := 43) (lv' := [some (.inr (.inr (.inl (76, 277)))), some (.inl a), some (.inl (Int32.ofNat j)), some (.inl b), some (.inl c)]) (st' := [.inl (Int32.ofNat j)]) (m' := (f, l)) rfl rfl (fl_bo rfl) rfl ?_
    refine fl_Tq.cS (c := (2000 : Int32)) rfl (by decide +kernel) (fl_bo rfl) ?_
    by_cases h2 : (Int32.ofNat j).toInt < (2000 : Int32).toInt
    · refine fl_Tq.jf rfl (fl_bo rfl) (c2_ge_f h2) rfl ?_
      refine fl_Tq.stp (pc' := 50) (lv' := [some (.inr (.inr (.inl (76, 277)))), some (.inl a), some (.inl (Int32.ofNat j)), some (.inl b), some (.inl c)]) (st' := [.inr (.inr (.inl (76, 277)))]) (m' := (f, l)) rfl rfl (fl_bo rfl) rfl ?_
      refine fl_Tq.stp (pc' := 53) (lv' := [some (.inr (.inr (.inl (76, 277)))), some (.inl a), some (.inl (Int32.ofNat j)), some (.inl b), some (.inl c)]) (st' := [.inr (.inr (.inl (79, 280)))]) (m' := (f, l)) rfl rfl (fl_bo rfl) rfl ?_
      refine fl_Tq.cB (c := (7 : Int32)) rfl (by decide +kernel) (fl_bo rfl) ?_
      refine fl_Tq.ldV (p := 280) (τ := 79) (n := 29780) (z := (0, 0, 0)) (k := 7) (v := f 280 7) rfl (fl_bo rfl) rfl (by decide +kernel) (by decide) rfl ?_
      refine fl_Tq.cS (c := (9999 : Int32)) rfl (by decide +kernel) (fl_bo rfl) ?_
      by_cases h3 : (f 280 7).toInt < (9999 : Int32).toInt
      · refine fl_Tq.jf rfl (fl_bo rfl) (c2_ge_f h3) rfl ?_
        refine fl_Tq.stp (pc' := 63) (lv' := [some (.inr (.inr (.inl (76, 277)))), some (.inl a), some (.inl (Int32.ofNat j)), some (.inl b), some (.inl c)]) (st' := [.inl b]) (m' := (f, l)) rfl rfl (fl_bo rfl) rfl ?_
        refine fl_Tq.stp (pc' := 64) (lv' := [some (.inr (.inr (.inl (76, 277)))), some (.inl a), some (.inl (Int32.ofNat j)), some (.inl b), some (.inl c)]) (st' := [.inr (.inr (.inl (76, 277))), .inl b]) (m' := (f, l)) rfl rfl (fl_bo rfl) rfl ?_
        exact k h1 h2 h3
      · refine fl_Tq.jt rfl (fl_bo rfl) (c2_ge_t h3) rfl ?_
        refine fl_Tq.stp (pc' := 94) (lv' := [some (.inr (.inr (.inl (76, 277)))), some (.inl a), some (.inl (Int32.ofNat j)), some (.inl b), some (.inl c)]) (st' := [.inr (.inr (.inl (76, 277)))]) (m' := (f, l)) rfl rfl (fl_bo rfl) rfl ?_
        refine fl_Tq.cI (c := (0 : Int32)) rfl (by decide +kernel) (fl_bo rfl) ?_
        refine fl_Tq.pfV (k := 7) (m' := (fl_row f 277 (upd (f 277) 7 (0 : Int32)), l)) rfl (fl_bo rfl) rfl (t2_upn rfl) ?_
        refine fl_Tq.stp (pc' := 99) (lv' := [some (.inr (.inr (.inl (76, 277)))), some (.inl a), some (.inl (Int32.ofNat j)), some (.inl b), some (.inl c)]) (st' := [.inr (.inr (.inl (76, 277)))]) (m' := (fl_row f 277 (upd (f 277) 7 (0 : Int32)), l)) rfl rfl (fl_bo rfl) rfl ?_
        exact k1 h1 h2 h3
    · refine fl_Tq.jt rfl (fl_bo rfl) (c2_ge_t h2) rfl ?_
      refine fl_Tq.stp (pc' := 94) (lv' := [some (.inr (.inr (.inl (76, 277)))), some (.inl a), some (.inl (Int32.ofNat j)), some (.inl b), some (.inl c)]) (st' := [.inr (.inr (.inl (76, 277)))]) (m' := (f, l)) rfl rfl (fl_bo rfl) rfl ?_
      refine fl_Tq.cI (c := (0 : Int32)) rfl (by decide +kernel) (fl_bo rfl) ?_
      refine fl_Tq.pfV (k := 7) (m' := (fl_row f 277 (upd (f 277) 7 (0 : Int32)), l)) rfl (fl_bo rfl) rfl (t2_upn rfl) ?_
      refine fl_Tq.stp (pc' := 99) (lv' := [some (.inr (.inr (.inl (76, 277)))), some (.inl a), some (.inl (Int32.ofNat j)), some (.inl b), some (.inl c)]) (st' := [.inr (.inr (.inl (76, 277)))]) (m' := (fl_row f 277 (upd (f 277) 7 (0 : Int32)), l)) rfl rfl (fl_bo rfl) rfl ?_
      exact k2 h1 h2
  · refine fl_Tq.zt rfl (fl_bo rfl) (c1_ne_t h1) rfl ?_
    refine fl_Tq.stp (pc' := 94) (lv' := [some (.inr (.inr (.inl (76, 277)))), some (.inl a), some (.inl (Int32.ofNat j)), some (.inl b), some (.inl c)]) (st' := [.inr (.inr (.inl (76, 277)))]) (m' := (f, l)) rfl rfl (fl_bo rfl) rfl ?_
    refine fl_Tq.cI (c := (0 : Int32)) rfl (by decide +kernel) (fl_bo rfl) ?_
    refine fl_Tq.pfV (k := 7) (m' := (fl_row f 277 (upd (f 277) 7 (0 : Int32)), l)) rfl (fl_bo rfl) rfl (t2_upn rfl) ?_
    refine fl_Tq.stp (pc' := 99) (lv' := [some (.inr (.inr (.inl (76, 277)))), some (.inl a), some (.inl (Int32.ofNat j)), some (.inl b), some (.inl c)]) (st' := [.inr (.inr (.inl (76, 277)))]) (m' := (fl_row f 277 (upd (f 277) 7 (0 : Int32)), l)) rfl rfl (fl_bo rfl) rfl ?_
    exact k3 h1
noncomputable def z317_D_j80_0 (f : t2_F) (a b c z : Int32) (j : Nat) : Int32 := if (f 280 5).toInt = (-a).toInt then (0 : Int32) else (1 : Int32)
theorem z317_D {L : Nat} {xs : Nat → Int32} {f : t2_F} {l : t2_L} {Q : Option fl_V → fl_M → Prop} {a b c z : Int32} {j : Nat}  (k : fl_Tq (pw_P L xs) 317 37 [some (.inr (.inr (.inl (76, 277)))), some (.inl a), some (.inl ((Int32.ofNat j) + (1 : Int32))), some (.inl (b + z)), some (.inl (z317_D_j80_0 f a b c z j))] [] (f, l) Q) : fl_Tq (pw_P L xs) 317 67 [some (.inr (.inr (.inl (76, 277)))), some (.inl a), some (.inl (Int32.ofNat j)), some (.inl b), some (.inl c)] [.inl z, .inl b] (f, l) Q := by
  refine fl_Tq.stp (pc' := 68) (lv' := [some (.inr (.inr (.inl (76, 277)))), some (.inl a), some (.inl (Int32.ofNat j)), some (.inl b), some (.inl c)]) (st' := [.inl (b + z)]) (m' := (f, l)) rfl rfl (fl_bo rfl) rfl ?_
  refine fl_Tq.stp (pc' := 69) (lv' := [some (.inr (.inr (.inl (76, 277)))), some (.inl a), some (.inl (Int32.ofNat j)), some (.inl (b + z)), some (.inl c)]) (st' := []) (m' := (f, l)) rfl rfl (fl_bo rfl) rfl ?_
  refine fl_Tq.stp (pc' := 72) (lv' := [some (.inr (.inr (.inl (76, 277)))), some (.inl a), some (.inl ((Int32.ofNat j) + (1 : Int32))), some (.inl (b + z)), some (.inl c)]) (st' := []) (m' := (f, l)) rfl rfl (fl_bo rfl) rfl ?_
  refine fl_Tq.stp (pc' := 73) (lv' := [some (.inr (.inr (.inl (76, 277)))), some (.inl a), some (.inl ((Int32.ofNat j) + (1 : Int32))), some (.inl (b + z)), some (.inl c)]) (st' := [.inr (.inr (.inl (76, 277)))]) (m' := (f, l)) rfl rfl (fl_bo rfl) rfl ?_
  refine fl_Tq.stp (pc' := 76) (lv' := [some (.inr (.inr (.inl (76, 277)))), some (.inl a), some (.inl ((Int32.ofNat j) + (1 : Int32))), some (.inl (b + z)), some (.inl c)]) (st' := [.inr (.inr (.inl (79, 280)))]) (m' := (f, l)) rfl rfl (fl_bo rfl) rfl ?_
  refine fl_Tq.cI (c := (5 : Int32)) rfl (by decide +kernel) (fl_bo rfl) ?_
  refine fl_Tq.ldV (p := 280) (τ := 79) (n := 29780) (z := (0, 0, 0)) (k := 5) (v := f 280 5) rfl (fl_bo rfl) rfl (by decide +kernel) (by decide) rfl ?_
  refine fl_Tq.stp (pc' := 79) (lv' := [some (.inr (.inr (.inl (76, 277)))), some (.inl a), some (.inl ((Int32.ofNat j) + (1 : Int32))), some (.inl (b + z)), some (.inl c)]) (st' := [.inl a, .inl (f 280 5)]) (m' := (f, l)) rfl rfl (fl_bo rfl) rfl ?_
  refine fl_Tq.stp (pc' := 80) (lv' := [some (.inr (.inr (.inl (76, 277)))), some (.inl a), some (.inl ((Int32.ofNat j) + (1 : Int32))), some (.inl (b + z)), some (.inl c)]) (st' := [.inl (-a), .inl (f 280 5)]) (m' := (f, l)) rfl rfl (fl_bo rfl) rfl ?_
  have hj186 : fl_Tq (pw_P L xs) 317 88 [some (.inr (.inr (.inl (76, 277)))), some (.inl a), some (.inl ((Int32.ofNat j) + (1 : Int32))), some (.inl (b + z)), some (.inl c)] [.inl (z317_D_j80_0 f a b c z j)] (f, l) Q → fl_Tq (pw_P L xs) 317 80 [some (.inr (.inr (.inl (76, 277)))), some (.inl a), some (.inl ((Int32.ofNat j) + (1 : Int32))), some (.inl (b + z)), some (.inl c)] [.inl (-a), .inl (f 280 5)] (f, l) Q := by
    intro hJ
    by_cases h1 : (f 280 5).toInt = (-a).toInt
    · refine fl_Tq.jt rfl (fl_bo rfl) (c2_eq_t h1) rfl ?_
      refine fl_Tq.cI (c := (0 : Int32)) rfl (by decide +kernel) (fl_bo rfl) ?_
      have e0 : (z317_D_j80_0 f a b c z j) = (0 : Int32) := by simp only [z317_D_j80_0, if_pos h1]
      rw [e0] at hJ
      exact hJ
    · refine fl_Tq.jf rfl (fl_bo rfl) (c2_eq_f h1) rfl ?_
      refine fl_Tq.cI (c := (1 : Int32)) rfl (by decide +kernel) (fl_bo rfl) ?_
      refine fl_Tq.stp (pc' := 88) (lv' := [some (.inr (.inr (.inl (76, 277)))), some (.inl a), some (.inl ((Int32.ofNat j) + (1 : Int32))), some (.inl (b + z)), some (.inl c)]) (st' := [.inl (1 : Int32)]) (m' := (f, l)) rfl rfl (fl_bo rfl) rfl ?_
      have e0 : (z317_D_j80_0 f a b c z j) = (1 : Int32) := by simp only [z317_D_j80_0, if_neg h1]
      rw [e0] at hJ
      exact hJ
  refine hj186 ?_
  show fl_Tq _ 317 88 [some (.inr (.inr (.inl (76, 277)))), some (.inl a), some (.inl ((Int32.ofNat j) + (1 : Int32))), some (.inl (b + z)), some (.inl c)] [.inl (z317_D_j80_0 f a b c z j)] (f, l) _
  refine fl_Tq.stp (pc' := 90) (lv' := [some (.inr (.inr (.inl (76, 277)))), some (.inl a), some (.inl ((Int32.ofNat j) + (1 : Int32))), some (.inl (b + z)), some (.inl (z317_D_j80_0 f a b c z j))]) (st' := []) (m' := (f, l)) rfl rfl (fl_bo rfl) rfl ?_
  refine fl_Tq.stp (pc' := 37) (lv' := [some (.inr (.inr (.inl (76, 277)))), some (.inl a), some (.inl ((Int32.ofNat j) + (1 : Int32))), some (.inl (b + z)), some (.inl (z317_D_j80_0 f a b c z j))]) (st' := []) (m' := (f, l)) rfl rfl (fl_bo rfl) rfl ?_
  exact k
noncomputable def z317_E_j104_0 (a b c : Int32) (j : Nat) : Int32 := if c.toInt = 0 then (-1 : Int32) else Int32.ofNat j
theorem z317_E {L : Nat} {xs : Nat → Int32} {f : t2_F} {l : t2_L} {Q : Option fl_V → fl_M → Prop} {a b c : Int32} {j : Nat}  (k : Q (some (.inl (z317_E_j104_0 a b c j))) (f, l)) : fl_Tq (pw_P L xs) 317 102 [some (.inr (.inr (.inl (76, 277)))), some (.inl a), some (.inl (Int32.ofNat j)), some (.inl b), some (.inl c)] [] (f, l) Q := by
  refine fl_Tq.stp (pc' := 104) (lv' := [some (.inr (.inr (.inl (76, 277)))), some (.inl a), some (.inl (Int32.ofNat j)), some (.inl b), some (.inl c)]) (st' := [.inl c]) (m' := (f, l)) rfl rfl (fl_bo rfl) rfl ?_
  have hj187 : fl_Tq (pw_P L xs) 317 112 [some (.inr (.inr (.inl (76, 277)))), some (.inl a), some (.inl (Int32.ofNat j)), some (.inl b), some (.inl c)] [.inl (z317_E_j104_0 a b c j)] (f, l) Q → fl_Tq (pw_P L xs) 317 104 [some (.inr (.inr (.inl (76, 277)))), some (.inl a), some (.inl (Int32.ofNat j)), some (.inl b), some (.inl c)] [.inl c] (f, l) Q := by
    intro hJ
    by_cases h1 : c.toInt = 0
    · refine fl_Tq.zt rfl (fl_bo rfl) (c1_eq_t h1) rfl ?_
      refine fl_Tq.cI (c := (-1 : Int32)) rfl (by decide +kernel) (fl_bo rfl) ?_
      have e0 : (z317_E_j104_0 a b c j) = (-1 : Int32) := by simp only [z317_E_j104_0, if_pos h1]
      rw [e0] at hJ
      exact hJ
    · refine fl_Tq.zf rfl (fl_bo rfl) (c1_eq_f h1) rfl ?_
      refine fl_Tq.stp (pc' := 108) (lv' := [some (.inr (.inr (.inl (76, 277)))), some (.inl a), some (.inl (Int32.ofNat j)), some (.inl b), some (.inl c)]) (st' := [.inl (Int32.ofNat j)]) (m' := (f, l)) rfl rfl (fl_bo rfl) rfl ?_
      refine fl_Tq.stp (pc' := 112) (lv' := [some (.inr (.inr (.inl (76, 277)))), some (.inl a), some (.inl (Int32.ofNat j)), some (.inl b), some (.inl c)]) (st' := [.inl (Int32.ofNat j)]) (m' := (f, l)) rfl rfl (fl_bo rfl) rfl ?_
      have e0 : (z317_E_j104_0 a b c j) = Int32.ofNat j := by simp only [z317_E_j104_0, if_neg h1]
      rw [e0] at hJ
      exact hJ
  refine hj187 ?_
  show fl_Tq _ 317 112 [some (.inr (.inr (.inl (76, 277)))), some (.inl a), some (.inl (Int32.ofNat j)), some (.inl b), some (.inl c)] [.inl (z317_E_j104_0 a b c j)] (f, l) _
  exact fl_Tq.ret rfl rfl rfl k
theorem z318_A {L : Nat} {xs : Nat → Int32} {f : t2_F} {l : t2_L} {Q : Option fl_V → fl_M → Prop} {a b c : Int32}  (k : fl_Tq (pw_P L xs) 318 1 [some (.inr (.inr (.inl (76, 277)))), some (.inl a), some (.inl b), some (.inl c), none, none] [.inr (.inr (.inl (76, 277)))] (f, l) Q) : fl_Tq (pw_P L xs) 318 0 [some (.inr (.inr (.inl (76, 277)))), some (.inl a), some (.inl b), some (.inl c), none, none] [] (f, l) Q := by
  refine fl_Tq.stp (pc' := 1) (lv' := [some (.inr (.inr (.inl (76, 277)))), some (.inl a), some (.inl b), some (.inl c), none, none]) (st' := [.inr (.inr (.inl (76, 277)))]) (m' := (f, l)) rfl rfl (fl_bo rfl) rfl ?_
  exact k
theorem z318_B {L : Nat} {xs : Nat → Int32} {f : t2_F} {l : t2_L} {Q : Option fl_V → fl_M → Prop} {a b c : Int32} {A : Nat} (hA : a.toInt = (A : Int)) (hA1 : A < 30) (k : fl_Tq (pw_P L xs) 318 16 [some (.inr (.inr (.inl (76, 277)))), some (.inl a), some (.inl b), some (.inl c), none, none] [.inl c, .inr (.inr (.inl (76, 277)))] (fl_row f 280 (upd (f 280) (34 + A) b), l) Q) : fl_Tq (pw_P L xs) 318 4 [some (.inr (.inr (.inl (76, 277)))), some (.inl a), some (.inl b), some (.inl c), none, none] [] (f, l) Q := by
  refine fl_Tq.stp (pc' := 5) (lv' := [some (.inr (.inr (.inl (76, 277)))), some (.inl a), some (.inl b), some (.inl c), none, none]) (st' := [.inr (.inr (.inl (76, 277)))]) (m' := (f, l)) rfl rfl (fl_bo rfl) rfl ?_
  refine fl_Tq.stp (pc' := 8) (lv' := [some (.inr (.inr (.inl (76, 277)))), some (.inl a), some (.inl b), some (.inl c), none, none]) (st' := [.inr (.inr (.inl (79, 280)))]) (m' := (f, l)) rfl rfl (fl_bo rfl) rfl ?_
  refine fl_Tq.cB (c := (34 : Int32)) rfl (by decide +kernel) (fl_bo rfl) ?_
  refine fl_Tq.stp (pc' := 11) (lv' := [some (.inr (.inr (.inl (76, 277)))), some (.inl a), some (.inl b), some (.inl c), none, none]) (st' := [.inl a, .inl (34 : Int32), .inr (.inr (.inl (79, 280)))]) (m' := (f, l)) rfl rfl (fl_bo rfl) rfl ?_
  refine fl_Tq.stp (pc' := 12) (lv' := [some (.inr (.inr (.inl (76, 277)))), some (.inl a), some (.inl b), some (.inl c), none, none]) (st' := [.inl ((34 : Int32) + a), .inr (.inr (.inl (79, 280)))]) (m' := (f, l)) rfl rfl (fl_bo rfl) rfl ?_
  refine fl_Tq.stp (pc' := 13) (lv' := [some (.inr (.inr (.inl (76, 277)))), some (.inl a), some (.inl b), some (.inl c), none, none]) (st' := [.inl b, .inl ((34 : Int32) + a), .inr (.inr (.inl (79, 280)))]) (m' := (f, l)) rfl rfl (fl_bo rfl) rfl ?_
  refine fl_Tq.svV (p := 280) (τ := 79) (n := 29780) (z := (0, 0, 0)) (k := 34 + A) (m' := (fl_row f 280 (upd (f 280) (34 + A) b), l)) rfl (fl_bo rfl) rfl (t2_ia (by decide +kernel) hA (by omega)) (by omega) (t2_upn rfl) ?_
  refine fl_Tq.stp (pc' := 15) (lv' := [some (.inr (.inr (.inl (76, 277)))), some (.inl a), some (.inl b), some (.inl c), none, none]) (st' := [.inr (.inr (.inl (76, 277)))]) (m' := (fl_row f 280 (upd (f 280) (34 + A) b), l)) rfl rfl (fl_bo rfl) rfl ?_
  refine fl_Tq.stp (pc' := 16) (lv' := [some (.inr (.inr (.inl (76, 277)))), some (.inl a), some (.inl b), some (.inl c), none, none]) (st' := [.inl c, .inr (.inr (.inl (76, 277)))]) (m' := (fl_row f 280 (upd (f 280) (34 + A) b), l)) rfl rfl (fl_bo rfl) rfl ?_
  exact k
theorem z318_C {L : Nat} {xs : Nat → Int32} {f : t2_F} {l : t2_L} {Q : Option fl_V → fl_M → Prop} {a b c z : Int32}  (k : fl_Tq (pw_P L xs) 318 22 [some (.inr (.inr (.inl (76, 277)))), some (.inl a), some (.inl b), some (.inl c), some (.inl z), none] [.inr (.inr (.inl (76, 277)))] (f, l) Q) : fl_Tq (pw_P L xs) 318 19 [some (.inr (.inr (.inl (76, 277)))), some (.inl a), some (.inl b), some (.inl c), none, none] [.inl z] (f, l) Q := by
  refine fl_Tq.stp (pc' := 21) (lv' := [some (.inr (.inr (.inl (76, 277)))), some (.inl a), some (.inl b), some (.inl c), some (.inl z), none]) (st' := []) (m' := (f, l)) rfl rfl (fl_bo rfl) rfl ?_
  refine fl_Tq.stp (pc' := 22) (lv' := [some (.inr (.inr (.inl (76, 277)))), some (.inl a), some (.inl b), some (.inl c), some (.inl z), none]) (st' := [.inr (.inr (.inl (76, 277)))]) (m' := (f, l)) rfl rfl (fl_bo rfl) rfl ?_
  exact k
theorem z318_D {L : Nat} {xs : Nat → Int32} {f : t2_F} {l : t2_L} {Q : Option fl_V → fl_M → Prop} {a b c y z : Int32}  (k : fl_Tq (pw_P L xs) 318 28 [some (.inr (.inr (.inl (76, 277)))), some (.inl a), some (.inl b), some (.inl c), some (.inl z), some (.inl y)] [.inr (.inr (.inl (76, 277)))] (f, l) Q) : fl_Tq (pw_P L xs) 318 25 [some (.inr (.inr (.inl (76, 277)))), some (.inl a), some (.inl b), some (.inl c), some (.inl z), none] [.inl y] (f, l) Q := by
  refine fl_Tq.stp (pc' := 27) (lv' := [some (.inr (.inr (.inl (76, 277)))), some (.inl a), some (.inl b), some (.inl c), some (.inl z), some (.inl y)]) (st' := []) (m' := (f, l)) rfl rfl (fl_bo rfl) rfl ?_
  refine fl_Tq.stp (pc' := 28) (lv' := [some (.inr (.inr (.inl (76, 277)))), some (.inl a), some (.inl b), some (.inl c), some (.inl z), some (.inl y)]) (st' := [.inr (.inr (.inl (76, 277)))]) (m' := (f, l)) rfl rfl (fl_bo rfl) rfl ?_
  exact k
theorem z318_E {L : Nat} {xs : Nat → Int32} {f : t2_F} {l : t2_L} {Q : Option fl_V → fl_M → Prop} {a b c y z : Int32}  (k : Q (some (.inl y)) (f, l)) : fl_Tq (pw_P L xs) 318 31 [some (.inr (.inr (.inl (76, 277)))), some (.inl a), some (.inl b), some (.inl c), some (.inl z), some (.inl y)] [] (f, l) Q := by
  refine fl_Tq.stp (pc' := 33) (lv' := [some (.inr (.inr (.inl (76, 277)))), some (.inl a), some (.inl b), some (.inl c), some (.inl z), some (.inl y)]) (st' := [.inl y]) (m' := (f, l)) rfl rfl (fl_bo rfl) rfl ?_
  exact fl_Tq.ret rfl rfl rfl k
theorem z319_A {L : Nat} {xs : Nat → Int32} {f : t2_F} {l : t2_L} {Q : Option fl_V → fl_M → Prop} {a b : Int32}  (k : fl_Tq (pw_P L xs) 319 4 [some (.inr (.inr (.inl (76, 277)))), some (.inl a), some (.inl b), none] [.inl (60 : Int32), .inl a, .inr (.inr (.inl (76, 277)))] (f, l) Q) : fl_Tq (pw_P L xs) 319 0 [some (.inr (.inr (.inl (76, 277)))), some (.inl a), some (.inl b), none] [] (f, l) Q := by
  refine fl_Tq.stp (pc' := 1) (lv' := [some (.inr (.inr (.inl (76, 277)))), some (.inl a), some (.inl b), none]) (st' := [.inr (.inr (.inl (76, 277)))]) (m' := (f, l)) rfl rfl (fl_bo rfl) rfl ?_
  refine fl_Tq.stp (pc' := 2) (lv' := [some (.inr (.inr (.inl (76, 277)))), some (.inl a), some (.inl b), none]) (st' := [.inl a, .inr (.inr (.inl (76, 277)))]) (m' := (f, l)) rfl rfl (fl_bo rfl) rfl ?_
  refine fl_Tq.cB (c := (60 : Int32)) rfl (by decide +kernel) (fl_bo rfl) ?_
  exact k
theorem z319_B {L : Nat} {xs : Nat → Int32} {f : t2_F} {l : t2_L} {Q : Option fl_V → fl_M → Prop} {a b z : Int32}  (k : (z.toInt = 0) → Q (some (.inl (-1 : Int32))) (f, l)) (k1 : (¬ (z.toInt = 0)) → ((r_isIn_v b (0 : Int32) (1000 : Int32)).toInt = 0) → Q (some (.inl (-1 : Int32))) (f, l)) (k2 : (¬ (z.toInt = 0)) → (¬ ((r_isIn_v b (0 : Int32) (1000 : Int32)).toInt = 0)) → ((f 280 2).toInt = 0) → Q (some (.inl (-1 : Int32))) (f, l)) (k3 : (¬ (z.toInt = 0)) → (¬ ((r_isIn_v b (0 : Int32) (1000 : Int32)).toInt = 0)) → (¬ ((f 280 2).toInt = 0)) → fl_Tq (pw_P L xs) 319 35 [some (.inr (.inr (.inl (76, 277)))), some (.inl a), some (.inl b), some (.inl (99 : Int32))] [] (f, l) Q) : fl_Tq (pw_P L xs) 319 7 [some (.inr (.inr (.inl (76, 277)))), some (.inl a), some (.inl b), none] [.inl z] (f, l) Q := by
  by_cases h1 : z.toInt = 0
  · refine fl_Tq.zt rfl (fl_bo rfl) (c1_eq_t h1) rfl ?_
    refine fl_Tq.cI (c := (-1 : Int32)) rfl (by decide +kernel) (fl_bo rfl) ?_
    exact fl_Tq.ret rfl rfl rfl (k h1)
  · refine fl_Tq.zf rfl (fl_bo rfl) (c1_eq_f h1) rfl ?_
    refine fl_Tq.stp (pc' := 11) (lv' := [some (.inr (.inr (.inl (76, 277)))), some (.inl a), some (.inl b), none]) (st' := [.inl b]) (m' := (f, l)) rfl rfl (fl_bo rfl) rfl ?_
    refine fl_Tq.cI (c := (0 : Int32)) rfl (by decide +kernel) (fl_bo rfl) ?_
    refine fl_Tq.cS (c := (1000 : Int32)) rfl (by decide +kernel) (fl_bo rfl) ?_
    refine fl_Tq.cal rfl rfl (fl_bo rfl) rfl ?_
    refine r_isIn_q  ?_
    show fl_Tq _ 319 18 [some (.inr (.inr (.inl (76, 277)))), some (.inl a), some (.inl b), none] [.inl (r_isIn_v b (0 : Int32) (1000 : Int32))] (f, l) _
    by_cases h2 : (r_isIn_v b (0 : Int32) (1000 : Int32)).toInt = 0
    · refine fl_Tq.zt rfl (fl_bo rfl) (c1_eq_t h2) rfl ?_
      refine fl_Tq.cI (c := (-1 : Int32)) rfl (by decide +kernel) (fl_bo rfl) ?_
      exact fl_Tq.ret rfl rfl rfl (k1 h1 h2)
    · refine fl_Tq.zf rfl (fl_bo rfl) (c1_eq_f h2) rfl ?_
      refine fl_Tq.stp (pc' := 22) (lv' := [some (.inr (.inr (.inl (76, 277)))), some (.inl a), some (.inl b), none]) (st' := [.inr (.inr (.inl (76, 277)))]) (m' := (f, l)) rfl rfl (fl_bo rfl) rfl ?_
      refine fl_Tq.stp (pc' := 25) (lv' := [some (.inr (.inr (.inl (76, 277)))), some (.inl a), some (.inl b), none]) (st' := [.inr (.inr (.inl (79, 280)))]) (m' := (f, l)) rfl rfl (fl_bo rfl) rfl ?_
      refine fl_Tq.cI (c := (2 : Int32)) rfl (by decide +kernel) (fl_bo rfl) ?_
      refine fl_Tq.ldV (p := 280) (τ := 79) (n := 29780) (z := (0, 0, 0)) (k := 2) (v := f 280 2) rfl (fl_bo rfl) rfl (by decide +kernel) (by decide) rfl ?_
      by_cases h3 : (f 280 2).toInt = 0
      · refine fl_Tq.zf rfl (fl_bo rfl) (c1_ne_f h3) rfl ?_
        refine fl_Tq.cI (c := (-1 : Int32)) rfl (by decide +kernel) (fl_bo rfl) ?_
        exact fl_Tq.ret rfl rfl rfl (k2 h1 h2 h3)
      · refine fl_Tq.zt rfl (fl_bo rfl) (c1_ne_t h3) rfl ?_
        refine fl_Tq.cB (c := (99 : Int32)) rfl (by decide +kernel) (fl_bo rfl) ?_
        refine fl_Tq.stp (pc' := 35) (lv' := [some (.inr (.inr (.inl (76, 277)))), some (.inl a), some (.inl b), some (.inl (99 : Int32))]) (st' := []) (m' := (f, l)) rfl rfl (fl_bo rfl) rfl ?_
        exact k3 h1 h2 h3
theorem z319_C {L : Nat} {xs : Nat → Int32} {f : t2_F} {l : t2_L} {Q : Option fl_V → fl_M → Prop} {a b c : Int32}  (k : (c.toInt < 0) → Q (some (.inl (-1 : Int32))) (f, l)) (k1 : (¬ (c.toInt < 0)) → fl_Tq (pw_P L xs) 319 44 [some (.inr (.inr (.inl (76, 277)))), some (.inl a), some (.inl b), some (.inl c)] [.inl a, .inl c, .inl (14 : Int32), .inr (.inr (.inl (76, 277)))] (f, l) Q) : fl_Tq (pw_P L xs) 319 35 [some (.inr (.inr (.inl (76, 277)))), some (.inl a), some (.inl b), some (.inl c)] [] (f, l) Q := by
  refine fl_Tq.stp (pc' := 36) (lv' := [some (.inr (.inr (.inl (76, 277)))), some (.inl a), some (.inl b), some (.inl c)]) (st' := [.inl c]) (m' := (f, l)) rfl rfl (fl_bo rfl) rfl ?_
  by_cases h1 : c.toInt < 0
  · refine fl_Tq.zt rfl (fl_bo rfl) (c1_lt_t h1) rfl ?_
    refine fl_Tq.cI (c := (-1 : Int32)) rfl (by decide +kernel) (fl_bo rfl) ?_
    exact fl_Tq.ret rfl rfl rfl (k h1)
  · refine fl_Tq.zf rfl (fl_bo rfl) (c1_lt_f h1) rfl ?_
    refine fl_Tq.stp (pc' := 40) (lv' := [some (.inr (.inr (.inl (76, 277)))), some (.inl a), some (.inl b), some (.inl c)]) (st' := [.inr (.inr (.inl (76, 277)))]) (m' := (f, l)) rfl rfl (fl_bo rfl) rfl ?_
    refine fl_Tq.cB (c := (14 : Int32)) rfl (by decide +kernel) (fl_bo rfl) ?_
    refine fl_Tq.stp (pc' := 43) (lv' := [some (.inr (.inr (.inl (76, 277)))), some (.inl a), some (.inl b), some (.inl c)]) (st' := [.inl c, .inl (14 : Int32), .inr (.inr (.inl (76, 277)))]) (m' := (f, l)) rfl rfl (fl_bo rfl) rfl ?_
    refine fl_Tq.stp (pc' := 44) (lv' := [some (.inr (.inr (.inl (76, 277)))), some (.inl a), some (.inl b), some (.inl c)]) (st' := [.inl a, .inl c, .inl (14 : Int32), .inr (.inr (.inl (76, 277)))]) (m' := (f, l)) rfl rfl (fl_bo rfl) rfl ?_
    exact k1 h1
theorem z319_D {L : Nat} {xs : Nat → Int32} {f : t2_F} {l : t2_L} {Q : Option fl_V → fl_M → Prop} {a b c z : Int32}  (k : (b.toInt < z.toInt) → fl_Tq (pw_P L xs) 319 35 [some (.inr (.inr (.inl (76, 277)))), some (.inl a), some (.inl b), some (.inl (c + (-1 : Int32)))] [] (f, l) Q) (k1 : (¬ (b.toInt < z.toInt)) → Q (some (.inl c)) (f, l)) : fl_Tq (pw_P L xs) 319 47 [some (.inr (.inr (.inl (76, 277)))), some (.inl a), some (.inl b), some (.inl c)] [.inl z] (f, l) Q := by
  refine fl_Tq.stp (pc' := 48) (lv' := [some (.inr (.inr (.inl (76, 277)))), some (.inl a), some (.inl b), some (.inl c)]) (st' := [.inl b, .inl z]) (m' := (f, l)) rfl rfl (fl_bo rfl) rfl ?_
  by_cases h1 : b.toInt < z.toInt
  · refine fl_Tq.jt rfl (fl_bo rfl) (c2_gt_t h1) rfl ?_
    refine fl_Tq.stp (pc' := 56) (lv' := [some (.inr (.inr (.inl (76, 277)))), some (.inl a), some (.inl b), some (.inl (c + (-1 : Int32)))]) (st' := []) (m' := (f, l)) rfl rfl (fl_bo rfl) rfl ?_
    refine fl_Tq.stp (pc' := 35) (lv' := [some (.inr (.inr (.inl (76, 277)))), some (.inl a), some (.inl b), some (.inl (c + (-1 : Int32)))]) (st' := []) (m' := (f, l)) rfl rfl (fl_bo rfl) rfl ?_
    exact k h1
  · refine fl_Tq.jf rfl (fl_bo rfl) (c2_gt_f h1) rfl ?_
    refine fl_Tq.stp (pc' := 52) (lv' := [some (.inr (.inr (.inl (76, 277)))), some (.inl a), some (.inl b), some (.inl c)]) (st' := [.inl c]) (m' := (f, l)) rfl rfl (fl_bo rfl) rfl ?_
    exact fl_Tq.ret rfl rfl rfl (k1 h1)
theorem z321_A {L : Nat} {xs : Nat → Int32} {f : t2_F} {l : t2_L} {Q : Option fl_V → fl_M → Prop} {a : Int32}  (k : ((r_isIn_v a (0 : Int32) (1 : Int32)).toInt = 0) → Q (some (.inl (-1 : Int32))) (f, l)) (k1 : (¬ ((r_isIn_v a (0 : Int32) (1 : Int32)).toInt = 0)) → fl_Tq (pw_P L xs) 321 12 [some (.inr (.inr (.inl (76, 277)))), some (.inl a), none, none, none] [.inr (.inr (.inl (76, 277)))] (f, l) Q) : fl_Tq (pw_P L xs) 321 0 [some (.inr (.inr (.inl (76, 277)))), some (.inl a), none, none, none] [] (f, l) Q := by
  refine fl_Tq.stp (pc' := 1) (lv' := [some (.inr (.inr (.inl (76, 277)))), some (.inl a), none, none, none]) (st' := [.inl a]) (m' := (f, l)) rfl rfl (fl_bo rfl) rfl ?_
  refine fl_Tq.cI (c := (0 : Int32)) rfl (by decide +kernel) (fl_bo rfl) ?_
  refine fl_Tq.cI (c := (1 : Int32)) rfl (by decide +kernel) (fl_bo rfl) ?_
  refine fl_Tq.cal rfl rfl (fl_bo rfl) rfl ?_
  refine r_isIn_q  ?_
  show fl_Tq _ 321 6 [some (.inr (.inr (.inl (76, 277)))), some (.inl a), none, none, none] [.inl (r_isIn_v a (0 : Int32) (1 : Int32))] (f, l) _
  by_cases h1 : (r_isIn_v a (0 : Int32) (1 : Int32)).toInt = 0
  · refine fl_Tq.zf rfl (fl_bo rfl) (c1_ne_f h1) rfl ?_
    refine fl_Tq.cI (c := (-1 : Int32)) rfl (by decide +kernel) (fl_bo rfl) ?_
    exact fl_Tq.ret rfl rfl rfl (k h1)
  · refine fl_Tq.zt rfl (fl_bo rfl) (c1_ne_t h1) rfl ?_
    refine fl_Tq.stp (pc' := 12) (lv' := [some (.inr (.inr (.inl (76, 277)))), some (.inl a), none, none, none]) (st' := [.inr (.inr (.inl (76, 277)))]) (m' := (f, l)) rfl rfl (fl_bo rfl) rfl ?_
    exact k1 h1
theorem z321_B {L : Nat} {xs : Nat → Int32} {f : t2_F} {l : t2_L} {Q : Option fl_V → fl_M → Prop} {a : Int32}  (k : fl_Tq (pw_P L xs) 321 21 [some (.inr (.inr (.inl (76, 277)))), some (.inl a), some (.inl (0 : Int32)), some (.inl (0 : Int32)), none] [.inl a, .inr (.inr (.inl (76, 277)))] (f, l) Q) : fl_Tq (pw_P L xs) 321 15 [some (.inr (.inr (.inl (76, 277)))), some (.inl a), none, none, none] [] (f, l) Q := by
  refine fl_Tq.cI (c := (0 : Int32)) rfl (by decide +kernel) (fl_bo rfl) ?_
  refine fl_Tq.stp (pc' := 17) (lv' := [some (.inr (.inr (.inl (76, 277)))), some (.inl a), some (.inl (0 : Int32)), none, none]) (st' := []) (m' := (f, l)) rfl rfl (fl_bo rfl) rfl ?_
  refine fl_Tq.cI (c := (0 : Int32)) rfl (by decide +kernel) (fl_bo rfl) ?_
  refine fl_Tq.stp (pc' := 19) (lv' := [some (.inr (.inr (.inl (76, 277)))), some (.inl a), some (.inl (0 : Int32)), some (.inl (0 : Int32)), none]) (st' := []) (m' := (f, l)) rfl rfl (fl_bo rfl) rfl ?_
  refine fl_Tq.stp (pc' := 20) (lv' := [some (.inr (.inr (.inl (76, 277)))), some (.inl a), some (.inl (0 : Int32)), some (.inl (0 : Int32)), none]) (st' := [.inr (.inr (.inl (76, 277)))]) (m' := (f, l)) rfl rfl (fl_bo rfl) rfl ?_
  refine fl_Tq.stp (pc' := 21) (lv' := [some (.inr (.inr (.inl (76, 277)))), some (.inl a), some (.inl (0 : Int32)), some (.inl (0 : Int32)), none]) (st' := [.inl a, .inr (.inr (.inl (76, 277)))]) (m' := (f, l)) rfl rfl (fl_bo rfl) rfl ?_
  exact k
theorem z321_C {L : Nat} {xs : Nat → Int32} {f : t2_F} {l : t2_L} {Q : Option fl_V → fl_M → Prop} {a b z : Int32} {j : Nat}  (k : fl_Tq (pw_P L xs) 321 26 [some (.inr (.inr (.inl (76, 277)))), some (.inl a), some (.inl (Int32.ofNat j)), some (.inl b), some (.inl z)] [] (f, l) Q) : fl_Tq (pw_P L xs) 321 24 [some (.inr (.inr (.inl (76, 277)))), some (.inl a), some (.inl (Int32.ofNat j)), some (.inl b), none] [.inl z] (f, l) Q := by
  refine fl_Tq.stp (pc' := 26) (lv' := [some (.inr (.inr (.inl (76, 277)))), some (.inl a), some (.inl (Int32.ofNat j)), some (.inl b), some (.inl z)]) (st' := []) (m' := (f, l)) rfl rfl (fl_bo rfl) rfl ?_
  exact k
theorem z321_D {L : Nat} {xs : Nat → Int32} {f : t2_F} {l : t2_L} {Q : Option fl_V → fl_M → Prop} {a b c : Int32} {j : Nat}  (k : (c.toInt = 0) → ((Int32.ofNat j).toInt < (2000 : Int32).toInt) → ((f 280 7).toInt < (9999 : Int32).toInt) → fl_Tq (pw_P L xs) 321 53 [some (.inr (.inr (.inl (76, 277)))), some (.inl a), some (.inl (Int32.ofNat j)), some (.inl b), some (.inl c)] [.inr (.inr (.inl (76, 277))), .inl b] (f, l) Q) (k1 : (c.toInt = 0) → ((Int32.ofNat j).toInt < (2000 : Int32).toInt) → (¬ ((f 280 7).toInt < (9999 : Int32).toInt)) → fl_Tq (pw_P L xs) 321 72 [some (.inr (.inr (.inl (76, 277)))), some (.inl a), some (.inl (Int32.ofNat j)), some (.inl b), some (.inl c)] [.inr (.inr (.inl (76, 277)))] (f, l) Q) (k2 : (c.toInt = 0) → (¬ ((Int32.ofNat j).toInt < (2000 : Int32).toInt)) → fl_Tq (pw_P L xs) 321 72 [some (.inr (.inr (.inl (76, 277)))), some (.inl a), some (.inl (Int32.ofNat j)), some (.inl b), some (.inl c)] [.inr (.inr (.inl (76, 277)))] (f, l) Q) (k3 : (¬ (c.toInt = 0)) → fl_Tq (pw_P L xs) 321 72 [some (.inr (.inr (.inl (76, 277)))), some (.inl a), some (.inl (Int32.ofNat j)), some (.inl b), some (.inl c)] [.inr (.inr (.inl (76, 277)))] (f, l) Q) : fl_Tq (pw_P L xs) 321 26 [some (.inr (.inr (.inl (76, 277)))), some (.inl a), some (.inl (Int32.ofNat j)), some (.inl b), some (.inl c)] [] (f, l) Q := by
  refine fl_Tq.stp (pc' := 28) (lv' := [some (.inr (.inr (.inl (76, 277)))), some (.inl a), some (.inl (Int32.ofNat j)), some (.inl b), some (.inl c)]) (st' := [.inl c]) (m' := (f, l)) rfl rfl (fl_bo rfl) rfl ?_
  by_cases h1 : c.toInt = 0
  · refine fl_Tq.zf rfl (fl_bo rfl) (c1_ne_f h1) rfl ?_
    refine fl_Tq.stp (pc' := 32) (lv' := [some (.inr (.inr (.inl (76, 277)))), some (.inl a), some (.inl (Int32.ofNat j)), some (.inl b), some (.inl c)]) (st' := [.inl (Int32.ofNat j)]) (m' := (f, l)) rfl rfl (fl_bo rfl) rfl ?_
    refine fl_Tq.cS (c := (2000 : Int32)) rfl (by decide +kernel) (fl_bo rfl) ?_
    by_cases h2 : (Int32.ofNat j).toInt < (2000 : Int32).toInt
    · refine fl_Tq.jf rfl (fl_bo rfl) (c2_ge_f h2) rfl ?_
      refine fl_Tq.stp (pc' := 39) (lv' := [some (.inr (.inr (.inl (76, 277)))), some (.inl a), some (.inl (Int32.ofNat j)), some (.inl b), some (.inl c)]) (st' := [.inr (.inr (.inl (76, 277)))]) (m' := (f, l)) rfl rfl (fl_bo rfl) rfl ?_
      refine fl_Tq.stp (pc' := 42) (lv' := [some (.inr (.inr (.inl (76, 277)))), some (.inl a), some (.inl (Int32.ofNat j)), some (.inl b), some (.inl c)]) (st' := [.inr (.inr (.inl (79, 280)))]) (m' := (f, l)) rfl rfl (fl_bo rfl) rfl ?_
      refine fl_Tq.cB (c := (7 : Int32)) rfl (by decide +kernel) (fl_bo rfl) ?_
      refine fl_Tq.ldV (p := 280) (τ := 79) (n := 29780) (z := (0, 0, 0)) (k := 7) (v := f 280 7) rfl (fl_bo rfl) rfl (by decide +kernel) (by decide) rfl ?_
      refine fl_Tq.cS (c := (9999 : Int32)) rfl (by decide +kernel) (fl_bo rfl) ?_
      by_cases h3 : (f 280 7).toInt < (9999 : Int32).toInt
      · refine fl_Tq.jf rfl (fl_bo rfl) (c2_ge_f h3) rfl ?_
        refine fl_Tq.stp (pc' := 52) (lv' := [some (.inr (.inr (.inl (76, 277)))), some (.inl a), some (.inl (Int32.ofNat j)), some (.inl b), some (.inl c)]) (st' := [.inl b]) (m' := (f, l)) rfl rfl (fl_bo rfl) rfl ?_
        refine fl_Tq.stp (pc' := 53) (lv' := [some (.inr (.inr (.inl (76, 277)))), some (.inl a), some (.inl (Int32.ofNat j)), some (.inl b), some (.inl c)]) (st' := [.inr (.inr (.inl (76, 277))), .inl b]) (m' := (f, l)) rfl rfl (fl_bo rfl) rfl ?_
        exact k h1 h2 h3
      · refine fl_Tq.jt rfl (fl_bo rfl) (c2_ge_t h3) rfl ?_
        refine fl_Tq.stp (pc' := 72) (lv' := [some (.inr (.inr (.inl (76, 277)))), some (.inl a), some (.inl (Int32.ofNat j)), some (.inl b), some (.inl c)]) (st' := [.inr (.inr (.inl (76, 277)))]) (m' := (f, l)) rfl rfl (fl_bo rfl) rfl ?_
        exact k1 h1 h2 h3
    · refine fl_Tq.jt rfl (fl_bo rfl) (c2_ge_t h2) rfl ?_
      refine fl_Tq.stp (pc' := 72) (lv' := [some (.inr (.inr (.inl (76, 277)))), some (.inl a), some (.inl (Int32.ofNat j)), some (.inl b), some (.inl c)]) (st' := [.inr (.inr (.inl (76, 277)))]) (m' := (f, l)) rfl rfl (fl_bo rfl) rfl ?_
      exact k2 h1 h2
  · refine fl_Tq.zt rfl (fl_bo rfl) (c1_ne_t h1) rfl ?_
    refine fl_Tq.stp (pc' := 72) (lv' := [some (.inr (.inr (.inl (76, 277)))), some (.inl a), some (.inl (Int32.ofNat j)), some (.inl b), some (.inl c)]) (st' := [.inr (.inr (.inl (76, 277)))]) (m' := (f, l)) rfl rfl (fl_bo rfl) rfl ?_
    exact k3 h1
theorem z321_E {L : Nat} {xs : Nat → Int32} {f : t2_F} {l : t2_L} {Q : Option fl_V → fl_M → Prop} {a b c z : Int32} {j : Nat}  (k : fl_Tq (pw_P L xs) 321 63 [some (.inr (.inr (.inl (76, 277)))), some (.inl a), some (.inl ((Int32.ofNat j) + (1 : Int32))), some (.inl (b + z)), some (.inl c)] [.inl a, .inr (.inr (.inl (76, 277)))] (f, l) Q) : fl_Tq (pw_P L xs) 321 56 [some (.inr (.inr (.inl (76, 277)))), some (.inl a), some (.inl (Int32.ofNat j)), some (.inl b), some (.inl c)] [.inl z, .inl b] (f, l) Q := by
  refine fl_Tq.stp (pc' := 57) (lv' := [some (.inr (.inr (.inl (76, 277)))), some (.inl a), some (.inl (Int32.ofNat j)), some (.inl b), some (.inl c)]) (st' := [.inl (b + z)]) (m' := (f, l)) rfl rfl (fl_bo rfl) rfl ?_
  refine fl_Tq.stp (pc' := 58) (lv' := [some (.inr (.inr (.inl (76, 277)))), some (.inl a), some (.inl (Int32.ofNat j)), some (.inl (b + z)), some (.inl c)]) (st' := []) (m' := (f, l)) rfl rfl (fl_bo rfl) rfl ?_
  refine fl_Tq.stp (pc' := 61) (lv' := [some (.inr (.inr (.inl (76, 277)))), some (.inl a), some (.inl ((Int32.ofNat j) + (1 : Int32))), some (.inl (b + z)), some (.inl c)]) (st' := []) (m' := (f, l)) rfl rfl (fl_bo rfl) rfl ?_
  refine fl_Tq.stp (pc' := 62) (lv' := [some (.inr (.inr (.inl (76, 277)))), some (.inl a), some (.inl ((Int32.ofNat j) + (1 : Int32))), some (.inl (b + z)), some (.inl c)]) (st' := [.inr (.inr (.inl (76, 277)))]) (m' := (f, l)) rfl rfl (fl_bo rfl) rfl ?_
  refine fl_Tq.stp (pc' := 63) (lv' := [some (.inr (.inr (.inl (76, 277)))), some (.inl a), some (.inl ((Int32.ofNat j) + (1 : Int32))), some (.inl (b + z)), some (.inl c)]) (st' := [.inl a, .inr (.inr (.inl (76, 277)))]) (m' := (f, l)) rfl rfl (fl_bo rfl) rfl ?_
  exact k
theorem z321_G {L : Nat} {xs : Nat → Int32} {f : t2_F} {l : t2_L} {Q : Option fl_V → fl_M → Prop} {a b c z : Int32} {j : Nat}  (k : fl_Tq (pw_P L xs) 321 26 [some (.inr (.inr (.inl (76, 277)))), some (.inl a), some (.inl (Int32.ofNat j)), some (.inl b), some (.inl z)] [] (f, l) Q) : fl_Tq (pw_P L xs) 321 66 [some (.inr (.inr (.inl (76, 277)))), some (.inl a), some (.inl (Int32.ofNat j)), some (.inl b), some (.inl c)] [.inl z] (f, l) Q := by
  refine fl_Tq.stp (pc' := 68) (lv' := [some (.inr (.inr (.inl (76, 277)))), some (.inl a), some (.inl (Int32.ofNat j)), some (.inl b), some (.inl z)]) (st' := []) (m' := (f, l)) rfl rfl (fl_bo rfl) rfl ?_
  refine fl_Tq.stp (pc' := 26) (lv' := [some (.inr (.inr (.inl (76, 277)))), some (.inl a), some (.inl (Int32.ofNat j)), some (.inl b), some (.inl z)]) (st' := []) (m' := (f, l)) rfl rfl (fl_bo rfl) rfl ?_
  exact k
noncomputable def z321_F_j77_0 (a b c : Int32) (j : Nat) : Int32 := if c.toInt = 0 then (-1 : Int32) else Int32.ofNat j
theorem z321_F {L : Nat} {xs : Nat → Int32} {f : t2_F} {l : t2_L} {Q : Option fl_V → fl_M → Prop} {a b c : Int32} {j : Nat}  (k : Q (some (.inl (z321_F_j77_0 a b c j))) (f, l)) : fl_Tq (pw_P L xs) 321 75 [some (.inr (.inr (.inl (76, 277)))), some (.inl a), some (.inl (Int32.ofNat j)), some (.inl b), some (.inl c)] [] (f, l) Q := by
  refine fl_Tq.stp (pc' := 77) (lv' := [some (.inr (.inr (.inl (76, 277)))), some (.inl a), some (.inl (Int32.ofNat j)), some (.inl b), some (.inl c)]) (st' := [.inl c]) (m' := (f, l)) rfl rfl (fl_bo rfl) rfl ?_
  have hj188 : fl_Tq (pw_P L xs) 321 85 [some (.inr (.inr (.inl (76, 277)))), some (.inl a), some (.inl (Int32.ofNat j)), some (.inl b), some (.inl c)] [.inl (z321_F_j77_0 a b c j)] (f, l) Q → fl_Tq (pw_P L xs) 321 77 [some (.inr (.inr (.inl (76, 277)))), some (.inl a), some (.inl (Int32.ofNat j)), some (.inl b), some (.inl c)] [.inl c] (f, l) Q := by
    intro hJ
    by_cases h1 : c.toInt = 0
    · refine fl_Tq.zt rfl (fl_bo rfl) (c1_eq_t h1) rfl ?_
      refine fl_Tq.cI (c := (-1 : Int32)) rfl (by decide +kernel) (fl_bo rfl) ?_
      have e0 : (z321_F_j77_0 a b c j) = (-1 : Int32) := by simp only [z321_F_j77_0, if_pos h1]
      rw [e0] at hJ
      exact hJ
    · refine fl_Tq.zf rfl (fl_bo rfl) (c1_eq_f h1) rfl ?_
      refine fl_Tq.stp (pc' := 81) (lv' := [some (.inr (.inr (.inl (76, 277)))), some (.inl a), some (.inl (Int32.ofNat j)), some (.inl b), some (.inl c)]) (st' := [.inl (Int32.ofNat j)]) (m' := (f, l)) rfl rfl (fl_bo rfl) rfl ?_
      refine fl_Tq.stp (pc' := 85) (lv' := [some (.inr (.inr (.inl (76, 277)))), some (.inl a), some (.inl (Int32.ofNat j)), some (.inl b), some (.inl c)]) (st' := [.inl (Int32.ofNat j)]) (m' := (f, l)) rfl rfl (fl_bo rfl) rfl ?_
      have e0 : (z321_F_j77_0 a b c j) = Int32.ofNat j := by simp only [z321_F_j77_0, if_neg h1]
      rw [e0] at hJ
      exact hJ
  refine hj188 ?_
  show fl_Tq _ 321 85 [some (.inr (.inr (.inl (76, 277)))), some (.inl a), some (.inl (Int32.ofNat j)), some (.inl b), some (.inl c)] [.inl (z321_F_j77_0 a b c j)] (f, l) _
  exact fl_Tq.ret rfl rfl rfl k
theorem z322_A {L : Nat} {xs : Nat → Int32} {f : t2_F} {l : t2_L} {Q : Option fl_V → fl_M → Prop} {a : Int32}  (k : fl_Tq (pw_P L xs) 322 5 [some (.inr (.inr (.inl (76, 277)))), some (.inl a), none, none, none, none] [.inl (300 : Int32), .inl a, .inr (.inr (.inl (76, 277)))] (f, l) Q) : fl_Tq (pw_P L xs) 322 0 [some (.inr (.inr (.inl (76, 277)))), some (.inl a), none, none, none, none] [] (f, l) Q := by
  refine fl_Tq.stp (pc' := 1) (lv' := [some (.inr (.inr (.inl (76, 277)))), some (.inl a), none, none, none, none]) (st' := [.inr (.inr (.inl (76, 277)))]) (m' := (f, l)) rfl rfl (fl_bo rfl) rfl ?_
  refine fl_Tq.stp (pc' := 2) (lv' := [some (.inr (.inr (.inl (76, 277)))), some (.inl a), none, none, none, none]) (st' := [.inl a, .inr (.inr (.inl (76, 277)))]) (m' := (f, l)) rfl rfl (fl_bo rfl) rfl ?_
  refine fl_Tq.cS (c := (300 : Int32)) rfl (by decide +kernel) (fl_bo rfl) ?_
  exact k
theorem z322_B {L : Nat} {xs : Nat → Int32} {f : t2_F} {l : t2_L} {Q : Option fl_V → fl_M → Prop} {a z : Int32}  (k : (z.toInt = 0) → Q (some (.inl (-1 : Int32))) (f, l)) (k1 : (¬ (z.toInt = 0)) → ((f 280 2).toInt = 0) → Q (some (.inl (-1 : Int32))) (f, l)) (k2 : (¬ (z.toInt = 0)) → (¬ ((f 280 2).toInt = 0)) → fl_Tq (pw_P L xs) 322 29 [some (.inr (.inr (.inl (76, 277)))), some (.inl a), some (.inl (0 : Int32)), none, none, none] [.inl a, .inl (0 : Int32), .inl (11 : Int32), .inr (.inr (.inl (76, 277)))] (f, l) Q) : fl_Tq (pw_P L xs) 322 8 [some (.inr (.inr (.inl (76, 277)))), some (.inl a), none, none, none, none] [.inl z] (f, l) Q := by
  by_cases h1 : z.toInt = 0
  · refine fl_Tq.zt rfl (fl_bo rfl) (c1_eq_t h1) rfl ?_
    refine fl_Tq.cI (c := (-1 : Int32)) rfl (by decide +kernel) (fl_bo rfl) ?_
    exact fl_Tq.ret rfl rfl rfl (k h1)
  · refine fl_Tq.zf rfl (fl_bo rfl) (c1_eq_f h1) rfl ?_
    refine fl_Tq.stp (pc' := 12) (lv' := [some (.inr (.inr (.inl (76, 277)))), some (.inl a), none, none, none, none]) (st' := [.inr (.inr (.inl (76, 277)))]) (m' := (f, l)) rfl rfl (fl_bo rfl) rfl ?_
    refine fl_Tq.stp (pc' := 15) (lv' := [some (.inr (.inr (.inl (76, 277)))), some (.inl a), none, none, none, none]) (st' := [.inr (.inr (.inl (79, 280)))]) (m' := (f, l)) rfl rfl (fl_bo rfl) rfl ?_
    refine fl_Tq.cI (c := (2 : Int32)) rfl (by decide +kernel) (fl_bo rfl) ?_
    refine fl_Tq.ldV (p := 280) (τ := 79) (n := 29780) (z := (0, 0, 0)) (k := 2) (v := f 280 2) rfl (fl_bo rfl) rfl (by decide +kernel) (by decide) rfl ?_
    by_cases h2 : (f 280 2).toInt = 0
    · refine fl_Tq.zf rfl (fl_bo rfl) (c1_ne_f h2) rfl ?_
      refine fl_Tq.cI (c := (-1 : Int32)) rfl (by decide +kernel) (fl_bo rfl) ?_
      exact fl_Tq.ret rfl rfl rfl (k1 h1 h2)
    · refine fl_Tq.zt rfl (fl_bo rfl) (c1_ne_t h2) rfl ?_
      refine fl_Tq.cI (c := (0 : Int32)) rfl (by decide +kernel) (fl_bo rfl) ?_
      refine fl_Tq.stp (pc' := 24) (lv' := [some (.inr (.inr (.inl (76, 277)))), some (.inl a), some (.inl (0 : Int32)), none, none, none]) (st' := []) (m' := (f, l)) rfl rfl (fl_bo rfl) rfl ?_
      refine fl_Tq.stp (pc' := 25) (lv' := [some (.inr (.inr (.inl (76, 277)))), some (.inl a), some (.inl (0 : Int32)), none, none, none]) (st' := [.inr (.inr (.inl (76, 277)))]) (m' := (f, l)) rfl rfl (fl_bo rfl) rfl ?_
      refine fl_Tq.cB (c := (11 : Int32)) rfl (by decide +kernel) (fl_bo rfl) ?_
      refine fl_Tq.cI (c := (0 : Int32)) rfl (by decide +kernel) (fl_bo rfl) ?_
      refine fl_Tq.stp (pc' := 29) (lv' := [some (.inr (.inr (.inl (76, 277)))), some (.inl a), some (.inl (0 : Int32)), none, none, none]) (st' := [.inl a, .inl (0 : Int32), .inl (11 : Int32), .inr (.inr (.inl (76, 277)))]) (m' := (f, l)) rfl rfl (fl_bo rfl) rfl ?_
      exact k2 h1 h2
theorem z322_C {L : Nat} {xs : Nat → Int32} {f : t2_F} {l : t2_L} {Q : Option fl_V → fl_M → Prop} {a b z : Int32}  (k : fl_Tq (pw_P L xs) 322 36 [some (.inr (.inr (.inl (76, 277)))), some (.inl a), some (.inl b), some (.inl z), some (.inl (1 : Int32)), none] [] (f, l) Q) : fl_Tq (pw_P L xs) 322 32 [some (.inr (.inr (.inl (76, 277)))), some (.inl a), some (.inl b), none, none, none] [.inl z] (f, l) Q := by
  refine fl_Tq.stp (pc' := 33) (lv' := [some (.inr (.inr (.inl (76, 277)))), some (.inl a), some (.inl b), some (.inl z), none, none]) (st' := []) (m' := (f, l)) rfl rfl (fl_bo rfl) rfl ?_
  refine fl_Tq.cI (c := (1 : Int32)) rfl (by decide +kernel) (fl_bo rfl) ?_
  refine fl_Tq.stp (pc' := 36) (lv' := [some (.inr (.inr (.inl (76, 277)))), some (.inl a), some (.inl b), some (.inl z), some (.inl (1 : Int32)), none]) (st' := []) (m' := (f, l)) rfl rfl (fl_bo rfl) rfl ?_
  exact k
theorem z322_D {L : Nat} {xs : Nat → Int32} {f : t2_F} {l : t2_L} {Q : Option fl_V → fl_M → Prop} {a b c : Int32} {j : Nat}  (k : ((Int32.ofNat j).toInt < (3 : Int32).toInt) → fl_Tq (pw_P L xs) 322 48 [some (.inr (.inr (.inl (76, 277)))), some (.inl a), some (.inl b), some (.inl c), some (.inl (Int32.ofNat j)), none] [.inl a, .inl (Int32.ofNat j), .inl (11 : Int32), .inr (.inr (.inl (76, 277)))] (f, l) Q) (k1 : (¬ ((Int32.ofNat j).toInt < (3 : Int32).toInt)) → Q (some (.inl b)) (f, l)) : fl_Tq (pw_P L xs) 322 36 [some (.inr (.inr (.inl (76, 277)))), some (.inl a), some (.inl b), some (.inl c), some (.inl (Int32.ofNat j)), none] [] (f, l) Q := by
  refine fl_Tq.stp (pc' := 38) (lv' := [some (.inr (.inr (.inl (76, 277)))), some (.inl a), some (.inl b), some (.inl c), some (.inl (Int32.ofNat j)), none]) (st' := [.inl (Int32.ofNat j)]) (m' := (f, l)) rfl rfl (fl_bo rfl) rfl ?_
  refine fl_Tq.cI (c := (3 : Int32)) rfl (by decide +kernel) (fl_bo rfl) ?_
  by_cases h1 : (Int32.ofNat j).toInt < (3 : Int32).toInt
  · refine fl_Tq.jf rfl (fl_bo rfl) (c2_ge_f h1) rfl ?_
    refine fl_Tq.stp (pc' := 43) (lv' := [some (.inr (.inr (.inl (76, 277)))), some (.inl a), some (.inl b), some (.inl c), some (.inl (Int32.ofNat j)), none]) (st' := [.inr (.inr (.inl (76, 277)))]) (m' := (f, l)) rfl rfl (fl_bo rfl) rfl ?_
    refine fl_Tq.cB (c := (11 : Int32)) rfl (by decide +kernel) (fl_bo rfl) ?_
    refine fl_Tq.stp (pc' := 47) (lv' := [some (.inr (.inr (.inl (76, 277)))), some (.inl a), some (.inl b), some (.inl c), some (.inl (Int32.ofNat j)), none]) (st' := [.inl (Int32.ofNat j), .inl (11 : Int32), .inr (.inr (.inl (76, 277)))]) (m' := (f, l)) rfl rfl (fl_bo rfl) rfl ?_
    refine fl_Tq.stp (pc' := 48) (lv' := [some (.inr (.inr (.inl (76, 277)))), some (.inl a), some (.inl b), some (.inl c), some (.inl (Int32.ofNat j)), none]) (st' := [.inl a, .inl (Int32.ofNat j), .inl (11 : Int32), .inr (.inr (.inl (76, 277)))]) (m' := (f, l)) rfl rfl (fl_bo rfl) rfl ?_
    exact k h1
  · refine fl_Tq.jt rfl (fl_bo rfl) (c2_ge_t h1) rfl ?_
    refine fl_Tq.stp (pc' := 75) (lv' := [some (.inr (.inr (.inl (76, 277)))), some (.inl a), some (.inl b), some (.inl c), some (.inl (Int32.ofNat j)), none]) (st' := [.inl b]) (m' := (f, l)) rfl rfl (fl_bo rfl) rfl ?_
    exact fl_Tq.ret rfl rfl rfl (k1 h1)
theorem z322_E {L : Nat} {xs : Nat → Int32} {f : t2_F} {l : t2_L} {Q : Option fl_V → fl_M → Prop} {a b c z : Int32} {j : Nat}  (k : fl_Tq (pw_P L xs) 322 36 [some (.inr (.inr (.inl (76, 277)))), some (.inl a), some (.inl (if z.toInt < c.toInt then Int32.ofNat j else b)), some (.inl (if z.toInt < c.toInt then z else c)), some (.inl ((Int32.ofNat j) + (1 : Int32))), some (.inl z)] [] (f, l) Q) : fl_Tq (pw_P L xs) 322 51 [some (.inr (.inr (.inl (76, 277)))), some (.inl a), some (.inl b), some (.inl c), some (.inl (Int32.ofNat j)), none] [.inl z] (f, l) Q := by
  refine fl_Tq.stp (pc' := 53) (lv' := [some (.inr (.inr (.inl (76, 277)))), some (.inl a), some (.inl b), some (.inl c), some (.inl (Int32.ofNat j)), some (.inl z)]) (st' := []) (m' := (f, l)) rfl rfl (fl_bo rfl) rfl ?_
  refine fl_Tq.stp (pc' := 55) (lv' := [some (.inr (.inr (.inl (76, 277)))), some (.inl a), some (.inl b), some (.inl c), some (.inl (Int32.ofNat j)), some (.inl z)]) (st' := [.inl z]) (m' := (f, l)) rfl rfl (fl_bo rfl) rfl ?_
  refine fl_Tq.stp (pc' := 56) (lv' := [some (.inr (.inr (.inl (76, 277)))), some (.inl a), some (.inl b), some (.inl c), some (.inl (Int32.ofNat j)), some (.inl z)]) (st' := [.inl c, .inl z]) (m' := (f, l)) rfl rfl (fl_bo rfl) rfl ?_
  have hj189 : fl_Tq (pw_P L xs) 322 68 [some (.inr (.inr (.inl (76, 277)))), some (.inl a), some (.inl (if z.toInt < c.toInt then Int32.ofNat j else b)), some (.inl (if z.toInt < c.toInt then z else c)), some (.inl (Int32.ofNat j)), some (.inl z)] [] (f, l) Q → fl_Tq (pw_P L xs) 322 56 [some (.inr (.inr (.inl (76, 277)))), some (.inl a), some (.inl b), some (.inl c), some (.inl (Int32.ofNat j)), some (.inl z)] [.inl c, .inl z] (f, l) Q := by
    intro hJ
    by_cases h1 : z.toInt < c.toInt
    · refine fl_Tq.jt rfl (fl_bo rfl) (c2_lt_t h1) rfl ?_
      refine fl_Tq.stp (pc' := 64) (lv' := [some (.inr (.inr (.inl (76, 277)))), some (.inl a), some (.inl b), some (.inl c), some (.inl (Int32.ofNat j)), some (.inl z)]) (st' := [.inl (Int32.ofNat j)]) (m' := (f, l)) rfl rfl (fl_bo rfl) rfl ?_
      refine fl_Tq.stp (pc' := 65) (lv' := [some (.inr (.inr (.inl (76, 277)))), some (.inl a), some (.inl (Int32.ofNat j)), some (.inl c), some (.inl (Int32.ofNat j)), some (.inl z)]) (st' := []) (m' := (f, l)) rfl rfl (fl_bo rfl) rfl ?_
      refine fl_Tq.stp (pc' := 67) (lv' := [some (.inr (.inr (.inl (76, 277)))), some (.inl a), some (.inl (Int32.ofNat j)), some (.inl c), some (.inl (Int32.ofNat j)), some (.inl z)]) (st' := [.inl z]) (m' := (f, l)) rfl rfl (fl_bo rfl) rfl ?_
      refine fl_Tq.stp (pc' := 68) (lv' := [some (.inr (.inr (.inl (76, 277)))), some (.inl a), some (.inl (Int32.ofNat j)), some (.inl z), some (.inl (Int32.ofNat j)), some (.inl z)]) (st' := []) (m' := (f, l)) rfl rfl (fl_bo rfl) rfl ?_
      have e0 : (if z.toInt < c.toInt then Int32.ofNat j else b) = Int32.ofNat j := by simp only [if_pos h1]
      have e1 : (if z.toInt < c.toInt then z else c) = z := by simp only [if_pos h1]
      rw [e0, e1] at hJ
      exact hJ
    · refine fl_Tq.jf rfl (fl_bo rfl) (c2_lt_f h1) rfl ?_
      refine fl_Tq.stp (pc' := 68) (lv' := [some (.inr (.inr (.inl (76, 277)))), some (.inl a), some (.inl b), some (.inl c), some (.inl (Int32.ofNat j)), some (.inl z)]) (st' := []) (m' := (f, l)) rfl rfl (fl_bo rfl) rfl ?_
      have e0 : (if z.toInt < c.toInt then Int32.ofNat j else b) = b := by simp only [if_neg h1]
      have e1 : (if z.toInt < c.toInt then z else c) = c := by simp only [if_neg h1]
      rw [e0, e1] at hJ
      exact hJ
  refine hj189 ?_
  show fl_Tq _ 322 68 [some (.inr (.inr (.inl (76, 277)))), some (.inl a), some (.inl (if z.toInt < c.toInt then Int32.ofNat j else b)), some (.inl (if z.toInt < c.toInt then z else c)), some (.inl (Int32.ofNat j)), some (.inl z)] [] (f, l) _
  refine fl_Tq.stp (pc' := 71) (lv' := [some (.inr (.inr (.inl (76, 277)))), some (.inl a), some (.inl (if z.toInt < c.toInt then Int32.ofNat j else b)), some (.inl (if z.toInt < c.toInt then z else c)), some (.inl ((Int32.ofNat j) + (1 : Int32))), some (.inl z)]) (st' := []) (m' := (f, l)) rfl rfl (fl_bo rfl) rfl ?_
  refine fl_Tq.stp (pc' := 36) (lv' := [some (.inr (.inr (.inl (76, 277)))), some (.inl a), some (.inl (if z.toInt < c.toInt then Int32.ofNat j else b)), some (.inl (if z.toInt < c.toInt then z else c)), some (.inl ((Int32.ofNat j) + (1 : Int32))), some (.inl z)]) (st' := []) (m' := (f, l)) rfl rfl (fl_bo rfl) rfl ?_
  exact k

end

/-! 94.72.mq8.lean.txt -/
section
/-! ===== the reference's foretelling: all is as it was ===== -/
section T2MQ8
variable {L : Nat} {xs : Nat → Int32} {m0 m m1 : fl_M} {f g F G : t2_F} {l l' : t2_L} {Q : Option fl_V → fl_M → Prop} {a b c : Int32} {k : Nat} {v : Int32}
theorem at_Good.plain (h : at_Good at_XI (f, l)) (hv : v = 0 ∨ v = 1) : at_Good at_XI (fl_row f 277 (upd (f 277) 7 v), l) := by
  have hw : at_w (fl_row f 277 (upd (f 277) 7 v), l) = at_w (f, l) := funext (fun j => by
    show (fl_row f 277 (upd (f 277) 7 v) 280 j).toInt = (f 280 j).toInt
    rw [fl_row_ne (by decide)])
  have k76 : fk_K 277 = 76 := by decide +kernel
  have r76 : (at_rg 76).all (fun r => decide (r.2.2.2.2.2.1 = 0 ∧ r.2.2.2.2.2.2 = 1)) = true := by decide +kernel
  refine ⟨fun p hp r hr j hm => ?_, ?_, h.2.2.keep rfl (fun p j hp => ?_)⟩
  · show r.2.2.2.2.2.1 ≤ (fl_row f 277 (upd (f 277) 7 v) p j).toInt ∧ (fl_row f 277 (upd (f 277) 7 v) p j).toInt ≤ r.2.2.2.2.2.2
    by_cases e : p = 277 ∧ j = 7
    · obtain ⟨rfl, rfl⟩ := e
      rw [k76] at hr
      have := of_decide_eq_true (List.all_eq_true.mp r76 r hr)
      have c0 : (0 : Int32).toInt = 0 := rfl
      have c1 : (1 : Int32).toInt = 1 := by decide +kernel
      rw [fl_row_self, upd_self, this.1, this.2]
      rcases hv with rfl | rfl
      · rw [c0]; omega
      · rw [c1]; omega
    · have e2 : fl_row f 277 (upd (f 277) 7 v) p j = f p j := by
        by_cases e1 : p = 277
        · subst e1
          rw [fl_row_self, upd_ne (fun h => e ⟨rfl, h⟩)]
        · rw [fl_row_ne e1]
      rw [e2]
      exact h.1 p hp r hr j hm
  · have := h.2.1
    unfold at_RL at this ⊢
    rw [hw]
    exact this
  · show fl_row f 277 (upd (f 277) 7 v) p j = f p j
    rw [fl_row_ne (by
      rcases hp with h | h | h | h | h | h | h | h
      · omega
      · omega
      · unfold fl_N at h; omega
      · omega
      · omega
      · omega
      · omega
      · omega)]
theorem at_Good.setw (h : at_Good at_XI (f, l)) (hk : k < 30) (hv : -99999 ≤ v.toInt ∧ v.toInt ≤ 99999) : at_Good at_XI (fl_row f 280 (upd (f 280) (34 + k) v), l) := by
  have ne : ∀ p j : Nat, (p = 280 → j ≠ 34 + k) → fl_row f 280 (upd (f 280) (34 + k) v) p j = f p j := fun p j e => by
    by_cases e1 : p = 280
    · subst e1
      rw [fl_row_self, upd_ne (e rfl)]
    · rw [fl_row_ne e1]
  have hX : at_XI (fl_row f 280 (upd (f 280) (34 + k) v), l) := h.2.2.keep rfl (fun p j hp => ne p j (fun e => by
    rcases hp with h | h | h | h | h | h | h | h
    · omega
    · omega
    · unfold fl_N at h; omega
    · omega
    · omega
    · omega
    · omega
    · omega))
  have ew : ∀ j, j ≠ 34 + k → at_w (fl_row f 280 (upd (f 280) (34 + k) v), l) j = at_w (f, l) j := fun j hj => by
    show (fl_row f 280 (upd (f 280) (34 + k) v) 280 j).toInt = _
    rw [ne 280 j (fun _ => hj)]
    rfl
  have ev : at_w (fl_row f 280 (upd (f 280) (34 + k) v), l) (34 + k) = v.toInt := by
    show (fl_row f 280 (upd (f 280) (34 + k) v) 280 (34 + k)).toInt = _
    rw [fl_row_self, upd_self]
  obtain ⟨a1, a2, a3⟩ := h.AK
  refine h.mk rfl hX (fun p j hp _ hne => absurd (ne p j (fun e => absurd e hp)) hne) (by rw [ew 0 (by omega)]; exact h.w0) (by rw [ew 1 (by omega)]; exact h.w1) ⟨fun r hr j hj hm => ?_, fun c hc hl => ?_, fun kk hkk => ?_⟩
  · by_cases e : j = 34 + k
    · subst e
      have h1 := List.all_eq_true.mp at_rg34 k (List.mem_range.mpr hk)
      have h2 := List.all_eq_true.mp h1 r hr
      have ec : (34 + (k : Int)) = ((34 + k : Nat) : Int) := by omega
      rw [ec, at_memb_ok hm] at h2
      have h3 := of_decide_eq_true (show decide (r = (0, 34, 0, 1, 30, -99999, 99999)) = true by simpa using h2)
      subst h3
      rw [ev]
      exact ⟨by show (-99999 : Int) ≤ _; omega, by show _ ≤ (99999 : Int); omega⟩
    · rw [ew j e]
      exact a1 r hr j hj hm
  · rw [ew 2 (by omega)] at hl
    rw [ew (444 + 61 * c) (by omega), ew (450 + 61 * c) (by omega), ew (454 + 61 * c) (by omega), ew (445 + 61 * c) (by omega)]
    exact a2 c hc hl
  · rw [ew (341 + 35 * kk) (by omega), ew 2 (by omega)]
    exact a3 kk hkk
/-- the words of m0 are put aside -/
def t2_Iv (m0 m : fl_M) : Prop := at_Good at_XI m ∧ ∀ j : Nat, j < 1418 → m.1 283 j = m0.1 280 (2 + j)
/-- the words of m0 are there again -/
def t2_Rst (m0 : fl_M) (v : Option fl_V) (m : fl_M) : Prop := (∃ y, v = some (.inl y)) ∧ ∀ w : Nat, 2 ≤ w → w < 1420 → m.1 280 w = m0.1 280 w
def t2_in (ws : List at_W) : Bool := ws.all (fun w => !Nat.beq w.1 82)
theorem t2_Iv.call {cc : at_C} {as_ : List fl_V} {lo hi : Int} (h : t2_Iv m0 m) (hV : at_Valid at_XI (pw_P L xs) cc) (hk : at_agk m.2.2 cc.2.1 as_) (hl : cc.2.2.1 = []) (hw : t2_in cc.2.2.2.2.2 = true) (hr : cc.2.2.2.1 = some (.inr (false, lo, hi))) (K : ∀ (x : Int32) (m' : fl_M), t2_Iv m0 m' → Q (some (.inl x)) m') : fl_Tq (pw_P L xs) cc.1 0 (fl_args (am_mxl (pw_P L xs) cc.1) as_) [] m Q := by
  refine fl_Tq.mono (hV m as_ h.1 hk (fun q hq => by rw [hl] at hq; cases hq)) (fun vv m' ⟨hg', md, hv⟩ => ?_)
  rw [hr] at hv
  obtain ⟨x, rfl, -⟩ := hv
  refine K x m' ⟨hg', fun j hj => ?_⟩
  rw [← h.2 j hj]
  apply Classical.byContradiction
  intro hne
  obtain ⟨w, hw1, e, -⟩ := md.2 283 j hne
  have k82 : fk_K 283 = 82 := by decide +kernel
  have hb := List.all_eq_true.mp hw w hw1
  rw [e, k82] at hb
  exact absurd hb (by decide)
theorem t2_Iv.put (hg : at_Good at_XI m) (K : ∀ m' : fl_M, t2_Iv m m' → (∀ p : Nat, p ≠ 283 → m'.1 p = m.1 p) → Q none m') : fl_Tq (pw_P L xs) 238 0 (fl_args (am_mxl (pw_P L xs) 238) [.inr (.inr (.inl (76, 277)))]) [] m Q := by
  refine fl_Tq.mono (t2_join (r_putAside_q (L := L) (xs := xs) (m := m) (Q := fun v m' => v = none ∧ ∃ g : t2_F, m' = (g, m.2) ∧ (∀ p : Nat, p ≠ 283 → g p = m.1 p) ∧ ∀ j : Nat, j < 1418 → g 283 j = m.1 280 (2 + j)) (fun g a b => ⟨rfl, g, rfl, a, b⟩)) (at_v238 (L := L) (xs := xs) m [at_this] hg ⟨at_k277 _, True.intro⟩ (fun q hq => by cases hq))) ?_
  rintro v m' ⟨⟨rfl, g, rfl, h1, h2⟩, v2, m2, -, e2, g2, -, -⟩
  refine K _ ⟨t2_Good e2 g2 (fun p hp i => ?_), h2⟩ h1
  have hp : fl_N m.2.2 ≤ p := hp
  show g p i = _
  rw [h1 p (by unfold fl_N at hp; omega)]
  exact hg.2.2.2.2.1 p hp i
theorem t2_Iv.back (h : t2_Iv m0 m) (K : ∀ m' : fl_M, at_Good at_XI m' → (∀ p : Nat, p ≠ 280 → m'.1 p = m.1 p) → (∀ w : Nat, 2 ≤ w → w < 1420 → m'.1 280 w = m0.1 280 w) → Q none m') : fl_Tq (pw_P L xs) 239 0 (fl_args (am_mxl (pw_P L xs) 239) [.inr (.inr (.inl (76, 277)))]) [] m Q := by
  refine fl_Tq.mono (t2_join (r_bringBack_q (L := L) (xs := xs) (m := m) (Q := fun v m' => v = none ∧ ∃ g : t2_F, m' = (g, m.2) ∧ (∀ p : Nat, p ≠ 280 → g p = m.1 p) ∧ ∀ j : Nat, j < 1418 → g 280 (2 + j) = m.1 283 j) (fun g a _ b => ⟨rfl, g, rfl, a, b⟩)) (at_v239 (L := L) (xs := xs) m [at_this] h.1 ⟨at_k277 _, True.intro⟩ (fun q hq => by cases hq))) ?_
  rintro v m' ⟨⟨rfl, g, rfl, h1, h2⟩, v2, m2, -, e2, g2, -, -⟩
  refine K _ (t2_Good e2 g2 (fun p hp i => ?_)) h1 (fun w w1 w2 => ?_)
  · have hp : fl_N m.2.2 ≤ p := hp
    show g p i = _
    rw [h1 p (by unfold fl_N at hp; omega)]
    exact h.1.2.2.2.2.1 p hp i
  · have e := h2 (w - 2) (by omega)
    rw [h.2 (w - 2) (by omega), show 2 + (w - 2) = w by omega] at e
    exact e
theorem t2_Iv.of (h : t2_Iv m0 m) (hg : at_Good at_XI m1) (e : m1.1 283 = m.1 283) : t2_Iv m0 m1 := ⟨hg, fun j hj => by rw [e]; exact h.2 j hj⟩
section
variable (hall : ∀ c ∈ at_CM ++ at_CA, at_Valid at_XI (pw_P L xs) c)
/-- foretold -/
theorem t2_z310 (hall : ∀ c ∈ at_CM ++ at_CA, at_Valid at_XI (pw_P L xs) c) (hg : at_Good at_XI (f, l)) : fl_Tq (pw_P L xs) 310 0 (fl_args (am_mxl (pw_P L xs) 310) [at_this, .inl a, .inl b]) [] (f, l) (t2_Rst (f, l)) := by
  show fl_Tq (pw_P L xs) 310 0 [some (.inr (.inr (.inl (76, 277)))), some (.inl a), some (.inl b), none, none] [] (f, l) _
  refine z310_A ?_
  refine fl_Tq.cal rfl rfl (fl_bo rfl) rfl ?_
  refine r_canRun_q ?_
  refine z310_B (fun _ => ⟨⟨_, rfl⟩, fun w _ _ => rfl⟩) (fun _ => ?_)
  refine fl_Tq.cal rfl rfl (fl_bo rfl) rfl ?_
  refine t2_Iv.put hg (fun m1 i1 _ => ?_)
  obtain ⟨f1, l1⟩ := m1
  refine z310_C ?_
  refine fl_Tq.cal rfl rfl (fl_bo rfl) rfl ?_
  refine i1.call (hall _ t2_c248_in) ⟨at_k277 _, lx_ki _, True.intro⟩ rfl rfl rfl (fun z m2 i2 => ?_)
  obtain ⟨f2, l2⟩ := m2
  refine z310_D ?_
  refine fl_Tq.cal rfl rfl (fl_bo rfl) rfl ?_
  refine i2.call (hall _ t2_c268_in) ⟨at_k277 _, lx_ki _, True.intro⟩ rfl rfl rfl (fun y m3 i3 => ?_)
  obtain ⟨f3, l3⟩ := m3
  refine z310_E ?_
  refine fl_Tq.cal rfl rfl (fl_bo rfl) rfl ?_
  refine i3.back (fun m4 _ _ w4 => ?_)
  obtain ⟨f4, l4⟩ := m4
  exact z310_F ⟨⟨_, rfl⟩, w4⟩
/-- foretoldOf -/
theorem t2_z311 (hall : ∀ c ∈ at_CM ++ at_CA, at_Valid at_XI (pw_P L xs) c) (hg : at_Good at_XI (f, l)) : fl_Tq (pw_P L xs) 311 0 (fl_args (am_mxl (pw_P L xs) 311) [at_this, .inl a, .inl b, .inl c]) [] (f, l) (t2_Rst (f, l)) := by
  show fl_Tq (pw_P L xs) 311 0 [some (.inr (.inr (.inl (76, 277)))), some (.inl a), some (.inl b), some (.inl c), none, none] [] (f, l) _
  refine z311_A ?_
  refine fl_Tq.cal rfl rfl (fl_bo rfl) rfl ?_
  refine r_canRun_q ?_
  refine z311_B (fun _ => ⟨⟨_, rfl⟩, fun w _ _ => rfl⟩) (fun _ => ?_)
  refine fl_Tq.cal rfl rfl (fl_bo rfl) rfl ?_
  refine t2_Iv.put hg (fun m1 i1 _ => ?_)
  obtain ⟨f1, l1⟩ := m1
  refine z311_C ?_
  refine fl_Tq.cal rfl rfl (fl_bo rfl) rfl ?_
  refine i1.call (hall _ t2_c248_in) ⟨at_k277 _, lx_ki _, True.intro⟩ rfl rfl rfl (fun z m2 i2 => ?_)
  obtain ⟨f2, l2⟩ := m2
  refine z311_D ?_
  refine fl_Tq.cal rfl rfl (fl_bo rfl) rfl ?_
  refine i2.call (hall _ t2_c271_in) ⟨at_k277 _, lx_ki _, lx_ki _, True.intro⟩ rfl rfl rfl (fun y m3 i3 => ?_)
  obtain ⟨f3, l3⟩ := m3
  refine z311_E ?_
  refine fl_Tq.cal rfl rfl (fl_bo rfl) rfl ?_
  refine i3.back (fun m4 _ _ w4 => ?_)
  obtain ⟨f4, l4⟩ := m4
  exact z311_F ⟨⟨_, rfl⟩, w4⟩
/-- driven -/
theorem t2_z312 (hall : ∀ c ∈ at_CM ++ at_CA, at_Valid at_XI (pw_P L xs) c) (hg : at_Good at_XI (f, l)) : fl_Tq (pw_P L xs) 312 0 (fl_args (am_mxl (pw_P L xs) 312) [at_this, .inl a]) [] (f, l) (t2_Rst (f, l)) := by
  show fl_Tq (pw_P L xs) 312 0 [some (.inr (.inr (.inl (76, 277)))), some (.inl a), none, none] [] (f, l) _
  refine z312_A ?_
  refine fl_Tq.cal rfl rfl (fl_bo rfl) rfl ?_
  refine t2_Iv.put hg (fun m1 i1 _ => ?_)
  obtain ⟨f1, l1⟩ := m1
  refine z312_B ?_
  refine fl_Tq.cal rfl rfl (fl_bo rfl) rfl ?_
  refine i1.call (hall _ t2_c266_in) ⟨at_k277 _, True.intro⟩ rfl rfl rfl (fun z m2 i2 => ?_)
  obtain ⟨f2, l2⟩ := m2
  refine z312_C ?_
  refine fl_Tq.cal rfl rfl (fl_bo rfl) rfl ?_
  refine i2.call (hall _ t2_c268_in) ⟨at_k277 _, lx_ki _, True.intro⟩ rfl rfl rfl (fun y m3 i3 => ?_)
  obtain ⟨f3, l3⟩ := m3
  refine z312_D ?_
  refine fl_Tq.cal rfl rfl (fl_bo rfl) rfl ?_
  refine i3.back (fun m4 _ _ w4 => ?_)
  obtain ⟨f4, l4⟩ := m4
  exact z312_E ⟨⟨_, rfl⟩, w4⟩
/-- bare -/
theorem t2_z313 (hall : ∀ c ∈ at_CM ++ at_CA, at_Valid at_XI (pw_P L xs) c) (hg : at_Good at_XI (f, l)) : fl_Tq (pw_P L xs) 313 0 (fl_args (am_mxl (pw_P L xs) 313) [at_this]) [] (f, l) (t2_Rst (f, l)) := by
  have c2 : (2000 : Int32).toInt = 2000 := by decide +kernel
  show fl_Tq (pw_P L xs) 313 0 [some (.inr (.inr (.inl (76, 277)))), none, none, none] [] (f, l) _
  have fin : ∀ (j : Nat) (b c : Int32) (m1 : fl_M), t2_Iv (f, l) m1 → fl_Tq (pw_P L xs) 313 61 [some (.inr (.inr (.inl (76, 277)))), some (.inl (Int32.ofNat j)), some (.inl b), some (.inl c)] [.inr (.inr (.inl (76, 277)))] m1 (t2_Rst (f, l)) := by
    intro j b c m1 i1
    refine fl_Tq.cal rfl rfl (fl_bo rfl) rfl ?_
    refine i1.back (fun m4 _ _ w4 => ?_)
    obtain ⟨f4, l4⟩ := m4
    exact z313_E ⟨⟨_, rfl⟩, w4⟩
  have loop : ∀ (d j : Nat) (b c : Int32) (m1 : fl_M), j + d = 2000 → t2_Iv (f, l) m1 → fl_Tq (pw_P L xs) 313 10 [some (.inr (.inr (.inl (76, 277)))), some (.inl (Int32.ofNat j)), some (.inl b), some (.inl c)] [] m1 (t2_Rst (f, l)) := by
    intro d
    induction d with
    | zero =>
      intro j b c m1 hj i1
      have ej : (Int32.ofNat j).toInt = j := at_ofN (by omega)
      obtain ⟨f1, l1⟩ := m1
      exact z313_C (fun _ h _ => absurd h (by rw [ej, c2]; omega)) (fun _ _ _ => fin j b c _ i1) (fun _ _ => fin j b c _ i1) (fun _ => fin j b c _ i1)
    | succ d ih =>
      intro j b c m1 hj i1
      obtain ⟨f1, l1⟩ := m1
      refine z313_C (fun _ _ _ => ?_) (fun _ _ _ => fin j b c _ i1) (fun _ _ => fin j b c _ i1) (fun _ => fin j b c _ i1)
      refine fl_Tq.cal rfl rfl (fl_bo rfl) rfl ?_
      refine i1.call (hall _ t2_c237_in) ⟨at_k277 _, True.intro⟩ rfl rfl rfl (fun z m2 i2 => ?_)
      obtain ⟨f2, l2⟩ := m2
      refine z313_D ?_
      rw [t2_k1]
      exact ih (j + 1) _ _ _ (by omega) i2
  refine z313_A ?_
  refine fl_Tq.cal rfl rfl (fl_bo rfl) rfl ?_
  refine t2_Iv.put hg (fun m1 i1 _ => ?_)
  obtain ⟨f1, l1⟩ := m1
  refine z313_B ?_
  exact loop 2000 0 _ _ _ rfl i1
/-- harm -/
theorem t2_z314 (hall : ∀ c ∈ at_CM ++ at_CA, at_Valid at_XI (pw_P L xs) c) (hg : at_Good at_XI (f, l)) : fl_Tq (pw_P L xs) 314 0 (fl_args (am_mxl (pw_P L xs) 314) [at_this, .inl a]) [] (f, l) (t2_Rst (f, l)) := by
  have c11 : (11 : Int32).toInt = 11 := by decide +kernel
  have ia := at_i32 a
  show fl_Tq (pw_P L xs) 314 0 [some (.inr (.inr (.inl (76, 277)))), some (.inl a), none, none, none, none] [] (f, l) _
  have look : ∀ (d j : Nat) (b c e : Int32) (m1 : fl_M), j + d = 11 → (∀ w : Nat, 2 ≤ w → w < 1420 → m1.1 280 w = f 280 w) → fl_Tq (pw_P L xs) 314 71 [some (.inr (.inr (.inl (76, 277)))), some (.inl a), some (.inl b), some (.inl c), some (.inl e), some (.inl (Int32.ofNat j))] [] m1 (t2_Rst (f, l)) := by
    intro d
    induction d with
    | zero =>
      intro j b c e m1 hj w1
      have ej : (Int32.ofNat j).toInt = j := at_ofN (by omega)
      obtain ⟨f1, l1⟩ := m1
      exact z314_G (fun h _ => absurd h (by rw [ej, c11]; omega)) (fun _ _ => ⟨⟨_, rfl⟩, w1⟩) (fun _ => ⟨⟨_, rfl⟩, w1⟩)
    | succ d ih =>
      intro j b c e m1 hj w1
      obtain ⟨f1, l1⟩ := m1
      refine z314_G (fun _ _ => ?_) (fun _ _ => ⟨⟨_, rfl⟩, w1⟩) (fun _ => ⟨⟨_, rfl⟩, w1⟩)
      rw [t2_k1]
      exact ih (j + 1) b c e _ (by omega) w1
  have fin : ∀ (b c e : Int32) (m1 : fl_M), t2_Iv (f, l) m1 → fl_Tq (pw_P L xs) 314 65 [some (.inr (.inr (.inl (76, 277)))), some (.inl a), some (.inl b), some (.inl c), some (.inl e), none] [.inr (.inr (.inl (76, 277)))] m1 (t2_Rst (f, l)) := by
    intro b c e m1 i1
    refine fl_Tq.cal rfl rfl (fl_bo rfl) rfl ?_
    refine i1.back (fun m4 _ _ w4 => ?_)
    obtain ⟨f4, l4⟩ := m4
    refine z314_F ?_
    exact look 11 0 b c e _ rfl w4
  have loop : ∀ (d j : Nat) (b c : Int32) (m1 : fl_M), j + d = a.toInt.toNat → t2_Iv (f, l) m1 → fl_Tq (pw_P L xs) 314 30 [some (.inr (.inr (.inl (76, 277)))), some (.inl a), some (.inl b), some (.inl c), some (.inl (Int32.ofNat j)), none] [] m1 (t2_Rst (f, l)) := by
    intro d
    induction d with
    | zero =>
      intro j b c m1 hj i1
      have ej : (Int32.ofNat j).toInt = j := at_ofN (by omega)
      obtain ⟨f1, l1⟩ := m1
      exact z314_D (fun h _ => absurd h (by rw [ej]; omega)) (fun _ _ => fin _ _ _ _ i1) (fun _ => fin _ _ _ _ i1)
    | succ d ih =>
      intro j b c m1 hj i1
      obtain ⟨f1, l1⟩ := m1
      refine z314_D (fun _ _ => ?_) (fun _ _ => fin _ _ _ _ i1) (fun _ => fin _ _ _ _ i1)
      refine fl_Tq.cal rfl rfl (fl_bo rfl) rfl ?_
      refine i1.call (hall _ t2_c237_in) ⟨at_k277 _, True.intro⟩ rfl rfl rfl (fun z m2 i2 => ?_)
      obtain ⟨f2, l2⟩ := m2
      refine z314_E ?_
      rw [t2_k1]
      exact ih (j + 1) _ _ _ (by omega) i2
  refine z314_A ?_
  refine fl_Tq.cal rfl rfl (fl_bo rfl) rfl ?_
  refine r_canRun_q ?_
  refine z314_B (fun _ => ⟨⟨_, rfl⟩, fun w _ _ => rfl⟩) (fun _ => ?_)
  refine fl_Tq.cal rfl rfl (fl_bo rfl) rfl ?_
  refine t2_Iv.put hg (fun m1 i1 _ => ?_)
  obtain ⟨f1, l1⟩ := m1
  refine z314_C ?_
  exact loop _ 0 _ _ _ (Nat.zero_add _) i1
end
end T2MQ8

end
