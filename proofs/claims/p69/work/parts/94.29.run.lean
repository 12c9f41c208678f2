/-! ===== block 0: a second of the class, run ===== -/
section C0RUN
variable {fc fr f g : t2_F} {C n : Nat} {c x : Int32}
theorem t2_wf_I {g : t2_F → Option t2_F} {I : t2_F → Prop} (hI : ∀ f f' : t2_F, I f → g f = some f' → I f') : ∀ (n : Nat) (f : t2_F), I f → I (t2_wf g n f) := by
  intro n
  induction n with
  | zero => intro f h; exact h
  | succ n ih =>
    intro f h
    unfold t2_wf
    cases e : g f with
    | none => exact h
    | some f' => exact ih f' (hI f f' h e)
theorem c0_follow_p32 {i : Nat} (ht : 1 ≤ (f (19 + 4 * i) 2).toInt ∧ (f (19 + 4 * i) 2).toInt ≤ 32) (hv : t2_p32 (f (20 + 4 * i))) (hx : t2_pt x) : t2_p32 (c0_follow_m f i x (20 + 4 * i)) := by
  have c32 : (32 : Int32).toInt = 32 := by decide +kernel
  have c1 : (1 : Int32).toInt = 1 := by decide +kernel
  have cc : ∀ F : t2_F, (1 ≤ (F (19 + 4 * i) 2).toInt ∧ (F (19 + 4 * i) 2).toInt ≤ 32) ∧ t2_p32 (F (20 + 4 * i)) → t2_p32 (c0_cc_m F i (20 + 4 * i)) := fun F hF => by
    unfold c0_cc_m
    refine (t2_wf_I (g := fun f => c0_cc_g0 f i) (I := fun F => (1 ≤ (F (19 + 4 * i) 2).toInt ∧ (F (19 + 4 * i) 2).toInt ≤ 32) ∧ t2_p32 (F (20 + 4 * i))) (fun a b h e => ?_) 32 F hF).2
    have d := c0_cc_dec (by omega) h.2 e
    exact ⟨⟨d.1.2.1, by omega⟩, d.2 h.1.2⟩
  unfold c0_follow_m
  split
  · exact hv
  · split
    · exact hv
    · split
      · refine cc _ ⟨?_, c0_uadd_hv hv hx⟩
        unfold c0_uadd_m
        split
        · rename_i h
          rw [fl_row_self, upd_self]
          have e1 : ((f (19 + 4 * i) 2) - (1 : Int32)).toInt = (f (19 + 4 * i) 2).toInt - 1 := by rw [at_sub32 (by omega) (by omega), c1]
          rw [at_add32 (by omega) (by omega), e1, c1]
          omega
        · rename_i h
          rw [fl_row_self, upd_self, at_add32 (by omega) (by omega), c1]
          omega
      · refine cc _ ⟨?_, ?_⟩
        · rw [fl_row_ne (by omega)]
          exact ht
        · rw [fl_row_self]
          exact hv.upd hx
/-- what lies in the class's rows beside the relation -/
def c0_J (f : t2_F) : Prop := (∀ i : Nat, i < 16 → t2_p32 (f (20 + 4 * i))) ∧ ∀ k : Nat, k < 8 → 0 ≤ (f 9 ((k * 5) + 3)).toInt ∧ (f 9 ((k * 5) + 3)).toInt ≤ 29
theorem c0_J.congr (h : c0_J f) (e : ∀ p : Nat, (p = 9 ∨ (19 < p ∧ p < 82 ∧ ∀ C : Nat, p ≠ 18 + 4 * C)) → g p = f p) : c0_J g :=
  ⟨fun i hi => by rw [e _ (Or.inr ⟨by omega, by omega, fun C => by omega⟩)]; exact h.1 i hi, fun k hk => by rw [e _ (Or.inl rfl)]; exact h.2 k hk⟩
theorem c0_sKeep_J (hc : 0 ≤ (f 1 5).toInt ∧ (f 1 5).toInt ≤ 16) (hkt : ∀ i : Nat, (i : Int) < (f 1 5).toInt → (1 ≤ (f (19 + 4 * i) 2).toInt ∧ (f (19 + 4 * i) 2).toInt ≤ 32) ∧ t2_p32 (f (20 + 4 * i)) ∧ t2_pt (f (18 + 4 * i) 3)) (hj : c0_J f) : c0_J (c0_sKeep_m f) := by
  have fr : ∀ (k p : Nat), p ≠ 16 → p ≠ 17 → (p < 18 ∨ 18 + 4 * k ≤ p) → c0_sKeep_f25 f k p = f p := fun k p h16 h17 hp => by
    rw [c0_sKeep_f25_fr (k := k) (fun j hj => by omega) (fun j hj => by omega) (fun j hj => by omega) (fun j hj => by omega), c0_tadd_fr h17 h16]
  refine ⟨fun i hi => ?_, fun k hk => ?_⟩
  · by_cases hn : (i : Int) < (f 1 5).toInt
    · obtain ⟨k1, k2, k3⟩ := hkt i hn
      have at_ : ∀ k : Nat, i < k → c0_sKeep_f25 f k (20 + 4 * i) = c0_sKeep_b25_m (c0_sKeep_f25 f i) i (20 + 4 * i) := by
        intro k
        induction k with
        | zero => intro h; exact absurd h (Nat.not_lt_zero _)
        | succ k ih =>
          intro h
          by_cases e : i = k
          · subst e
            rfl
          · exact (c0_sKeep_b25_fr (f := c0_sKeep_f25 f k) (k := k) (by omega) (by omega) (by omega) (by omega)).trans (ih (by omega))
      unfold c0_sKeep_m
      rw [at_ _ (by omega)]
      unfold c0_sKeep_b25_m c0_keepTrack_m
      have r18 := fr i (18 + 4 * i) (by omega) (by omega) (by omega)
      have r19 := fr i (19 + 4 * i) (by omega) (by omega) (by omega)
      have r20 := fr i (20 + 4 * i) (by omega) (by omega) (by omega)
      refine c0_follow_p32 ?_ ?_ ?_
      · rw [fl_row_ne (by omega), r19]
        exact k1
      · rw [fl_row_ne (by omega), r20]
        exact k2
      · rw [r18]
        exact k3
    · unfold c0_sKeep_m
      rw [fr _ _ (by omega) (by omega) (by omega)]
      exact hj.1 i hi
  · unfold c0_sKeep_m
    rw [fr _ _ (by decide) (by decide) (by omega)]
    exact hj.2 k hk
theorem c0_I.hc (h : c0_I fc fr) : 0 ≤ (fc 1 5).toInt ∧ (fc 1 5).toInt ≤ 16 := by have := h.cnt; omega
theorem c0_IM.hc (h : c0_IM fc fr) : 0 ≤ (fc 1 5).toInt ∧ (fc 1 5).toInt ≤ 16 := by have := h.cnt; omega
theorem c0_IK.hc (h : c0_IK fc fr) : 0 ≤ (fc 1 5).toInt ∧ (fc 1 5).toInt ≤ 16 := by
  obtain ⟨⟨⟨h5, -⟩, -⟩, -, -, -, -, ⟨-, -, h2, -⟩, -⟩ := h
  rw [h5]
  exact h2
theorem c0_I.hk (h : c0_I fc fr) : ∀ i : Nat, (i : Int) < (fc 1 5).toInt → t2_cap (fc (18 + 4 * i) 0) := fun i hi => by
  have cn := h.cnt
  have k := h.cell (C := i) (by omega)
  rw [k.1.1.1.1]
  exact k.2.1.1
/-- the rows that (2) and (4) leave -/
theorem c0_I.curP (h : c0_I fc fr) : ∀ p : Nat, p ≠ 1 → (∀ C : Nat, p ≠ 18 + 4 * C) → c0_letCurrent_m fc p = fc p := by
  obtain ⟨⟨⟨g5, g6, g7, g8⟩, -⟩, rs, gx, cl, ok⟩ := id h
  have hm0 : t2_lo 4 ≤ (fr 280 38).toInt ∧ (fr 280 38).toInt ≤ t2_hi 4 := ok.s (k := 4) (by decide)
  have l4 : t2_lo 4 = 1 := by decide
  have h4 : t2_hi 4 = 99999 := by decide
  obtain ⟨-, -, -, k4, -⟩ := c0_cur_eq h.rl g7 gx.1.1 ok.2.2.1 (by omega)
  exact fun p hp hC => funext (fun k => k4 p k (fun q => absurd q hp) (fun C c q => absurd q (hC C)))
theorem c0_I.balP (h : c0_I fc fr) : ∀ p : Nat, p ≠ 1 → (∀ C : Nat, p ≠ 18 + 4 * C) → c0_balance_m fc p = fc p := by
  have hh := h
  obtain ⟨⟨⟨g5, g6, g7, g8⟩, ⟨g9, g10, g11, g12⟩, g13, g14, g15, g16⟩, rs, gx, cl, ok⟩ := h
  have cn := hh.cnt
  generalize hnn : (fr 280 2).toInt.toNat = n at *
  have hM : (fc 1 5).toInt.toNat = n := by omega
  have oc : ∀ C : Nat, C < n → t2_OC (fr 280) C := fun C hC => (hh.cell (by omega)).2
  have rc : ∀ C : Nat, C < n → c0_Rc fc fr C := fun C hC => (hh.cell (by omega)).1.1
  have rb : c0_RB fc fr n := ⟨rs, fun C hC => ⟨rc C hC, by rw [(rc C hC).1.1]; exact (oc C hC).1.1, (oc C hC).1⟩, g14, g15, g11, g13, g16⟩
  have b13 : t2_lo 13 ≤ (fr 280 47).toInt ∧ (fr 280 47).toInt ≤ t2_hi 13 := ok.s (k := 13) (by decide)
  have q13 : t2_lo 13 = 0 ∧ t2_hi 13 = 16 := by decide
  have hl : fc 10 3 = fr 280 6 := gx.2.1.1.1
  obtain ⟨P, -, -, -⟩ := c0_balance_o hM hnn cn.2.1 rb hl g6 (by omega)
  exact fun p hp hC => P p hp (fun C _ => hC C)
end C0RUN
