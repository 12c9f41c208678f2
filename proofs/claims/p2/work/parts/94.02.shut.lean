/-! ===== block 0: (4) of a second: shuttles ===== -/
section C0SHUT
variable {fc fr F G : t2_F} {C : Nat} {c x : Int32}
theorem c0_tog {f : t2_F} {i : Nat} {x : Int32} : c0_takeOrGive_m f i x (18 + 4 * i) 2 = t2_heldTo_v (f (18 + 4 * i) 2 + x) (0 : Int32) (f (18 + 4 * i) 0 * (3600 : Int32)) ∧
    c0_takeOrGive_m f i x (18 + 4 * i) 3 = t2_partOf_v (c0_takeOrGive_m f i x (18 + 4 * i) 2) (f (18 + 4 * i) 0 * (3600 : Int32)) ∧
    c0_takeOrGive_m f i x (18 + 4 * i) 4 = t2_rb (c0_takeOrGive_m f i x (18 + 4 * i) 3) ∧
    c0_takeOrGive_m f i x (18 + 4 * i) 8 = t2_heldTo_v (f (18 + 4 * i) 8 + x) (0 : Int32) (f (18 + 4 * i) 0 * (3600 : Int32)) ∧
    ∀ j : Nat, j ≠ 2 → j ≠ 3 → j ≠ 4 → j ≠ 8 → c0_takeOrGive_m f i x (18 + 4 * i) j = f (18 + 4 * i) j := by
  unfold c0_takeOrGive_m c0_putReckoned_m c0_putCharge_m
  refine ⟨?_, ?_, ?_, ?_, fun j h2 h3 h4 h8 => ?_⟩ <;> simp (disch := omega) only [fl_row_self, upd_self, upd_ne]
theorem c0_Rc_new (h : c0_Rc fc fr C) (hcap : t2_cap (fc (18 + 4 * C) 0)) (e2 : F (18 + 4 * C) 2 = G 280 (444 + 61 * C + 1)) (e3 : F (18 + 4 * C) 3 = t2_partOf_v (F (18 + 4 * C) 2) (fc (18 + 4 * C) 0 * (3600 : Int32))) (e4 : F (18 + 4 * C) 4 = t2_rb (F (18 + 4 * C) 3)) (e8 : F (18 + 4 * C) 8 = G 280 (444 + 61 * C + 4)) (eo : ∀ j : Nat, j ≠ 2 → j ≠ 3 → j ≠ 4 → j ≠ 8 → F (18 + 4 * C) j = fc (18 + 4 * C) j) (go : ∀ w : Nat, w < 61 → w ≠ 1 → w ≠ 4 → G 280 (444 + 61 * C + w) = fr 280 (444 + 61 * C + w)) : c0_Rc F G C ∧ t2_cap (F (18 + 4 * C) 0) := by
  obtain ⟨⟨h0, h1, h2⟩, ⟨h3, h4⟩, ⟨h5, h6, h7⟩, h8, h9, h18⟩ := h
  have q0 : F (18 + 4 * C) 0 = fc (18 + 4 * C) 0 := eo 0 (by decide) (by decide) (by decide) (by decide)
  have g0 : G 280 (444 + 61 * C + 0) = fr 280 (444 + 61 * C + 0) := go 0 (by decide) (by decide) (by decide)
  have p3 : F (18 + 4 * C) 3 = r_partOf_v G 0 C := by
    unfold r_partOf_v
    rw [g0, ← h0, t2_partAt_eq hcap, e3, e2]
  refine ⟨⟨⟨?_, ?_, e2⟩, ⟨p3, ?_⟩, ⟨?_, ?_, ?_⟩, e8, ?_, ?_⟩, ?_⟩
  · rw [q0, g0, h0]
  · rw [eo 1 (by decide) (by decide) (by decide) (by decide), go 6 (by decide) (by decide) (by decide), h1]
  · rw [e4, p3]
  · rw [eo 5 (by decide) (by decide) (by decide) (by decide), go 2 (by decide) (by decide) (by decide), h5]
  · rw [eo 6 (by decide) (by decide) (by decide) (by decide), go 3 (by decide) (by decide) (by decide), h6]
  · rw [eo 7 (by decide) (by decide) (by decide) (by decide), go 9 (by decide) (by decide) (by decide), h7]
  · rw [eo 9 (by decide) (by decide) (by decide) (by decide), go 5 (by decide) (by decide) (by decide), h9]
  · rw [eo 18 (by decide) (by decide) (by decide) (by decide), go 60 (by decide) (by decide) (by decide), h18]
  · rw [q0]
    exact hcap
/-- a shuttle from the cell A to the cell B: the class -/
noncomputable def c0_sh (f : t2_F) (A B : Nat) : t2_F := fl_row (c0_takeOrGive_m (c0_takeOrGive_m f A (-(t2_min_v (f 4 15) (f (18 + 4 * A) 2)))) B (t2_min_v (((t2_min_v (f 4 15) (f (18 + 4 * A) 2)) * (f 4 16)) / (100 : Int32)) (((f (18 + 4 * B) 0) * (3600 : Int32)) - (f (18 + 4 * B) 2)))) 1 (upd (upd ((c0_takeOrGive_m (c0_takeOrGive_m f A (-(t2_min_v (f 4 15) (f (18 + 4 * A) 2)))) B (t2_min_v (((t2_min_v (f 4 15) (f (18 + 4 * A) 2)) * (f 4 16)) / (100 : Int32)) (((f (18 + 4 * B) 0) * (3600 : Int32)) - (f (18 + 4 * B) 2)))) 1) 14 ((f 1 14) + (t2_min_v (f 4 15) (f (18 + 4 * A) 2)))) 15 ((f 1 15) + ((t2_min_v (f 4 15) (f (18 + 4 * A) 2)) - (t2_min_v (((t2_min_v (f 4 15) (f (18 + 4 * A) 2)) * (f 4 16)) / (100 : Int32)) (((f (18 + 4 * B) 0) * (3600 : Int32)) - (f (18 + 4 * B) 2))))))
theorem c0_shuttle_sh {f : t2_F} {i : Nat} : c0_shuttle_m f i = if (f 4 14).toInt < (t2_abs_v ((f (18 + 4 * i) 3) - (f (18 + 4 * (i + 1)) 3))).toInt then (if (f (18 + 4 * (i + 1)) 3).toInt < (f (18 + 4 * i) 3).toInt then c0_sh f i (i + 1) else c0_sh f (i + 1) i) else f := rfl
theorem c0_sh_w {f : t2_F} {A B : Nat} (hAB : A ≠ B) :
    (c0_sh f A B (18 + 4 * A) 2 = t2_heldTo_v (f (18 + 4 * A) 2 + -(t2_min_v (f 4 15) (f (18 + 4 * A) 2))) (0 : Int32) (f (18 + 4 * A) 0 * (3600 : Int32)) ∧ c0_sh f A B (18 + 4 * A) 3 = t2_partOf_v (c0_sh f A B (18 + 4 * A) 2) (f (18 + 4 * A) 0 * (3600 : Int32)) ∧ c0_sh f A B (18 + 4 * A) 4 = t2_rb (c0_sh f A B (18 + 4 * A) 3) ∧ c0_sh f A B (18 + 4 * A) 8 = t2_heldTo_v (f (18 + 4 * A) 8 + -(t2_min_v (f 4 15) (f (18 + 4 * A) 2))) (0 : Int32) (f (18 + 4 * A) 0 * (3600 : Int32)) ∧ ∀ j : Nat, j ≠ 2 → j ≠ 3 → j ≠ 4 → j ≠ 8 → c0_sh f A B (18 + 4 * A) j = f (18 + 4 * A) j) ∧
    (c0_sh f A B (18 + 4 * B) 2 = t2_heldTo_v (f (18 + 4 * B) 2 + (t2_min_v (((t2_min_v (f 4 15) (f (18 + 4 * A) 2)) * (f 4 16)) / (100 : Int32)) (((f (18 + 4 * B) 0) * (3600 : Int32)) - (f (18 + 4 * B) 2)))) (0 : Int32) (f (18 + 4 * B) 0 * (3600 : Int32)) ∧ c0_sh f A B (18 + 4 * B) 3 = t2_partOf_v (c0_sh f A B (18 + 4 * B) 2) (f (18 + 4 * B) 0 * (3600 : Int32)) ∧ c0_sh f A B (18 + 4 * B) 4 = t2_rb (c0_sh f A B (18 + 4 * B) 3) ∧ c0_sh f A B (18 + 4 * B) 8 = t2_heldTo_v (f (18 + 4 * B) 8 + (t2_min_v (((t2_min_v (f 4 15) (f (18 + 4 * A) 2)) * (f 4 16)) / (100 : Int32)) (((f (18 + 4 * B) 0) * (3600 : Int32)) - (f (18 + 4 * B) 2)))) (0 : Int32) (f (18 + 4 * B) 0 * (3600 : Int32)) ∧ ∀ j : Nat, j ≠ 2 → j ≠ 3 → j ≠ 4 → j ≠ 8 → c0_sh f A B (18 + 4 * B) j = f (18 + 4 * B) j) ∧
    (∀ p : Nat, p ≠ 1 → p ≠ 18 + 4 * A → p ≠ 18 + 4 * B → c0_sh f A B p = f p) ∧
    (∀ j : Nat, j ≠ 14 → j ≠ 15 → c0_sh f A B 1 j = f 1 j) ∧ c0_sh f A B 1 14 = f 1 14 + t2_min_v (f 4 15) (f (18 + 4 * A) 2) ∧ c0_sh f A B 1 15 = f 1 15 + (t2_min_v (f 4 15) (f (18 + 4 * A) 2) - t2_min_v (((t2_min_v (f 4 15) (f (18 + 4 * A) 2)) * (f 4 16)) / (100 : Int32)) (((f (18 + 4 * B) 0) * (3600 : Int32)) - (f (18 + 4 * B) 2))) := by
  generalize hL : t2_min_v (f 4 15) (f (18 + 4 * A) 2) = L
  generalize hM : t2_min_v (L * (f 4 16) / (100 : Int32)) (((f (18 + 4 * B) 0) * (3600 : Int32)) - (f (18 + 4 * B) 2)) = M
  have e : c0_sh f A B = fl_row (c0_takeOrGive_m (c0_takeOrGive_m f A (-L)) B M) 1 (upd (upd ((c0_takeOrGive_m (c0_takeOrGive_m f A (-L)) B M) 1) 14 (f 1 14 + L)) 15 (f 1 15 + (L - M))) := by
    unfold c0_sh
    rw [hL, hM]
  have oth : ∀ p : Nat, p ≠ 18 + 4 * A → p ≠ 18 + 4 * B → c0_takeOrGive_m (c0_takeOrGive_m f A (-L)) B M p = f p := fun p hA hB => by
    rw [c0_takeOrGive_fr (p := p) (i := B) hB, c0_takeOrGive_fr (p := p) (i := A) hA]
  have eA : c0_sh f A B (18 + 4 * A) = c0_takeOrGive_m f A (-L) (18 + 4 * A) := by
    rw [e, fl_row_ne (by omega), c0_takeOrGive_fr (p := 18 + 4 * A) (i := B) (by omega)]
  have eB : c0_sh f A B (18 + 4 * B) = c0_takeOrGive_m (c0_takeOrGive_m f A (-L)) B M (18 + 4 * B) := by
    rw [e, fl_row_ne (by omega)]
  have fB : c0_takeOrGive_m f A (-L) (18 + 4 * B) = f (18 + 4 * B) := c0_takeOrGive_fr (p := 18 + 4 * B) (i := A) (by omega)
  have tA := c0_tog (f := f) (i := A) (x := -L)
  have tB := c0_tog (f := c0_takeOrGive_m f A (-L)) (i := B) (x := M)
  rw [fB] at tB
  rw [eA, eB]
  refine ⟨tA, tB, fun p h1 hA hB => ?_, fun j h14 h15 => ?_, ?_, ?_⟩
  · rw [e, fl_row_ne h1, oth p hA hB]
  · rw [e, fl_row_self, upd_ne h15, upd_ne h14, oth 1 (by omega) (by omega)]
  · rw [e, fl_row_self, upd_ne (by decide), upd_self]
  · rw [e, fl_row_self, upd_self]
end C0SHUT
