/-! ===== block 0: (7) of a second: which faults are so ===== -/
section C0FLT
variable {fc fr f g F G : t2_F} {C n k : Nat} {c x y z : Int32}
theorem t2_bt_or {j : Nat} : t2_bt (x ||| y) j = (t2_bt x j || t2_bt y j) := BitVec.getLsbD_or
theorem t2_bt_if {P : Prop} [Decidable P] {i : Nat} (hc : ∀ k : Fin 11, t2_bt c k.val = decide (k.val = i)) (hk : k < 11) : t2_bt (if P then c else (0 : Int32)) k = (decide P && decide (k = i)) := by
  by_cases h : P
  · rw [if_pos h, decide_eq_true h, Bool.true_and]
    exact hc ⟨k, hk⟩
  · rw [if_neg h, decide_eq_false h, Bool.false_and]
    exact t2_bt0
/-- the cells by which the first four are so: the class's are the reference's -/
theorem c0_four (hn : (fc 1 5).toInt = n) (hg : (fr 280 2).toInt = n) (hn16 : n ≤ 16) (hv : ∀ C : Nat, C < n → c0_voltsAt_v fc C (fc 1 9) = r_voltsOf_v fr (Int32.ofNat C) C) (hw : ∀ C : Nat, C < n → fc (18 + 4 * C) 6 = fr 280 (444 + 61 * C + 3)) (hx : fc 1 9 = fr 280 5) (hs : c0_Rs fc fr) :
    (c0_faultsOfCells_a26 fc n).1 = r_soBy_v fr (0 : Int32) ∧ (c0_faultsOfCells_a26 fc n).2.1 = r_soBy_v fr (1 : Int32) ∧ (c0_faultsOfCells_a26 fc n).2.2.1 = r_soBy_v fr (2 : Int32) ∧ (c0_faultsOfCells_a26 fc n).2.2.2 = r_soBy_v fr (3 : Int32) := by
  have s0 : fc 4 0 = fr 280 34 := hs 0 (by omega)
  have s1 : fc 4 1 = fr 280 35 := hs 1 (by omega)
  have s2 : fc 4 2 = fr 280 36 := hs 2 (by omega)
  have s3 : fc 4 3 = fr 280 37 := hs 3 (by omega)
  have hnn : (fc 1 5).toInt.toNat = n := by omega
  have hgn : (fr 280 2).toInt.toNat = n := by omega
  have ix : ∀ k : Nat, k < n → ((fc 1 5) - (1 : Int32)) - (Int32.ofNat k) = Int32.ofNat (n - 1 - k) := fun k hk => Int32.toInt.inj (by rw [t2_di hn hk, at_ofN (by omega)])
  have dec : ∀ (P : Prop) [Decidable P] (a b : Int32), (if P then a else b) = if decide P = true then a else b := by
    intro P _ a b
    by_cases h : P
    · rw [if_pos h, if_pos (decide_eq_true h)]
    · rw [if_neg h, if_neg (by rw [decide_eq_false h]; exact Bool.false_ne_true)]
  refine ⟨t2_sf_u (t2_dsc (g := fun k => (c0_faultsOfCells_a26 fc k).1) rfl (fun k hk => ?_)) (r_so_sf (x := 0) (by omega) hgn), t2_sf_u (t2_dsc (g := fun k => (c0_faultsOfCells_a26 fc k).2.1) rfl (fun k hk => ?_)) (r_so_sf (x := 1) (by omega) hgn), t2_sf_u (t2_dsc (g := fun k => (c0_faultsOfCells_a26 fc k).2.2.1) rfl (fun k hk => ?_)) (r_so_sf (x := 2) (by omega) hgn), t2_sf_u (t2_dsc (g := fun k => (c0_faultsOfCells_a26 fc k).2.2.2) rfl (fun k hk => ?_)) (r_so_sf (x := 3) (by omega) hgn)⟩
  · rw [r_sp0]
    show (if _ then _ else (c0_faultsOfCells_a26 fc k).1) = if _ then _ else (c0_faultsOfCells_a26 fc k).1
    rw [hnn, ix k hk, hv _ (by omega), s0]
    exact dec _ _ _
  · rw [r_sp1]
    show (if _ then _ else (c0_faultsOfCells_a26 fc k).2.1) = if _ then _ else (c0_faultsOfCells_a26 fc k).2.1
    rw [hnn, ix k hk, hv _ (by omega), s1]
    exact dec _ _ _
  · rw [r_sp2]
    show (if _ then _ else (c0_faultsOfCells_a26 fc k).2.2.1) = if _ then _ else (c0_faultsOfCells_a26 fc k).2.2.1
    rw [hnn, ix k hk, hw _ (by omega), s2]
    exact dec _ _ _
  · rw [r_sp3]
    show (if _ then (if _ then _ else (c0_faultsOfCells_a26 fc k).2.2.2) else (c0_faultsOfCells_a26 fc k).2.2.2) = if _ then _ else (c0_faultsOfCells_a26 fc k).2.2.2
    rw [hnn, ix k hk, hw _ (by omega), s3, hx]
    by_cases h : 0 < (fr 280 5).toInt
    · rw [if_pos h, decide_eq_true h, Bool.true_and]
      exact dec _ _ _
    · rw [if_neg h, decide_eq_false h, Bool.false_and, if_neg Bool.false_ne_true]
def t2_cb (a b c d : Bool) (k : Nat) : Bool := if k = 0 then a else if k = 1 then b else if k = 2 then c else if k = 3 then d else false
theorem c0_fcv {H Lo T K : Int32} (hn : (fc 1 5).toInt.toNat = n) (eH : (c0_faultsOfCells_a26 fc n).1 = H) (eL : (c0_faultsOfCells_a26 fc n).2.1 = Lo) (eT : (c0_faultsOfCells_a26 fc n).2.2.1 = T) (eK : (c0_faultsOfCells_a26 fc n).2.2.2 = K) (k : Fin 11) :
    t2_bt (c0_faultsOfCells_v fc) k.val = t2_cb (decide (¬ H.toInt = (-1 : Int32).toInt)) (decide (¬ Lo.toInt = (-1 : Int32).toInt)) (decide (¬ T.toInt = (-1 : Int32).toInt) || decide ((fc 4 2).toInt < (fc 1 11).toInt)) (decide (¬ K.toInt = (-1 : Int32).toInt)) k.val := by
  unfold c0_faultsOfCells_v
  rw [hn, eH, eL, eT, eK]
  generalize (-1 : Int32).toInt = m1
  by_cases hH : H.toInt = m1 <;> by_cases hL : Lo.toInt = m1 <;> by_cases hT : T.toInt = m1 <;> by_cases hB : (fc 4 2).toInt < (fc 1 11).toInt <;> by_cases hK : K.toInt = m1 <;>
    simp only [hH, hL, hT, hB, hK, if_true, if_false, c0_blame_v, not_true, not_false_eq_true, decide_true, decide_false, Bool.or_true, Bool.or_false, Bool.true_or, Bool.false_or] <;> revert k <;> decide +kernel
theorem c0_fcm {H Lo T K : Int32} (hn : (fc 1 5).toInt.toNat = n) (eH : (c0_faultsOfCells_a26 fc n).1 = H) (eL : (c0_faultsOfCells_a26 fc n).2.1 = Lo) (eT : (c0_faultsOfCells_a26 fc n).2.2.1 = T) (eK : (c0_faultsOfCells_a26 fc n).2.2.2 = K) :
    c0_faultsOfCells_m fc 12 0 = (if H.toInt = (-1 : Int32).toInt then fc 12 0 else H) ∧ c0_faultsOfCells_m fc 12 1 = (if Lo.toInt = (-1 : Int32).toInt then fc 12 1 else Lo) ∧ c0_faultsOfCells_m fc 12 2 = (if T.toInt = (-1 : Int32).toInt then (if (fc 4 2).toInt < (fc 1 11).toInt then T else fc 12 2) else T) ∧ c0_faultsOfCells_m fc 12 3 = (if K.toInt = (-1 : Int32).toInt then fc 12 3 else K) := by
  have t0 : (0 : Int32).toInt.toNat = 0 := rfl
  have t1 : (1 : Int32).toInt.toNat = 1 := rfl
  have t2 : (2 : Int32).toInt.toNat = 2 := rfl
  have t3 : (3 : Int32).toInt.toNat = 3 := rfl
  unfold c0_faultsOfCells_m
  rw [hn, eH, eL, eT, eK]
  generalize (-1 : Int32).toInt = m1
  by_cases hH : H.toInt = m1 <;> by_cases hL : Lo.toInt = m1 <;> by_cases hT : T.toInt = m1 <;> by_cases hB : (fc 4 2).toInt < (fc 1 11).toInt <;> by_cases hK : K.toInt = m1 <;>
    simp (disch := decide) only [hH, hL, hT, hB, hK, if_true, if_false, c0_blame_m, t0, t1, t2, t3, fl_row_self, upd_self, upd_ne, and_self]
end C0FLT
