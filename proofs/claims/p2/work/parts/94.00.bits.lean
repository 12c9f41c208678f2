/-! ===== bits ===== -/
def t2_bt (b : Int32) (j : Nat) : Bool := b.toBitVec.getLsbD j
theorem t2_shn : ∀ j : Fin 32, ((Int32.ofNat j.val &&& 31).toBitVec.smod 32).toNat = j.val := by decide +kernel
theorem t2_one : ∀ c : Fin 32, ((1 : Int32) <<< (Int32.ofNat c.val &&& 31)).toBitVec = 1#32 <<< c.val := by decide +kernel
theorem t2_and1 (z : Int32) : z &&& 1 = if z.toBitVec.getLsbD 0 = true then 1 else 0 := by
  apply Int32.toBitVec_inj.mp
  show z.toBitVec &&& 1#32 = _
  rw [BitVec.and_one_eq_setWidth_ofBool_getLsbD]
  cases z.toBitVec.getLsbD 0 <;> rfl
theorem t2_bit {b : Int32} {j : Nat} (hj : j < 32) : (b >>> (Int32.ofNat j &&& 31)) &&& 1 = if t2_bt b j = true then 1 else 0 := by
  have e : (b >>> (Int32.ofNat j &&& 31)).toBitVec.getLsbD 0 = b.toBitVec.getLsbD j := by
    show (b.toBitVec.sshiftRight (((Int32.ofNat j &&& 31).toBitVec.smod 32).toNat)).getLsbD 0 = _
    rw [t2_shn ⟨j, hj⟩, BitVec.getLsbD_sshiftRight, Nat.add_zero, if_pos hj]
    rfl
  rw [t2_and1, e]
  rfl
theorem t2_bit0 {b : Int32} {j : Nat} (hj : j < 32) : ((b >>> (Int32.ofNat j &&& 31)) &&& 1).toInt = 0 ↔ t2_bt b j = false := by
  rw [t2_bit hj]
  cases t2_bt b j
  · exact ⟨fun _ => rfl, fun _ => rfl⟩
  · exact ⟨fun h => absurd h (by decide), fun h => by cases h⟩
theorem t2_has {b : Int32} {j : Nat} (hj : j < 32) : r_has_v b (Int32.ofNat j) = if t2_bt b j = true then 1 else 0 := by
  unfold r_has_v
  rw [t2_bit hj]
  cases t2_bt b j
  · rfl
  · rfl
theorem t2_has0 {b : Int32} {j : Nat} (hj : j < 32) : (r_has_v b (Int32.ofNat j)).toInt = 0 ↔ t2_bt b j = false := by
  rw [t2_has hj]
  cases t2_bt b j
  · exact ⟨fun _ => rfl, fun _ => rfl⟩
  · exact ⟨fun h => absurd h (by decide), fun h => by cases h⟩
theorem t2_bs {i c : Nat} (hi : i < 32) : (1#32 <<< c).getLsbD i = decide (i = c) := by
  rw [BitVec.getLsbD_shiftLeft, BitVec.getLsbD_one]
  by_cases e : i = c
  · subst e
    simp [hi]
  · by_cases l : i < c
    · simp [l, e]
    · have : ¬ i - c = 0 := by omega
      simp [this, e]
theorem t2_bor {b : Int32} {c j : Nat} (hc : c < 32) (hj : j < 32) : t2_bt (b ||| ((1 : Int32) <<< (Int32.ofNat c &&& 31))) j = (t2_bt b j || decide (j = c)) := by
  show (b.toBitVec ||| ((1 : Int32) <<< (Int32.ofNat c &&& 31)).toBitVec).getLsbD j = _
  rw [t2_one ⟨c, hc⟩, BitVec.getLsbD_or, t2_bs hj]
  rfl
theorem t2_anb {x : Int32} {c : Nat} (hc : c < 32) : (x &&& ((1 : Int32) <<< (Int32.ofNat c &&& 31))).toInt = 0 ↔ t2_bt x c = false := by
  have k : (x &&& ((1 : Int32) <<< (Int32.ofNat c &&& 31))).toBitVec = x.toBitVec &&& (1#32 <<< c) := by
    rw [← t2_one ⟨c, hc⟩]
    rfl
  constructor
  · intro h
    have e : x &&& ((1 : Int32) <<< (Int32.ofNat c &&& 31)) = 0 := Int32.toInt.inj h
    have e2 : (x &&& ((1 : Int32) <<< (Int32.ofNat c &&& 31))).toBitVec.getLsbD c = (0 : Int32).toBitVec.getLsbD c := congrArg (fun z : Int32 => z.toBitVec.getLsbD c) e
    rw [k, BitVec.getLsbD_and, t2_bs hc, decide_eq_true rfl, Bool.and_true] at e2
    exact e2.trans (BitVec.getLsbD_zero (w := 32))
  · intro h
    have e : x &&& ((1 : Int32) <<< (Int32.ofNat c &&& 31)) = 0 := by
      apply Int32.toBitVec_inj.mp
      rw [k]
      apply BitVec.eq_of_getLsbD_eq
      intro i hi
      rw [BitVec.getLsbD_and, t2_bs hi]
      by_cases e : i = c
      · subst e
        have h : x.toBitVec.getLsbD i = false := h
        rw [h, Bool.false_and]
        exact (BitVec.getLsbD_zero).symm
      · rw [decide_eq_false e, Bool.and_false]
        exact (BitVec.getLsbD_zero).symm
    rw [e]
    rfl
theorem t2_bt0 {j : Nat} : t2_bt 0 j = false := BitVec.getLsbD_zero
/-- two numbers are the same if the bits are -/
theorem t2_bext {x y : Int32} (h : ∀ j : Nat, j < 32 → t2_bt x j = t2_bt y j) : x = y := by
  apply Int32.toBitVec_inj.mp
  exact BitVec.eq_of_getLsbD_eq (fun i hi => h i hi)
