/-! ===== the law's loop ===== -/
section LWLP
variable {L : Nat} {xs : Nat → Int32}
def lx_Q (v : Option fl_V) (m : fl_M) : Prop := v = some (.inl 1) ∧ m.2.2 ≤ 40
theorem lx_and (x : Int32) : 0 ≤ (x &&& (Int8.ofInt 127).toInt32).toInt ∧ (x &&& (Int8.ofInt 127).toInt32).toInt ≤ 127 := by
  have e : (x &&& (Int8.ofInt 127).toInt32).toInt = ((x.toUInt32 &&& 127).toNat : Int) := by
    have h : ∀ u : UInt32, (Int32.ofUInt32 (u &&& 127)).toInt = ((u &&& 127).toNat : Int) := by
      intro u
      have hu : (u &&& 127).toNat ≤ 127 := by
        rw [UInt32.toNat_and]
        exact Nat.and_le_right
      show (Int32.ofUInt32 (u &&& 127)).toBitVec.toInt = _
      rw [BitVec.toInt_eq_toNat_cond]
      have : (Int32.ofUInt32 (u &&& 127)).toBitVec.toNat = (u &&& 127).toNat := rfl
      rw [this, if_pos (by omega)]
    exact h x.toUInt32
  have hu : (x.toUInt32 &&& 127).toNat ≤ 127 := by
    rw [UInt32.toNat_and]
    exact Nat.and_le_right
  omega
theorem ly_loop (hall : ∀ c ∈ at_CM ++ at_CA, at_Valid at_XI (pw_P L xs) c) (hL : L ≤ 3072) : ∀ (d i : Nat) (m : fl_M), L ≤ i + d → i ≤ L + 6 → t2_Z m → fl_Tq (pw_P L xs) 0 18 (lx_lv i) [] m lx_Q := by
  have e6 : (Int8.ofInt 6).toInt32.toInt = 6 := by decide +kernel
  have eL := at_ofN (k := L) (by omega)
  have e7 : (Int32.ofNat L - (Int8.ofInt 6).toInt32).toInt = (L : Int) - 6 := by rw [at_sub32] <;> rw [eL, e6] <;> omega
  have fin : ∀ (i : Nat) (m : fl_M), t2_Z m → fl_Tq (pw_P L xs) 0 2036 (lx_lv i) [] m lx_Q := by
    intro i m hg
    refine fl_Tq.stp (pw_cod lx_k2036) rfl (fl_bo rfl) rfl ?_
    exact fl_Tq.ret (pw_cod lx_k2037) rfl rfl ⟨rfl, hg.1.2.2.h40⟩
  intro d
  induction d with
  | zero =>
    intro i m hd hi hg
    have ei := at_ofN (k := i) (by omega)
    refine fl_Tq.stp rfl rfl (fl_bo rfl) rfl ?_
    refine fl_Tq.stp rfl rfl (fl_bo rfl) rfl ?_
    refine fl_Tq.stp rfl rfl (fl_bo rfl) rfl ?_
    refine fl_Tq.stp rfl rfl (fl_bo rfl) rfl ?_
    refine fl_Tq.stp rfl rfl (fl_bo rfl) rfl ?_
    refine fl_Tq.jt rfl (fl_bo rfl) ?_ rfl ?_
    · rw [at_c2, ei, e7]
      exact decide_eq_true (by omega)
    exact fin i m hg
  | succ d ih =>
    intro i m hd hi hg
    have ei := at_ofN (k := i) (by omega)
    refine fl_Tq.stp rfl rfl (fl_bo rfl) rfl ?_
    refine fl_Tq.stp rfl rfl (fl_bo rfl) rfl ?_
    refine fl_Tq.stp rfl rfl (fl_bo rfl) rfl ?_
    refine fl_Tq.stp rfl rfl (fl_bo rfl) rfl ?_
    refine fl_Tq.stp rfl rfl (fl_bo rfl) rfl ?_
    by_cases hgo : L < i + 6
    · refine fl_Tq.jt rfl (fl_bo rfl) ?_ rfl ?_
      · rw [at_c2, ei, e7]
        exact decide_eq_true (by omega)
      exact fin i m hg
    refine fl_Tq.jf rfl (fl_bo rfl) ?_ rfl ?_
    · rw [at_c2, ei, e7]
      exact decide_eq_false (by omega)
    have back : ∀ m' : fl_M, t2_Z m' → fl_Tq (pw_P L xs) 0 2030 (lx_lv i) [] m' lx_Q := by
      intro m' hg'
      refine fl_Tq.stp (pw_cod lx_k2030) rfl (fl_bo rfl) rfl ?_
      refine fl_Tq.stp (pw_cod lx_k2033) rfl (fl_bo rfl) rfl ?_
      have := ih (i + 6) m' (by omega) (by omega) hg'
      have e : Int32.ofNat i + Int32.ofInt 6 = Int32.ofNat (i + 6) := by
        have e1 : (Int32.ofInt 6).toInt = 6 := rfl
        refine Int32.toInt.inj ?_
        rw [at_add32 (by omega) (by omega), ei, e1, at_ofN (by omega)]
        omega
      unfold lx_lv at this
      rw [← e] at this
      exact this
    refine fl_Tq.stp rfl rfl (fl_bo rfl) rfl ?_
    refine fl_Tq.stp rfl rfl (fl_bo rfl) rfl ?_
    refine fl_Tq.tld (n := L) (f := xs) (k := i) rfl (fl_bo rfl) rfl ei (by omega) ?_
    refine fl_Tq.stp rfl rfl (fl_bo rfl) rfl ?_
    refine fl_Tq.stp rfl rfl (fl_bo rfl) rfl ?_
    have hx := lx_and (xs i)
    generalize hxg : xs i &&& (Int8.ofInt 127).toInt32 = x at hx
    obtain ⟨z, hz⟩ : ∃ z : Nat, x.toInt = z := ⟨x.toInt.toNat, by omega⟩
    have hxz : x = Int32.ofNat z := Int32.toInt.inj (by rw [at_ofN (by omega)]; exact hz)
    by_cases hz2 : z < 68
    · have h1 := List.all_eq_true.mp lx_swt z (List.mem_range.mpr hz2)
      simp only [Bool.and_eq_true, decide_eq_true_eq] at h1
      obtain ⟨s1, s2⟩ := h1
      refine fl_Tq.stp (pc' := lx_tg.getD z 0) (lv' := lx_lv i) (st' := []) (m' := m) rfl rfl (fl_bo rfl) ?_ (ly_case hall hL (by omega) hg back z hz2)
      show (bif am_swk (xs i &&& (Int8.ofInt 127).toInt32) 0 67 _ then fl_go 33 (am_sw (xs i &&& (Int8.ofInt 127).toInt32) 1997 0 67 _) (lx_lv i) [] m else none) = _
      rw [hxg, hxz, s1]
      show fl_go 33 _ (lx_lv i) [] m = _
      unfold fl_go
      rw [s2]
    · refine fl_Tq.stp (pc' := 2030) (lv' := lx_lv i) (st' := []) (m' := m) rfl rfl (fl_bo rfl) ?_ (back m hg)
      show (bif am_swk (xs i &&& (Int8.ofInt 127).toInt32) 0 67 _ then fl_go 33 (am_sw (xs i &&& (Int8.ofInt 127).toInt32) 1997 0 67 _) (lx_lv i) [] m else none) = _
      rw [hxg]
      have h1 : x.toInt < 0 ∨ 67 < x.toInt := by omega
      unfold am_swk am_sw
      rw [decide_eq_true h1, if_pos h1]
      rfl
/-- THE LAW'S RUN -/
theorem ly_run (hall : ∀ c ∈ at_CM ++ at_CA, at_Valid at_XI (pw_P L xs) c) (hL : L ≤ 3072) : pw_Run L xs := by
  refine pw_Run_of (am_To.mono (at_boot (Q := lx_Q) ?_) ?_)
  · refine fl_Tq.stp rfl rfl (fl_bo rfl) rfl ?_
    refine fl_Tq.stp rfl rfl (fl_bo rfl) rfl ?_
    refine fl_Tq.stp rfl rfl (fl_bo rfl) rfl ?_
    exact ly_loop hall hL L 0 at_m0 (by omega) (by omega) t2_Z0
  · rintro v M ⟨v', m', rfl, rfl, rfl, h⟩
    refine ⟨rfl, ?_, ?_⟩
    · show (fl_H m').1.length ≤ 600000
      unfold fl_H fl_N
      simp
      omega
    · show fl_S m'.2.2 ≤ 7302250
      unfold fl_S
      omega
end LWLP
