/-! ===== set answers alike: what is bounded how (case 3) ===== -/
def at_lo3 (n : Nat) : Int := ((at_i0 278).getD (3 * n) 0).toInt
def at_hi3 (n : Nat) : Int := ((at_i0 278).getD (3 * n + 1) 0).toInt
theorem at_tab3 : ∀ n : Fin 30, (pw_tbl 2 n.val).toInt = at_lo3 n.val ∧ (pw_tbl 3 n.val).toInt = at_hi3 n.val ∧ -99999 ≤ at_lo3 n.val ∧ at_hi3 n.val ≤ 99999 := by decide +kernel
def at_sb (w v : Int32) : Prop := 0 ≤ w.toInt ∧ w.toInt ≤ 29 ∧ at_lo3 w.toInt.toNat ≤ v.toInt ∧ v.toInt ≤ at_hi3 w.toInt.toNat
theorem at_rg34 : (List.range 30).all (fun n => (at_rg at_TA).all (fun r => !at_memb (34 + (n : Int)) r || decide (r = (0, 34, 0, 1, 30, -99999, 99999)))) = true := by decide +kernel
section ATSE
variable {L : Nat} {xs : Nat → Int32} {m : fl_M} {Q : Option fl_V → fl_M → Prop}
theorem at_within {v l t : Int32} (k : ∀ b : Int32, (b = 1 ∧ l.toInt ≤ v.toInt ∧ v.toInt ≤ t.toInt) ∨ (b = 0 ∧ ¬ (l.toInt ≤ v.toInt ∧ v.toInt ≤ t.toInt)) → Q (some (.inl b)) m) : fl_Tq (pw_P L xs) 173 0 (fl_args (am_mxl (pw_P L xs) 173) [.inl v, .inl l, .inl t]) [] m Q := by
  refine fl_Tq.stp rfl rfl (fl_bo rfl) rfl ?_
  refine fl_Tq.stp rfl rfl (fl_bo rfl) rfl ?_
  by_cases h1 : v.toInt < l.toInt
  · refine fl_Tq.jt rfl (fl_bo rfl) (by rw [at_c2]; exact decide_eq_true (by omega)) rfl ?_
    refine fl_Tq.stp rfl rfl (fl_bo rfl) rfl ?_
    exact fl_Tq.ret rfl rfl rfl (k _ (Or.inr ⟨rfl, by omega⟩))
  refine fl_Tq.jf rfl (fl_bo rfl) (by rw [at_c2]; exact decide_eq_false (by omega)) rfl ?_
  refine fl_Tq.stp rfl rfl (fl_bo rfl) rfl ?_
  refine fl_Tq.stp rfl rfl (fl_bo rfl) rfl ?_
  by_cases h2 : t.toInt < v.toInt
  · refine fl_Tq.jt rfl (fl_bo rfl) (by rw [at_c2]; exact decide_eq_true (by omega)) rfl ?_
    refine fl_Tq.stp rfl rfl (fl_bo rfl) rfl ?_
    exact fl_Tq.ret rfl rfl rfl (k _ (Or.inr ⟨rfl, by omega⟩))
  refine fl_Tq.jf rfl (fl_bo rfl) (by rw [at_c2]; exact decide_eq_false (by omega)) rfl ?_
  refine fl_Tq.stp rfl rfl (fl_bo rfl) rfl ?_
  refine fl_Tq.stp rfl rfl (fl_bo rfl) rfl ?_
  exact fl_Tq.ret rfl rfl rfl (k _ (Or.inl ⟨rfl, by omega, by omega⟩))
end ATSE
