/-! ===== set answers alike: what is bounded how (case 3) ===== -/
def at_lo3 (n : Nat) : Int := ((at_i0 278).getD (3 * n) 0).toInt
def at_hi3 (n : Nat) : Int := ((at_i0 278).getD (3 * n + 1) 0).toInt
theorem at_tab3 : ∀ n : Fin 30, (pw_tbl 2 n.val).toInt = at_lo3 n.val ∧ (pw_tbl 3 n.val).toInt = at_hi3 n.val ∧ -99999 ≤ at_lo3 n.val ∧ at_hi3 n.val ≤ 99999 := by decide +kernel
def at_sb (w v : Int32) : Prop := 0 ≤ w.toInt ∧ w.toInt ≤ 29 ∧ at_lo3 w.toInt.toNat ≤ v.toInt ∧ v.toInt ≤ at_hi3 w.toInt.toNat
theorem at_rg34 : (List.range 30).all (fun n => (at_rg at_TA).all (fun r => !at_memb (34 + (n : Int)) r || decide (r = (0, 34, 0, 1, 30, -99999, 99999)))) = true := by decide +kernel
section ATSE
variable {L : Nat} {xs : Nat → Int32} {m : fl_M} {Q : Option fl_V → fl_M → Prop}
theorem at_within {v l t : Int32} (k : ∀ b : Int32, (b = 1 ∧ l.toInt ≤ v.toInt ∧ v.toInt ≤ t.toInt) ∨ (b = 0 ∧ ¬ (l.toInt ≤ v.toInt ∧ v.toInt ≤ t.toInt)) → Q (some (.inl b)) m) : fl_Tq (pw_P L xs) 173 0 (fl_args (am_mxl (pw_P L xs) 173) [.inl v, .inl l, .inl t]) [] m Q := by
  refine fl_Tq.stp rfl rfl (fl_bo rfl) rfl ?_
  refine fl_Tq.stp rfl rfl (fl_bo rfl) rfl ?_
  by_cases h1 : v.toInt < l.toInt
  · refine fl_Tq.jt rfl (fl_bo rfl) (by rw [at_c2]; exact decide_eq_true (by omega)) rfl ?_
    refine fl_Tq.stp rfl rfl (fl_bo rfl) rfl ?_
    exact fl_Tq.ret rfl rfl rfl (k _ (Or.inr ⟨rfl, by omega⟩))
  refine fl_Tq.jf rfl (fl_bo rfl) (by rw [at_c2]; exact decide_eq_false (by omega)) rfl ?_
  refine fl_Tq.stp rfl rfl (fl_bo rfl) rfl ?_
  refine fl_Tq.stp rfl rfl (fl_bo rfl) rfl ?_
  by_cases h2 : t.toInt < v.toInt
  · refine fl_Tq.jt rfl (fl_bo rfl) (by rw [at_c2]; exact decide_eq_true (by omega)) rfl ?_
    refine fl_Tq.stp rfl rfl (fl_bo rfl) rfl ?_
    exact fl_Tq.ret rfl rfl rfl (k _ (Or.inr ⟨rfl, by omega⟩))
  refine fl_Tq.jf rfl (fl_bo rfl) (by rw [at_c2]; exact decide_eq_false (by omega)) rfl ?_
  refine fl_Tq.stp rfl rfl (fl_bo rfl) rfl ?_
  refine fl_Tq.stp rfl rfl (fl_bo rfl) rfl ?_
  exact fl_Tq.ret rfl rfl rfl (k _ (Or.inl ⟨rfl, by omega, by omega⟩))
theorem at_x174 {w v : Int32} (k : ∀ b : Int32, (b = 1 ∧ at_sb w v) ∨ (b = 0 ∧ ¬ at_sb w v) → Q (some (.inl b)) m) : fl_Tq (pw_P L xs) 174 0 (fl_args (am_mxl (pw_P L xs) 174) [.inl w, .inl v]) [] m Q := by
  have e29 : (Int8.ofInt 29).toInt32.toInt = 29 := by decide +kernel
  have e0 : (Int32.ofInt 0).toInt = 0 := rfl
  refine fl_Tq.stp rfl rfl (fl_bo rfl) rfl ?_
  refine fl_Tq.stp rfl rfl (fl_bo rfl) rfl ?_
  refine fl_Tq.stp rfl rfl (fl_bo rfl) rfl ?_
  refine fl_Tq.cal rfl rfl (fl_bo rfl) rfl ?_
  refine at_within (fun b hb => ?_)
  rw [e29, e0] at hb
  rcases hb with ⟨rfl, w1, w2⟩ | ⟨rfl, hw⟩
  case inr =>
    refine fl_Tq.zt rfl (fl_bo rfl) (by rw [at_c1]; rfl) rfl ?_
    refine fl_Tq.stp rfl rfl (fl_bo rfl) rfl ?_
    exact fl_Tq.ret rfl rfl rfl (k _ (Or.inr ⟨rfl, fun h => hw ⟨h.1, h.2.1⟩⟩))
  refine fl_Tq.zf rfl (fl_bo rfl) (by rw [at_c1]; rfl) rfl ?_
  obtain ⟨n, hn⟩ : ∃ n : Nat, w.toInt = n := ⟨w.toInt.toNat, by omega⟩
  obtain ⟨t1, t2, -, -⟩ := at_tab3 ⟨n, by omega⟩
  dsimp only at t1 t2
  refine fl_Tq.stp rfl rfl (fl_bo rfl) rfl ?_
  refine fl_Tq.stp rfl rfl (fl_bo rfl) rfl ?_
  refine fl_Tq.stp rfl rfl (fl_bo rfl) rfl ?_
  refine fl_Tq.tld (n := 30) (f := pw_tbl 2) (k := n) rfl (fl_bo rfl) rfl hn (by omega) ?_
  refine fl_Tq.stp rfl rfl (fl_bo rfl) rfl ?_
  refine fl_Tq.stp rfl rfl (fl_bo rfl) rfl ?_
  refine fl_Tq.tld (n := 30) (f := pw_tbl 3) (k := n) rfl (fl_bo rfl) rfl hn (by omega) ?_
  refine fl_Tq.cal rfl rfl (fl_bo rfl) rfl ?_
  refine at_within (fun b hb => ?_)
  rw [t1, t2] at hb
  have hn2 : w.toInt.toNat = n := by omega
  rcases hb with ⟨rfl, v1, v2⟩ | ⟨rfl, hv⟩
  · refine fl_Tq.zf rfl (fl_bo rfl) (by rw [at_c1]; rfl) rfl ?_
    refine fl_Tq.stp rfl rfl (fl_bo rfl) rfl ?_
    refine fl_Tq.stp rfl rfl (fl_bo rfl) rfl ?_
    exact fl_Tq.ret rfl rfl rfl (k _ (Or.inl ⟨rfl, w1, w2, by rw [hn2]; exact v1, by rw [hn2]; exact v2⟩))
  · refine fl_Tq.zt rfl (fl_bo rfl) (by rw [at_c1]; rfl) rfl ?_
    refine fl_Tq.stp rfl rfl (fl_bo rfl) rfl ?_
    exact fl_Tq.ret rfl rfl rfl (k _ (Or.inr ⟨rfl, fun h => hv (by have h3 := h.2.2; rw [hn2] at h3; exact h3)⟩))
theorem at_m246 {w v : Int32} (hb1 : ∀ j, m.1 278 j = (at_i0 278).getD j 0) (k : ∀ b : Int32, (b = 1 ∧ at_sb w v) ∨ (b = 0 ∧ ¬ at_sb w v) → Q (some (.inl b)) m) : fl_Tq (pw_P L xs) 246 0 (fl_args (am_mxl (pw_P L xs) 246) [at_this, .inl w, .inl v]) [] m Q := by
  have e29 : (Int8.ofInt 29).toInt32.toInt = 29 := by decide +kernel
  have e0 : (Int32.ofInt 0).toInt = 0 := rfl
  have e3 : (Int32.ofInt 3).toInt = 3 := rfl
  have e1 : (Int32.ofInt 1).toInt = 1 := rfl
  refine fl_Tq.stp rfl rfl (fl_bo rfl) rfl ?_
  refine fl_Tq.stp rfl rfl (fl_bo rfl) rfl ?_
  refine fl_Tq.stp rfl rfl (fl_bo rfl) rfl ?_
  refine fl_Tq.cal rfl rfl (fl_bo rfl) rfl ?_
  refine at_isin (fun b hb => ?_)
  rw [e29, e0] at hb
  rcases hb with ⟨rfl, w1, w2⟩ | ⟨rfl, hw⟩
  case inr =>
    refine fl_Tq.zt rfl (fl_bo rfl) (by rw [at_c1]; rfl) rfl ?_
    refine fl_Tq.stp rfl rfl (fl_bo rfl) rfl ?_
    exact fl_Tq.ret rfl rfl rfl (k _ (Or.inr ⟨rfl, fun h => hw ⟨h.1, h.2.1⟩⟩))
  refine fl_Tq.zf rfl (fl_bo rfl) (by rw [at_c1]; rfl) rfl ?_
  obtain ⟨n, hn⟩ : ∃ n : Nat, w.toInt = n := ⟨w.toInt.toNat, by omega⟩
  have h3 : (Int32.ofInt 3 * w).toInt = ((3 * n : Nat) : Int) := by rw [at_mul32] <;> rw [e3, hn] <;> omega
  have h4 : (Int32.ofInt 3 * w + Int32.ofInt 1).toInt = ((3 * n + 1 : Nat) : Int) := by rw [at_add32] <;> rw [h3, e1] <;> omega
  refine fl_Tq.stp rfl rfl (fl_bo rfl) rfl ?_
  refine fl_Tq.stp rfl rfl (fl_bo rfl) rfl ?_
  refine fl_Tq.stp rfl rfl (fl_bo rfl) rfl ?_
  refine fl_Tq.stp rfl rfl (fl_bo rfl) rfl ?_
  refine fl_Tq.stp rfl rfl (fl_bo rfl) rfl ?_
  refine fl_Tq.stp rfl rfl (fl_bo rfl) rfl ?_
  refine fl_Tq.ld (p := 278) (τ := 77) (n := 90) (z := (0, 0, 0)) (k := 3 * n) rfl (fl_bo rfl) rfl h3 (by omega) ?_
  refine fl_Tq.stp rfl rfl (fl_bo rfl) rfl ?_
  refine fl_Tq.stp rfl rfl (fl_bo rfl) rfl ?_
  refine fl_Tq.stp rfl rfl (fl_bo rfl) rfl ?_
  refine fl_Tq.stp rfl rfl (fl_bo rfl) rfl ?_
  refine fl_Tq.stp rfl rfl (fl_bo rfl) rfl ?_
  refine fl_Tq.stp rfl rfl (fl_bo rfl) rfl ?_
  refine fl_Tq.stp rfl rfl (fl_bo rfl) rfl ?_
  refine fl_Tq.ld (p := 278) (τ := 77) (n := 90) (z := (0, 0, 0)) (k := 3 * n + 1) rfl (fl_bo rfl) rfl h4 (by omega) ?_
  rw [hb1, hb1]
  refine fl_Tq.cal rfl rfl (fl_bo rfl) rfl ?_
  refine at_isin (fun b hb => ?_)
  have hn2 : w.toInt.toNat = n := by omega
  rcases hb with ⟨rfl, v1, v2⟩ | ⟨rfl, hv⟩
  · refine fl_Tq.zf rfl (fl_bo rfl) (by rw [at_c1]; rfl) rfl ?_
    refine fl_Tq.stp rfl rfl (fl_bo rfl) rfl ?_
    refine fl_Tq.stp rfl rfl (fl_bo rfl) rfl ?_
    exact fl_Tq.ret rfl rfl rfl (k _ (Or.inl ⟨rfl, w1, w2, by rw [hn2]; exact v1, by rw [hn2]; exact v2⟩))
  · refine fl_Tq.zt rfl (fl_bo rfl) (by rw [at_c1]; rfl) rfl ?_
    refine fl_Tq.stp rfl rfl (fl_bo rfl) rfl ?_
    exact fl_Tq.ret rfl rfl rfl (k _ (Or.inr ⟨rfl, fun h => hv (by have h3 := h.2.2; rw [hn2] at h3; exact h3)⟩))
end ATSE
theorem t2_bnd : ∀ n : Fin 30, at_lo3 n.val = t2_lo n.val ∧ at_hi3 n.val = t2_hi n.val := by decide +kernel
theorem t2_sbk {w v : Int32} (h : at_sb w v) : w.toInt = (w.toInt.toNat : Nat) ∧ w.toInt.toNat < 30 ∧ t2_lo w.toInt.toNat ≤ v.toInt ∧ v.toInt ≤ t2_hi w.toInt.toNat := by
  obtain ⟨h1, h2, h3, h4⟩ := h
  have hn : w.toInt.toNat < 30 := by omega
  have b := t2_bnd ⟨w.toInt.toNat, hn⟩
  dsimp only at b
  rw [b.1] at h3
  rw [b.2] at h4
  exact ⟨by omega, hn, h3, h4⟩
