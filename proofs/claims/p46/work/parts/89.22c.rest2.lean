/-! ===== rest, partBy: both answers ===== -/
def t2_ra (z : Int) : Int := if 0 ≤ z ∧ z ≤ 1000 then t2_rv z.toNat else -1
section T2S
variable {L : Nat} {xs : Nat → Int32} {m : fl_M} {Q : Option fl_V → fl_M → Prop}
theorem t2_x146 {x : Int32} (k : ∀ v : Int32, v.toInt = t2_ra x.toInt → Q (some (.inl v)) m) : fl_Tq (pw_P L xs) 146 0 (fl_args (am_mxl (pw_P L xs) 146) [lx_x, .inl x]) [] m Q := by
  have e0 : (Int32.ofInt 0).toInt = 0 := rfl
  have e1000 : (Int16.ofInt 1000).toInt32.toInt = 1000 := by decide +kernel
  refine fl_Tq.stp rfl rfl (fl_bo rfl) rfl ?_
  refine fl_Tq.stp rfl rfl (fl_bo rfl) rfl ?_
  refine fl_Tq.stp rfl rfl (fl_bo rfl) rfl ?_
  refine fl_Tq.cal rfl rfl (fl_bo rfl) rfl ?_
  refine at_within (fun b hb => ?_)
  rw [e0, e1000] at hb
  rcases hb with ⟨rfl, h1, h2⟩ | ⟨rfl, h⟩
  · refine fl_Tq.zf rfl (fl_bo rfl) (by rw [at_c1]; rfl) rfl ?_
    refine fl_Tq.stp rfl rfl (fl_bo rfl) rfl ?_
    refine fl_Tq.cal rfl rfl (fl_bo rfl) rfl ?_
    refine t2_restBy (p := x.toInt.toNat) (by omega) (fun v hv => ?_)
    refine fl_Tq.stp rfl rfl (fl_bo rfl) rfl ?_
    refine fl_Tq.ret rfl rfl rfl (k v ?_)
    unfold t2_ra
    rw [if_pos ⟨h1, h2⟩]
    exact hv
  · refine fl_Tq.zt rfl (fl_bo rfl) (by rw [at_c1]; rfl) rfl ?_
    refine fl_Tq.stp rfl rfl (fl_bo rfl) rfl ?_
    refine fl_Tq.ret rfl rfl rfl (k _ ?_)
    unfold t2_ra
    rw [if_neg h]
    rfl
theorem t2_m283 {x : Int32} (hX : at_XI m) (k : ∀ v : Int32, v.toInt = t2_ra x.toInt → Q (some (.inl v)) m) : fl_Tq (pw_P L xs) 283 0 (fl_args (am_mxl (pw_P L xs) 283) [at_this, .inl x]) [] m Q := by
  have e0 : (Int32.ofInt 0).toInt = 0 := rfl
  have e1000 : (Int16.ofInt 1000).toInt32.toInt = 1000 := by decide +kernel
  refine fl_Tq.stp rfl rfl (fl_bo rfl) rfl ?_
  refine fl_Tq.stp rfl rfl (fl_bo rfl) rfl ?_
  refine fl_Tq.stp rfl rfl (fl_bo rfl) rfl ?_
  refine fl_Tq.cal rfl rfl (fl_bo rfl) rfl ?_
  refine at_isin (fun b hb => ?_)
  rw [e0, e1000] at hb
  rcases hb with ⟨rfl, h1, h2⟩ | ⟨rfl, h⟩
  · refine fl_Tq.zf rfl (fl_bo rfl) (by rw [at_c1]; rfl) rfl ?_
    refine fl_Tq.stp rfl rfl (fl_bo rfl) rfl ?_
    refine fl_Tq.stp rfl rfl (fl_bo rfl) rfl ?_
    refine fl_Tq.cal rfl rfl (fl_bo rfl) rfl ?_
    refine t2_restOf hX.rs (p := x.toInt.toNat) (by omega) (by omega) (fun v hv => ?_)
    refine fl_Tq.stp rfl rfl (fl_bo rfl) rfl ?_
    refine fl_Tq.ret rfl rfl rfl (k v ?_)
    unfold t2_ra
    rw [if_pos ⟨h1, h2⟩]
    exact hv
  · refine fl_Tq.zt rfl (fl_bo rfl) (by rw [at_c1]; rfl) rfl ?_
    refine fl_Tq.stp rfl rfl (fl_bo rfl) rfl ?_
    refine fl_Tq.ret rfl rfl rfl (k _ ?_)
    unfold t2_ra
    rw [if_neg h]
    rfl
theorem t2_x147 {v : Int32} (k : ∀ (x : Int32) (n : Nat), x.toInt = n → t2_lp v.toInt n → Q (some (.inl x)) m) : fl_Tq (pw_P L xs) 147 0 (fl_args (am_mxl (pw_P L xs) 147) [lx_x, .inl v]) [] m Q := by
  refine fl_Tq.stp rfl rfl (fl_bo rfl) rfl ?_
  refine fl_Tq.cal rfl rfl (fl_bo rfl) rfl ?_
  refine t2_byVolts (fun x n hx hn => ?_)
  exact fl_Tq.ret rfl rfl rfl (k x n hx hn)
theorem t2_m284 {v : Int32} (hX : at_XI m) (k : ∀ (x : Int32) (n : Nat), x.toInt = n → t2_lp v.toInt n → Q (some (.inl x)) m) : fl_Tq (pw_P L xs) 284 0 (fl_args (am_mxl (pw_P L xs) 284) [at_this, .inl v]) [] m Q := by
  refine fl_Tq.stp rfl rfl (fl_bo rfl) rfl ?_
  refine fl_Tq.stp rfl rfl (fl_bo rfl) rfl ?_
  refine fl_Tq.cal rfl rfl (fl_bo rfl) rfl ?_
  refine t2_leastBy hX.rs (fun x n hx hn => ?_)
  exact fl_Tq.ret rfl rfl rfl (k x n hx hn)
end T2S
