/-! ===== printed by wip/gen/cmpgen.py ===== -/
set_option maxRecDepth 1000000 in
theorem bx_l193 : am_cl nw_P0 0 (.invokevirtual 193) = some (146, 2) := by decide +kernel
set_option maxRecDepth 1000000 in
theorem bx_l196 : am_cl nw_P0 0 (.invokevirtual 196) = some (283, 2) := by decide +kernel
theorem lx_c43 {L : Nat} {xs : Nat → Int32} {m : fl_M} {Q : Option fl_V → fl_M → Prop} {i : Nat} (hall : ∀ c ∈ at_CM ++ at_CA, at_Valid at_XI (pw_P L xs) c) (hL : L ≤ 3072) (hi : i + 6 ≤ L) (hg : at_Good at_XI m) (kk : ∀ m' : fl_M, at_Good at_XI m' → fl_Tq (pw_P L xs) 0 2030 (lx_lv i) [] m' Q) : fl_Tq (pw_P L xs) 0 1455 (lx_lv i) [] m Q := by
  refine fl_Tq.stp (pw_cod lx_k1455) rfl (fl_bo rfl) rfl ?_
  refine lx_arg (i := i) (jn := 1) (pw_cod lx_k1456) (pw_cod lx_k1457) (pw_cod lx_k1458) (pw_cod lx_k1459) (pw_cod lx_k1460) rfl (fl_bo rfl) hL (by omega) ?_
  refine fl_Tq.cal (mj := 146) (n := 2) (pw_cod lx_k1461) (pw_cll bx_l193) (fl_bo rfl) rfl ?_
  refine t2_x146 (fun b1 hb1 => ?_)
  refine fl_Tq.stp (pw_cod lx_k1464) rfl (fl_bo rfl) rfl ?_
  refine lx_arg (i := i) (jn := 1) (pw_cod lx_k1465) (pw_cod lx_k1466) (pw_cod lx_k1467) (pw_cod lx_k1468) (pw_cod lx_k1469) rfl (fl_bo rfl) hL (by omega) ?_
  refine fl_Tq.cal (mj := 283) (n := 2) (pw_cod lx_k1470) (pw_cll bx_l196) (fl_bo rfl) rfl ?_
  refine t2_m283 hg.2.2 (fun b2 hb2 => ?_)
  refine fl_Tq.jt (pw_cod lx_k1473) (fl_bo rfl) ?_ rfl ?_
  · rw [at_c2]
    exact decide_eq_true (by omega)
  exact kk m hg
