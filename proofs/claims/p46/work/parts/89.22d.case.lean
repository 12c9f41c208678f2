/-! ===== printed by wip/gen/cmpgen.py ===== -/
set_option maxRecDepth 1000000 in
theorem bx_l197 : am_cl nw_P0 0 (.invokevirtual 197) = some (147, 2) := by decide +kernel
set_option maxRecDepth 1000000 in
theorem bx_l200 : am_cl nw_P0 0 (.invokevirtual 200) = some (284, 2) := by decide +kernel
theorem lx_c44 {L : Nat} {xs : Nat → Int32} {m : fl_M} {Q : Option fl_V → fl_M → Prop} {i : Nat} (hall : ∀ c ∈ at_CM ++ at_CA, at_Valid at_XI (pw_P L xs) c) (hL : L ≤ 3072) (hi : i + 6 ≤ L) (hg : at_Good at_XI m) (kk : ∀ m' : fl_M, at_Good at_XI m' → fl_Tq (pw_P L xs) 0 2030 (lx_lv i) [] m' Q) : fl_Tq (pw_P L xs) 0 1478 (lx_lv i) [] m Q := by
  refine fl_Tq.stp (pw_cod lx_k1478) rfl (fl_bo rfl) rfl ?_
  refine lx_arg (i := i) (jn := 1) (pw_cod lx_k1479) (pw_cod lx_k1480) (pw_cod lx_k1481) (pw_cod lx_k1482) (pw_cod lx_k1483) rfl (fl_bo rfl) hL (by omega) ?_
  refine fl_Tq.cal (mj := 147) (n := 2) (pw_cod lx_k1484) (pw_cll bx_l197) (fl_bo rfl) rfl ?_
  refine t2_x147 (fun b1 n1 hb1 hn1 => ?_)
  refine fl_Tq.stp (pw_cod lx_k1487) rfl (fl_bo rfl) rfl ?_
  refine lx_arg (i := i) (jn := 1) (pw_cod lx_k1488) (pw_cod lx_k1489) (pw_cod lx_k1490) (pw_cod lx_k1491) (pw_cod lx_k1492) rfl (fl_bo rfl) hL (by omega) ?_
  refine fl_Tq.cal (mj := 284) (n := 2) (pw_cod lx_k1493) (pw_cll bx_l200) (fl_bo rfl) rfl ?_
  refine t2_m284 hg.2.2 (fun b2 n2 hb2 hn2 => ?_)
  have hn := t2_lp_u hn1 hn2
  subst hn
  refine fl_Tq.jt (pw_cod lx_k1496) (fl_bo rfl) ?_ rfl ?_
  · rw [at_c2]
    exact decide_eq_true (by omega)
  exact kk m hg
