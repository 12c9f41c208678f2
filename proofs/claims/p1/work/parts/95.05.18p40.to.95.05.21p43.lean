/-! 95.05.18p40.lean.txt -/
section
noncomputable def t2_bc_v (x : Int32) : Int32 := (((((((x - (((x.toUInt32 >>> ((1 : Int32).toUInt32 &&& Int32.toUInt32 31)).toInt32) &&& (1431655765 : Int32))) &&& (858993459 : Int32)) + ((((x - (((x.toUInt32 >>> ((1 : Int32).toUInt32 &&& Int32.toUInt32 31)).toInt32) &&& (1431655765 : Int32))).toUInt32 >>> ((2 : Int32).toUInt32 &&& Int32.toUInt32 31)).toInt32) &&& (858993459 : Int32))) + (((((x - (((x.toUInt32 >>> ((1 : Int32).toUInt32 &&& Int32.toUInt32 31)).toInt32) &&& (1431655765 : Int32))) &&& (858993459 : Int32)) + ((((x - (((x.toUInt32 >>> ((1 : Int32).toUInt32 &&& Int32.toUInt32 31)).toInt32) &&& (1431655765 : Int32))).toUInt32 >>> ((2 : Int32).toUInt32 &&& Int32.toUInt32 31)).toInt32) &&& (858993459 : Int32))).toUInt32 >>> ((4 : Int32).toUInt32 &&& Int32.toUInt32 31)).toInt32)) &&& (252645135 : Int32)) + (((((((x - (((x.toUInt32 >>> ((1 : Int32).toUInt32 &&& Int32.toUInt32 31)).toInt32) &&& (1431655765 : Int32))) &&& (858993459 : Int32)) + ((((x - (((x.toUInt32 >>> ((1 : Int32).toUInt32 &&& Int32.toUInt32 31)).toInt32) &&& (1431655765 : Int32))).toUInt32 >>> ((2 : Int32).toUInt32 &&& Int32.toUInt32 31)).toInt32) &&& (858993459 : Int32))) + (((((x - (((x.toUInt32 >>> ((1 : Int32).toUInt32 &&& Int32.toUInt32 31)).toInt32) &&& (1431655765 : Int32))) &&& (858993459 : Int32)) + ((((x - (((x.toUInt32 >>> ((1 : Int32).toUInt32 &&& Int32.toUInt32 31)).toInt32) &&& (1431655765 : Int32))).toUInt32 >>> ((2 : Int32).toUInt32 &&& Int32.toUInt32 31)).toInt32) &&& (858993459 : Int32))).toUInt32 >>> ((4 : Int32).toUInt32 &&& Int32.toUInt32 31)).toInt32)) &&& (252645135 : Int32)).toUInt32 >>> ((8 : Int32).toUInt32 &&& Int32.toUInt32 31)).toInt32)) + ((((((((x - (((x.toUInt32 >>> ((1 : Int32).toUInt32 &&& Int32.toUInt32 31)).toInt32) &&& (1431655765 : Int32))) &&& (858993459 : Int32)) + ((((x - (((x.toUInt32 >>> ((1 : Int32).toUInt32 &&& Int32.toUInt32 31)).toInt32) &&& (1431655765 : Int32))).toUInt32 >>> ((2 : Int32).toUInt32 &&& Int32.toUInt32 31)).toInt32) &&& (858993459 : Int32))) + (((((x - (((x.toUInt32 >>> ((1 : Int32).toUInt32 &&& Int32.toUInt32 31)).toInt32) &&& (1431655765 : Int32))) &&& (858993459 : Int32)) + ((((x - (((x.toUInt32 >>> ((1 : Int32).toUInt32 &&& Int32.toUInt32 31)).toInt32) &&& (1431655765 : Int32))).toUInt32 >>> ((2 : Int32).toUInt32 &&& Int32.toUInt32 31)).toInt32) &&& (858993459 : Int32))).toUInt32 >>> ((4 : Int32).toUInt32 &&& Int32.toUInt32 31)).toInt32)) &&& (252645135 : Int32)) + (((((((x - (((x.toUInt32 >>> ((1 : Int32).toUInt32 &&& Int32.toUInt32 31)).toInt32) &&& (1431655765 : Int32))) &&& (858993459 : Int32)) + ((((x - (((x.toUInt32 >>> ((1 : Int32).toUInt32 &&& Int32.toUInt32 31)).toInt32) &&& (1431655765 : Int32))).toUInt32 >>> ((2 : Int32).toUInt32 &&& Int32.toUInt32 31)).toInt32) &&& (858993459 : Int32))) + (((((x - (((x.toUInt32 >>> ((1 : Int32).toUInt32 &&& Int32.toUInt32 31)).toInt32) &&& (1431655765 : Int32))) &&& (858993459 : Int32)) + ((((x - (((x.toUInt32 >>> ((1 : Int32).toUInt32 &&& Int32.toUInt32 31)).toInt32) &&& (1431655765 : Int32))).toUInt32 >>> ((2 : Int32).toUInt32 &&& Int32.toUInt32 31)).toInt32) &&& (858993459 : Int32))).toUInt32 >>> ((4 : Int32).toUInt32 &&& Int32.toUInt32 31)).toInt32)) &&& (252645135 : Int32)).toUInt32 >>> ((8 : Int32).toUInt32 &&& Int32.toUInt32 31)).toInt32)).toUInt32 >>> ((16 : Int32).toUInt32 &&& Int32.toUInt32 31)).toInt32)) &&& (63 : Int32)
theorem t2_bc_q {L : Nat} {xs : Nat → Int32} {f : t2_F} {l : t2_L} {Q : Option fl_V → fl_M → Prop} {x : Int32}  (k : Q (some (.inl (t2_bc_v x))) (f, l)) : fl_Tq (pw_P L xs) 331 0 (fl_args (am_mxl (pw_P L xs) 331) [.inl x]) [] (f, l) Q := by
  refine fl_Tq.stp (pc' := 1) (lv' := [some (.inl x)]) (st' := [.inl x]) (m' := (f, l)) rfl rfl (fl_bo rfl) rfl ?_
  refine fl_Tq.stp (pc' := 2) (lv' := [some (.inl x)]) (st' := [.inl x, .inl x]) (m' := (f, l)) rfl rfl (fl_bo rfl) rfl ?_
  refine fl_Tq.cI (c := (1 : Int32)) rfl (by decide +kernel) (fl_bo rfl) ?_
  refine fl_Tq.stp (pc' := 4) (lv' := [some (.inl x)]) (st' := [.inl ((x.toUInt32 >>> ((1 : Int32).toUInt32 &&& Int32.toUInt32 31)).toInt32), .inl x]) (m' := (f, l)) rfl rfl (fl_bo rfl) rfl ?_
  refine fl_Tq.stp (pc' := 7) (lv' := [some (.inl x)]) (st' := [.inl (1431655765 : Int32), .inl ((x.toUInt32 >>> ((1 : Int32).toUInt32 &&& Int32.toUInt32 31)).toInt32), .inl x]) (m' := (f, l)) rfl rfl (fl_bo rfl) rfl ?_
  refine fl_Tq.stp (pc' := 8) (lv' := [some (.inl x)]) (st' := [.inl (((x.toUInt32 >>> ((1 : Int32).toUInt32 &&& Int32.toUInt32 31)).toInt32) &&& (1431655765 : Int32)), .inl x]) (m' := (f, l)) rfl rfl (fl_bo rfl) rfl ?_
  refine fl_Tq.stp (pc' := 9) (lv' := [some (.inl x)]) (st' := [.inl (x - (((x.toUInt32 >>> ((1 : Int32).toUInt32 &&& Int32.toUInt32 31)).toInt32) &&& (1431655765 : Int32)))]) (m' := (f, l)) rfl rfl (fl_bo rfl) rfl ?_
  refine fl_Tq.stp (pc' := 10) (lv' := [some (.inl (x - (((x.toUInt32 >>> ((1 : Int32).toUInt32 &&& Int32.toUInt32 31)).toInt32) &&& (1431655765 : Int32))))]) (st' := []) (m' := (f, l)) rfl rfl (fl_bo rfl) rfl ?_
  refine fl_Tq.stp (pc' := 11) (lv' := [some (.inl (x - (((x.toUInt32 >>> ((1 : Int32).toUInt32 &&& Int32.toUInt32 31)).toInt32) &&& (1431655765 : Int32))))]) (st' := [.inl (x - (((x.toUInt32 >>> ((1 : Int32).toUInt32 &&& Int32.toUInt32 31)).toInt32) &&& (1431655765 : Int32)))]) (m' := (f, l)) rfl rfl (fl_bo rfl) rfl ?_
  refine fl_Tq.stp (pc' := 14) (lv' := [some (.inl (x - (((x.toUInt32 >>> ((1 : Int32).toUInt32 &&& Int32.toUInt32 31)).toInt32) &&& (1431655765 : Int32))))]) (st' := [.inl (858993459 : Int32), .inl (x - (((x.toUInt32 >>> ((1 : Int32).toUInt32 &&& Int32.toUInt32 31)).toInt32) &&& (1431655765 : Int32)))]) (m' := (f, l)) rfl rfl (fl_bo rfl) rfl ?_
  refine fl_Tq.stp (pc' := 15) (lv' := [some (.inl (x - (((x.toUInt32 >>> ((1 : Int32).toUInt32 &&& Int32.toUInt32 31)).toInt32) &&& (1431655765 : Int32))))]) (st' := [.inl ((x - (((x.toUInt32 >>> ((1 : Int32).toUInt32 &&& Int32.toUInt32 31)).toInt32) &&& (1431655765 : Int32))) &&& (858993459 : Int32))]) (m' := (f, l)) rfl rfl (fl_bo rfl) rfl ?_
  refine fl_Tq.stp (pc' := 16) (lv' := [some (.inl (x - (((x.toUInt32 >>> ((1 : Int32).toUInt32 &&& Int32.toUInt32 31)).toInt32) &&& (1431655765 : Int32))))]) (st' := [.inl (x - (((x.toUInt32 >>> ((1 : Int32).toUInt32 &&& Int32.toUInt32 31)).toInt32) &&& (1431655765 : Int32))), .inl ((x - (((x.toUInt32 >>> ((1 : Int32).toUInt32 &&& Int32.toUInt32 31)).toInt32) &&& (1431655765 : Int32))) &&& (858993459 : Int32))]) (m' := (f, l)) rfl rfl (fl_bo rfl) rfl ?_
  refine fl_Tq.cI (c := (2 : Int32)) rfl (by decide +kernel) (fl_bo rfl) ?_
  refine fl_Tq.stp (pc' := 18) (lv' := [some (.inl (x - (((x.toUInt32 >>> ((1 : Int32).toUInt32 &&& Int32.toUInt32 31)).toInt32) &&& (1431655765 : Int32))))]) (st' := [.inl (((x - (((x.toUInt32 >>> ((1 : Int32).toUInt32 &&& Int32.toUInt32 31)).toInt32) &&& (1431655765 : Int32))).toUInt32 >>> ((2 : Int32).toUInt32 &&& Int32.toUInt32 31)).toInt32), .inl ((x - (((x.toUInt32 >>> ((1 : Int32).toUInt32 &&& Int32.toUInt32 31)).toInt32) &&& (1431655765 : Int32))) &&& (858993459 : Int32))]) (m' := (f, l)) rfl rfl (fl_bo rfl) rfl ?_
  refine fl_Tq.stp (pc' := 21) (lv' := [some (.inl (x - (((x.toUInt32 >>> ((1 : Int32).toUInt32 &&& Int32.toUInt32 31)).toInt32) &&& (1431655765 : Int32))))]) (st' := [.inl (858993459 : Int32), .inl (((x - (((x.toUInt32 >>> ((1 : Int32).toUInt32 &&& Int32.toUInt32 31)).toInt32) &&& (1431655765 : Int32))).toUInt32 >>> ((2 : Int32).toUInt32 &&& Int32.toUInt32 31)).toInt32), .inl ((x - (((x.toUInt32 >>> ((1 : Int32).toUInt32 &&& Int32.toUInt32 31)).toInt32) &&& (1431655765 : Int32))) &&& (858993459 : Int32))]) (m' := (f, l)) rfl rfl (fl_bo rfl) rfl ?_
  refine fl_Tq.stp (pc' := 22) (lv' := [some (.inl (x - (((x.toUInt32 >>> ((1 : Int32).toUInt32 &&& Int32.toUInt32 31)).toInt32) &&& (1431655765 : Int32))))]) (st' := [.inl ((((x - (((x.toUInt32 >>> ((1 : Int32).toUInt32 &&& Int32.toUInt32 31)).toInt32) &&& (1431655765 : Int32))).toUInt32 >>> ((2 : Int32).toUInt32 &&& Int32.toUInt32 31)).toInt32) &&& (858993459 : Int32)), .inl ((x - (((x.toUInt32 >>> ((1 : Int32).toUInt32 &&& Int32.toUInt32 31)).toInt32) &&& (1431655765 : Int32))) &&& (858993459 : Int32))]) (m' := (f, l)) rfl rfl (fl_bo rfl) rfl ?_
  refine fl_Tq.stp (pc' := 23) (lv' := [some (.inl (x - (((x.toUInt32 >>> ((1 : Int32).toUInt32 &&& Int32.toUInt32 31)).toInt32) &&& (1431655765 : Int32))))]) (st' := [.inl (((x - (((x.toUInt32 >>> ((1 : Int32).toUInt32 &&& Int32.toUInt32 31)).toInt32) &&& (1431655765 : Int32))) &&& (858993459 : Int32)) + ((((x - (((x.toUInt32 >>> ((1 : Int32).toUInt32 &&& Int32.toUInt32 31)).toInt32) &&& (1431655765 : Int32))).toUInt32 >>> ((2 : Int32).toUInt32 &&& Int32.toUInt32 31)).toInt32) &&& (858993459 : Int32)))]) (m' := (f, l)) rfl rfl (fl_bo rfl) rfl ?_
  refine fl_Tq.stp (pc' := 24) (lv' := [some (.inl (((x - (((x.toUInt32 >>> ((1 : Int32).toUInt32 &&& Int32.toUInt32 31)).toInt32) &&& (1431655765 : Int32))) &&& (858993459 : Int32)) + ((((x - (((x.toUInt32 >>> ((1 : Int32).toUInt32 &&& Int32.toUInt32 31)).toInt32) &&& (1431655765 : Int32))).toUInt32 >>> ((2 : Int32).toUInt32 &&& Int32.toUInt32 31)).toInt32) &&& (858993459 : Int32))))]) (st' := []) (m' := (f, l)) rfl rfl (fl_bo rfl) rfl ?_
  refine fl_Tq.stp (pc' := 25) (lv' := [some (.inl (((x - (((x.toUInt32 >>> ((1 : Int32).toUInt32 &&& Int32.toUInt32 31)).toInt32) &&& (1431655765 : Int32))) &&& (858993459 : Int32)) + ((((x - (((x.toUInt32 >>> ((1 : Int32).toUInt32 &&& Int32.toUInt32 31)).toInt32) &&& (1431655765 : Int32))).toUInt32 >>> ((2 : Int32).toUInt32 &&& Int32.toUInt32 31)).toInt32) &&& (858993459 : Int32))))]) (st' := [.inl (((x - (((x.toUInt32 >>> ((1 : Int32).toUInt32 &&& Int32.toUInt32 31)).toInt32) &&& (1431655765 : Int32))) &&& (858993459 : Int32)) + ((((x - (((x.toUInt32 >>> ((1 : Int32).toUInt32 &&& Int32.toUInt32 31)).toInt32) &&& (1431655765 : Int32))).toUInt32 >>> ((2 : Int32).toUInt32 &&& Int32.toUInt32 31)).toInt32) &&& (858993459 : Int32)))]) (m' := (f, l)) rfl rfl (fl_bo rfl) rfl ?_
  refine fl_Tq.stp (pc' := 26) (lv' := [some (.inl (((x - (((x.toUInt32 >>> ((1 : Int32).toUInt32 &&& Int32.toUInt32 31)).toInt32) &&& (1431655765 : Int32))) &&& (858993459 : Int32)) + ((((x - (((x.toUInt32 >>> ((1 : Int32).toUInt32 &&& Int32.toUInt32 31)).toInt32) &&& (1431655765 : Int32))).toUInt32 >>> ((2 : Int32).toUInt32 &&& Int32.toUInt32 31)).toInt32) &&& (858993459 : Int32))))]) (st' := [.inl (((x - (((x.toUInt32 >>> ((1 : Int32).toUInt32 &&& Int32.toUInt32 31)).toInt32) &&& (1431655765 : Int32))) &&& (858993459 : Int32)) + ((((x - (((x.toUInt32 >>> ((1 : Int32).toUInt32 &&& Int32.toUInt32 31)).toInt32) &&& (1431655765 : Int32))).toUInt32 >>> ((2 : Int32).toUInt32 &&& Int32.toUInt32 31)).toInt32) &&& (858993459 : Int32))), .inl (((x - (((x.toUInt32 >>> ((1 : Int32).toUInt32 &&& Int32.toUInt32 31)).toInt32) &&& (1431655765 : Int32))) &&& (858993459 : Int32)) + ((((x - (((x.toUInt32 >>> ((1 : Int32).toUInt32 &&& Int32.toUInt32 31)).toInt32) &&& (1431655765 : Int32))).toUInt32 >>> ((2 : Int32).toUInt32 &&& Int32.toUInt32 31)).toInt32) &&& (858993459 : Int32)))]) (m' := (f, l)) rfl rfl (fl_bo rfl) rfl ?_
  refine fl_Tq.cI (c := (4 : Int32)) rfl (by decide +kernel) (fl_bo rfl) ?_
  refine fl_Tq.stp (pc' := 28) (lv' := [some (.inl (((x - (((x.toUInt32 >>> ((1 : Int32).toUInt32 &&& Int32.toUInt32 31)).toInt32) &&& (1431655765 : Int32))) &&& (858993459 : Int32)) + ((((x - (((x.toUInt32 >>> ((1 : Int32).toUInt32 &&& Int32.toUInt32 31)).toInt32) &&& (1431655765 : Int32))).toUInt32 >>> ((2 : Int32).toUInt32 &&& Int32.toUInt32 31)).toInt32) &&& (858993459 : Int32))))]) (st' := [.inl (((((x - (((x.toUInt32 >>> ((1 : Int32).toUInt32 &&& Int32.toUInt32 31)).toInt32) &&& (1431655765 : Int32))) &&& (858993459 : Int32)) + ((((x - (((x.toUInt32 >>> ((1 : Int32).toUInt32 &&& Int32.toUInt32 31)).toInt32) &&& (1431655765 : Int32))).toUInt32 >>> ((2 : Int32).toUInt32 &&& Int32.toUInt32 31)).toInt32) &&& (858993459 : Int32))).toUInt32 >>> ((4 : Int32).toUInt32 &&& Int32.toUInt32 31)).toInt32), .inl (((x - (((x.toUInt32 >>> ((1 : Int32).toUInt32 &&& Int32.toUInt32 31)).toInt32) &&& (1431655765 : Int32))) &&& (858993459 : Int32)) + ((((x - (((x.toUInt32 >>> ((1 : Int32).toUInt32 &&& Int32.toUInt32 31)).toInt32) &&& (1431655765 : Int32))).toUInt32 >>> ((2 : Int32).toUInt32 &&& Int32.toUInt32 31)).toInt32) &&& (858993459 : Int32)))]) (m' := (f, l)) rfl rfl (fl_bo rfl) rfl ?_
  refine fl_Tq.stp (pc' := 29) (lv' := [some (.inl (((x - (((x.toUInt32 >>> ((1 : Int32).toUInt32 &&& Int32.toUInt32 31)).toInt32) &&& (1431655765 : Int32))) &&& (858993459 : Int32)) + ((((x - (((x.toUInt32 >>> ((1 : Int32).toUInt32 &&& Int32.toUInt32 31)).toInt32) &&& (1431655765 : Int32))).toUInt32 >>> ((2 : Int32).toUInt32 &&& Int32.toUInt32 31)).toInt32) &&& (858993459 : Int32))))]) (st' := [.inl ((((x - (((x.toUInt32 >>> ((1 : Int32).toUInt32 &&& Int32.toUInt32 31)).toInt32) &&& (1431655765 : Int32))) &&& (858993459 : Int32)) + ((((x - (((x.toUInt32 >>> ((1 : Int32).toUInt32 &&& Int32.toUInt32 31)).toInt32) &&& (1431655765 : Int32))).toUInt32 >>> ((2 : Int32).toUInt32 &&& Int32.toUInt32 31)).toInt32) &&& (858993459 : Int32))) + (((((x - (((x.toUInt32 >>> ((1 : Int32).toUInt32 &&& Int32.toUInt32 31)).toInt32) &&& (1431655765 : Int32))) &&& (858993459 : Int32)) + ((((x - (((x.toUInt32 >>> ((1 : Int32).toUInt32 &&& Int32.toUInt32 31)).toInt32) &&& (1431655765 : Int32))).toUInt32 >>> ((2 : Int32).toUInt32 &&& Int32.toUInt32 31)).toInt32) &&& (858993459 : Int32))).toUInt32 >>> ((4 : Int32).toUInt32 &&& Int32.toUInt32 31)).toInt32))]) (m' := (f, l)) rfl rfl (fl_bo rfl) rfl ?_
  refine fl_Tq.stp (pc' := 32) (lv' := [some (.inl (((x - (((x.toUInt32 >>> ((1 : Int32).toUInt32 &&& Int32.toUInt32 31)).toInt32) &&& (1431655765 : Int32))) &&& (858993459 : Int32)) + ((((x - (((x.toUInt32 >>> ((1 : Int32).toUInt32 &&& Int32.toUInt32 31)).toInt32) &&& (1431655765 : Int32))).toUInt32 >>> ((2 : Int32).toUInt32 &&& Int32.toUInt32 31)).toInt32) &&& (858993459 : Int32))))]) (st' := [.inl (252645135 : Int32), .inl ((((x - (((x.toUInt32 >>> ((1 : Int32).toUInt32 &&& Int32.toUInt32 31)).toInt32) &&& (1431655765 : Int32))) &&& (858993459 : Int32)) + ((((x - (((x.toUInt32 >>> ((1 : Int32).toUInt32 &&& Int32.toUInt32 31)).toInt32) &&& (1431655765 : Int32))).toUInt32 >>> ((2 : Int32).toUInt32 &&& Int32.toUInt32 31)).toInt32) &&& (858993459 : Int32))) + (((((x - (((x.toUInt32 >>> ((1 : Int32).toUInt32 &&& Int32.toUInt32 31)).toInt32) &&& (1431655765 : Int32))) &&& (858993459 : Int32)) + ((((x - (((x.toUInt32 >>> ((1 : Int32).toUInt32 &&& Int32.toUInt32 31)).toInt32) &&& (1431655765 : Int32))).toUInt32 >>> ((2 : Int32).toUInt32 &&& Int32.toUInt32 31)).toInt32) &&& (858993459 : Int32))).toUInt32 >>> ((4 : Int32).toUInt32 &&& Int32.toUInt32 31)).toInt32))]) (m' := (f, l)) rfl rfl (fl_bo rfl) rfl ?_
  refine fl_Tq.stp (pc' := 33) (lv' := [some (.inl (((x - (((x.toUInt32 >>> ((1 : Int32).toUInt32 &&& Int32.toUInt32 31)).toInt32) &&& (1431655765 : Int32))) &&& (858993459 : Int32)) + ((((x - (((x.toUInt32 >>> ((1 : Int32).toUInt32 &&& Int32.toUInt32 31)).toInt32) &&& (1431655765 : Int32))).toUInt32 >>> ((2 : Int32).toUInt32 &&& Int32.toUInt32 31)).toInt32) &&& (858993459 : Int32))))]) (st' := [.inl (((((x - (((x.toUInt32 >>> ((1 : Int32).toUInt32 &&& Int32.toUInt32 31)).toInt32) &&& (1431655765 : Int32))) &&& (858993459 : Int32)) + ((((x - (((x.toUInt32 >>> ((1 : Int32).toUInt32 &&& Int32.toUInt32 31)).toInt32) &&& (1431655765 : Int32))).toUInt32 >>> ((2 : Int32).toUInt32 &&& Int32.toUInt32 31)).toInt32) &&& (858993459 : Int32))) + (((((x - (((x.toUInt32 >>> ((1 : Int32).toUInt32 &&& Int32.toUInt32 31)).toInt32) &&& (1431655765 : Int32))) &&& (858993459 : Int32)) + ((((x - (((x.toUInt32 >>> ((1 : Int32).toUInt32 &&& Int32.toUInt32 31)).toInt32) &&& (1431655765 : Int32))).toUInt32 >>> ((2 : Int32).toUInt32 &&& Int32.toUInt32 31)).toInt32) &&& (858993459 : Int32))).toUInt32 >>> ((4 : Int32).toUInt32 &&& Int32.toUInt32 31)).toInt32)) &&& (252645135 : Int32))]) (m' := (f, l)) rfl rfl (fl_bo rfl) rfl ?_
  refine fl_Tq.stp (pc' := 34) (lv' := [some (.inl (((((x - (((x.toUInt32 >>> ((1 : Int32).toUInt32 &&& Int32.toUInt32 31)).toInt32) &&& (1431655765 : Int32))) &&& (858993459 : Int32)) + ((((x - (((x.toUInt32 >>> ((1 : Int32).toUInt32 &&& Int32.toUInt32 31)).toInt32) &&& (1431655765 : Int32))).toUInt32 >>> ((2 : Int32).toUInt32 &&& Int32.toUInt32 31)).toInt32) &&& (858993459 : Int32))) + (((((x - (((x.toUInt32 >>> ((1 : Int32).toUInt32 &&& Int32.toUInt32 31)).toInt32) &&& (1431655765 : Int32))) &&& (858993459 : Int32)) + ((((x - (((x.toUInt32 >>> ((1 : Int32).toUInt32 &&& Int32.toUInt32 31)).toInt32) &&& (1431655765 : Int32))).toUInt32 >>> ((2 : Int32).toUInt32 &&& Int32.toUInt32 31)).toInt32) &&& (858993459 : Int32))).toUInt32 >>> ((4 : Int32).toUInt32 &&& Int32.toUInt32 31)).toInt32)) &&& (252645135 : Int32)))]) (st' := []) (m' := (f, l)) rfl rfl (fl_bo rfl) rfl ?_
  refine fl_Tq.stp (pc' := 35) (lv' := [some (.inl (((((x - (((x.toUInt32 >>> ((1 : Int32).toUInt32 &&& Int32.toUInt32 31)).toInt32) &&& (1431655765 : Int32))) &&& (858993459 : Int32)) + ((((x - (((x.toUInt32 >>> ((1 : Int32).toUInt32 &&& Int32.toUInt32 31)).toInt32) &&& (1431655765 : Int32))).toUInt32 >>> ((2 : Int32).toUInt32 &&& Int32.toUInt32 31)).toInt32) &&& (858993459 : Int32))) + (((((x - (((x.toUInt32 >>> ((1 : Int32).toUInt32 &&& Int32.toUInt32 31)).toInt32) &&& (1431655765 : Int32))) &&& (858993459 : Int32)) + ((((x - (((x.toUInt32 >>> ((1 : Int32).toUInt32 &&& Int32.toUInt32 31)).toInt32) &&& (1431655765 : Int32))).toUInt32 >>> ((2 : Int32).toUInt32 &&& Int32.toUInt32 31)).toInt32) &&& (858993459 : Int32))).toUInt32 >>> ((4 : Int32).toUInt32 &&& Int32.toUInt32 31)).toInt32)) &&& (252645135 : Int32)))]) (st' := [.inl (((((x - (((x.toUInt32 >>> ((1 : Int32).toUInt32 &&& Int32.toUInt32 31)).toInt32) &&& (1431655765 : Int32))) &&& (858993459 : Int32)) + ((((x - (((x.toUInt32 >>> ((1 : Int32).toUInt32 &&& Int32.toUInt32 31)).toInt32) &&& (1431655765 : Int32))).toUInt32 >>> ((2 : Int32).toUInt32 &&& Int32.toUInt32 31)).toInt32) &&& (858993459 : Int32))) + (((((x - (((x.toUInt32 >>> ((1 : Int32).toUInt32 &&& Int32.toUInt32 31)).toInt32) &&& (1431655765 : Int32))) &&& (858993459 : Int32)) + ((((x - (((x.toUInt32 >>> ((1 : Int32).toUInt32 &&& Int32.toUInt32 31)).toInt32) &&& (1431655765 : Int32))).toUInt32 >>> ((2 : Int32).toUInt32 &&& Int32.toUInt32 31)).toInt32) &&& (858993459 : Int32))).toUInt32 >>> ((4 : Int32).toUInt32 &&& Int32.toUInt32 31)).toInt32)) &&& (252645135 : Int32))]) (m' := (f, l)) rfl rfl (fl_bo rfl) rfl ?_
  refine fl_Tq.stp (pc' := 36) (lv' := [some (.inl (((((x - (((x.toUInt32 >>> ((1 : Int32).toUInt32 &&& Int32.toUInt32 31)).toInt32) &&& (1431655765 : Int32))) &&& (858993459 : Int32)) + ((((x - (((x.toUInt32 >>> ((1 : Int32).toUInt32 &&& Int32.toUInt32 31)).toInt32) &&& (1431655765 : Int32))).toUInt32 >>> ((2 : Int32).toUInt32 &&& Int32.toUInt32 31)).toInt32) &&& (858993459 : Int32))) + (((((x - (((x.toUInt32 >>> ((1 : Int32).toUInt32 &&& Int32.toUInt32 31)).toInt32) &&& (1431655765 : Int32))) &&& (858993459 : Int32)) + ((((x - (((x.toUInt32 >>> ((1 : Int32).toUInt32 &&& Int32.toUInt32 31)).toInt32) &&& (1431655765 : Int32))).toUInt32 >>> ((2 : Int32).toUInt32 &&& Int32.toUInt32 31)).toInt32) &&& (858993459 : Int32))).toUInt32 >>> ((4 : Int32).toUInt32 &&& Int32.toUInt32 31)).toInt32)) &&& (252645135 : Int32)))]) (st' := [.inl (((((x - (((x.toUInt32 >>> ((1 : Int32).toUInt32 &&& Int32.toUInt32 31)).toInt32) &&& (1431655765 : Int32))) &&& (858993459 : Int32)) + ((((x - (((x.toUInt32 >>> ((1 : Int32).toUInt32 &&& Int32.toUInt32 31)).toInt32) &&& (1431655765 : Int32))).toUInt32 >>> ((2 : Int32).toUInt32 &&& Int32.toUInt32 31)).toInt32) &&& (858993459 : Int32))) + (((((x - (((x.toUInt32 >>> ((1 : Int32).toUInt32 &&& Int32.toUInt32 31)).toInt32) &&& (1431655765 : Int32))) &&& (858993459 : Int32)) + ((((x - (((x.toUInt32 >>> ((1 : Int32).toUInt32 &&& Int32.toUInt32 31)).toInt32) &&& (1431655765 : Int32))).toUInt32 >>> ((2 : Int32).toUInt32 &&& Int32.toUInt32 31)).toInt32) &&& (858993459 : Int32))).toUInt32 >>> ((4 : Int32).toUInt32 &&& Int32.toUInt32 31)).toInt32)) &&& (252645135 : Int32)), .inl (((((x - (((x.toUInt32 >>> ((1 : Int32).toUInt32 &&& Int32.toUInt32 31)).toInt32) &&& (1431655765 : Int32))) &&& (858993459 : Int32)) + ((((x - (((x.toUInt32 >>> ((1 : Int32).toUInt32 &&& Int32.toUInt32 31)).toInt32) &&& (1431655765 : Int32))).toUInt32 >>> ((2 : Int32).toUInt32 &&& Int32.toUInt32 31)).toInt32) &&& (858993459 : Int32))) + (((((x - (((x.toUInt32 >>> ((1 : Int32).toUInt32 &&& Int32.toUInt32 31)).toInt32) &&& (1431655765 : Int32))) &&& (858993459 : Int32)) + ((((x - (((x.toUInt32 >>> ((1 : Int32).toUInt32 &&& Int32.toUInt32 31)).toInt32) &&& (1431655765 : Int32))).toUInt32 >>> ((2 : Int32).toUInt32 &&& Int32.toUInt32 31)).toInt32) &&& (858993459 : Int32))).toUInt32 >>> ((4 : Int32).toUInt32 &&& Int32.toUInt32 31)).toInt32)) &&& (252645135 : Int32))]) (m' := (f, l)) rfl rfl (fl_bo rfl) rfl ?_
  refine fl_Tq.cB (c := (8 : Int32)) rfl (by decide +kernel) (fl_bo rfl) ?_
  refine fl_Tq.stp (pc' := 39) (lv' := [some (.inl (((((x - (((x.toUInt32 >>> ((1 : Int32).toUInt32 &&& Int32.toUInt32 31)).toInt32) &&& (1431655765 : Int32))) &&& (858993459 : Int32)) + ((((x - (((x.toUInt32 >>> ((1 : Int32).toUInt32 &&& Int32.toUInt32 31)).toInt32) &&& (1431655765 : Int32))).toUInt32 >>> ((2 : Int32).toUInt32 &&& Int32.toUInt32 31)).toInt32) &&& (858993459 : Int32))) + (((((x - (((x.toUInt32 >>> ((1 : Int32).toUInt32 &&& Int32.toUInt32 31)).toInt32) &&& (1431655765 : Int32))) &&& (858993459 : Int32)) + ((((x - (((x.toUInt32 >>> ((1 : Int32).toUInt32 &&& Int32.toUInt32 31)).toInt32) &&& (1431655765 : Int32))).toUInt32 >>> ((2 : Int32).toUInt32 &&& Int32.toUInt32 31)).toInt32) &&& (858993459 : Int32))).toUInt32 >>> ((4 : Int32).toUInt32 &&& Int32.toUInt32 31)).toInt32)) &&& (252645135 : Int32)))]) (st' := [.inl (((((((x - (((x.toUInt32 >>> ((1 : Int32).toUInt32 &&& Int32.toUInt32 31)).toInt32) &&& (1431655765 : Int32))) &&& (858993459 : Int32)) + ((((x - (((x.toUInt32 >>> ((1 : Int32).toUInt32 &&& Int32.toUInt32 31)).toInt32) &&& (1431655765 : Int32))).toUInt32 >>> ((2 : Int32).toUInt32 &&& Int32.toUInt32 31)).toInt32) &&& (858993459 : Int32))) + (((((x - (((x.toUInt32 >>> ((1 : Int32).toUInt32 &&& Int32.toUInt32 31)).toInt32) &&& (1431655765 : Int32))) &&& (858993459 : Int32)) + ((((x - (((x.toUInt32 >>> ((1 : Int32).toUInt32 &&& Int32.toUInt32 31)).toInt32) &&& (1431655765 : Int32))).toUInt32 >>> ((2 : Int32).toUInt32 &&& Int32.toUInt32 31)).toInt32) &&& (858993459 : Int32))).toUInt32 >>> ((4 : Int32).toUInt32 &&& Int32.toUInt32 31)).toInt32)) &&& (252645135 : Int32)).toUInt32 >>> ((8 : Int32).toUInt32 &&& Int32.toUInt32 31)).toInt32), .inl (((((x - (((x.toUInt32 >>> ((1 : Int32).toUInt32 &&& Int32.toUInt32 31)).toInt32) &&& (1431655765 : Int32))) &&& (858993459 : Int32)) + ((((x - (((x.toUInt32 >>> ((1 : Int32).toUInt32 &&& Int32.toUInt32 31)).toInt32) &&& (1431655765 : Int32))).toUInt32 >>> ((2 : Int32).toUInt32 &&& Int32.toUInt32 31)).toInt32) &&& (858993459 : Int32))) + (((((x - (((x.toUInt32 >>> ((1 : Int32).toUInt32 &&& Int32.toUInt32 31)).toInt32) &&& (1431655765 : Int32))) &&& (858993459 : Int32)) + ((((x - (((x.toUInt32 >>> ((1 : Int32).toUInt32 &&& Int32.toUInt32 31)).toInt32) &&& (1431655765 : Int32))).toUInt32 >>> ((2 : Int32).toUInt32 &&& Int32.toUInt32 31)).toInt32) &&& (858993459 : Int32))).toUInt32 >>> ((4 : Int32).toUInt32 &&& Int32.toUInt32 31)).toInt32)) &&& (252645135 : Int32))]) (m' := (f, l)) rfl rfl (fl_bo rfl) rfl ?_
  refine fl_Tq.stp (pc' := 40) (lv' := [some (.inl (((((x - (((x.toUInt32 >>> ((1 : Int32).toUInt32 &&& Int32.toUInt32 31)).toInt32) &&& (1431655765 : Int32))) &&& (858993459 : Int32)) + ((((x - (((x.toUInt32 >>> ((1 : Int32).toUInt32 &&& Int32.toUInt32 31)).toInt32) &&& (1431655765 : Int32))).toUInt32 >>> ((2 : Int32).toUInt32 &&& Int32.toUInt32 31)).toInt32) &&& (858993459 : Int32))) + (((((x - (((x.toUInt32 >>> ((1 : Int32).toUInt32 &&& Int32.toUInt32 31)).toInt32) &&& (1431655765 : Int32))) &&& (858993459 : Int32)) + ((((x - (((x.toUInt32 >>> ((1 : Int32).toUInt32 &&& Int32.toUInt32 31)).toInt32) &&& (1431655765 : Int32))).toUInt32 >>> ((2 : Int32).toUInt32 &&& Int32.toUInt32 31)).toInt32) &&& (858993459 : Int32))).toUInt32 >>> ((4 : Int32).toUInt32 &&& Int32.toUInt32 31)).toInt32)) &&& (252645135 : Int32)))]) (st' := [.inl ((((((x - (((x.toUInt32 >>> ((1 : Int32).toUInt32 &&& Int32.toUInt32 31)).toInt32) &&& (1431655765 : Int32))) &&& (858993459 : Int32)) + ((((x - (((x.toUInt32 >>> ((1 : Int32).toUInt32 &&& Int32.toUInt32 31)).toInt32) &&& (1431655765 : Int32))).toUInt32 >>> ((2 : Int32).toUInt32 &&& Int32.toUInt32 31)).toInt32) &&& (858993459 : Int32))) + (((((x - (((x.toUInt32 >>> ((1 : Int32).toUInt32 &&& Int32.toUInt32 31)).toInt32) &&& (1431655765 : Int32))) &&& (858993459 : Int32)) + ((((x - (((x.toUInt32 >>> ((1 : Int32).toUInt32 &&& Int32.toUInt32 31)).toInt32) &&& (1431655765 : Int32))).toUInt32 >>> ((2 : Int32).toUInt32 &&& Int32.toUInt32 31)).toInt32) &&& (858993459 : Int32))).toUInt32 >>> ((4 : Int32).toUInt32 &&& Int32.toUInt32 31)).toInt32)) &&& (252645135 : Int32)) + (((((((x - (((x.toUInt32 >>> ((1 : Int32).toUInt32 &&& Int32.toUInt32 31)).toInt32) &&& (1431655765 : Int32))) &&& (858993459 : Int32)) + ((((x - (((x.toUInt32 >>> ((1 : Int32).toUInt32 &&& Int32.toUInt32 31)).toInt32) &&& (1431655765 : Int32))).toUInt32 >>> ((2 : Int32).toUInt32 &&& Int32.toUInt32 31)).toInt32) &&& (858993459 : Int32))) + (((((x - (((x.toUInt32 >>> ((1 : Int32).toUInt32 &&& Int32.toUInt32 31)).toInt32) &&& (1431655765 : Int32))) &&& (858993459 : Int32)) + ((((x - (((x.toUInt32 >>> ((1 : Int32).toUInt32 &&& Int32.toUInt32 31)).toInt32) &&& (1431655765 : Int32))).toUInt32 >>> ((2 : Int32).toUInt32 &&& Int32.toUInt32 31)).toInt32) &&& (858993459 : Int32))).toUInt32 >>> ((4 : Int32).toUInt32 &&& Int32.toUInt32 31)).toInt32)) &&& (252645135 : Int32)).toUInt32 >>> ((8 : Int32).toUInt32 &&& Int32.toUInt32 31)).toInt32))]) (m' := (f, l)) rfl rfl (fl_bo rfl) rfl ?_
  refine fl_Tq.stp (pc' := 41) (lv' := [some (.inl ((((((x - (((x.toUInt32 >>> ((1 : Int32).toUInt32 &&& Int32.toUInt32 31)).toInt32) &&& (1431655765 : Int32))) &&& (858993459 : Int32)) + ((((x - (((x.toUInt32 >>> ((1 : Int32).toUInt32 &&& Int32.toUInt32 31)).toInt32) &&& (1431655765 : Int32))).toUInt32 >>> ((2 : Int32).toUInt32 &&& Int32.toUInt32 31)).toInt32) &&& (858993459 : Int32))) + (((((x - (((x.toUInt32 >>> ((1 : Int32).toUInt32 &&& Int32.toUInt32 31)).toInt32) &&& (1431655765 : Int32))) &&& (858993459 : Int32)) + ((((x - (((x.toUInt32 >>> ((1 : Int32).toUInt32 &&& Int32.toUInt32 31)).toInt32) &&& (1431655765 : Int32))).toUInt32 >>> ((2 : Int32).toUInt32 &&& Int32.toUInt32 31)).toInt32) &&& (858993459 : Int32))).toUInt32 >>> ((4 : Int32).toUInt32 &&& Int32.toUInt32 31)).toInt32)) &&& (252645135 : Int32)) + (((((((x - (((x.toUInt32 >>> ((1 : Int32).toUInt32 &&& Int32.toUInt32 31)).toInt32) &&& (1431655765 : Int32))) &&& (858993459 : Int32)) + ((((x - (((x.toUInt32 >>> ((1 : Int32).toUInt32 &&& Int32.toUInt32 31)).toInt32) &&& (1431655765 : Int32))).toUInt32 >>> ((2 : Int32).toUInt32 &&& Int32.toUInt32 31)).toInt32) &&& (858993459 : Int32))) + (((((x - (((x.toUInt32 >>> ((1 : Int32).toUInt32 &&& Int32.toUInt32 31)).toInt32) &&& (1431655765 : Int32))) &&& (858993459 : Int32)) + ((((x - (((x.toUInt32 >>> ((1 : Int32).toUInt32 &&& Int32.toUInt32 31)).toInt32) &&& (1431655765 : Int32))).toUInt32 >>> ((2 : Int32).toUInt32 &&& Int32.toUInt32 31)).toInt32) &&& (858993459 : Int32))).toUInt32 >>> ((4 : Int32).toUInt32 &&& Int32.toUInt32 31)).toInt32)) &&& (252645135 : Int32)).toUInt32 >>> ((8 : Int32).toUInt32 &&& Int32.toUInt32 31)).toInt32)))]) (st' := []) (m' := (f, l)) rfl rfl (fl_bo rfl) rfl ?_
  refine fl_Tq.stp (pc' := 42) (lv' := [some (.inl ((((((x - (((x.toUInt32 >>> ((1 : Int32).toUInt32 &&& Int32.toUInt32 31)).toInt32) &&& (1431655765 : Int32))) &&& (858993459 : Int32)) + ((((x - (((x.toUInt32 >>> ((1 : Int32).toUInt32 &&& Int32.toUInt32 31)).toInt32) &&& (1431655765 : Int32))).toUInt32 >>> ((2 : Int32).toUInt32 &&& Int32.toUInt32 31)).toInt32) &&& (858993459 : Int32))) + (((((x - (((x.toUInt32 >>> ((1 : Int32).toUInt32 &&& Int32.toUInt32 31)).toInt32) &&& (1431655765 : Int32))) &&& (858993459 : Int32)) + ((((x - (((x.toUInt32 >>> ((1 : Int32).toUInt32 &&& Int32.toUInt32 31)).toInt32) &&& (1431655765 : Int32))).toUInt32 >>> ((2 : Int32).toUInt32 &&& Int32.toUInt32 31)).toInt32) &&& (858993459 : Int32))).toUInt32 >>> ((4 : Int32).toUInt32 &&& Int32.toUInt32 31)).toInt32)) &&& (252645135 : Int32)) + (((((((x - (((x.toUInt32 >>> ((1 : Int32).toUInt32 &&& Int32.toUInt32 31)).toInt32) &&& (1431655765 : Int32))) &&& (858993459 : Int32)) + ((((x - (((x.toUInt32 >>> ((1 : Int32).toUInt32 &&& Int32.toUInt32 31)).toInt32) &&& (1431655765 : Int32))).toUInt32 >>> ((2 : Int32).toUInt32 &&& Int32.toUInt32 31)).toInt32) &&& (858993459 : Int32))) + (((((x - (((x.toUInt32 >>> ((1 : Int32).toUInt32 &&& Int32.toUInt32 31)).toInt32) &&& (1431655765 : Int32))) &&& (858993459 : Int32)) + ((((x - (((x.toUInt32 >>> ((1 : Int32).toUInt32 &&& Int32.toUInt32 31)).toInt32) &&& (1431655765 : Int32))).toUInt32 >>> ((2 : Int32).toUInt32 &&& Int32.toUInt32 31)).toInt32) &&& (858993459 : Int32))).toUInt32 >>> ((4 : Int32).toUInt32 &&& Int32.toUInt32 31)).toInt32)) &&& (252645135 : Int32)).toUInt32 >>> ((8 : Int32).toUInt32 &&& Int32.toUInt32 31)).toInt32)))]) (st' := [.inl ((((((x - (((x.toUInt32 >>> ((1 : Int32).toUInt32 &&& Int32.toUInt32 31)).toInt32) &&& (1431655765 : Int32))) &&& (858993459 : Int32)) + ((((x - (((x.toUInt32 >>> ((1 : Int32).toUInt32 &&& Int32.toUInt32 31)).toInt32) &&& (1431655765 : Int32))).toUInt32 >>> ((2 : Int32).toUInt32 &&& Int32.toUInt32 31)).toInt32) &&& (858993459 : Int32))) + (((((x - (((x.toUInt32 >>> ((1 : Int32).toUInt32 &&& Int32.toUInt32 31)).toInt32) &&& (1431655765 : Int32))) &&& (858993459 : Int32)) + ((((x - (((x.toUInt32 >>> ((1 : Int32).toUInt32 &&& Int32.toUInt32 31)).toInt32) &&& (1431655765 : Int32))).toUInt32 >>> ((2 : Int32).toUInt32 &&& Int32.toUInt32 31)).toInt32) &&& (858993459 : Int32))).toUInt32 >>> ((4 : Int32).toUInt32 &&& Int32.toUInt32 31)).toInt32)) &&& (252645135 : Int32)) + (((((((x - (((x.toUInt32 >>> ((1 : Int32).toUInt32 &&& Int32.toUInt32 31)).toInt32) &&& (1431655765 : Int32))) &&& (858993459 : Int32)) + ((((x - (((x.toUInt32 >>> ((1 : Int32).toUInt32 &&& Int32.toUInt32 31)).toInt32) &&& (1431655765 : Int32))).toUInt32 >>> ((2 : Int32).toUInt32 &&& Int32.toUInt32 31)).toInt32) &&& (858993459 : Int32))) + (((((x - (((x.toUInt32 >>> ((1 : Int32).toUInt32 &&& Int32.toUInt32 31)).toInt32) &&& (1431655765 : Int32))) &&& (858993459 : Int32)) + ((((x - (((x.toUInt32 >>> ((1 : Int32).toUInt32 &&& Int32.toUInt32 31)).toInt32) &&& (1431655765 : Int32))).toUInt32 >>> ((2 : Int32).toUInt32 &&& Int32.toUInt32 31)).toInt32) &&& (858993459 : Int32))).toUInt32 >>> ((4 : Int32).toUInt32 &&& Int32.toUInt32 31)).toInt32)) &&& (252645135 : Int32)).toUInt32 >>> ((8 : Int32).toUInt32 &&& Int32.toUInt32 31)).toInt32))]) (m' := (f, l)) rfl rfl (fl_bo rfl) rfl ?_
  refine fl_Tq.stp (pc' := 43) (lv' := [some (.inl ((((((x - (((x.toUInt32 >>> ((1 : Int32).toUInt32 &&& Int32.toUInt32 31)).toInt32) &&& (1431655765 : Int32))) &&& (858993459 : Int32)) + ((((x - (((x.toUInt32 >>> ((1 : Int32).toUInt32 &&& Int32.toUInt32 31)).toInt32) &&& (1431655765 : Int32))).toUInt32 >>> ((2 : Int32).toUInt32 &&& Int32.toUInt32 31)).toInt32) &&& (858993459 : Int32))) + (((((x - (((x.toUInt32 >>> ((1 : Int32).toUInt32 &&& Int32.toUInt32 31)).toInt32) &&& (1431655765 : Int32))) &&& (858993459 : Int32)) + ((((x - (((x.toUInt32 >>> ((1 : Int32).toUInt32 &&& Int32.toUInt32 31)).toInt32) &&& (1431655765 : Int32))).toUInt32 >>> ((2 : Int32).toUInt32 &&& Int32.toUInt32 31)).toInt32) &&& (858993459 : Int32))).toUInt32 >>> ((4 : Int32).toUInt32 &&& Int32.toUInt32 31)).toInt32)) &&& (252645135 : Int32)) + (((((((x - (((x.toUInt32 >>> ((1 : Int32).toUInt32 &&& Int32.toUInt32 31)).toInt32) &&& (1431655765 : Int32))) &&& (858993459 : Int32)) + ((((x - (((x.toUInt32 >>> ((1 : Int32).toUInt32 &&& Int32.toUInt32 31)).toInt32) &&& (1431655765 : Int32))).toUInt32 >>> ((2 : Int32).toUInt32 &&& Int32.toUInt32 31)).toInt32) &&& (858993459 : Int32))) + (((((x - (((x.toUInt32 >>> ((1 : Int32).toUInt32 &&& Int32.toUInt32 31)).toInt32) &&& (1431655765 : Int32))) &&& (858993459 : Int32)) + ((((x - (((x.toUInt32 >>> ((1 : Int32).toUInt32 &&& Int32.toUInt32 31)).toInt32) &&& (1431655765 : Int32))).toUInt32 >>> ((2 : Int32).toUInt32 &&& Int32.toUInt32 31)).toInt32) &&& (858993459 : Int32))).toUInt32 >>> ((4 : Int32).toUInt32 &&& Int32.toUInt32 31)).toInt32)) &&& (252645135 : Int32)).toUInt32 >>> ((8 : Int32).toUInt32 &&& Int32.toUInt32 31)).toInt32)))]) (st' := [.inl ((((((x - (((x.toUInt32 >>> ((1 : Int32).toUInt32 &&& Int32.toUInt32 31)).toInt32) &&& (1431655765 : Int32))) &&& (858993459 : Int32)) + ((((x - (((x.toUInt32 >>> ((1 : Int32).toUInt32 &&& Int32.toUInt32 31)).toInt32) &&& (1431655765 : Int32))).toUInt32 >>> ((2 : Int32).toUInt32 &&& Int32.toUInt32 31)).toInt32) &&& (858993459 : Int32))) + (((((x - (((x.toUInt32 >>> ((1 : Int32).toUInt32 &&& Int32.toUInt32 31)).toInt32) &&& (1431655765 : Int32))) &&& (858993459 : Int32)) + ((((x - (((x.toUInt32 >>> ((1 : Int32).toUInt32 &&& Int32.toUInt32 31)).toInt32) &&& (1431655765 : Int32))).toUInt32 >>> ((2 : Int32).toUInt32 &&& Int32.toUInt32 31)).toInt32) &&& (858993459 : Int32))).toUInt32 >>> ((4 : Int32).toUInt32 &&& Int32.toUInt32 31)).toInt32)) &&& (252645135 : Int32)) + (((((((x - (((x.toUInt32 >>> ((1 : Int32).toUInt32 &&& Int32.toUInt32 31)).toInt32) &&& (1431655765 : Int32))) &&& (858993459 : Int32)) + ((((x - (((x.toUInt32 >>> ((1 : Int32).toUInt32 &&& Int32.toUInt32 31)).toInt32) &&& (1431655765 : Int32))).toUInt32 >>> ((2 : Int32).toUInt32 &&& Int32.toUInt32 31)).toInt32) &&& (858993459 : Int32))) + (((((x - (((x.toUInt32 >>> ((1 : Int32).toUInt32 &&& Int32.toUInt32 31)).toInt32) &&& (1431655765 : Int32))) &&& (858993459 : Int32)) + ((((x - (((x.toUInt32 >>> ((1 : Int32).toUInt32 &&& Int32.toUInt32 31)).toInt32) &&& (1431655765 : Int32))).toUInt32 >>> ((2 : Int32).toUInt32 &&& Int32.toUInt32 31)).toInt32) &&& (858993459 : Int32))).toUInt32 >>> ((4 : Int32).toUInt32 &&& Int32.toUInt32 31)).toInt32)) &&& (252645135 : Int32)).toUInt32 >>> ((8 : Int32).toUInt32 &&& Int32.toUInt32 31)).toInt32)), .inl ((((((x - (((x.toUInt32 >>> ((1 : Int32).toUInt32 &&& Int32.toUInt32 31)).toInt32) &&& (1431655765 : Int32))) &&& (858993459 : Int32)) + ((((x - (((x.toUInt32 >>> ((1 : Int32).toUInt32 &&& Int32.toUInt32 31)).toInt32) &&& (1431655765 : Int32))).toUInt32 >>> ((2 : Int32).toUInt32 &&& Int32.toUInt32 31)).toInt32) &&& (858993459 : Int32))) + (((((x - (((x.toUInt32 >>> ((1 : Int32).toUInt32 &&& Int32.toUInt32 31)).toInt32) &&& (1431655765 : Int32))) &&& (858993459 : Int32)) + ((((x - (((x.toUInt32 >>> ((1 : Int32).toUInt32 &&& Int32.toUInt32 31)).toInt32) &&& (1431655765 : Int32))).toUInt32 >>> ((2 : Int32).toUInt32 &&& Int32.toUInt32 31)).toInt32) &&& (858993459 : Int32))).toUInt32 >>> ((4 : Int32).toUInt32 &&& Int32.toUInt32 31)).toInt32)) &&& (252645135 : Int32)) + (((((((x - (((x.toUInt32 >>> ((1 : Int32).toUInt32 &&& Int32.toUInt32 31)).toInt32) &&& (1431655765 : Int32))) &&& (858993459 : Int32)) + ((((x - (((x.toUInt32 >>> ((1 : Int32).toUInt32 &&& Int32.toUInt32 31)).toInt32) &&& (1431655765 : Int32))).toUInt32 >>> ((2 : Int32).toUInt32 &&& Int32.toUInt32 31)).toInt32) &&& (858993459 : Int32))) + (((((x - (((x.toUInt32 >>> ((1 : Int32).toUInt32 &&& Int32.toUInt32 31)).toInt32) &&& (1431655765 : Int32))) &&& (858993459 : Int32)) + ((((x - (((x.toUInt32 >>> ((1 : Int32).toUInt32 &&& Int32.toUInt32 31)).toInt32) &&& (1431655765 : Int32))).toUInt32 >>> ((2 : Int32).toUInt32 &&& Int32.toUInt32 31)).toInt32) &&& (858993459 : Int32))).toUInt32 >>> ((4 : Int32).toUInt32 &&& Int32.toUInt32 31)).toInt32)) &&& (252645135 : Int32)).toUInt32 >>> ((8 : Int32).toUInt32 &&& Int32.toUInt32 31)).toInt32))]) (m' := (f, l)) rfl rfl (fl_bo rfl) rfl ?_
  refine fl_Tq.cB (c := (16 : Int32)) rfl (by decide +kernel) (fl_bo rfl) ?_
  refine fl_Tq.stp (pc' := 46) (lv' := [some (.inl ((((((x - (((x.toUInt32 >>> ((1 : Int32).toUInt32 &&& Int32.toUInt32 31)).toInt32) &&& (1431655765 : Int32))) &&& (858993459 : Int32)) + ((((x - (((x.toUInt32 >>> ((1 : Int32).toUInt32 &&& Int32.toUInt32 31)).toInt32) &&& (1431655765 : Int32))).toUInt32 >>> ((2 : Int32).toUInt32 &&& Int32.toUInt32 31)).toInt32) &&& (858993459 : Int32))) + (((((x - (((x.toUInt32 >>> ((1 : Int32).toUInt32 &&& Int32.toUInt32 31)).toInt32) &&& (1431655765 : Int32))) &&& (858993459 : Int32)) + ((((x - (((x.toUInt32 >>> ((1 : Int32).toUInt32 &&& Int32.toUInt32 31)).toInt32) &&& (1431655765 : Int32))).toUInt32 >>> ((2 : Int32).toUInt32 &&& Int32.toUInt32 31)).toInt32) &&& (858993459 : Int32))).toUInt32 >>> ((4 : Int32).toUInt32 &&& Int32.toUInt32 31)).toInt32)) &&& (252645135 : Int32)) + (((((((x - (((x.toUInt32 >>> ((1 : Int32).toUInt32 &&& Int32.toUInt32 31)).toInt32) &&& (1431655765 : Int32))) &&& (858993459 : Int32)) + ((((x - (((x.toUInt32 >>> ((1 : Int32).toUInt32 &&& Int32.toUInt32 31)).toInt32) &&& (1431655765 : Int32))).toUInt32 >>> ((2 : Int32).toUInt32 &&& Int32.toUInt32 31)).toInt32) &&& (858993459 : Int32))) + (((((x - (((x.toUInt32 >>> ((1 : Int32).toUInt32 &&& Int32.toUInt32 31)).toInt32) &&& (1431655765 : Int32))) &&& (858993459 : Int32)) + ((((x - (((x.toUInt32 >>> ((1 : Int32).toUInt32 &&& Int32.toUInt32 31)).toInt32) &&& (1431655765 : Int32))).toUInt32 >>> ((2 : Int32).toUInt32 &&& Int32.toUInt32 31)).toInt32) &&& (858993459 : Int32))).toUInt32 >>> ((4 : Int32).toUInt32 &&& Int32.toUInt32 31)).toInt32)) &&& (252645135 : Int32)).toUInt32 >>> ((8 : Int32).toUInt32 &&& Int32.toUInt32 31)).toInt32)))]) (st' := [.inl ((((((((x - (((x.toUInt32 >>> ((1 : Int32).toUInt32 &&& Int32.toUInt32 31)).toInt32) &&& (1431655765 : Int32))) &&& (858993459 : Int32)) + ((((x - (((x.toUInt32 >>> ((1 : Int32).toUInt32 &&& Int32.toUInt32 31)).toInt32) &&& (1431655765 : Int32))).toUInt32 >>> ((2 : Int32).toUInt32 &&& Int32.toUInt32 31)).toInt32) &&& (858993459 : Int32))) + (((((x - (((x.toUInt32 >>> ((1 : Int32).toUInt32 &&& Int32.toUInt32 31)).toInt32) &&& (1431655765 : Int32))) &&& (858993459 : Int32)) + ((((x - (((x.toUInt32 >>> ((1 : Int32).toUInt32 &&& Int32.toUInt32 31)).toInt32) &&& (1431655765 : Int32))).toUInt32 >>> ((2 : Int32).toUInt32 &&& Int32.toUInt32 31)).toInt32) &&& (858993459 : Int32))).toUInt32 >>> ((4 : Int32).toUInt32 &&& Int32.toUInt32 31)).toInt32)) &&& (252645135 : Int32)) + (((((((x - (((x.toUInt32 >>> ((1 : Int32).toUInt32 &&& Int32.toUInt32 31)).toInt32) &&& (1431655765 : Int32))) &&& (858993459 : Int32)) + ((((x - (((x.toUInt32 >>> ((1 : Int32).toUInt32 &&& Int32.toUInt32 31)).toInt32) &&& (1431655765 : Int32))).toUInt32 >>> ((2 : Int32).toUInt32 &&& Int32.toUInt32 31)).toInt32) &&& (858993459 : Int32))) + (((((x - (((x.toUInt32 >>> ((1 : Int32).toUInt32 &&& Int32.toUInt32 31)).toInt32) &&& (1431655765 : Int32))) &&& (858993459 : Int32)) + ((((x - (((x.toUInt32 >>> ((1 : Int32).toUInt32 &&& Int32.toUInt32 31)).toInt32) &&& (1431655765 : Int32))).toUInt32 >>> ((2 : Int32).toUInt32 &&& Int32.toUInt32 31)).toInt32) &&& (858993459 : Int32))).toUInt32 >>> ((4 : Int32).toUInt32 &&& Int32.toUInt32 31)).toInt32)) &&& (252645135 : Int32)).toUInt32 >>> ((8 : Int32).toUInt32 &&& Int32.toUInt32 31)).toInt32)).toUInt32 >>> ((16 : Int32).toUInt32 &&& Int32.toUInt32 31)).toInt32), .inl ((((((x - (((x.toUInt32 >>> ((1 : Int32).toUInt32 &&& Int32.toUInt32 31)).toInt32) &&& (1431655765 : Int32))) &&& (858993459 : Int32)) + ((((x - (((x.toUInt32 >>> ((1 : Int32).toUInt32 &&& Int32.toUInt32 31)).toInt32) &&& (1431655765 : Int32))).toUInt32 >>> ((2 : Int32).toUInt32 &&& Int32.toUInt32 31)).toInt32) &&& (858993459 : Int32))) + (((((x - (((x.toUInt32 >>> ((1 : Int32).toUInt32 &&& Int32.toUInt32 31)).toInt32) &&& (1431655765 : Int32))) &&& (858993459 : Int32)) + ((((x - (((x.toUInt32 >>> ((1 : Int32).toUInt32 &&& Int32.toUInt32 31)).toInt32) &&& (1431655765 : Int32))).toUInt32 >>> ((2 : Int32).toUInt32 &&& Int32.toUInt32 31)).toInt32) &&& (858993459 : Int32))).toUInt32 >>> ((4 : Int32).toUInt32 &&& Int32.toUInt32 31)).toInt32)) &&& (252645135 : Int32)) + (((((((x - (((x.toUInt32 >>> ((1 : Int32).toUInt32 &&& Int32.toUInt32 31)).toInt32) &&& (1431655765 : Int32))) &&& (858993459 : Int32)) + ((((x - (((x.toUInt32 >>> ((1 : Int32).toUInt32 &&& Int32.toUInt32 31)).toInt32) &&& (1431655765 : Int32))).toUInt32 >>> ((2 : Int32).toUInt32 &&& Int32.toUInt32 31)).toInt32) &&& (858993459 : Int32))) + (((((x - (((x.toUInt32 >>> ((1 : Int32).toUInt32 &&& Int32.toUInt32 31)).toInt32) &&& (1431655765 : Int32))) &&& (858993459 : Int32)) + ((((x - (((x.toUInt32 >>> ((1 : Int32).toUInt32 &&& Int32.toUInt32 31)).toInt32) &&& (1431655765 : Int32))).toUInt32 >>> ((2 : Int32).toUInt32 &&& Int32.toUInt32 31)).toInt32) &&& (858993459 : Int32))).toUInt32 >>> ((4 : Int32).toUInt32 &&& Int32.toUInt32 31)).toInt32)) &&& (252645135 : Int32)).toUInt32 >>> ((8 : Int32).toUInt32 &&& Int32.toUInt32 31)).toInt32))]) (m' := (f, l)) rfl rfl (fl_bo rfl) rfl ?_
  refine fl_Tq.stp (pc' := 47) (lv' := [some (.inl ((((((x - (((x.toUInt32 >>> ((1 : Int32).toUInt32 &&& Int32.toUInt32 31)).toInt32) &&& (1431655765 : Int32))) &&& (858993459 : Int32)) + ((((x - (((x.toUInt32 >>> ((1 : Int32).toUInt32 &&& Int32.toUInt32 31)).toInt32) &&& (1431655765 : Int32))).toUInt32 >>> ((2 : Int32).toUInt32 &&& Int32.toUInt32 31)).toInt32) &&& (858993459 : Int32))) + (((((x - (((x.toUInt32 >>> ((1 : Int32).toUInt32 &&& Int32.toUInt32 31)).toInt32) &&& (1431655765 : Int32))) &&& (858993459 : Int32)) + ((((x - (((x.toUInt32 >>> ((1 : Int32).toUInt32 &&& Int32.toUInt32 31)).toInt32) &&& (1431655765 : Int32))).toUInt32 >>> ((2 : Int32).toUInt32 &&& Int32.toUInt32 31)).toInt32) &&& (858993459 : Int32))).toUInt32 >>> ((4 : Int32).toUInt32 &&& Int32.toUInt32 31)).toInt32)) &&& (252645135 : Int32)) + (((((((x - (((x.toUInt32 >>> ((1 : Int32).toUInt32 &&& Int32.toUInt32 31)).toInt32) &&& (1431655765 : Int32))) &&& (858993459 : Int32)) + ((((x - (((x.toUInt32 >>> ((1 : Int32).toUInt32 &&& Int32.toUInt32 31)).toInt32) &&& (1431655765 : Int32))).toUInt32 >>> ((2 : Int32).toUInt32 &&& Int32.toUInt32 31)).toInt32) &&& (858993459 : Int32))) + (((((x - (((x.toUInt32 >>> ((1 : Int32).toUInt32 &&& Int32.toUInt32 31)).toInt32) &&& (1431655765 : Int32))) &&& (858993459 : Int32)) + ((((x - (((x.toUInt32 >>> ((1 : Int32).toUInt32 &&& Int32.toUInt32 31)).toInt32) &&& (1431655765 : Int32))).toUInt32 >>> ((2 : Int32).toUInt32 &&& Int32.toUInt32 31)).toInt32) &&& (858993459 : Int32))).toUInt32 >>> ((4 : Int32).toUInt32 &&& Int32.toUInt32 31)).toInt32)) &&& (252645135 : Int32)).toUInt32 >>> ((8 : Int32).toUInt32 &&& Int32.toUInt32 31)).toInt32)))]) (st' := [.inl (((((((x - (((x.toUInt32 >>> ((1 : Int32).toUInt32 &&& Int32.toUInt32 31)).toInt32) &&& (1431655765 : Int32))) &&& (858993459 : Int32)) + ((((x - (((x.toUInt32 >>> ((1 : Int32).toUInt32 &&& Int32.toUInt32 31)).toInt32) &&& (1431655765 : Int32))).toUInt32 >>> ((2 : Int32).toUInt32 &&& Int32.toUInt32 31)).toInt32) &&& (858993459 : Int32))) + (((((x - (((x.toUInt32 >>> ((1 : Int32).toUInt32 &&& Int32.toUInt32 31)).toInt32) &&& (1431655765 : Int32))) &&& (858993459 : Int32)) + ((((x - (((x.toUInt32 >>> ((1 : Int32).toUInt32 &&& Int32.toUInt32 31)).toInt32) &&& (1431655765 : Int32))).toUInt32 >>> ((2 : Int32).toUInt32 &&& Int32.toUInt32 31)).toInt32) &&& (858993459 : Int32))).toUInt32 >>> ((4 : Int32).toUInt32 &&& Int32.toUInt32 31)).toInt32)) &&& (252645135 : Int32)) + (((((((x - (((x.toUInt32 >>> ((1 : Int32).toUInt32 &&& Int32.toUInt32 31)).toInt32) &&& (1431655765 : Int32))) &&& (858993459 : Int32)) + ((((x - (((x.toUInt32 >>> ((1 : Int32).toUInt32 &&& Int32.toUInt32 31)).toInt32) &&& (1431655765 : Int32))).toUInt32 >>> ((2 : Int32).toUInt32 &&& Int32.toUInt32 31)).toInt32) &&& (858993459 : Int32))) + (((((x - (((x.toUInt32 >>> ((1 : Int32).toUInt32 &&& Int32.toUInt32 31)).toInt32) &&& (1431655765 : Int32))) &&& (858993459 : Int32)) + ((((x - (((x.toUInt32 >>> ((1 : Int32).toUInt32 &&& Int32.toUInt32 31)).toInt32) &&& (1431655765 : Int32))).toUInt32 >>> ((2 : Int32).toUInt32 &&& Int32.toUInt32 31)).toInt32) &&& (858993459 : Int32))).toUInt32 >>> ((4 : Int32).toUInt32 &&& Int32.toUInt32 31)).toInt32)) &&& (252645135 : Int32)).toUInt32 >>> ((8 : Int32).toUInt32 &&& Int32.toUInt32 31)).toInt32)) + ((((((((x - (((x.toUInt32 >>> ((1 : Int32).toUInt32 &&& Int32.toUInt32 31)).toInt32) &&& (1431655765 : Int32))) &&& (858993459 : Int32)) + ((((x - (((x.toUInt32 >>> ((1 : Int32).toUInt32 &&& Int32.toUInt32 31)).toInt32) &&& (1431655765 : Int32))).toUInt32 >>> ((2 : Int32).toUInt32 &&& Int32.toUInt32 31)).toInt32) &&& (858993459 : Int32))) + (((((x - (((x.toUInt32 >>> ((1 : Int32).toUInt32 &&& Int32.toUInt32 31)).toInt32) &&& (1431655765 : Int32))) &&& (858993459 : Int32)) + ((((x - (((x.toUInt32 >>> ((1 : Int32).toUInt32 &&& Int32.toUInt32 31)).toInt32) &&& (1431655765 : Int32))).toUInt32 >>> ((2 : Int32).toUInt32 &&& Int32.toUInt32 31)).toInt32) &&& (858993459 : Int32))).toUInt32 >>> ((4 : Int32).toUInt32 &&& Int32.toUInt32 31)).toInt32)) &&& (252645135 : Int32)) + (((((((x - (((x.toUInt32 >>> ((1 : Int32).toUInt32 &&& Int32.toUInt32 31)).toInt32) &&& (1431655765 : Int32))) &&& (858993459 : Int32)) + ((((x - (((x.toUInt32 >>> ((1 : Int32).toUInt32 &&& Int32.toUInt32 31)).toInt32) &&& (1431655765 : Int32))).toUInt32 >>> ((2 : Int32).toUInt32 &&& Int32.toUInt32 31)).toInt32) &&& (858993459 : Int32))) + (((((x - (((x.toUInt32 >>> ((1 : Int32).toUInt32 &&& Int32.toUInt32 31)).toInt32) &&& (1431655765 : Int32))) &&& (858993459 : Int32)) + ((((x - (((x.toUInt32 >>> ((1 : Int32).toUInt32 &&& Int32.toUInt32 31)).toInt32) &&& (1431655765 : Int32))).toUInt32 >>> ((2 : Int32).toUInt32 &&& Int32.toUInt32 31)).toInt32) &&& (858993459 : Int32))).toUInt32 >>> ((4 : Int32).toUInt32 &&& Int32.toUInt32 31)).toInt32)) &&& (252645135 : Int32)).toUInt32 >>> ((8 : Int32).toUInt32 &&& Int32.toUInt32 31)).toInt32)).toUInt32 >>> ((16 : Int32).toUInt32 &&& Int32.toUInt32 31)).toInt32))]) (m' := (f, l)) rfl rfl (fl_bo rfl) rfl ?_
  refine fl_Tq.stp (pc' := 48) (lv' := [some (.inl (((((((x - (((x.toUInt32 >>> ((1 : Int32).toUInt32 &&& Int32.toUInt32 31)).toInt32) &&& (1431655765 : Int32))) &&& (858993459 : Int32)) + ((((x - (((x.toUInt32 >>> ((1 : Int32).toUInt32 &&& Int32.toUInt32 31)).toInt32) &&& (1431655765 : Int32))).toUInt32 >>> ((2 : Int32).toUInt32 &&& Int32.toUInt32 31)).toInt32) &&& (858993459 : Int32))) + (((((x - (((x.toUInt32 >>> ((1 : Int32).toUInt32 &&& Int32.toUInt32 31)).toInt32) &&& (1431655765 : Int32))) &&& (858993459 : Int32)) + ((((x - (((x.toUInt32 >>> ((1 : Int32).toUInt32 &&& Int32.toUInt32 31)).toInt32) &&& (1431655765 : Int32))).toUInt32 >>> ((2 : Int32).toUInt32 &&& Int32.toUInt32 31)).toInt32) &&& (858993459 : Int32))).toUInt32 >>> ((4 : Int32).toUInt32 &&& Int32.toUInt32 31)).toInt32)) &&& (252645135 : Int32)) + (((((((x - (((x.toUInt32 >>> ((1 : Int32).toUInt32 &&& Int32.toUInt32 31)).toInt32) &&& (1431655765 : Int32))) &&& (858993459 : Int32)) + ((((x - (((x.toUInt32 >>> ((1 : Int32).toUInt32 &&& Int32.toUInt32 31)).toInt32) &&& (1431655765 : Int32))).toUInt32 >>> ((2 : Int32).toUInt32 &&& Int32.toUInt32 31)).toInt32) &&& (858993459 : Int32))) + (((((x - (((x.toUInt32 >>> ((1 : Int32).toUInt32 &&& Int32.toUInt32 31)).toInt32) &&& (1431655765 : Int32))) &&& (858993459 : Int32)) + ((((x - (((x.toUInt32 >>> ((1 : Int32).toUInt32 &&& Int32.toUInt32 31)).toInt32) &&& (1431655765 : Int32))).toUInt32 >>> ((2 : Int32).toUInt32 &&& Int32.toUInt32 31)).toInt32) &&& (858993459 : Int32))).toUInt32 >>> ((4 : Int32).toUInt32 &&& Int32.toUInt32 31)).toInt32)) &&& (252645135 : Int32)).toUInt32 >>> ((8 : Int32).toUInt32 &&& Int32.toUInt32 31)).toInt32)) + ((((((((x - (((x.toUInt32 >>> ((1 : Int32).toUInt32 &&& Int32.toUInt32 31)).toInt32) &&& (1431655765 : Int32))) &&& (858993459 : Int32)) + ((((x - (((x.toUInt32 >>> ((1 : Int32).toUInt32 &&& Int32.toUInt32 31)).toInt32) &&& (1431655765 : Int32))).toUInt32 >>> ((2 : Int32).toUInt32 &&& Int32.toUInt32 31)).toInt32) &&& (858993459 : Int32))) + (((((x - (((x.toUInt32 >>> ((1 : Int32).toUInt32 &&& Int32.toUInt32 31)).toInt32) &&& (1431655765 : Int32))) &&& (858993459 : Int32)) + ((((x - (((x.toUInt32 >>> ((1 : Int32).toUInt32 &&& Int32.toUInt32 31)).toInt32) &&& (1431655765 : Int32))).toUInt32 >>> ((2 : Int32).toUInt32 &&& Int32.toUInt32 31)).toInt32) &&& (858993459 : Int32))).toUInt32 >>> ((4 : Int32).toUInt32 &&& Int32.toUInt32 31)).toInt32)) &&& (252645135 : Int32)) + (((((((x - (((x.toUInt32 >>> ((1 : Int32).toUInt32 &&& Int32.toUInt32 31)).toInt32) &&& (1431655765 : Int32))) &&& (858993459 : Int32)) + ((((x - (((x.toUInt32 >>> ((1 : Int32).toUInt32 &&& Int32.toUInt32 31)).toInt32) &&& (1431655765 : Int32))).toUInt32 >>> ((2 : Int32).toUInt32 &&& Int32.toUInt32 31)).toInt32) &&& (858993459 : Int32))) + (((((x - (((x.toUInt32 >>> ((1 : Int32).toUInt32 &&& Int32.toUInt32 31)).toInt32) &&& (1431655765 : Int32))) &&& (858993459 : Int32)) + ((((x - (((x.toUInt32 >>> ((1 : Int32).toUInt32 &&& Int32.toUInt32 31)).toInt32) &&& (1431655765 : Int32))).toUInt32 >>> ((2 : Int32).toUInt32 &&& Int32.toUInt32 31)).toInt32) &&& (858993459 : Int32))).toUInt32 >>> ((4 : Int32).toUInt32 &&& Int32.toUInt32 31)).toInt32)) &&& (252645135 : Int32)).toUInt32 >>> ((8 : Int32).toUInt32 &&& Int32.toUInt32 31)).toInt32)).toUInt32 >>> ((16 : Int32).toUInt32 &&& Int32.toUInt32 31)).toInt32)))]) (st' := []) (m' := (f, l)) rfl rfl (fl_bo rfl) rfl ?_
  refine fl_Tq.stp (pc' := 49) (lv' := [some (.inl (((((((x - (((x.toUInt32 >>> ((1 : Int32).toUInt32 &&& Int32.toUInt32 31)).toInt32) &&& (1431655765 : Int32))) &&& (858993459 : Int32)) + ((((x - (((x.toUInt32 >>> ((1 : Int32).toUInt32 &&& Int32.toUInt32 31)).toInt32) &&& (1431655765 : Int32))).toUInt32 >>> ((2 : Int32).toUInt32 &&& Int32.toUInt32 31)).toInt32) &&& (858993459 : Int32))) + (((((x - (((x.toUInt32 >>> ((1 : Int32).toUInt32 &&& Int32.toUInt32 31)).toInt32) &&& (1431655765 : Int32))) &&& (858993459 : Int32)) + ((((x - (((x.toUInt32 >>> ((1 : Int32).toUInt32 &&& Int32.toUInt32 31)).toInt32) &&& (1431655765 : Int32))).toUInt32 >>> ((2 : Int32).toUInt32 &&& Int32.toUInt32 31)).toInt32) &&& (858993459 : Int32))).toUInt32 >>> ((4 : Int32).toUInt32 &&& Int32.toUInt32 31)).toInt32)) &&& (252645135 : Int32)) + (((((((x - (((x.toUInt32 >>> ((1 : Int32).toUInt32 &&& Int32.toUInt32 31)).toInt32) &&& (1431655765 : Int32))) &&& (858993459 : Int32)) + ((((x - (((x.toUInt32 >>> ((1 : Int32).toUInt32 &&& Int32.toUInt32 31)).toInt32) &&& (1431655765 : Int32))).toUInt32 >>> ((2 : Int32).toUInt32 &&& Int32.toUInt32 31)).toInt32) &&& (858993459 : Int32))) + (((((x - (((x.toUInt32 >>> ((1 : Int32).toUInt32 &&& Int32.toUInt32 31)).toInt32) &&& (1431655765 : Int32))) &&& (858993459 : Int32)) + ((((x - (((x.toUInt32 >>> ((1 : Int32).toUInt32 &&& Int32.toUInt32 31)).toInt32) &&& (1431655765 : Int32))).toUInt32 >>> ((2 : Int32).toUInt32 &&& Int32.toUInt32 31)).toInt32) &&& (858993459 : Int32))).toUInt32 >>> ((4 : Int32).toUInt32 &&& Int32.toUInt32 31)).toInt32)) &&& (252645135 : Int32)).toUInt32 >>> ((8 : Int32).toUInt32 &&& Int32.toUInt32 31)).toInt32)) + ((((((((x - (((x.toUInt32 >>> ((1 : Int32).toUInt32 &&& Int32.toUInt32 31)).toInt32) &&& (1431655765 : Int32))) &&& (858993459 : Int32)) + ((((x - (((x.toUInt32 >>> ((1 : Int32).toUInt32 &&& Int32.toUInt32 31)).toInt32) &&& (1431655765 : Int32))).toUInt32 >>> ((2 : Int32).toUInt32 &&& Int32.toUInt32 31)).toInt32) &&& (858993459 : Int32))) + (((((x - (((x.toUInt32 >>> ((1 : Int32).toUInt32 &&& Int32.toUInt32 31)).toInt32) &&& (1431655765 : Int32))) &&& (858993459 : Int32)) + ((((x - (((x.toUInt32 >>> ((1 : Int32).toUInt32 &&& Int32.toUInt32 31)).toInt32) &&& (1431655765 : Int32))).toUInt32 >>> ((2 : Int32).toUInt32 &&& Int32.toUInt32 31)).toInt32) &&& (858993459 : Int32))).toUInt32 >>> ((4 : Int32).toUInt32 &&& Int32.toUInt32 31)).toInt32)) &&& (252645135 : Int32)) + (((((((x - (((x.toUInt32 >>> ((1 : Int32).toUInt32 &&& Int32.toUInt32 31)).toInt32) &&& (1431655765 : Int32))) &&& (858993459 : Int32)) + ((((x - (((x.toUInt32 >>> ((1 : Int32).toUInt32 &&& Int32.toUInt32 31)).toInt32) &&& (1431655765 : Int32))).toUInt32 >>> ((2 : Int32).toUInt32 &&& Int32.toUInt32 31)).toInt32) &&& (858993459 : Int32))) + (((((x - (((x.toUInt32 >>> ((1 : Int32).toUInt32 &&& Int32.toUInt32 31)).toInt32) &&& (1431655765 : Int32))) &&& (858993459 : Int32)) + ((((x - (((x.toUInt32 >>> ((1 : Int32).toUInt32 &&& Int32.toUInt32 31)).toInt32) &&& (1431655765 : Int32))).toUInt32 >>> ((2 : Int32).toUInt32 &&& Int32.toUInt32 31)).toInt32) &&& (858993459 : Int32))).toUInt32 >>> ((4 : Int32).toUInt32 &&& Int32.toUInt32 31)).toInt32)) &&& (252645135 : Int32)).toUInt32 >>> ((8 : Int32).toUInt32 &&& Int32.toUInt32 31)).toInt32)).toUInt32 >>> ((16 : Int32).toUInt32 &&& Int32.toUInt32 31)).toInt32)))]) (st' := [.inl (((((((x - (((x.toUInt32 >>> ((1 : Int32).toUInt32 &&& Int32.toUInt32 31)).toInt32) &&& (1431655765 : Int32))) &&& (858993459 : Int32)) + ((((x - (((x.toUInt32 >>> ((1 : Int32).toUInt32 &&& Int32.toUInt32 31)).toInt32) &&& (1431655765 : Int32))).toUInt32 >>> ((2 : Int32).toUInt32 &&& Int32.toUInt32 31)).toInt32) &&& (858993459 : Int32))) + (((((x - (((x.toUInt32 >>> ((1 : Int32).toUInt32 &&& Int32.toUInt32 31)).toInt32) &&& (1431655765 : Int32))) &&& (858993459 : Int32)) + ((((x - (((x.toUInt32 >>> ((1 : Int32).toUInt32 &&& Int32.toUInt32 31)).toInt32) &&& (1431655765 : Int32))).toUInt32 >>> ((2 : Int32).toUInt32 &&& Int32.toUInt32 31)).toInt32) &&& (858993459 : Int32))).toUInt32 >>> ((4 : Int32).toUInt32 &&& Int32.toUInt32 31)).toInt32)) &&& (252645135 : Int32)) + (((((((x - (((x.toUInt32 >>> ((1 : Int32).toUInt32 &&& Int32.toUInt32 31)).toInt32) &&& (1431655765 : Int32))) &&& (858993459 : Int32)) + ((((x - (((x.toUInt32 >>> ((1 : Int32).toUInt32 &&& Int32.toUInt32 31)).toInt32) &&& (1431655765 : Int32))).toUInt32 >>> ((2 : Int32).toUInt32 &&& Int32.toUInt32 31)).toInt32) &&& (858993459 : Int32))) + (((((x - (((x.toUInt32 >>> ((1 : Int32).toUInt32 &&& Int32.toUInt32 31)).toInt32) &&& (1431655765 : Int32))) &&& (858993459 : Int32)) + ((((x - (((x.toUInt32 >>> ((1 : Int32).toUInt32 &&& Int32.toUInt32 31)).toInt32) &&& (1431655765 : Int32))).toUInt32 >>> ((2 : Int32).toUInt32 &&& Int32.toUInt32 31)).toInt32) &&& (858993459 : Int32))).toUInt32 >>> ((4 : Int32).toUInt32 &&& Int32.toUInt32 31)).toInt32)) &&& (252645135 : Int32)).toUInt32 >>> ((8 : Int32).toUInt32 &&& Int32.toUInt32 31)).toInt32)) + ((((((((x - (((x.toUInt32 >>> ((1 : Int32).toUInt32 &&& Int32.toUInt32 31)).toInt32) &&& (1431655765 : Int32))) &&& (858993459 : Int32)) + ((((x - (((x.toUInt32 >>> ((1 : Int32).toUInt32 &&& Int32.toUInt32 31)).toInt32) &&& (1431655765 : Int32))).toUInt32 >>> ((2 : Int32).toUInt32 &&& Int32.toUInt32 31)).toInt32) &&& (858993459 : Int32))) + (((((x - (((x.toUInt32 >>> ((1 : Int32).toUInt32 &&& Int32.toUInt32 31)).toInt32) &&& (1431655765 : Int32))) &&& (858993459 : Int32)) + ((((x - (((x.toUInt32 >>> ((1 : Int32).toUInt32 &&& Int32.toUInt32 31)).toInt32) &&& (1431655765 : Int32))).toUInt32 >>> ((2 : Int32).toUInt32 &&& Int32.toUInt32 31)).toInt32) &&& (858993459 : Int32))).toUInt32 >>> ((4 : Int32).toUInt32 &&& Int32.toUInt32 31)).toInt32)) &&& (252645135 : Int32)) + (((((((x - (((x.toUInt32 >>> ((1 : Int32).toUInt32 &&& Int32.toUInt32 31)).toInt32) &&& (1431655765 : Int32))) &&& (858993459 : Int32)) + ((((x - (((x.toUInt32 >>> ((1 : Int32).toUInt32 &&& Int32.toUInt32 31)).toInt32) &&& (1431655765 : Int32))).toUInt32 >>> ((2 : Int32).toUInt32 &&& Int32.toUInt32 31)).toInt32) &&& (858993459 : Int32))) + (((((x - (((x.toUInt32 >>> ((1 : Int32).toUInt32 &&& Int32.toUInt32 31)).toInt32) &&& (1431655765 : Int32))) &&& (858993459 : Int32)) + ((((x - (((x.toUInt32 >>> ((1 : Int32).toUInt32 &&& Int32.toUInt32 31)).toInt32) &&& (1431655765 : Int32))).toUInt32 >>> ((2 : Int32).toUInt32 &&& Int32.toUInt32 31)).toInt32) &&& (858993459 : Int32))).toUInt32 >>> ((4 : Int32).toUInt32 &&& Int32.toUInt32 31)).toInt32)) &&& (252645135 : Int32)).toUInt32 >>> ((8 : Int32).toUInt32 &&& Int32.toUInt32 31)).toInt32)).toUInt32 >>> ((16 : Int32).toUInt32 &&& Int32.toUInt32 31)).toInt32))]) (m' := (f, l)) rfl rfl (fl_bo rfl) rfl ?_
  refine fl_Tq.cB (c := (63 : Int32)) rfl (by decide +kernel) (fl_bo rfl) ?_
  refine fl_Tq.stp (pc' := 52) (lv' := [some (.inl (((((((x - (((x.toUInt32 >>> ((1 : Int32).toUInt32 &&& Int32.toUInt32 31)).toInt32) &&& (1431655765 : Int32))) &&& (858993459 : Int32)) + ((((x - (((x.toUInt32 >>> ((1 : Int32).toUInt32 &&& Int32.toUInt32 31)).toInt32) &&& (1431655765 : Int32))).toUInt32 >>> ((2 : Int32).toUInt32 &&& Int32.toUInt32 31)).toInt32) &&& (858993459 : Int32))) + (((((x - (((x.toUInt32 >>> ((1 : Int32).toUInt32 &&& Int32.toUInt32 31)).toInt32) &&& (1431655765 : Int32))) &&& (858993459 : Int32)) + ((((x - (((x.toUInt32 >>> ((1 : Int32).toUInt32 &&& Int32.toUInt32 31)).toInt32) &&& (1431655765 : Int32))).toUInt32 >>> ((2 : Int32).toUInt32 &&& Int32.toUInt32 31)).toInt32) &&& (858993459 : Int32))).toUInt32 >>> ((4 : Int32).toUInt32 &&& Int32.toUInt32 31)).toInt32)) &&& (252645135 : Int32)) + (((((((x - (((x.toUInt32 >>> ((1 : Int32).toUInt32 &&& Int32.toUInt32 31)).toInt32) &&& (1431655765 : Int32))) &&& (858993459 : Int32)) + ((((x - (((x.toUInt32 >>> ((1 : Int32).toUInt32 &&& Int32.toUInt32 31)).toInt32) &&& (1431655765 : Int32))).toUInt32 >>> ((2 : Int32).toUInt32 &&& Int32.toUInt32 31)).toInt32) &&& (858993459 : Int32))) + (((((x - (((x.toUInt32 >>> ((1 : Int32).toUInt32 &&& Int32.toUInt32 31)).toInt32) &&& (1431655765 : Int32))) &&& (858993459 : Int32)) + ((((x - (((x.toUInt32 >>> ((1 : Int32).toUInt32 &&& Int32.toUInt32 31)).toInt32) &&& (1431655765 : Int32))).toUInt32 >>> ((2 : Int32).toUInt32 &&& Int32.toUInt32 31)).toInt32) &&& (858993459 : Int32))).toUInt32 >>> ((4 : Int32).toUInt32 &&& Int32.toUInt32 31)).toInt32)) &&& (252645135 : Int32)).toUInt32 >>> ((8 : Int32).toUInt32 &&& Int32.toUInt32 31)).toInt32)) + ((((((((x - (((x.toUInt32 >>> ((1 : Int32).toUInt32 &&& Int32.toUInt32 31)).toInt32) &&& (1431655765 : Int32))) &&& (858993459 : Int32)) + ((((x - (((x.toUInt32 >>> ((1 : Int32).toUInt32 &&& Int32.toUInt32 31)).toInt32) &&& (1431655765 : Int32))).toUInt32 >>> ((2 : Int32).toUInt32 &&& Int32.toUInt32 31)).toInt32) &&& (858993459 : Int32))) + (((((x - (((x.toUInt32 >>> ((1 : Int32).toUInt32 &&& Int32.toUInt32 31)).toInt32) &&& (1431655765 : Int32))) &&& (858993459 : Int32)) + ((((x - (((x.toUInt32 >>> ((1 : Int32).toUInt32 &&& Int32.toUInt32 31)).toInt32) &&& (1431655765 : Int32))).toUInt32 >>> ((2 : Int32).toUInt32 &&& Int32.toUInt32 31)).toInt32) &&& (858993459 : Int32))).toUInt32 >>> ((4 : Int32).toUInt32 &&& Int32.toUInt32 31)).toInt32)) &&& (252645135 : Int32)) + (((((((x - (((x.toUInt32 >>> ((1 : Int32).toUInt32 &&& Int32.toUInt32 31)).toInt32) &&& (1431655765 : Int32))) &&& (858993459 : Int32)) + ((((x - (((x.toUInt32 >>> ((1 : Int32).toUInt32 &&& Int32.toUInt32 31)).toInt32) &&& (1431655765 : Int32))).toUInt32 >>> ((2 : Int32).toUInt32 &&& Int32.toUInt32 31)).toInt32) &&& (858993459 : Int32))) + (((((x - (((x.toUInt32 >>> ((1 : Int32).toUInt32 &&& Int32.toUInt32 31)).toInt32) &&& (1431655765 : Int32))) &&& (858993459 : Int32)) + ((((x - (((x.toUInt32 >>> ((1 : Int32).toUInt32 &&& Int32.toUInt32 31)).toInt32) &&& (1431655765 : Int32))).toUInt32 >>> ((2 : Int32).toUInt32 &&& Int32.toUInt32 31)).toInt32) &&& (858993459 : Int32))).toUInt32 >>> ((4 : Int32).toUInt32 &&& Int32.toUInt32 31)).toInt32)) &&& (252645135 : Int32)).toUInt32 >>> ((8 : Int32).toUInt32 &&& Int32.toUInt32 31)).toInt32)).toUInt32 >>> ((16 : Int32).toUInt32 &&& Int32.toUInt32 31)).toInt32)))]) (st' := [.inl ((((((((x - (((x.toUInt32 >>> ((1 : Int32).toUInt32 &&& Int32.toUInt32 31)).toInt32) &&& (1431655765 : Int32))) &&& (858993459 : Int32)) + ((((x - (((x.toUInt32 >>> ((1 : Int32).toUInt32 &&& Int32.toUInt32 31)).toInt32) &&& (1431655765 : Int32))).toUInt32 >>> ((2 : Int32).toUInt32 &&& Int32.toUInt32 31)).toInt32) &&& (858993459 : Int32))) + (((((x - (((x.toUInt32 >>> ((1 : Int32).toUInt32 &&& Int32.toUInt32 31)).toInt32) &&& (1431655765 : Int32))) &&& (858993459 : Int32)) + ((((x - (((x.toUInt32 >>> ((1 : Int32).toUInt32 &&& Int32.toUInt32 31)).toInt32) &&& (1431655765 : Int32))).toUInt32 >>> ((2 : Int32).toUInt32 &&& Int32.toUInt32 31)).toInt32) &&& (858993459 : Int32))).toUInt32 >>> ((4 : Int32).toUInt32 &&& Int32.toUInt32 31)).toInt32)) &&& (252645135 : Int32)) + (((((((x - (((x.toUInt32 >>> ((1 : Int32).toUInt32 &&& Int32.toUInt32 31)).toInt32) &&& (1431655765 : Int32))) &&& (858993459 : Int32)) + ((((x - (((x.toUInt32 >>> ((1 : Int32).toUInt32 &&& Int32.toUInt32 31)).toInt32) &&& (1431655765 : Int32))).toUInt32 >>> ((2 : Int32).toUInt32 &&& Int32.toUInt32 31)).toInt32) &&& (858993459 : Int32))) + (((((x - (((x.toUInt32 >>> ((1 : Int32).toUInt32 &&& Int32.toUInt32 31)).toInt32) &&& (1431655765 : Int32))) &&& (858993459 : Int32)) + ((((x - (((x.toUInt32 >>> ((1 : Int32).toUInt32 &&& Int32.toUInt32 31)).toInt32) &&& (1431655765 : Int32))).toUInt32 >>> ((2 : Int32).toUInt32 &&& Int32.toUInt32 31)).toInt32) &&& (858993459 : Int32))).toUInt32 >>> ((4 : Int32).toUInt32 &&& Int32.toUInt32 31)).toInt32)) &&& (252645135 : Int32)).toUInt32 >>> ((8 : Int32).toUInt32 &&& Int32.toUInt32 31)).toInt32)) + ((((((((x - (((x.toUInt32 >>> ((1 : Int32).toUInt32 &&& Int32.toUInt32 31)).toInt32) &&& (1431655765 : Int32))) &&& (858993459 : Int32)) + ((((x - (((x.toUInt32 >>> ((1 : Int32).toUInt32 &&& Int32.toUInt32 31)).toInt32) &&& (1431655765 : Int32))).toUInt32 >>> ((2 : Int32).toUInt32 &&& Int32.toUInt32 31)).toInt32) &&& (858993459 : Int32))) + (((((x - (((x.toUInt32 >>> ((1 : Int32).toUInt32 &&& Int32.toUInt32 31)).toInt32) &&& (1431655765 : Int32))) &&& (858993459 : Int32)) + ((((x - (((x.toUInt32 >>> ((1 : Int32).toUInt32 &&& Int32.toUInt32 31)).toInt32) &&& (1431655765 : Int32))).toUInt32 >>> ((2 : Int32).toUInt32 &&& Int32.toUInt32 31)).toInt32) &&& (858993459 : Int32))).toUInt32 >>> ((4 : Int32).toUInt32 &&& Int32.toUInt32 31)).toInt32)) &&& (252645135 : Int32)) + (((((((x - (((x.toUInt32 >>> ((1 : Int32).toUInt32 &&& Int32.toUInt32 31)).toInt32) &&& (1431655765 : Int32))) &&& (858993459 : Int32)) + ((((x - (((x.toUInt32 >>> ((1 : Int32).toUInt32 &&& Int32.toUInt32 31)).toInt32) &&& (1431655765 : Int32))).toUInt32 >>> ((2 : Int32).toUInt32 &&& Int32.toUInt32 31)).toInt32) &&& (858993459 : Int32))) + (((((x - (((x.toUInt32 >>> ((1 : Int32).toUInt32 &&& Int32.toUInt32 31)).toInt32) &&& (1431655765 : Int32))) &&& (858993459 : Int32)) + ((((x - (((x.toUInt32 >>> ((1 : Int32).toUInt32 &&& Int32.toUInt32 31)).toInt32) &&& (1431655765 : Int32))).toUInt32 >>> ((2 : Int32).toUInt32 &&& Int32.toUInt32 31)).toInt32) &&& (858993459 : Int32))).toUInt32 >>> ((4 : Int32).toUInt32 &&& Int32.toUInt32 31)).toInt32)) &&& (252645135 : Int32)).toUInt32 >>> ((8 : Int32).toUInt32 &&& Int32.toUInt32 31)).toInt32)).toUInt32 >>> ((16 : Int32).toUInt32 &&& Int32.toUInt32 31)).toInt32)) &&& (63 : Int32))]) (m' := (f, l)) rfl rfl (fl_bo rfl) rfl ?_
  exact fl_Tq.ret rfl rfl rfl k
noncomputable def y_differ_a4 (f : t2_F) (a : Int32) : Nat → Int32
  | 0 => (0 : Int32)
  | k4 + 1 => (y_differ_a4 f a k4) + (if (r_has_v a (Int32.ofNat k4)).toInt = 0 then -(f 280 (444 + 61 * k4 + 1)) else f 280 (444 + 61 * k4 + 1))
noncomputable def y_differ_v (f : t2_F) (a : Int32) : Int32 := r_size_v (y_differ_a4 f a ((f 280 2).toInt.toNat))
theorem y_differ_q {L : Nat} {xs : Nat → Int32} {f : t2_F} {l : t2_L} {Q : Option fl_V → fl_M → Prop} {a : Int32} (hn : 0 ≤ (f 280 2).toInt ∧ (f 280 2).toInt ≤ 16) (k : Q (some (.inl (y_differ_v f a))) (f, l)) : fl_Tq (pw_P L xs) 302 0 (fl_args (am_mxl (pw_P L xs) 302) [.inr (.inr (.inl (76, 277))), .inl a]) [] (f, l) Q := by
  refine fl_Tq.cI (c := (0 : Int32)) rfl (by decide +kernel) (fl_bo rfl) ?_
  refine fl_Tq.stp (pc' := 2) (lv' := [some (.inr (.inr (.inl (76, 277)))), some (.inl a), some (.inl (0 : Int32)), none]) (st' := []) (m' := (f, l)) rfl rfl (fl_bo rfl) rfl ?_
  refine fl_Tq.cI (c := (0 : Int32)) rfl (by decide +kernel) (fl_bo rfl) ?_
  refine fl_Tq.stp (pc' := 4) (lv' := [some (.inr (.inr (.inl (76, 277)))), some (.inl a), some (.inl (0 : Int32)), some (.inl (0 : Int32))]) (st' := []) (m' := (f, l)) rfl rfl (fl_bo rfl) rfl ?_
  have hs4 : ∀ k4 : Nat, k4 < (f 280 2).toInt.toNat → fl_Tq (pw_P L xs) 302 4 [some (.inr (.inr (.inl (76, 277)))), some (.inl a), some (.inl (y_differ_a4 f a (k4 + 1))), some (.inl (Int32.ofNat (k4 + 1)))] [] (f, l) Q → fl_Tq (pw_P L xs) 302 4 [some (.inr (.inr (.inl (76, 277)))), some (.inl a), some (.inl (y_differ_a4 f a k4)), some (.inl (Int32.ofNat k4))] [] (f, l) Q := by
    intro k4 hk4 hS
    refine fl_Tq.stp (pc' := 5) (lv' := [some (.inr (.inr (.inl (76, 277)))), some (.inl a), some (.inl (y_differ_a4 f a k4)), some (.inl (Int32.ofNat k4))]) (st' := [.inl (Int32.ofNat k4)]) (m' := (f, l)) rfl rfl (fl_bo rfl) rfl ?_
    refine fl_Tq.stp (pc' := 6) (lv' := [some (.inr (.inr (.inl (76, 277)))), some (.inl a), some (.inl (y_differ_a4 f a k4)), some (.inl (Int32.ofNat k4))]) (st' := [.inr (.inr (.inl (76, 277))), .inl (Int32.ofNat k4)]) (m' := (f, l)) rfl rfl (fl_bo rfl) rfl ?_
    refine fl_Tq.stp (pc' := 9) (lv' := [some (.inr (.inr (.inl (76, 277)))), some (.inl a), some (.inl (y_differ_a4 f a k4)), some (.inl (Int32.ofNat k4))]) (st' := [.inr (.inr (.inl (79, 280))), .inl (Int32.ofNat k4)]) (m' := (f, l)) rfl rfl (fl_bo rfl) rfl ?_
    refine fl_Tq.cI (c := (2 : Int32)) rfl (by decide +kernel) (fl_bo rfl) ?_
    refine fl_Tq.ldV (p := 280) (τ := 79) (n := 29780) (z := (0, 0, 0)) (k := 2) (v := f 280 2) rfl (fl_bo rfl) rfl (by decide +kernel) (by decide) rfl ?_
    refine fl_Tq.jf rfl (fl_bo rfl) (c2_ge_f (t2_lk hk4 (t2_nn hn.1))) rfl ?_
    refine fl_Tq.stp (pc' := 15) (lv' := [some (.inr (.inr (.inl (76, 277)))), some (.inl a), some (.inl (y_differ_a4 f a k4)), some (.inl (Int32.ofNat k4))]) (st' := [.inl (y_differ_a4 f a k4)]) (m' := (f, l)) rfl rfl (fl_bo rfl) rfl ?_
    refine fl_Tq.stp (pc' := 16) (lv' := [some (.inr (.inr (.inl (76, 277)))), some (.inl a), some (.inl (y_differ_a4 f a k4)), some (.inl (Int32.ofNat k4))]) (st' := [.inl a, .inl (y_differ_a4 f a k4)]) (m' := (f, l)) rfl rfl (fl_bo rfl) rfl ?_
    refine fl_Tq.stp (pc' := 17) (lv' := [some (.inr (.inr (.inl (76, 277)))), some (.inl a), some (.inl (y_differ_a4 f a k4)), some (.inl (Int32.ofNat k4))]) (st' := [.inl (Int32.ofNat k4), .inl a, .inl (y_differ_a4 f a k4)]) (m' := (f, l)) rfl rfl (fl_bo rfl) rfl ?_
    refine fl_Tq.cal rfl rfl (fl_bo rfl) rfl ?_
    refine r_has_q  ?_
    show fl_Tq _ 302 20 [some (.inr (.inr (.inl (76, 277)))), some (.inl a), some (.inl (y_differ_a4 f a k4)), some (.inl (Int32.ofNat k4))] [.inl (r_has_v a (Int32.ofNat k4)), .inl (y_differ_a4 f a k4)] (f, l) _
    have hj190 : fl_Tq (pw_P L xs) 302 39 [some (.inr (.inr (.inl (76, 277)))), some (.inl a), some (.inl (y_differ_a4 f a k4)), some (.inl (Int32.ofNat k4))] [.inl (if (r_has_v a (Int32.ofNat k4)).toInt = 0 then -(f 280 (444 + 61 * k4 + 1)) else f 280 (444 + 61 * k4 + 1)), .inl (y_differ_a4 f a k4)] (f, l) Q → fl_Tq (pw_P L xs) 302 20 [some (.inr (.inr (.inl (76, 277)))), some (.inl a), some (.inl (y_differ_a4 f a k4)), some (.inl (Int32.ofNat k4))] [.inl (r_has_v a (Int32.ofNat k4)), .inl (y_differ_a4 f a k4)] (f, l) Q := by
      intro hJ
      by_cases h1 : (r_has_v a (Int32.ofNat k4)).toInt = 0
      · refine fl_Tq.zt rfl (fl_bo rfl) (c1_eq_t h1) rfl ?_
        refine fl_Tq.stp (pc' := 33) (lv' := [some (.inr (.inr (.inl (76, 277)))), some (.inl a), some (.inl (y_differ_a4 f a k4)), some (.inl (Int32.ofNat k4))]) (st' := [.inr (.inr (.inl (76, 277))), .inl (y_differ_a4 f a k4)]) (m' := (f, l)) rfl rfl (fl_bo rfl) rfl ?_
        refine fl_Tq.stp (pc' := 34) (lv' := [some (.inr (.inr (.inl (76, 277)))), some (.inl a), some (.inl (y_differ_a4 f a k4)), some (.inl (Int32.ofNat k4))]) (st' := [.inl (Int32.ofNat k4), .inr (.inr (.inl (76, 277))), .inl (y_differ_a4 f a k4)]) (m' := (f, l)) rfl rfl (fl_bo rfl) rfl ?_
        refine fl_Tq.cI (c := (1 : Int32)) rfl (by decide +kernel) (fl_bo rfl) ?_
        refine fl_Tq.cal rfl rfl (fl_bo rfl) rfl ?_
        refine t2_get (C := k4) (W := 1) (v := f 280 (444 + 61 * k4 + 1)) (at_ofN (by omega)) (by decide +kernel) (by omega) (by decide) rfl ?_
        show fl_Tq _ 302 38 [some (.inr (.inr (.inl (76, 277)))), some (.inl a), some (.inl (y_differ_a4 f a k4)), some (.inl (Int32.ofNat k4))] [.inl (f 280 (444 + 61 * k4 + 1)), .inl (y_differ_a4 f a k4)] (f, l) _
        refine fl_Tq.stp (pc' := 39) (lv' := [some (.inr (.inr (.inl (76, 277)))), some (.inl a), some (.inl (y_differ_a4 f a k4)), some (.inl (Int32.ofNat k4))]) (st' := [.inl (-(f 280 (444 + 61 * k4 + 1))), .inl (y_differ_a4 f a k4)]) (m' := (f, l)) rfl rfl (fl_bo rfl) rfl ?_
        have e0 : (if (r_has_v a (Int32.ofNat k4)).toInt = 0 then -(f 280 (444 + 61 * k4 + 1)) else f 280 (444 + 61 * k4 + 1)) = -(f 280 (444 + 61 * k4 + 1)) := by simp only [if_pos h1]
        rw [e0] at hJ
        exact hJ
      · refine fl_Tq.zf rfl (fl_bo rfl) (c1_eq_f h1) rfl ?_
        refine fl_Tq.stp (pc' := 24) (lv' := [some (.inr (.inr (.inl (76, 277)))), some (.inl a), some (.inl (y_differ_a4 f a k4)), some (.inl (Int32.ofNat k4))]) (st' := [.inr (.inr (.inl (76, 277))), .inl (y_differ_a4 f a k4)]) (m' := (f, l)) rfl rfl (fl_bo rfl) rfl ?_
        refine fl_Tq.stp (pc' := 25) (lv' := [some (.inr (.inr (.inl (76, 277)))), some (.inl a), some (.inl (y_differ_a4 f a k4)), some (.inl (Int32.ofNat k4))]) (st' := [.inl (Int32.ofNat k4), .inr (.inr (.inl (76, 277))), .inl (y_differ_a4 f a k4)]) (m' := (f, l)) rfl rfl (fl_bo rfl) rfl ?_
        refine fl_Tq.cI (c := (1 : Int32)) rfl (by decide +kernel) (fl_bo rfl) ?_
        refine fl_Tq.cal rfl rfl (fl_bo rfl) rfl ?_
        refine t2_get (C := k4) (W := 1) (v := f 280 (444 + 61 * k4 + 1)) (at_ofN (by omega)) (by decide +kernel) (by omega) (by decide) rfl ?_
        show fl_Tq _ 302 29 [some (.inr (.inr (.inl (76, 277)))), some (.inl a), some (.inl (y_differ_a4 f a k4)), some (.inl (Int32.ofNat k4))] [.inl (f 280 (444 + 61 * k4 + 1)), .inl (y_differ_a4 f a k4)] (f, l) _
        refine fl_Tq.stp (pc' := 39) (lv' := [some (.inr (.inr (.inl (76, 277)))), some (.inl a), some (.inl (y_differ_a4 f a k4)), some (.inl (Int32.ofNat k4))]) (st' := [.inl (f 280 (444 + 61 * k4 + 1)), .inl (y_differ_a4 f a k4)]) (m' := (f, l)) rfl rfl (fl_bo rfl) rfl ?_
        have e0 : (if (r_has_v a (Int32.ofNat k4)).toInt = 0 then -(f 280 (444 + 61 * k4 + 1)) else f 280 (444 + 61 * k4 + 1)) = f 280 (444 + 61 * k4 + 1) := by simp only [if_neg h1]
        rw [e0] at hJ
        exact hJ
    refine hj190 ?_
    show fl_Tq _ 302 39 [some (.inr (.inr (.inl (76, 277)))), some (.inl a), some (.inl (y_differ_a4 f a k4)), some (.inl (Int32.ofNat k4))] [.inl (if (r_has_v a (Int32.ofNat k4)).toInt = 0 then -(f 280 (444 + 61 * k4 + 1)) else f 280 (444 + 61 * k4 + 1)), .inl (y_differ_a4 f a k4)] (f, l) _
    refine fl_Tq.stp (pc' := 40) (lv' := [some (.inr (.inr (.inl (76, 277)))), some (.inl a), some (.inl (y_differ_a4 f a k4)), some (.inl (Int32.ofNat k4))]) (st' := [.inl ((y_differ_a4 f a k4) + (if (r_has_v a (Int32.ofNat k4)).toInt = 0 then -(f 280 (444 + 61 * k4 + 1)) else f 280 (444 + 61 * k4 + 1)))]) (m' := (f, l)) rfl rfl (fl_bo rfl) rfl ?_
    refine fl_Tq.stp (pc' := 41) (lv' := [some (.inr (.inr (.inl (76, 277)))), some (.inl a), some (.inl ((y_differ_a4 f a k4) + (if (r_has_v a (Int32.ofNat k4)).toInt = 0 then -(f 280 (444 + 61 * k4 + 1)) else f 280 (444 + 61 * k4 + 1)))), some (.inl (Int32.ofNat k4))]) (st' := []) (m' := (f, l)) rfl rfl (fl_bo rfl) rfl ?_
    refine fl_Tq.stp (pc' := 44) (lv' := [some (.inr (.inr (.inl (76, 277)))), some (.inl a), some (.inl ((y_differ_a4 f a k4) + (if (r_has_v a (Int32.ofNat k4)).toInt = 0 then -(f 280 (444 + 61 * k4 + 1)) else f 280 (444 + 61 * k4 + 1)))), some (.inl ((Int32.ofNat k4) + (1 : Int32)))]) (st' := []) (m' := (f, l)) rfl rfl (fl_bo rfl) rfl ?_
    refine fl_Tq.stp (pc' := 4) (lv' := [some (.inr (.inr (.inl (76, 277)))), some (.inl a), some (.inl ((y_differ_a4 f a k4) + (if (r_has_v a (Int32.ofNat k4)).toInt = 0 then -(f 280 (444 + 61 * k4 + 1)) else f 280 (444 + 61 * k4 + 1)))), some (.inl ((Int32.ofNat k4) + (1 : Int32)))]) (st' := []) (m' := (f, l)) rfl rfl (fl_bo rfl) rfl ?_
    have ea : y_differ_a4 f a (k4 + 1) = (y_differ_a4 f a k4) + (if (r_has_v a (Int32.ofNat k4)).toInt = 0 then -(f 280 (444 + 61 * k4 + 1)) else f 280 (444 + 61 * k4 + 1)) := by
      show ((y_differ_a4 f a k4) + (if (r_has_v a (Int32.ofNat k4)).toInt = 0 then -(f 280 (444 + 61 * k4 + 1)) else f 280 (444 + 61 * k4 + 1))) = _
      rfl
    rw [ea, ← t2_k1] at hS
    exact hS
  refine t2_for (S := fun k4 => fl_Tq (pw_P L xs) 302 4 [some (.inr (.inr (.inl (76, 277)))), some (.inl a), some (.inl (y_differ_a4 f a k4)), some (.inl (Int32.ofNat k4))] [] (f, l) Q) hs4 ?_
  show fl_Tq (pw_P L xs) 302 4 [some (.inr (.inr (.inl (76, 277)))), some (.inl a), some (.inl (y_differ_a4 f a ((f 280 2).toInt.toNat))), some (.inl (Int32.ofNat ((f 280 2).toInt.toNat)))] [] (f, l) _
  refine fl_Tq.stp (pc' := 5) (lv' := [some (.inr (.inr (.inl (76, 277)))), some (.inl a), some (.inl (y_differ_a4 f a ((f 280 2).toInt.toNat))), some (.inl (Int32.ofNat ((f 280 2).toInt.toNat)))]) (st' := [.inl (Int32.ofNat ((f 280 2).toInt.toNat))]) (m' := (f, l)) rfl rfl (fl_bo rfl) rfl ?_
  refine fl_Tq.stp (pc' := 6) (lv' := [some (.inr (.inr (.inl (76, 277)))), some (.inl a), some (.inl (y_differ_a4 f a ((f 280 2).toInt.toNat))), some (.inl (Int32.ofNat ((f 280 2).toInt.toNat)))]) (st' := [.inr (.inr (.inl (76, 277))), .inl (Int32.ofNat ((f 280 2).toInt.toNat))]) (m' := (f, l)) rfl rfl (fl_bo rfl) rfl ?_
  refine fl_Tq.stp (pc' := 9) (lv' := [some (.inr (.inr (.inl (76, 277)))), some (.inl a), some (.inl (y_differ_a4 f a ((f 280 2).toInt.toNat))), some (.inl (Int32.ofNat ((f 280 2).toInt.toNat)))]) (st' := [.inr (.inr (.inl (79, 280))), .inl (Int32.ofNat ((f 280 2).toInt.toNat))]) (m' := (f, l)) rfl rfl (fl_bo rfl) rfl ?_
  refine fl_Tq.cI (c := (2 : Int32)) rfl (by decide +kernel) (fl_bo rfl) ?_
  refine fl_Tq.ldV (p := 280) (τ := 79) (n := 29780) (z := (0, 0, 0)) (k := 2) (v := f 280 2) rfl (fl_bo rfl) rfl (by decide +kernel) (by decide) rfl ?_
  refine fl_Tq.jt rfl (fl_bo rfl) (c2_ge_t (t2_ln (t2_nn hn.1))) rfl ?_
  refine fl_Tq.stp (pc' := 48) (lv' := [some (.inr (.inr (.inl (76, 277)))), some (.inl a), some (.inl (y_differ_a4 f a ((f 280 2).toInt.toNat))), some (.inl (Int32.ofNat ((f 280 2).toInt.toNat)))]) (st' := [.inl (y_differ_a4 f a ((f 280 2).toInt.toNat))]) (m' := (f, l)) rfl rfl (fl_bo rfl) rfl ?_
  refine fl_Tq.cal rfl rfl (fl_bo rfl) rfl ?_
  refine r_size_q  ?_
  show fl_Tq _ 302 51 [some (.inr (.inr (.inl (76, 277)))), some (.inl a), some (.inl (y_differ_a4 f a ((f 280 2).toInt.toNat))), some (.inl (Int32.ofNat ((f 280 2).toInt.toNat)))] [.inl (r_size_v (y_differ_a4 f a ((f 280 2).toInt.toNat)))] (f, l) _
  exact fl_Tq.ret rfl rfl rfl k
theorem y_many_A {L : Nat} {xs : Nat → Int32} {f : t2_F} {l : t2_L} {Q : Option fl_V → fl_M → Prop} {x : Int32}  (k : fl_Tq (pw_P L xs) 303 4 [some (.inl x), some (.inl (0 : Int32)), some (.inl x)] [] (f, l) Q) : fl_Tq (pw_P L xs) 303 0 [some (.inl x), none, none] [] (f, l) Q := by
  refine fl_Tq.cI (c := (0 : Int32)) rfl (by decide +kernel) (fl_bo rfl) ?_
  refine fl_Tq.stp (pc' := 2) (lv' := [some (.inl x), some (.inl (0 : Int32)), none]) (st' := []) (m' := (f, l)) rfl rfl (fl_bo rfl) rfl ?_
  refine fl_Tq.stp (pc' := 3) (lv' := [some (.inl x), some (.inl (0 : Int32)), none]) (st' := [.inl x]) (m' := (f, l)) rfl rfl (fl_bo rfl) rfl ?_
  refine fl_Tq.stp (pc' := 4) (lv' := [some (.inl x), some (.inl (0 : Int32)), some (.inl x)]) (st' := []) (m' := (f, l)) rfl rfl (fl_bo rfl) rfl ?_
  exact k
theorem y_many_B {L : Nat} {xs : Nat → Int32} {f : t2_F} {l : t2_L} {Q : Option fl_V → fl_M → Prop} {x y z : Int32}  (k : (z.toInt = 0) → Q (some (.inl y)) (f, l)) (k1 : (¬ (z.toInt = 0)) → fl_Tq (pw_P L xs) 303 4 [some (.inl x), some (.inl (y + (1 : Int32))), some (.inl (z &&& (z - (1 : Int32))))] [] (f, l) Q) : fl_Tq (pw_P L xs) 303 4 [some (.inl x), some (.inl y), some (.inl z)] [] (f, l) Q := by
  refine fl_Tq.stp (pc' := 5) (lv' := [some (.inl x), some (.inl y), some (.inl z)]) (st' := [.inl z]) (m' := (f, l)) rfl rfl (fl_bo rfl) rfl ?_
  by_cases h1 : z.toInt = 0
  · refine fl_Tq.zt rfl (fl_bo rfl) (c1_eq_t h1) rfl ?_
    refine fl_Tq.stp (pc' := 21) (lv' := [some (.inl x), some (.inl y), some (.inl z)]) (st' := [.inl y]) (m' := (f, l)) rfl rfl (fl_bo rfl) rfl ?_
    exact fl_Tq.ret rfl rfl rfl (k h1)
  · refine fl_Tq.zf rfl (fl_bo rfl) (c1_eq_f h1) rfl ?_
    refine fl_Tq.stp (pc' := 11) (lv' := [some (.inl x), some (.inl (y + (1 : Int32))), some (.inl z)]) (st' := []) (m' := (f, l)) rfl rfl (fl_bo rfl) rfl ?_
    refine fl_Tq.stp (pc' := 12) (lv' := [some (.inl x), some (.inl (y + (1 : Int32))), some (.inl z)]) (st' := [.inl z]) (m' := (f, l)) rfl rfl (fl_bo rfl) rfl ?_
    refine fl_Tq.stp (pc' := 13) (lv' := [some (.inl x), some (.inl (y + (1 : Int32))), some (.inl z)]) (st' := [.inl z, .inl z]) (m' := (f, l)) rfl rfl (fl_bo rfl) rfl ?_
    refine fl_Tq.cI (c := (1 : Int32)) rfl (by decide +kernel) (fl_bo rfl) ?_
    refine fl_Tq.stp (pc' := 15) (lv' := [some (.inl x), some (.inl (y + (1 : Int32))), some (.inl z)]) (st' := [.inl (z - (1 : Int32)), .inl z]) (m' := (f, l)) rfl rfl (fl_bo rfl) rfl ?_
    refine fl_Tq.stp (pc' := 16) (lv' := [some (.inl x), some (.inl (y + (1 : Int32))), some (.inl z)]) (st' := [.inl (z &&& (z - (1 : Int32)))]) (m' := (f, l)) rfl rfl (fl_bo rfl) rfl ?_
    refine fl_Tq.stp (pc' := 17) (lv' := [some (.inl x), some (.inl (y + (1 : Int32))), some (.inl (z &&& (z - (1 : Int32))))]) (st' := []) (m' := (f, l)) rfl rfl (fl_bo rfl) rfl ?_
    refine fl_Tq.stp (pc' := 4) (lv' := [some (.inl x), some (.inl (y + (1 : Int32))), some (.inl (z &&& (z - (1 : Int32))))]) (st' := []) (m' := (f, l)) rfl rfl (fl_bo rfl) rfl ?_
    exact k1 h1
theorem x_half_A {L : Nat} {xs : Nat → Int32} {f : t2_F} {l : t2_L} {Q : Option fl_V → fl_M → Prop} {a : Int32}  (k : ((f 1 5).toInt = 0) → Q (some (.inl (-1 : Int32))) (f, l)) (k1 : (¬ ((f 1 5).toInt = 0)) → ((8 : Int32).toInt < (f 1 5).toInt) → Q (some (.inl (-1 : Int32))) (f, l)) (k2 : (¬ ((f 1 5).toInt = 0)) → (¬ ((8 : Int32).toInt < (f 1 5).toInt)) → (((f 1 5) - (f 1 5) / (2 : Int32) * (2 : Int32)).toInt = 0) → ((t2_within_v a (0 : Int32) (1 : Int32)).toInt = 0) → Q (some (.inl (-1 : Int32))) (f, l)) (k3 : (¬ ((f 1 5).toInt = 0)) → (¬ ((8 : Int32).toInt < (f 1 5).toInt)) → (((f 1 5) - (f 1 5) / (2 : Int32) * (2 : Int32)).toInt = 0) → (¬ ((t2_within_v a (0 : Int32) (1 : Int32)).toInt = 0)) → fl_Tq (pw_P L xs) 141 45 [some (.inr (.inr (.inl (0, 0)))), some (.inl a), some (.inl (f 1 5)), some (.inl (-1 : Int32)), some (.inl (2147483647 : Int32)), some (.inl (1 : Int32)), none] [] (f, l) Q) (k4 : (¬ ((f 1 5).toInt = 0)) → (¬ ((8 : Int32).toInt < (f 1 5).toInt)) → (¬ (((f 1 5) - (f 1 5) / (2 : Int32) * (2 : Int32)).toInt = 0)) → Q (some (.inl (-1 : Int32))) (f, l)) : fl_Tq (pw_P L xs) 141 0 [some (.inr (.inr (.inl (0, 0)))), some (.inl a), none, none, none, none, none] [] (f, l) Q := by
  refine fl_Tq.stp (pc' := 1) (lv' := [some (.inr (.inr (.inl (0, 0)))), some (.inl a), none, none, none, none, none]) (st' := [.inr (.inr (.inl (0, 0)))]) (m' := (f, l)) rfl rfl (fl_bo rfl) rfl ?_
  refine fl_Tq.stp (pc' := 4) (lv' := [some (.inr (.inr (.inl (0, 0)))), some (.inl a), none, none, none, none, none]) (st' := [.inr (.inr (.inl (1, 1)))]) (m' := (f, l)) rfl rfl (fl_bo rfl) rfl ?_
  refine fl_Tq.gfV (k := 5) (v := f 1 5) rfl (fl_bo rfl) rfl rfl ?_
  refine fl_Tq.stp (pc' := 8) (lv' := [some (.inr (.inr (.inl (0, 0)))), some (.inl a), some (.inl (f 1 5)), none, none, none, none]) (st' := []) (m' := (f, l)) rfl rfl (fl_bo rfl) rfl ?_
  refine fl_Tq.stp (pc' := 9) (lv' := [some (.inr (.inr (.inl (0, 0)))), some (.inl a), some (.inl (f 1 5)), none, none, none, none]) (st' := [.inl (f 1 5)]) (m' := (f, l)) rfl rfl (fl_bo rfl) rfl ?_
  by_cases h1 : (f 1 5).toInt = 0
  · refine fl_Tq.zt rfl (fl_bo rfl) (c1_eq_t h1) rfl ?_
    refine fl_Tq.cI (c := (-1 : Int32)) rfl (by decide +kernel) (fl_bo rfl) ?_
    exact fl_Tq.ret rfl rfl rfl (k h1)
  · refine fl_Tq.zf rfl (fl_bo rfl) (c1_eq_f h1) rfl ?_
    refine fl_Tq.stp (pc' := 13) (lv' := [some (.inr (.inr (.inl (0, 0)))), some (.inl a), some (.inl (f 1 5)), none, none, none, none]) (st' := [.inl (f 1 5)]) (m' := (f, l)) rfl rfl (fl_bo rfl) rfl ?_
    refine fl_Tq.cB (c := (8 : Int32)) rfl (by decide +kernel) (fl_bo rfl) ?_
    by_cases h2 : (8 : Int32).toInt < (f 1 5).toInt
    · refine fl_Tq.jt rfl (fl_bo rfl) (c2_gt_t h2) rfl ?_
      refine fl_Tq.cI (c := (-1 : Int32)) rfl (by decide +kernel) (fl_bo rfl) ?_
      exact fl_Tq.ret rfl rfl rfl (k1 h1 h2)
    · refine fl_Tq.jf rfl (fl_bo rfl) (c2_gt_f h2) rfl ?_
      refine fl_Tq.stp (pc' := 19) (lv' := [some (.inr (.inr (.inl (0, 0)))), some (.inl a), some (.inl (f 1 5)), none, none, none, none]) (st' := [.inl (f 1 5)]) (m' := (f, l)) rfl rfl (fl_bo rfl) rfl ?_
      refine fl_Tq.cI (c := (2 : Int32)) rfl (by decide +kernel) (fl_bo rfl) ?_
      refine fl_Tq.rm rfl (fl_bo rfl) (by decide +kernel) ?_
      by_cases h3 : ((f 1 5) - (f 1 5) / (2 : Int32) * (2 : Int32)).toInt = 0
      · refine fl_Tq.zf rfl (fl_bo rfl) (c1_ne_f h3) rfl ?_
        refine fl_Tq.stp (pc' := 25) (lv' := [some (.inr (.inr (.inl (0, 0)))), some (.inl a), some (.inl (f 1 5)), none, none, none, none]) (st' := [.inl a]) (m' := (f, l)) rfl rfl (fl_bo rfl) rfl ?_
        refine fl_Tq.cI (c := (0 : Int32)) rfl (by decide +kernel) (fl_bo rfl) ?_
        refine fl_Tq.cI (c := (1 : Int32)) rfl (by decide +kernel) (fl_bo rfl) ?_
        refine fl_Tq.cal rfl rfl (fl_bo rfl) rfl ?_
        refine t2_within_q  ?_
        show fl_Tq _ 141 30 [some (.inr (.inr (.inl (0, 0)))), some (.inl a), some (.inl (f 1 5)), none, none, none, none] [.inl (t2_within_v a (0 : Int32) (1 : Int32))] (f, l) _
        by_cases h4 : (t2_within_v a (0 : Int32) (1 : Int32)).toInt = 0
        · refine fl_Tq.zf rfl (fl_bo rfl) (c1_ne_f h4) rfl ?_
          refine fl_Tq.cI (c := (-1 : Int32)) rfl (by decide +kernel) (fl_bo rfl) ?_
          exact fl_Tq.ret rfl rfl rfl (k2 h1 h2 h3 h4)
        · refine fl_Tq.zt rfl (fl_bo rfl) (c1_ne_t h4) rfl ?_
          refine fl_Tq.cI (c := (-1 : Int32)) rfl (by decide +kernel) (fl_bo rfl) ?_
          refine fl_Tq.stp (pc' := 37) (lv' := [some (.inr (.inr (.inl (0, 0)))), some (.inl a), some (.inl (f 1 5)), some (.inl (-1 : Int32)), none, none, none]) (st' := []) (m' := (f, l)) rfl rfl (fl_bo rfl) rfl ?_
          refine fl_Tq.stp (pc' := 40) (lv' := [some (.inr (.inr (.inl (0, 0)))), some (.inl a), some (.inl (f 1 5)), some (.inl (-1 : Int32)), none, none, none]) (st' := [.inl (2147483647 : Int32)]) (m' := (f, l)) rfl rfl (fl_bo rfl) rfl ?_
          refine fl_Tq.stp (pc' := 42) (lv' := [some (.inr (.inr (.inl (0, 0)))), some (.inl a), some (.inl (f 1 5)), some (.inl (-1 : Int32)), some (.inl (2147483647 : Int32)), none, none]) (st' := []) (m' := (f, l)) rfl rfl (fl_bo rfl) rfl ?_
          refine fl_Tq.cI (c := (1 : Int32)) rfl (by decide +kernel) (fl_bo rfl) ?_
          refine fl_Tq.stp (pc' := 45) (lv' := [some (.inr (.inr (.inl (0, 0)))), some (.inl a), some (.inl (f 1 5)), some (.inl (-1 : Int32)), some (.inl (2147483647 : Int32)), some (.inl (1 : Int32)), none]) (st' := []) (m' := (f, l)) rfl rfl (fl_bo rfl) rfl ?_
          exact k3 h1 h2 h3 h4
      · refine fl_Tq.zt rfl (fl_bo rfl) (c1_ne_t h3) rfl ?_
        refine fl_Tq.cI (c := (-1 : Int32)) rfl (by decide +kernel) (fl_bo rfl) ?_
        exact fl_Tq.ret rfl rfl rfl (k4 h1 h2 h3)
theorem x_half_B {L : Nat} {xs : Nat → Int32} {f : t2_F} {l : t2_L} {Q : Option fl_V → fl_M → Prop} {a z y : Int32} {C : Nat} (hc : 0 ≤ (f 1 5).toInt ∧ (f 1 5).toInt ≤ 16) (hk0 : (Int32.ofNat C).toInt < ((1 : Int32) <<< ((f 1 5) &&& 31)).toInt) (k : fl_Tq (pw_P L xs) 141 45 [some (.inr (.inr (.inl (0, 0)))), some (.inl a), some (.inl (f 1 5)), some (.inl (if (t2_bc_v (Int32.ofNat C)).toInt = ((f 1 5) / (2 : Int32)).toInt then (if (t2_abs_v (c0_chargeApart_v f (Int32.ofNat C))).toInt < y.toInt then Int32.ofNat C else z) else z)), some (.inl (if (t2_bc_v (Int32.ofNat C)).toInt = ((f 1 5) / (2 : Int32)).toInt then (if (t2_abs_v (c0_chargeApart_v f (Int32.ofNat C))).toInt < y.toInt then t2_abs_v (c0_chargeApart_v f (Int32.ofNat C)) else y) else y)), some (.inl ((Int32.ofNat C) + (2 : Int32))), some (.inl (t2_abs_v (c0_chargeApart_v f (Int32.ofNat C))))] [] (f, l) Q) : fl_Tq (pw_P L xs) 141 45 [some (.inr (.inr (.inl (0, 0)))), some (.inl a), some (.inl (f 1 5)), some (.inl z), some (.inl y), some (.inl (Int32.ofNat C)), none] [] (f, l) Q := by
  refine fl_Tq.stp (pc' := 47) (lv' := [some (.inr (.inr (.inl (0, 0)))), some (.inl a), some (.inl (f 1 5)), some (.inl z), some (.inl y), some (.inl (Int32.ofNat C)), none]) (st' := [.inl (Int32.ofNat C)]) (m' := (f, l)) rfl rfl (fl_bo rfl) rfl ?_
  refine fl_Tq.cI (c := (1 : Int32)) rfl (by decide +kernel) (fl_bo rfl) ?_
  refine fl_Tq.stp (pc' := 49) (lv' := [some (.inr (.inr (.inl (0, 0)))), some (.inl a), some (.inl (f 1 5)), some (.inl z), some (.inl y), some (.inl (Int32.ofNat C)), none]) (st' := [.inl (f 1 5), .inl (1 : Int32), .inl (Int32.ofNat C)]) (m' := (f, l)) rfl rfl (fl_bo rfl) rfl ?_
  refine fl_Tq.stp (pc' := 50) (lv' := [some (.inr (.inr (.inl (0, 0)))), some (.inl a), some (.inl (f 1 5)), some (.inl z), some (.inl y), some (.inl (Int32.ofNat C)), none]) (st' := [.inl ((1 : Int32) <<< ((f 1 5) &&& 31)), .inl (Int32.ofNat C)]) (m' := (f, l)) rfl rfl (fl_bo rfl) rfl ?_
  refine fl_Tq.jf rfl (fl_bo rfl) (c2_ge_f hk0) rfl ?_
  refine fl_Tq.stp (pc' := 54) (lv' := [some (.inr (.inr (.inl (0, 0)))), some (.inl a), some (.inl (f 1 5)), some (.inl z), some (.inl y), some (.inl (Int32.ofNat C)), none]) (st' := [.inr (.inr (.inl (0, 0)))]) (m' := (f, l)) rfl rfl (fl_bo rfl) rfl ?_
  refine fl_Tq.stp (pc' := 57) (lv' := [some (.inr (.inr (.inl (0, 0)))), some (.inl a), some (.inl (f 1 5)), some (.inl z), some (.inl y), some (.inl (Int32.ofNat C)), none]) (st' := [.inr (.inr (.inl (1, 1)))]) (m' := (f, l)) rfl rfl (fl_bo rfl) rfl ?_
  refine fl_Tq.stp (pc' := 59) (lv' := [some (.inr (.inr (.inl (0, 0)))), some (.inl a), some (.inl (f 1 5)), some (.inl z), some (.inl y), some (.inl (Int32.ofNat C)), none]) (st' := [.inl (Int32.ofNat C), .inr (.inr (.inl (1, 1)))]) (m' := (f, l)) rfl rfl (fl_bo rfl) rfl ?_
  refine fl_Tq.cal rfl rfl (fl_bo rfl) rfl ?_
  refine c0_chargeApart_q hc ?_
  show fl_Tq _ 141 62 [some (.inr (.inr (.inl (0, 0)))), some (.inl a), some (.inl (f 1 5)), some (.inl z), some (.inl y), some (.inl (Int32.ofNat C)), none] [.inl (c0_chargeApart_v f (Int32.ofNat C))] (f, l) _
  refine fl_Tq.cal rfl rfl (fl_bo rfl) rfl ?_
  refine t2_abs_q  ?_
  show fl_Tq _ 141 65 [some (.inr (.inr (.inl (0, 0)))), some (.inl a), some (.inl (f 1 5)), some (.inl z), some (.inl y), some (.inl (Int32.ofNat C)), none] [.inl (t2_abs_v (c0_chargeApart_v f (Int32.ofNat C)))] (f, l) _
  refine fl_Tq.stp (pc' := 67) (lv' := [some (.inr (.inr (.inl (0, 0)))), some (.inl a), some (.inl (f 1 5)), some (.inl z), some (.inl y), some (.inl (Int32.ofNat C)), some (.inl (t2_abs_v (c0_chargeApart_v f (Int32.ofNat C))))]) (st' := []) (m' := (f, l)) rfl rfl (fl_bo rfl) rfl ?_
  refine fl_Tq.stp (pc' := 69) (lv' := [some (.inr (.inr (.inl (0, 0)))), some (.inl a), some (.inl (f 1 5)), some (.inl z), some (.inl y), some (.inl (Int32.ofNat C)), some (.inl (t2_abs_v (c0_chargeApart_v f (Int32.ofNat C))))]) (st' := [.inl (Int32.ofNat C)]) (m' := (f, l)) rfl rfl (fl_bo rfl) rfl ?_
  refine fl_Tq.cal rfl rfl (fl_bo rfl) rfl ?_
  refine t2_bc_q  ?_
  show fl_Tq _ 141 72 [some (.inr (.inr (.inl (0, 0)))), some (.inl a), some (.inl (f 1 5)), some (.inl z), some (.inl y), some (.inl (Int32.ofNat C)), some (.inl (t2_abs_v (c0_chargeApart_v f (Int32.ofNat C))))] [.inl (t2_bc_v (Int32.ofNat C))] (f, l) _
  refine fl_Tq.stp (pc' := 73) (lv' := [some (.inr (.inr (.inl (0, 0)))), some (.inl a), some (.inl (f 1 5)), some (.inl z), some (.inl y), some (.inl (Int32.ofNat C)), some (.inl (t2_abs_v (c0_chargeApart_v f (Int32.ofNat C))))]) (st' := [.inl (f 1 5), .inl (t2_bc_v (Int32.ofNat C))]) (m' := (f, l)) rfl rfl (fl_bo rfl) rfl ?_
  refine fl_Tq.cI (c := (2 : Int32)) rfl (by decide +kernel) (fl_bo rfl) ?_
  refine fl_Tq.dv rfl (fl_bo rfl) (by decide +kernel) ?_
  have hj191 : fl_Tq (pw_P L xs) 141 92 [some (.inr (.inr (.inl (0, 0)))), some (.inl a), some (.inl (f 1 5)), some (.inl (if (t2_bc_v (Int32.ofNat C)).toInt = ((f 1 5) / (2 : Int32)).toInt then (if (t2_abs_v (c0_chargeApart_v f (Int32.ofNat C))).toInt < y.toInt then Int32.ofNat C else z) else z)), some (.inl (if (t2_bc_v (Int32.ofNat C)).toInt = ((f 1 5) / (2 : Int32)).toInt then (if (t2_abs_v (c0_chargeApart_v f (Int32.ofNat C))).toInt < y.toInt then t2_abs_v (c0_chargeApart_v f (Int32.ofNat C)) else y) else y)), some (.inl (Int32.ofNat C)), some (.inl (t2_abs_v (c0_chargeApart_v f (Int32.ofNat C))))] [] (f, l) Q → fl_Tq (pw_P L xs) 141 75 [some (.inr (.inr (.inl (0, 0)))), some (.inl a), some (.inl (f 1 5)), some (.inl z), some (.inl y), some (.inl (Int32.ofNat C)), some (.inl (t2_abs_v (c0_chargeApart_v f (Int32.ofNat C))))] [.inl ((f 1 5) / (2 : Int32)), .inl (t2_bc_v (Int32.ofNat C))] (f, l) Q := by
    intro hJ
    by_cases h1 : (t2_bc_v (Int32.ofNat C)).toInt = ((f 1 5) / (2 : Int32)).toInt
    · refine fl_Tq.jf rfl (fl_bo rfl) (c2_ne_f h1) rfl ?_
      refine fl_Tq.stp (pc' := 80) (lv' := [some (.inr (.inr (.inl (0, 0)))), some (.inl a), some (.inl (f 1 5)), some (.inl z), some (.inl y), some (.inl (Int32.ofNat C)), some (.inl (t2_abs_v (c0_chargeApart_v f (Int32.ofNat C))))]) (st' := [.inl (t2_abs_v (c0_chargeApart_v f (Int32.ofNat C)))]) (m' := (f, l)) rfl rfl (fl_bo rfl) rfl ?_
      refine fl_Tq.stp (pc' := 82) (lv' := [some (.inr (.inr (.inl (0, 0)))), some (.inl a), some (.inl (f 1 5)), some (.inl z), some (.inl y), some (.inl (Int32.ofNat C)), some (.inl (t2_abs_v (c0_chargeApart_v f (Int32.ofNat C))))]) (st' := [.inl y, .inl (t2_abs_v (c0_chargeApart_v f (Int32.ofNat C)))]) (m' := (f, l)) rfl rfl (fl_bo rfl) rfl ?_
      by_cases h2 : (t2_abs_v (c0_chargeApart_v f (Int32.ofNat C))).toInt < y.toInt
      · refine fl_Tq.jf rfl (fl_bo rfl) (c2_ge_f h2) rfl ?_
        refine fl_Tq.stp (pc' := 87) (lv' := [some (.inr (.inr (.inl (0, 0)))), some (.inl a), some (.inl (f 1 5)), some (.inl z), some (.inl y), some (.inl (Int32.ofNat C)), some (.inl (t2_abs_v (c0_chargeApart_v f (Int32.ofNat C))))]) (st' := [.inl (t2_abs_v (c0_chargeApart_v f (Int32.ofNat C)))]) (m' := (f, l)) rfl rfl (fl_bo rfl) rfl ?_
        refine fl_Tq.stp (pc' := 89) (lv' := [some (.inr (.inr (.inl (0, 0)))), some (.inl a), some (.inl (f 1 5)), some (.inl z), some (.inl (t2_abs_v (c0_chargeApart_v f (Int32.ofNat C)))), some (.inl (Int32.ofNat C)), some (.inl (t2_abs_v (c0_chargeApart_v f (Int32.ofNat C))))]) (st' := []) (m' := (f, l)) rfl rfl (fl_bo rfl) rfl ?_
        refine fl_Tq.stp (pc' := 91) (lv' := [some (.inr (.inr (.inl (0, 0)))), some (.inl a), some (.inl (f 1 5)), some (.inl z), some (.inl (t2_abs_v (c0_chargeApart_v f (Int32.ofNat C)))), some (.inl (Int32.ofNat C)), some (.inl (t2_abs_v (c0_chargeApart_v f (Int32.ofNat C))))]) (st' := [.inl (Int32.ofNat C)]) (m' := (f, l)) rfl rfl (fl_bo rfl) rfl ?_
        refine fl_Tq.stp (pc' := 92) (lv' := [some (.inr (.inr (.inl (0, 0)))), some (.inl a), some (.inl (f 1 5)), some (.inl (Int32.ofNat C)), some (.inl (t2_abs_v (c0_chargeApart_v f (Int32.ofNat C)))), some (.inl (Int32.ofNat C)), some (.inl (t2_abs_v (c0_chargeApart_v f (Int32.ofNat C))))]) (st' := []) (m' := (f, l)) rfl rfl (fl_bo rfl) rfl ?_
        have e0 : (if (t2_bc_v (Int32.ofNat C)).toInt = ((f 1 5) / (2 : Int32)).toInt then (if (t2_abs_v (c0_chargeApart_v f (Int32.ofNat C))).toInt < y.toInt then Int32.ofNat C else z) else z) = Int32.ofNat C := by simp only [if_pos h1, if_pos h2]
        have e1 : (if (t2_bc_v (Int32.ofNat C)).toInt = ((f 1 5) / (2 : Int32)).toInt then (if (t2_abs_v (c0_chargeApart_v f (Int32.ofNat C))).toInt < y.toInt then t2_abs_v (c0_chargeApart_v f (Int32.ofNat C)) else y) else y) = t2_abs_v (c0_chargeApart_v f (Int32.ofNat C)) := by simp only [if_pos h1, if_pos h2]
        rw [e0, e1] at hJ
        exact hJ
      · refine fl_Tq.jt rfl (fl_bo rfl) (c2_ge_t h2) rfl ?_
        have e0 : (if (t2_bc_v (Int32.ofNat C)).toInt = ((f 1 5) / (2 : Int32)).toInt then (if (t2_abs_v (c0_chargeApart_v f (Int32.ofNat C))).toInt < y.toInt then Int32.ofNat C else z) else z) = z := by simp only [if_pos h1, if_neg h2]
        have e1 : (if (t2_bc_v (Int32.ofNat C)).toInt = ((f 1 5) / (2 : Int32)).toInt then (if (t2_abs_v (c0_chargeApart_v f (Int32.ofNat C))).toInt < y.toInt then t2_abs_v (c0_chargeApart_v f (Int32.ofNat C)) else y) else y) = y := by simp only [if_pos h1, if_neg h2]
        rw [e0, e1] at hJ
        exact hJ
    · refine fl_Tq.jt rfl (fl_bo rfl) (c2_ne_t h1) rfl ?_
      have e0 : (if (t2_bc_v (Int32.ofNat C)).toInt = ((f 1 5) / (2 : Int32)).toInt then (if (t2_abs_v (c0_chargeApart_v f (Int32.ofNat C))).toInt < y.toInt then Int32.ofNat C else z) else z) = z := by simp only [if_neg h1]
      have e1 : (if (t2_bc_v (Int32.ofNat C)).toInt = ((f 1 5) / (2 : Int32)).toInt then (if (t2_abs_v (c0_chargeApart_v f (Int32.ofNat C))).toInt < y.toInt then t2_abs_v (c0_chargeApart_v f (Int32.ofNat C)) else y) else y) = y := by simp only [if_neg h1]
      rw [e0, e1] at hJ
      exact hJ
  refine hj191 ?_
  show fl_Tq _ 141 92 [some (.inr (.inr (.inl (0, 0)))), some (.inl a), some (.inl (f 1 5)), some (.inl (if (t2_bc_v (Int32.ofNat C)).toInt = ((f 1 5) / (2 : Int32)).toInt then (if (t2_abs_v (c0_chargeApart_v f (Int32.ofNat C))).toInt < y.toInt then Int32.ofNat C else z) else z)), some (.inl (if (t2_bc_v (Int32.ofNat C)).toInt = ((f 1 5) / (2 : Int32)).toInt then (if (t2_abs_v (c0_chargeApart_v f (Int32.ofNat C))).toInt < y.toInt then t2_abs_v (c0_chargeApart_v f (Int32.ofNat C)) else y) else y)), some (.inl (Int32.ofNat C)), some (.inl (t2_abs_v (c0_chargeApart_v f (Int32.ofNat C))))] [] (f, l) _
  refine fl_Tq.stp (pc' := 95) (lv' := [some (.inr (.inr (.inl (0, 0)))), some (.inl a), some (.inl (f 1 5)), some (.inl (if (t2_bc_v (Int32.ofNat C)).toInt = ((f 1 5) / (2 : Int32)).toInt then (if (t2_abs_v (c0_chargeApart_v f (Int32.ofNat C))).toInt < y.toInt then Int32.ofNat C else z) else z)), some (.inl (if (t2_bc_v (Int32.ofNat C)).toInt = ((f 1 5) / (2 : Int32)).toInt then (if (t2_abs_v (c0_chargeApart_v f (Int32.ofNat C))).toInt < y.toInt then t2_abs_v (c0_chargeApart_v f (Int32.ofNat C)) else y) else y)), some (.inl ((Int32.ofNat C) + (2 : Int32))), some (.inl (t2_abs_v (c0_chargeApart_v f (Int32.ofNat C))))]) (st' := []) (m' := (f, l)) rfl rfl (fl_bo rfl) rfl ?_
  refine fl_Tq.stp (pc' := 45) (lv' := [some (.inr (.inr (.inl (0, 0)))), some (.inl a), some (.inl (f 1 5)), some (.inl (if (t2_bc_v (Int32.ofNat C)).toInt = ((f 1 5) / (2 : Int32)).toInt then (if (t2_abs_v (c0_chargeApart_v f (Int32.ofNat C))).toInt < y.toInt then Int32.ofNat C else z) else z)), some (.inl (if (t2_bc_v (Int32.ofNat C)).toInt = ((f 1 5) / (2 : Int32)).toInt then (if (t2_abs_v (c0_chargeApart_v f (Int32.ofNat C))).toInt < y.toInt then t2_abs_v (c0_chargeApart_v f (Int32.ofNat C)) else y) else y)), some (.inl ((Int32.ofNat C) + (2 : Int32))), some (.inl (t2_abs_v (c0_chargeApart_v f (Int32.ofNat C))))]) (st' := []) (m' := (f, l)) rfl rfl (fl_bo rfl) rfl ?_
  exact k
theorem x_half_C {L : Nat} {xs : Nat → Int32} {f : t2_F} {l : t2_L} {Q : Option fl_V → fl_M → Prop} {a z y : Int32} {C : Nat} (hk0 : ¬ ((Int32.ofNat C).toInt < ((1 : Int32) <<< ((f 1 5) &&& 31)).toInt)) (k : Q (some (.inl (if a.toInt = 0 then z else y))) (f, l)) : fl_Tq (pw_P L xs) 141 45 [some (.inr (.inr (.inl (0, 0)))), some (.inl a), some (.inl (f 1 5)), some (.inl z), some (.inl y), some (.inl (Int32.ofNat C)), none] [] (f, l) Q := by
  refine fl_Tq.stp (pc' := 47) (lv' := [some (.inr (.inr (.inl (0, 0)))), some (.inl a), some (.inl (f 1 5)), some (.inl z), some (.inl y), some (.inl (Int32.ofNat C)), none]) (st' := [.inl (Int32.ofNat C)]) (m' := (f, l)) rfl rfl (fl_bo rfl) rfl ?_
  refine fl_Tq.cI (c := (1 : Int32)) rfl (by decide +kernel) (fl_bo rfl) ?_
  refine fl_Tq.stp (pc' := 49) (lv' := [some (.inr (.inr (.inl (0, 0)))), some (.inl a), some (.inl (f 1 5)), some (.inl z), some (.inl y), some (.inl (Int32.ofNat C)), none]) (st' := [.inl (f 1 5), .inl (1 : Int32), .inl (Int32.ofNat C)]) (m' := (f, l)) rfl rfl (fl_bo rfl) rfl ?_
  refine fl_Tq.stp (pc' := 50) (lv' := [some (.inr (.inr (.inl (0, 0)))), some (.inl a), some (.inl (f 1 5)), some (.inl z), some (.inl y), some (.inl (Int32.ofNat C)), none]) (st' := [.inl ((1 : Int32) <<< ((f 1 5) &&& 31)), .inl (Int32.ofNat C)]) (m' := (f, l)) rfl rfl (fl_bo rfl) rfl ?_
  refine fl_Tq.jt rfl (fl_bo rfl) (c2_ge_t hk0) rfl ?_
  refine fl_Tq.stp (pc' := 99) (lv' := [some (.inr (.inr (.inl (0, 0)))), some (.inl a), some (.inl (f 1 5)), some (.inl z), some (.inl y), some (.inl (Int32.ofNat C)), none]) (st' := [.inl a]) (m' := (f, l)) rfl rfl (fl_bo rfl) rfl ?_
  have hj192 : fl_Tq (pw_P L xs) 141 108 [some (.inr (.inr (.inl (0, 0)))), some (.inl a), some (.inl (f 1 5)), some (.inl z), some (.inl y), some (.inl (Int32.ofNat C)), none] [.inl (if a.toInt = 0 then z else y)] (f, l) Q → fl_Tq (pw_P L xs) 141 99 [some (.inr (.inr (.inl (0, 0)))), some (.inl a), some (.inl (f 1 5)), some (.inl z), some (.inl y), some (.inl (Int32.ofNat C)), none] [.inl a] (f, l) Q := by
    intro hJ
    by_cases h1 : a.toInt = 0
    · refine fl_Tq.zf rfl (fl_bo rfl) (c1_ne_f h1) rfl ?_
      refine fl_Tq.stp (pc' := 103) (lv' := [some (.inr (.inr (.inl (0, 0)))), some (.inl a), some (.inl (f 1 5)), some (.inl z), some (.inl y), some (.inl (Int32.ofNat C)), none]) (st' := [.inl z]) (m' := (f, l)) rfl rfl (fl_bo rfl) rfl ?_
      refine fl_Tq.stp (pc' := 108) (lv' := [some (.inr (.inr (.inl (0, 0)))), some (.inl a), some (.inl (f 1 5)), some (.inl z), some (.inl y), some (.inl (Int32.ofNat C)), none]) (st' := [.inl z]) (m' := (f, l)) rfl rfl (fl_bo rfl) rfl ?_
      have e0 : (if a.toInt = 0 then z else y) = z := by simp only [if_pos h1]
      rw [e0] at hJ
      exact hJ
    · refine fl_Tq.zt rfl (fl_bo rfl) (c1_ne_t h1) rfl ?_
      refine fl_Tq.stp (pc' := 108) (lv' := [some (.inr (.inr (.inl (0, 0)))), some (.inl a), some (.inl (f 1 5)), some (.inl z), some (.inl y), some (.inl (Int32.ofNat C)), none]) (st' := [.inl y]) (m' := (f, l)) rfl rfl (fl_bo rfl) rfl ?_
      have e0 : (if a.toInt = 0 then z else y) = y := by simp only [if_neg h1]
      rw [e0] at hJ
      exact hJ
  refine hj192 ?_
  show fl_Tq _ 141 108 [some (.inr (.inr (.inl (0, 0)))), some (.inl a), some (.inl (f 1 5)), some (.inl z), some (.inl y), some (.inl (Int32.ofNat C)), none] [.inl (if a.toInt = 0 then z else y)] (f, l) _
  exact fl_Tq.ret rfl rfl rfl k
theorem y_half_A {L : Nat} {xs : Nat → Int32} {f : t2_F} {l : t2_L} {Q : Option fl_V → fl_M → Prop} {a : Int32}  (k : ((r_isIn_v a (0 : Int32) (1 : Int32)).toInt = 0) → Q (some (.inl (-1 : Int32))) (f, l)) (k1 : (¬ ((r_isIn_v a (0 : Int32) (1 : Int32)).toInt = 0)) → ((r_isIn_v (f 280 2) (2 : Int32) (8 : Int32)).toInt = 0) → Q (some (.inl (-1 : Int32))) (f, l)) (k2 : (¬ ((r_isIn_v a (0 : Int32) (1 : Int32)).toInt = 0)) → (¬ ((r_isIn_v (f 280 2) (2 : Int32) (8 : Int32)).toInt = 0)) → (((f 280 2) - (f 280 2) / (2 : Int32) * (2 : Int32)).toInt = (1 : Int32).toInt) → Q (some (.inl (-1 : Int32))) (f, l)) (k3 : (¬ ((r_isIn_v a (0 : Int32) (1 : Int32)).toInt = 0)) → (¬ ((r_isIn_v (f 280 2) (2 : Int32) (8 : Int32)).toInt = 0)) → (¬ (((f 280 2) - (f 280 2) / (2 : Int32) * (2 : Int32)).toInt = (1 : Int32).toInt)) → fl_Tq (pw_P L xs) 304 42 [some (.inr (.inr (.inl (76, 277)))), some (.inl a), some (.inl (-1 : Int32)), some (.inl (1 : Int32))] [] (f, l) Q) : fl_Tq (pw_P L xs) 304 0 [some (.inr (.inr (.inl (76, 277)))), some (.inl a), none, none] [] (f, l) Q := by
  refine fl_Tq.stp (pc' := 1) (lv' := [some (.inr (.inr (.inl (76, 277)))), some (.inl a), none, none]) (st' := [.inl a]) (m' := (f, l)) rfl rfl (fl_bo rfl) rfl ?_
  refine fl_Tq.cI (c := (0 : Int32)) rfl (by decide +kernel) (fl_bo rfl) ?_
  refine fl_Tq.cI (c := (1 : Int32)) rfl (by decide +kernel) (fl_bo rfl) ?_
  refine fl_Tq.cal rfl rfl (fl_bo rfl) rfl ?_
  refine r_isIn_q  ?_
  show fl_Tq _ 304 6 [some (.inr (.inr (.inl (76, 277)))), some (.inl a), none, none] [.inl (r_isIn_v a (0 : Int32) (1 : Int32))] (f, l) _
  by_cases h1 : (r_isIn_v a (0 : Int32) (1 : Int32)).toInt = 0
  · refine fl_Tq.zt rfl (fl_bo rfl) (c1_eq_t h1) rfl ?_
    refine fl_Tq.cI (c := (-1 : Int32)) rfl (by decide +kernel) (fl_bo rfl) ?_
    exact fl_Tq.ret rfl rfl rfl (k h1)
  · refine fl_Tq.zf rfl (fl_bo rfl) (c1_eq_f h1) rfl ?_
    refine fl_Tq.stp (pc' := 10) (lv' := [some (.inr (.inr (.inl (76, 277)))), some (.inl a), none, none]) (st' := [.inr (.inr (.inl (76, 277)))]) (m' := (f, l)) rfl rfl (fl_bo rfl) rfl ?_
    refine fl_Tq.stp (pc' := 13) (lv' := [some (.inr (.inr (.inl (76, 277)))), some (.inl a), none, none]) (st' := [.inr (.inr (.inl (79, 280)))]) (m' := (f, l)) rfl rfl (fl_bo rfl) rfl ?_
    refine fl_Tq.cI (c := (2 : Int32)) rfl (by decide +kernel) (fl_bo rfl) ?_
    refine fl_Tq.ldV (p := 280) (τ := 79) (n := 29780) (z := (0, 0, 0)) (k := 2) (v := f 280 2) rfl (fl_bo rfl) rfl (by decide +kernel) (by decide) rfl ?_
    refine fl_Tq.cI (c := (2 : Int32)) rfl (by decide +kernel) (fl_bo rfl) ?_
    refine fl_Tq.cB (c := (8 : Int32)) rfl (by decide +kernel) (fl_bo rfl) ?_
    refine fl_Tq.cal rfl rfl (fl_bo rfl) rfl ?_
    refine r_isIn_q  ?_
    show fl_Tq _ 304 21 [some (.inr (.inr (.inl (76, 277)))), some (.inl a), none, none] [.inl (r_isIn_v (f 280 2) (2 : Int32) (8 : Int32))] (f, l) _
    by_cases h2 : (r_isIn_v (f 280 2) (2 : Int32) (8 : Int32)).toInt = 0
    · refine fl_Tq.zt rfl (fl_bo rfl) (c1_eq_t h2) rfl ?_
      refine fl_Tq.cI (c := (-1 : Int32)) rfl (by decide +kernel) (fl_bo rfl) ?_
      exact fl_Tq.ret rfl rfl rfl (k1 h1 h2)
    · refine fl_Tq.zf rfl (fl_bo rfl) (c1_eq_f h2) rfl ?_
      refine fl_Tq.stp (pc' := 25) (lv' := [some (.inr (.inr (.inl (76, 277)))), some (.inl a), none, none]) (st' := [.inr (.inr (.inl (76, 277)))]) (m' := (f, l)) rfl rfl (fl_bo rfl) rfl ?_
      refine fl_Tq.stp (pc' := 28) (lv' := [some (.inr (.inr (.inl (76, 277)))), some (.inl a), none, none]) (st' := [.inr (.inr (.inl (79, 280)))]) (m' := (f, l)) rfl rfl (fl_bo rfl) rfl ?_
      refine fl_Tq.cI (c := (2 : Int32)) rfl (by decide +kernel) (fl_bo rfl) ?_
      refine fl_Tq.ldV (p := 280) (τ := 79) (n := 29780) (z := (0, 0, 0)) (k := 2) (v := f 280 2) rfl (fl_bo rfl) rfl (by decide +kernel) (by decide) rfl ?_
      refine fl_Tq.cI (c := (2 : Int32)) rfl (by decide +kernel) (fl_bo rfl) ?_
      refine fl_Tq.rm rfl (fl_bo rfl) (by decide +kernel) ?_
      refine fl_Tq.cI (c := (1 : Int32)) rfl (by decide +kernel) (fl_bo rfl) ?_
      by_cases h3 : ((f 280 2) - (f 280 2) / (2 : Int32) * (2 : Int32)).toInt = (1 : Int32).toInt
      · refine fl_Tq.jf rfl (fl_bo rfl) (c2_ne_f h3) rfl ?_
        refine fl_Tq.cI (c := (-1 : Int32)) rfl (by decide +kernel) (fl_bo rfl) ?_
        exact fl_Tq.ret rfl rfl rfl (k2 h1 h2 h3)
      · refine fl_Tq.jt rfl (fl_bo rfl) (c2_ne_t h3) rfl ?_
        refine fl_Tq.cI (c := (-1 : Int32)) rfl (by decide +kernel) (fl_bo rfl) ?_
        refine fl_Tq.stp (pc' := 40) (lv' := [some (.inr (.inr (.inl (76, 277)))), some (.inl a), some (.inl (-1 : Int32)), none]) (st' := []) (m' := (f, l)) rfl rfl (fl_bo rfl) rfl ?_
        refine fl_Tq.cI (c := (1 : Int32)) rfl (by decide +kernel) (fl_bo rfl) ?_
        refine fl_Tq.stp (pc' := 42) (lv' := [some (.inr (.inr (.inl (76, 277)))), some (.inl a), some (.inl (-1 : Int32)), some (.inl (1 : Int32))]) (st' := []) (m' := (f, l)) rfl rfl (fl_bo rfl) rfl ?_
        exact k3 h1 h2 h3
theorem y_half_B {L : Nat} {xs : Nat → Int32} {f : t2_F} {l : t2_L} {Q : Option fl_V → fl_M → Prop} {a z : Int32} {C : Nat} (hk0 : (Int32.ofNat C).toInt < ((1 : Int32) <<< ((f 280 2) &&& 31)).toInt) (k : fl_Tq (pw_P L xs) 304 56 [some (.inr (.inr (.inl (76, 277)))), some (.inl a), some (.inl z), some (.inl (Int32.ofNat C))] [.inl (Int32.ofNat C), .inl (2 : Int32)] (f, l) Q) : fl_Tq (pw_P L xs) 304 42 [some (.inr (.inr (.inl (76, 277)))), some (.inl a), some (.inl z), some (.inl (Int32.ofNat C))] [] (f, l) Q := by
  refine fl_Tq.stp (pc' := 43) (lv' := [some (.inr (.inr (.inl (76, 277)))), some (.inl a), some (.inl z), some (.inl (Int32.ofNat C))]) (st' := [.inl (Int32.ofNat C)]) (m' := (f, l)) rfl rfl (fl_bo rfl) rfl ?_
  refine fl_Tq.cI (c := (1 : Int32)) rfl (by decide +kernel) (fl_bo rfl) ?_
  refine fl_Tq.stp (pc' := 45) (lv' := [some (.inr (.inr (.inl (76, 277)))), some (.inl a), some (.inl z), some (.inl (Int32.ofNat C))]) (st' := [.inr (.inr (.inl (76, 277))), .inl (1 : Int32), .inl (Int32.ofNat C)]) (m' := (f, l)) rfl rfl (fl_bo rfl) rfl ?_
  refine fl_Tq.stp (pc' := 48) (lv' := [some (.inr (.inr (.inl (76, 277)))), some (.inl a), some (.inl z), some (.inl (Int32.ofNat C))]) (st' := [.inr (.inr (.inl (79, 280))), .inl (1 : Int32), .inl (Int32.ofNat C)]) (m' := (f, l)) rfl rfl (fl_bo rfl) rfl ?_
  refine fl_Tq.cI (c := (2 : Int32)) rfl (by decide +kernel) (fl_bo rfl) ?_
  refine fl_Tq.ldV (p := 280) (τ := 79) (n := 29780) (z := (0, 0, 0)) (k := 2) (v := f 280 2) rfl (fl_bo rfl) rfl (by decide +kernel) (by decide) rfl ?_
  refine fl_Tq.stp (pc' := 51) (lv' := [some (.inr (.inr (.inl (76, 277)))), some (.inl a), some (.inl z), some (.inl (Int32.ofNat C))]) (st' := [.inl ((1 : Int32) <<< ((f 280 2) &&& 31)), .inl (Int32.ofNat C)]) (m' := (f, l)) rfl rfl (fl_bo rfl) rfl ?_
  refine fl_Tq.jf rfl (fl_bo rfl) (c2_ge_f hk0) rfl ?_
  refine fl_Tq.cI (c := (2 : Int32)) rfl (by decide +kernel) (fl_bo rfl) ?_
  refine fl_Tq.stp (pc' := 56) (lv' := [some (.inr (.inr (.inl (76, 277)))), some (.inl a), some (.inl z), some (.inl (Int32.ofNat C))]) (st' := [.inl (Int32.ofNat C), .inl (2 : Int32)]) (m' := (f, l)) rfl rfl (fl_bo rfl) rfl ?_
  exact k
theorem y_half_C {L : Nat} {xs : Nat → Int32} {f : t2_F} {l : t2_L} {Q : Option fl_V → fl_M → Prop} {a z y : Int32} {C : Nat} (hn : 0 ≤ (f 280 2).toInt ∧ (f 280 2).toInt ≤ 16) (k : fl_Tq (pw_P L xs) 304 42 [some (.inr (.inr (.inl (76, 277)))), some (.inl a), some (.inl (if ((2 : Int32) * y).toInt = (f 280 2).toInt then (if z.toInt = (-1 : Int32).toInt then Int32.ofNat C else (if (y_differ_v f (Int32.ofNat C)).toInt < (y_differ_v f z).toInt then Int32.ofNat C else z)) else z)), some (.inl ((Int32.ofNat C) + (2 : Int32)))] [] (f, l) Q) : fl_Tq (pw_P L xs) 304 59 [some (.inr (.inr (.inl (76, 277)))), some (.inl a), some (.inl z), some (.inl (Int32.ofNat C))] [.inl y, .inl (2 : Int32)] (f, l) Q := by
  refine fl_Tq.stp (pc' := 60) (lv' := [some (.inr (.inr (.inl (76, 277)))), some (.inl a), some (.inl z), some (.inl (Int32.ofNat C))]) (st' := [.inl ((2 : Int32) * y)]) (m' := (f, l)) rfl rfl (fl_bo rfl) rfl ?_
  refine fl_Tq.stp (pc' := 61) (lv' := [some (.inr (.inr (.inl (76, 277)))), some (.inl a), some (.inl z), some (.inl (Int32.ofNat C))]) (st' := [.inr (.inr (.inl (76, 277))), .inl ((2 : Int32) * y)]) (m' := (f, l)) rfl rfl (fl_bo rfl) rfl ?_
  refine fl_Tq.stp (pc' := 64) (lv' := [some (.inr (.inr (.inl (76, 277)))), some (.inl a), some (.inl z), some (.inl (Int32.ofNat C))]) (st' := [.inr (.inr (.inl (79, 280))), .inl ((2 : Int32) * y)]) (m' := (f, l)) rfl rfl (fl_bo rfl) rfl ?_
  refine fl_Tq.cI (c := (2 : Int32)) rfl (by decide +kernel) (fl_bo rfl) ?_
  refine fl_Tq.ldV (p := 280) (τ := 79) (n := 29780) (z := (0, 0, 0)) (k := 2) (v := f 280 2) rfl (fl_bo rfl) rfl (by decide +kernel) (by decide) rfl ?_
  have hj193 : fl_Tq (pw_P L xs) 304 92 [some (.inr (.inr (.inl (76, 277)))), some (.inl a), some (.inl (if ((2 : Int32) * y).toInt = (f 280 2).toInt then (if z.toInt = (-1 : Int32).toInt then Int32.ofNat C else (if (y_differ_v f (Int32.ofNat C)).toInt < (y_differ_v f z).toInt then Int32.ofNat C else z)) else z)), some (.inl (Int32.ofNat C))] [] (f, l) Q → fl_Tq (pw_P L xs) 304 66 [some (.inr (.inr (.inl (76, 277)))), some (.inl a), some (.inl z), some (.inl (Int32.ofNat C))] [.inl (f 280 2), .inl ((2 : Int32) * y)] (f, l) Q := by
    intro hJ
    by_cases h1 : ((2 : Int32) * y).toInt = (f 280 2).toInt
    · refine fl_Tq.jt rfl (fl_bo rfl) (c2_eq_t h1) rfl ?_
      refine fl_Tq.stp (pc' := 73) (lv' := [some (.inr (.inr (.inl (76, 277)))), some (.inl a), some (.inl z), some (.inl (Int32.ofNat C))]) (st' := [.inl z]) (m' := (f, l)) rfl rfl (fl_bo rfl) rfl ?_
      refine fl_Tq.cI (c := (-1 : Int32)) rfl (by decide +kernel) (fl_bo rfl) ?_
      by_cases h2 : z.toInt = (-1 : Int32).toInt
      · refine fl_Tq.jt rfl (fl_bo rfl) (c2_eq_t h2) rfl ?_
        refine fl_Tq.stp (pc' := 91) (lv' := [some (.inr (.inr (.inl (76, 277)))), some (.inl a), some (.inl z), some (.inl (Int32.ofNat C))]) (st' := [.inl (Int32.ofNat C)]) (m' := (f, l)) rfl rfl (fl_bo rfl) rfl ?_
        refine fl_Tq.stp (pc' := 92) (lv' := [some (.inr (.inr (.inl (76, 277)))), some (.inl a), some (.inl (Int32.ofNat C)), some (.inl (Int32.ofNat C))]) (st' := []) (m' := (f, l)) rfl rfl (fl_bo rfl) rfl ?_
        have e0 : (if ((2 : Int32) * y).toInt = (f 280 2).toInt then (if z.toInt = (-1 : Int32).toInt then Int32.ofNat C else (if (y_differ_v f (Int32.ofNat C)).toInt < (y_differ_v f z).toInt then Int32.ofNat C else z)) else z) = Int32.ofNat C := by simp only [if_pos h1, if_pos h2]
        rw [e0] at hJ
        exact hJ
      · refine fl_Tq.jf rfl (fl_bo rfl) (c2_eq_f h2) rfl ?_
        refine fl_Tq.stp (pc' := 78) (lv' := [some (.inr (.inr (.inl (76, 277)))), some (.inl a), some (.inl z), some (.inl (Int32.ofNat C))]) (st' := [.inr (.inr (.inl (76, 277)))]) (m' := (f, l)) rfl rfl (fl_bo rfl) rfl ?_
        refine fl_Tq.stp (pc' := 79) (lv' := [some (.inr (.inr (.inl (76, 277)))), some (.inl a), some (.inl z), some (.inl (Int32.ofNat C))]) (st' := [.inl (Int32.ofNat C), .inr (.inr (.inl (76, 277)))]) (m' := (f, l)) rfl rfl (fl_bo rfl) rfl ?_
        refine fl_Tq.cal rfl rfl (fl_bo rfl) rfl ?_
        refine y_differ_q hn ?_
        show fl_Tq _ 304 82 [some (.inr (.inr (.inl (76, 277)))), some (.inl a), some (.inl z), some (.inl (Int32.ofNat C))] [.inl (y_differ_v f (Int32.ofNat C))] (f, l) _
        refine fl_Tq.stp (pc' := 83) (lv' := [some (.inr (.inr (.inl (76, 277)))), some (.inl a), some (.inl z), some (.inl (Int32.ofNat C))]) (st' := [.inr (.inr (.inl (76, 277))), .inl (y_differ_v f (Int32.ofNat C))]) (m' := (f, l)) rfl rfl (fl_bo rfl) rfl ?_
        refine fl_Tq.stp (pc' := 84) (lv' := [some (.inr (.inr (.inl (76, 277)))), some (.inl a), some (.inl z), some (.inl (Int32.ofNat C))]) (st' := [.inl z, .inr (.inr (.inl (76, 277))), .inl (y_differ_v f (Int32.ofNat C))]) (m' := (f, l)) rfl rfl (fl_bo rfl) rfl ?_
        refine fl_Tq.cal rfl rfl (fl_bo rfl) rfl ?_
        refine y_differ_q hn ?_
        show fl_Tq _ 304 87 [some (.inr (.inr (.inl (76, 277)))), some (.inl a), some (.inl z), some (.inl (Int32.ofNat C))] [.inl (y_differ_v f z), .inl (y_differ_v f (Int32.ofNat C))] (f, l) _
        by_cases h3 : (y_differ_v f (Int32.ofNat C)).toInt < (y_differ_v f z).toInt
        · refine fl_Tq.jf rfl (fl_bo rfl) (c2_ge_f h3) rfl ?_
          refine fl_Tq.stp (pc' := 91) (lv' := [some (.inr (.inr (.inl (76, 277)))), some (.inl a), some (.inl z), some (.inl (Int32.ofNat C))]) (st' := [.inl (Int32.ofNat C)]) (m' := (f, l)) rfl rfl (fl_bo rfl) rfl ?_
          refine fl_Tq.stp (pc' := 92) (lv' := [some (.inr (.inr (.inl (76, 277)))), some (.inl a), some (.inl (Int32.ofNat C)), some (.inl (Int32.ofNat C))]) (st' := []) (m' := (f, l)) rfl rfl (fl_bo rfl) rfl ?_
          have e0 : (if ((2 : Int32) * y).toInt = (f 280 2).toInt then (if z.toInt = (-1 : Int32).toInt then Int32.ofNat C else (if (y_differ_v f (Int32.ofNat C)).toInt < (y_differ_v f z).toInt then Int32.ofNat C else z)) else z) = Int32.ofNat C := by simp only [if_pos h1, if_neg h2, if_pos h3]
          rw [e0] at hJ
          exact hJ
        · refine fl_Tq.jt rfl (fl_bo rfl) (c2_ge_t h3) rfl ?_
          have e0 : (if ((2 : Int32) * y).toInt = (f 280 2).toInt then (if z.toInt = (-1 : Int32).toInt then Int32.ofNat C else (if (y_differ_v f (Int32.ofNat C)).toInt < (y_differ_v f z).toInt then Int32.ofNat C else z)) else z) = z := by simp only [if_pos h1, if_neg h2, if_neg h3]
          rw [e0] at hJ
          exact hJ
    · refine fl_Tq.jf rfl (fl_bo rfl) (c2_eq_f h1) rfl ?_
      refine fl_Tq.stp (pc' := 92) (lv' := [some (.inr (.inr (.inl (76, 277)))), some (.inl a), some (.inl z), some (.inl (Int32.ofNat C))]) (st' := []) (m' := (f, l)) rfl rfl (fl_bo rfl) rfl ?_
      have e0 : (if ((2 : Int32) * y).toInt = (f 280 2).toInt then (if z.toInt = (-1 : Int32).toInt then Int32.ofNat C else (if (y_differ_v f (Int32.ofNat C)).toInt < (y_differ_v f z).toInt then Int32.ofNat C else z)) else z) = z := by simp only [if_neg h1]
      rw [e0] at hJ
      exact hJ
  refine hj193 ?_
  show fl_Tq _ 304 92 [some (.inr (.inr (.inl (76, 277)))), some (.inl a), some (.inl (if ((2 : Int32) * y).toInt = (f 280 2).toInt then (if z.toInt = (-1 : Int32).toInt then Int32.ofNat C else (if (y_differ_v f (Int32.ofNat C)).toInt < (y_differ_v f z).toInt then Int32.ofNat C else z)) else z)), some (.inl (Int32.ofNat C))] [] (f, l) _
  refine fl_Tq.stp (pc' := 95) (lv' := [some (.inr (.inr (.inl (76, 277)))), some (.inl a), some (.inl (if ((2 : Int32) * y).toInt = (f 280 2).toInt then (if z.toInt = (-1 : Int32).toInt then Int32.ofNat C else (if (y_differ_v f (Int32.ofNat C)).toInt < (y_differ_v f z).toInt then Int32.ofNat C else z)) else z)), some (.inl ((Int32.ofNat C) + (2 : Int32)))]) (st' := []) (m' := (f, l)) rfl rfl (fl_bo rfl) rfl ?_
  refine fl_Tq.stp (pc' := 42) (lv' := [some (.inr (.inr (.inl (76, 277)))), some (.inl a), some (.inl (if ((2 : Int32) * y).toInt = (f 280 2).toInt then (if z.toInt = (-1 : Int32).toInt then Int32.ofNat C else (if (y_differ_v f (Int32.ofNat C)).toInt < (y_differ_v f z).toInt then Int32.ofNat C else z)) else z)), some (.inl ((Int32.ofNat C) + (2 : Int32)))]) (st' := []) (m' := (f, l)) rfl rfl (fl_bo rfl) rfl ?_
  exact k
theorem y_half_D {L : Nat} {xs : Nat → Int32} {f : t2_F} {l : t2_L} {Q : Option fl_V → fl_M → Prop} {a z : Int32} {C : Nat} (hn : 0 ≤ (f 280 2).toInt ∧ (f 280 2).toInt ≤ 16) (hk0 : ¬ ((Int32.ofNat C).toInt < ((1 : Int32) <<< ((f 280 2) &&& 31)).toInt)) (k : Q (some (.inl (if a.toInt = 0 then z else y_differ_v f z))) (f, l)) : fl_Tq (pw_P L xs) 304 42 [some (.inr (.inr (.inl (76, 277)))), some (.inl a), some (.inl z), some (.inl (Int32.ofNat C))] [] (f, l) Q := by
  refine fl_Tq.stp (pc' := 43) (lv' := [some (.inr (.inr (.inl (76, 277)))), some (.inl a), some (.inl z), some (.inl (Int32.ofNat C))]) (st' := [.inl (Int32.ofNat C)]) (m' := (f, l)) rfl rfl (fl_bo rfl) rfl ?_
  refine fl_Tq.cI (c := (1 : Int32)) rfl (by decide +kernel) (fl_bo rfl) ?_
  refine fl_Tq.stp (pc' := 45) (lv' := [some (.inr (.inr (.inl (76, 277)))), some (.inl a), some (.inl z), some (.inl (Int32.ofNat C))]) (st' := [.inr (.inr (.inl (76, 277))), .inl (1 : Int32), .inl (Int32.ofNat C)]) (m' := (f, l)) rfl rfl (fl_bo rfl) rfl ?_
  refine fl_Tq.stp (pc' := 48) (lv' := [some (.inr (.inr (.inl (76, 277)))), some (.inl a), some (.inl z), some (.inl (Int32.ofNat C))]) (st' := [.inr (.inr (.inl (79, 280))), .inl (1 : Int32), .inl (Int32.ofNat C)]) (m' := (f, l)) rfl rfl (fl_bo rfl) rfl ?_
  refine fl_Tq.cI (c := (2 : Int32)) rfl (by decide +kernel) (fl_bo rfl) ?_
  refine fl_Tq.ldV (p := 280) (τ := 79) (n := 29780) (z := (0, 0, 0)) (k := 2) (v := f 280 2) rfl (fl_bo rfl) rfl (by decide +kernel) (by decide) rfl ?_
  refine fl_Tq.stp (pc' := 51) (lv' := [some (.inr (.inr (.inl (76, 277)))), some (.inl a), some (.inl z), some (.inl (Int32.ofNat C))]) (st' := [.inl ((1 : Int32) <<< ((f 280 2) &&& 31)), .inl (Int32.ofNat C)]) (m' := (f, l)) rfl rfl (fl_bo rfl) rfl ?_
  refine fl_Tq.jt rfl (fl_bo rfl) (c2_ge_t hk0) rfl ?_
  refine fl_Tq.stp (pc' := 99) (lv' := [some (.inr (.inr (.inl (76, 277)))), some (.inl a), some (.inl z), some (.inl (Int32.ofNat C))]) (st' := [.inl a]) (m' := (f, l)) rfl rfl (fl_bo rfl) rfl ?_
  have hj194 : fl_Tq (pw_P L xs) 304 111 [some (.inr (.inr (.inl (76, 277)))), some (.inl a), some (.inl z), some (.inl (Int32.ofNat C))] [.inl (if a.toInt = 0 then z else y_differ_v f z)] (f, l) Q → fl_Tq (pw_P L xs) 304 99 [some (.inr (.inr (.inl (76, 277)))), some (.inl a), some (.inl z), some (.inl (Int32.ofNat C))] [.inl a] (f, l) Q := by
    intro hJ
    by_cases h1 : a.toInt = 0
    · refine fl_Tq.zf rfl (fl_bo rfl) (c1_ne_f h1) rfl ?_
      refine fl_Tq.stp (pc' := 103) (lv' := [some (.inr (.inr (.inl (76, 277)))), some (.inl a), some (.inl z), some (.inl (Int32.ofNat C))]) (st' := [.inl z]) (m' := (f, l)) rfl rfl (fl_bo rfl) rfl ?_
      refine fl_Tq.stp (pc' := 111) (lv' := [some (.inr (.inr (.inl (76, 277)))), some (.inl a), some (.inl z), some (.inl (Int32.ofNat C))]) (st' := [.inl z]) (m' := (f, l)) rfl rfl (fl_bo rfl) rfl ?_
      have e0 : (if a.toInt = 0 then z else y_differ_v f z) = z := by simp only [if_pos h1]
      rw [e0] at hJ
      exact hJ
    · refine fl_Tq.zt rfl (fl_bo rfl) (c1_ne_t h1) rfl ?_
      refine fl_Tq.stp (pc' := 107) (lv' := [some (.inr (.inr (.inl (76, 277)))), some (.inl a), some (.inl z), some (.inl (Int32.ofNat C))]) (st' := [.inr (.inr (.inl (76, 277)))]) (m' := (f, l)) rfl rfl (fl_bo rfl) rfl ?_
      refine fl_Tq.stp (pc' := 108) (lv' := [some (.inr (.inr (.inl (76, 277)))), some (.inl a), some (.inl z), some (.inl (Int32.ofNat C))]) (st' := [.inl z, .inr (.inr (.inl (76, 277)))]) (m' := (f, l)) rfl rfl (fl_bo rfl) rfl ?_
      refine fl_Tq.cal rfl rfl (fl_bo rfl) rfl ?_
      refine y_differ_q hn ?_
      show fl_Tq _ 304 111 [some (.inr (.inr (.inl (76, 277)))), some (.inl a), some (.inl z), some (.inl (Int32.ofNat C))] [.inl (y_differ_v f z)] (f, l) _
      have e0 : (if a.toInt = 0 then z else y_differ_v f z) = y_differ_v f z := by simp only [if_neg h1]
      rw [e0] at hJ
      exact hJ
  refine hj194 ?_
  show fl_Tq _ 304 111 [some (.inr (.inr (.inl (76, 277)))), some (.inl a), some (.inl z), some (.inl (Int32.ofNat C))] [.inl (if a.toInt = 0 then z else y_differ_v f z)] (f, l) _
  exact fl_Tq.ret rfl rfl rfl k
/-! ===== sets of cells: how many bits; the class's and the reference's best ===== -/
def t2_pop (b : Nat) : Nat := b % 2 + b / 2 % 2 + b / 4 % 2 + b / 8 % 2 + b / 16 % 2 + b / 32 % 2 + b / 64 % 2 + b / 128 % 2
theorem t2_bc_f : ∀ b : Fin 256, t2_bc_v (Int32.ofNat b.val) = Int32.ofNat (t2_pop b.val) := by decide +kernel
theorem t2_bc_t {b : Nat} (h : b < 256) : t2_bc_v (Int32.ofNat b) = Int32.ofNat (t2_pop b) := t2_bc_f ⟨b, h⟩
theorem t2_pop_f : ∀ b : Fin 256, b.val = 0 ∨ (Int32.ofNat b.val &&& (Int32.ofNat b.val - (1 : Int32)) = Int32.ofNat (b.val &&& (b.val - 1)) ∧ (b.val &&& (b.val - 1)) < b.val ∧ t2_pop b.val = t2_pop (b.val &&& (b.val - 1)) + 1) := by decide +kernel
theorem t2_pop_t {b : Nat} (h : b < 256) (h0 : b ≠ 0) : Int32.ofNat b &&& (Int32.ofNat b - (1 : Int32)) = Int32.ofNat (b &&& (b - 1)) ∧ (b &&& (b - 1)) < b ∧ t2_pop b = t2_pop (b &&& (b - 1)) + 1 := (t2_pop_f ⟨b, h⟩).resolve_left h0
theorem t2_pop_b (b : Nat) : t2_pop b ≤ 8 := by unfold t2_pop; omega
section T2HALF
variable {L : Nat} {xs : Nat → Int32} {f : t2_F} {l : t2_L} {Q : Option fl_V → fl_M → Prop} {a x z : Int32}
theorem y_many_l : ∀ d b m : Nat, b ≤ d → b < 256 → 0 ≤ m → Q (some (.inl (Int32.ofNat (m + t2_pop b)))) (f, l) → fl_Tq (pw_P L xs) 303 4 [some (.inl x), some (.inl (Int32.ofNat m)), some (.inl (Int32.ofNat b))] [] (f, l) Q := by
  intro d
  induction d with
  | zero =>
    intro b m h1 h2 h3 k
    have e : b = 0 := by omega
    subst e
    exact y_many_B (fun _ => k) (fun h => absurd rfl h)
  | succ d ih =>
    intro b m h1 h2 h3 k
    have eb : (Int32.ofNat b).toInt = (b : Int) := at_ofN (by omega)
    by_cases h0 : b = 0
    · subst h0
      exact y_many_B (fun _ => k) (fun h => absurd rfl h)
    · obtain ⟨e1, e2, e3⟩ := t2_pop_t h2 h0
      refine y_many_B (fun h => absurd h (by rw [eb]; omega)) (fun _ => ?_)
      rw [e1, t2_k1]
      exact ih _ (m + 1) (by omega) (by omega) (by omega) (by rw [show m + 1 + t2_pop (b &&& (b - 1)) = m + t2_pop b by omega]; exact k)
theorem y_many_q {b : Nat} (hb : b < 256) (k : Q (some (.inl (Int32.ofNat (t2_pop b)))) (f, l)) : fl_Tq (pw_P L xs) 303 0 (fl_args (am_mxl (pw_P L xs) 303) [.inl (Int32.ofNat b)]) [] (f, l) Q := by
  show fl_Tq (pw_P L xs) 303 0 [some (.inl (Int32.ofNat b)), none, none] [] (f, l) Q
  refine y_many_A ?_
  exact y_many_l b b 0 (Nat.le_refl _) hb (by decide) (by rw [Nat.zero_add]; exact k)
theorem x_apart_e (I : c0_I f f) : t2_abs_v (c0_chargeApart_v f x) = y_differ_v f x := by
  have a1 : ∀ k : Nat, k ≤ (f 280 2).toInt.toNat → c0_chargeApart_a4 f x k = y_differ_a4 f x k := by
    intro k
    induction k with
    | zero => intro _; rfl
    | succ k ih =>
      intro hk
      have i0 : ((x >>> ((Int32.ofNat k) &&& 31)) &&& (1 : Int32)).toInt = 0 ↔ (r_has_v x (Int32.ofNat k)).toInt = 0 := by
        have z0 : (0 : Int32).toInt = 0 := rfl
        have z1 : (1 : Int32).toInt = 1 := by decide +kernel
        unfold r_has_v
        rw [t2_and1]
        split
        · rw [if_pos rfl, z1]
        · rw [if_neg (by rw [z0, z1]; omega)]
      have s1 : c0_chargeApart_a4 f x (k + 1) = c0_chargeApart_a4 f x k + (if ((x >>> ((Int32.ofNat k) &&& 31)) &&& (1 : Int32)).toInt = 0 then -(f (18 + 4 * k) 2) else f (18 + 4 * k) 2) := rfl
      have s2 : y_differ_a4 f x (k + 1) = y_differ_a4 f x k + (if (r_has_v x (Int32.ofNat k)).toInt = 0 then -(f 280 (444 + 61 * k + 1)) else f 280 (444 + 61 * k + 1)) := rfl
      rw [s1, s2, ih (by omega), I.chg (by omega)]
      by_cases h : (r_has_v x (Int32.ofNat k)).toInt = 0
      · rw [if_pos (i0.mpr h), if_pos h]
      · rw [if_neg (fun hh => h (i0.mp hh)), if_neg h]
  unfold c0_chargeApart_v y_differ_v
  rw [show (f 1 5) = f 280 2 from I.1.1.1, a1 _ (Nat.le_refl _)]
  rfl
theorem y_differ_b (I : c0_I f f) : (y_differ_v f x).toInt < 2147483647 := by
  have n16 := I.rhu.1
  have a1 : ∀ k : Nat, k ≤ (f 280 2).toInt.toNat → -36000000 * (k : Int) ≤ (y_differ_a4 f x k).toInt ∧ (y_differ_a4 f x k).toInt ≤ 36000000 * (k : Int) := by
    intro k
    induction k with
    | zero =>
      intro _
      show -36000000 * ((0 : Nat) : Int) ≤ (0 : Int32).toInt ∧ (0 : Int32).toInt ≤ 36000000 * ((0 : Nat) : Int)
      have z : (0 : Int32).toInt = 0 := rfl
      omega
    | succ k ih =>
      intro hk
      have i := ih (by omega)
      obtain ⟨k1, k2, k3⟩ := I.ck (C := k) (by omega)
      have k4 := k1.2
      have en : (-(f 280 (444 + 61 * k + 1))).toInt = -(f 280 (444 + 61 * k + 1)).toInt := by
        rw [Int32.toInt_neg]
        exact Int.bmod_eq_of_le (by omega) (by omega)
      have s2 : y_differ_a4 f x (k + 1) = y_differ_a4 f x k + (if (r_has_v x (Int32.ofNat k)).toInt = 0 then -(f 280 (444 + 61 * k + 1)) else f 280 (444 + 61 * k + 1)) := rfl
      rw [s2]
      split
      · rw [at_add32 (by omega) (by omega), en]
        omega
      · rw [at_add32 (by omega) (by omega)]
        omega
  have b := a1 _ (Nat.le_refl _)
  unfold y_differ_v r_size_v
  split
  · rw [Int32.toInt_neg, Int.bmod_eq_of_le (by omega) (by omega)]
    omega
  · omega
/-- the best set of the first k -/
def t2_hb (D : Nat → Int) (h : Nat) : Nat → Option Nat
  | 0 => none
  | k + 1 => if t2_pop (1 + 2 * k) = h then (match t2_hb D h k with
    | none => some (1 + 2 * k)
    | some t => if D (1 + 2 * k) < D t then some (1 + 2 * k) else some t) else t2_hb D h k
def t2_hz : Option Nat → Int32
  | none => (-1 : Int32)
  | some t => Int32.ofNat t
noncomputable def t2_hy (f : t2_F) : Option Nat → Int32
  | none => (2147483647 : Int32)
  | some t => y_differ_v f (Int32.ofNat t)
theorem t2_hy0 : (t2_hy f none).toInt = 2147483647 := by
  show (2147483647 : Int32).toInt = 2147483647
  decide +kernel
variable {D : Nat → Int} {h : Nat}
theorem t2_hb_lt : ∀ (k t : Nat), t2_hb D h k = some t → t < 2 * k := by
  intro k
  induction k with
  | zero => intro t e; cases e
  | succ k ih =>
    intro t e
    have s : t2_hb D h (k + 1) = if t2_pop (1 + 2 * k) = h then (match t2_hb D h k with
      | none => some (1 + 2 * k)
      | some t => if D (1 + 2 * k) < D t then some (1 + 2 * k) else some t) else t2_hb D h k := rfl
    rw [s] at e
    split at e
    · cases hb : t2_hb D h k with
      | none =>
        rw [hb] at e
        cases e
        omega
      | some u =>
        rw [hb] at e
        dsimp only at e
        split at e
        · cases e
          omega
        · cases e
          have := ih _ hb
          omega
    · have := ih t e
      omega
theorem t2_hb_no : ∀ k : Nat, t2_hb D h k = none → ∀ j : Nat, j < k → t2_pop (1 + 2 * j) ≠ h := by
  intro k
  induction k with
  | zero => intro _ j hj; omega
  | succ k ih =>
    intro e j hj
    have s : t2_hb D h (k + 1) = if t2_pop (1 + 2 * k) = h then (match t2_hb D h k with
      | none => some (1 + 2 * k)
      | some t => if D (1 + 2 * k) < D t then some (1 + 2 * k) else some t) else t2_hb D h k := rfl
    rw [s] at e
    split at e
    · cases hb : t2_hb D h k with
      | none =>
        rw [hb] at e
        cases e
      | some u =>
        rw [hb] at e
        dsimp only at e
        split at e <;> cases e
    · rename_i hp
      rcases (by omega : j < k ∨ j = k) with h2 | rfl
      · exact ih e j h2
      · exact hp
/-- the counts that have halves -/
theorem t2_cases {n : Int32} (h : n.toInt = 2 ∨ n.toInt = 4 ∨ n.toInt = 6 ∨ n.toInt = 8) : ∃ h N : Nat, ((1 : Int32) <<< (n &&& 31)).toInt = ((2 * N : Nat) : Int) ∧ (n / (2 : Int32)).toInt = (h : Int) ∧ n.toInt = 2 * (h : Int) ∧ N ≤ 128 ∧ 1 ≤ h ∧ h ≤ 4 ∧ ∃ j : Nat, j < N ∧ t2_pop (1 + 2 * j) = h := by
  rcases h with h | h | h | h
  · rw [Int32.toInt.inj (show n.toInt = (2 : Int32).toInt by rw [h]; decide +kernel)]
    exact ⟨1, 2, by decide +kernel, by decide +kernel, by decide +kernel, by decide, by decide, by decide, 0, by decide, by decide +kernel⟩
  · rw [Int32.toInt.inj (show n.toInt = (4 : Int32).toInt by rw [h]; decide +kernel)]
    exact ⟨2, 8, by decide +kernel, by decide +kernel, by decide +kernel, by decide, by decide, by decide, 1, by decide, by decide +kernel⟩
  · rw [Int32.toInt.inj (show n.toInt = (6 : Int32).toInt by rw [h]; decide +kernel)]
    exact ⟨3, 32, by decide +kernel, by decide +kernel, by decide +kernel, by decide, by decide, by decide, 3, by decide, by decide +kernel⟩
  · rw [Int32.toInt.inj (show n.toInt = (8 : Int32).toInt by rw [h]; decide +kernel)]
    exact ⟨4, 128, by decide +kernel, by decide +kernel, by decide +kernel, by decide, by decide, by decide, 7, by decide, by decide +kernel⟩
noncomputable abbrev t2_hB (f : t2_F) (h : Nat) (k : Nat) : Option Nat := t2_hb (fun s => (y_differ_v f (Int32.ofNat s)).toInt) h k
theorem t2_hB_s {k : Nat} : t2_hB f h (k + 1) = if t2_pop (1 + 2 * k) = h then (match t2_hB f h k with
    | none => some (1 + 2 * k)
    | some t => if (y_differ_v f (Int32.ofNat (1 + 2 * k))).toInt < (y_differ_v f (Int32.ofNat t)).toInt then some (1 + 2 * k) else some t) else t2_hB f h k := rfl
/-- the class's loop -/
theorem x_half_l (I : c0_I f f) {N : Nat} (hN : ((1 : Int32) <<< ((f 280 2) &&& 31)).toInt = ((2 * N : Nat) : Int)) (hh : (f 280 2 / (2 : Int32)).toInt = (h : Int)) (hN2 : N ≤ 128) (k0 : Q (some (.inl (if a.toInt = 0 then t2_hz (t2_hB f h N) else t2_hy f (t2_hB f h N)))) (f, l)) : ∀ d k : Nat, k + d = N → fl_Tq (pw_P L xs) 141 45 [some (.inr (.inr (.inl (0, 0)))), some (.inl a), some (.inl (f 1 5)), some (.inl (t2_hz (t2_hB f h k))), some (.inl (t2_hy f (t2_hB f h k))), some (.inl (Int32.ofNat (1 + 2 * k))), none] [] (f, l) Q := by
  have e5 : f 1 5 = f 280 2 := I.1.1.1
  intro d
  induction d with
  | zero =>
    intro k hk
    have e : k = N := by omega
    subst e
    refine x_half_C ?_ k0
    rw [at_ofN (by omega), e5, hN]
    omega
  | succ d ih =>
    intro k hk
    have es : (Int32.ofNat (1 + 2 * k)).toInt = ((1 + 2 * k : Nat) : Int) := at_ofN (by omega)
    have c2 : (2 : Int32).toInt = 2 := by decide +kernel
    have en : Int32.ofNat (1 + 2 * k) + (2 : Int32) = Int32.ofNat (1 + 2 * (k + 1)) := Int32.toInt.inj (by
      rw [at_add32 (by rw [es, c2]; omega) (by rw [es, c2]; omega), es, c2, at_ofN (by omega)]
      omega)
    have ep : (Int32.ofNat (t2_pop (1 + 2 * k))).toInt = ((t2_pop (1 + 2 * k) : Nat) : Int) := at_ofN (by have := t2_pop_b (1 + 2 * k); omega)
    have nx := ih (k + 1) (by omega)
    refine x_half_B I.hc ?_ ?_
    · rw [es, e5, hN]
      omega
    rw [x_apart_e I, t2_bc_t (show 1 + 2 * k < 256 by omega), e5, hh, ep, en]
    rw [e5] at nx
    have ez : (if ((t2_pop (1 + 2 * k) : Nat) : Int) = (h : Int) then (if (y_differ_v f (Int32.ofNat (1 + 2 * k))).toInt < (t2_hy f (t2_hB f h k)).toInt then Int32.ofNat (1 + 2 * k) else t2_hz (t2_hB f h k)) else t2_hz (t2_hB f h k)) = t2_hz (t2_hB f h (k + 1)) := by
      rw [t2_hB_s]
      by_cases h1 : t2_pop (1 + 2 * k) = h
      · rw [if_pos h1, if_pos (by omega)]
        cases hb : t2_hB f h k with
        | none =>
          rw [if_pos (show (y_differ_v f (Int32.ofNat (1 + 2 * k))).toInt < (t2_hy f none).toInt by rw [t2_hy0]; exact y_differ_b I)]
          rfl
        | some t =>
          dsimp only
          by_cases h2 : (y_differ_v f (Int32.ofNat (1 + 2 * k))).toInt < (y_differ_v f (Int32.ofNat t)).toInt
          · rw [if_pos h2]
            exact if_pos h2
          · rw [if_neg h2]
            exact if_neg h2
      · rw [if_neg h1, if_neg (by omega)]
    have ey : (if ((t2_pop (1 + 2 * k) : Nat) : Int) = (h : Int) then (if (y_differ_v f (Int32.ofNat (1 + 2 * k))).toInt < (t2_hy f (t2_hB f h k)).toInt then y_differ_v f (Int32.ofNat (1 + 2 * k)) else t2_hy f (t2_hB f h k)) else t2_hy f (t2_hB f h k)) = t2_hy f (t2_hB f h (k + 1)) := by
      rw [t2_hB_s]
      by_cases h1 : t2_pop (1 + 2 * k) = h
      · rw [if_pos h1, if_pos (by omega)]
        cases hb : t2_hB f h k with
        | none =>
          rw [if_pos (show (y_differ_v f (Int32.ofNat (1 + 2 * k))).toInt < (t2_hy f none).toInt by rw [t2_hy0]; exact y_differ_b I)]
          rfl
        | some t =>
          dsimp only
          by_cases h2 : (y_differ_v f (Int32.ofNat (1 + 2 * k))).toInt < (y_differ_v f (Int32.ofNat t)).toInt
          · rw [if_pos h2]
            exact if_pos h2
          · rw [if_neg h2]
            exact if_neg h2
      · rw [if_neg h1, if_neg (by omega)]
    rw [ez, ey]
    exact fl_Tq.fg nx ⟨rfl, rfl, rfl, rfl, rfl, rfl, True.intro⟩
/-- the reference's -/
theorem y_half_l (I : c0_I f f) {N : Nat} (hN : ((1 : Int32) <<< ((f 280 2) &&& 31)).toInt = ((2 * N : Nat) : Int)) (hh : (f 280 2).toInt = 2 * (h : Int)) (hN2 : N ≤ 128) (k0 : Q (some (.inl (if a.toInt = 0 then t2_hz (t2_hB f h N) else y_differ_v f (t2_hz (t2_hB f h N))))) (f, l)) : ∀ d k : Nat, k + d = N → fl_Tq (pw_P L xs) 304 42 [some (.inr (.inr (.inl (76, 277)))), some (.inl a), some (.inl (t2_hz (t2_hB f h k))), some (.inl (Int32.ofNat (1 + 2 * k)))] [] (f, l) Q := by
  have n16 := I.rhu.1
  intro d
  induction d with
  | zero =>
    intro k hk
    have e : k = N := by omega
    subst e
    refine y_half_D n16 ?_ k0
    rw [at_ofN (by omega), hN]
    omega
  | succ d ih =>
    intro k hk
    have es : (Int32.ofNat (1 + 2 * k)).toInt = ((1 + 2 * k : Nat) : Int) := at_ofN (by omega)
    have c2 : (2 : Int32).toInt = 2 := by decide +kernel
    have cm : (-1 : Int32).toInt = -1 := by decide +kernel
    have en : Int32.ofNat (1 + 2 * k) + (2 : Int32) = Int32.ofNat (1 + 2 * (k + 1)) := Int32.toInt.inj (by
      rw [at_add32 (by rw [es, c2]; omega) (by rw [es, c2]; omega), es, c2, at_ofN (by omega)]
      omega)
    have pb := t2_pop_b (1 + 2 * k)
    have ep : (Int32.ofNat (t2_pop (1 + 2 * k))).toInt = ((t2_pop (1 + 2 * k) : Nat) : Int) := at_ofN (by omega)
    have e2 : ((2 : Int32) * Int32.ofNat (t2_pop (1 + 2 * k))).toInt = 2 * ((t2_pop (1 + 2 * k) : Nat) : Int) := by rw [at_mul32 (by rw [c2, ep]; omega) (by rw [c2, ep]; omega), c2, ep]
    have nx := ih (k + 1) (by omega)
    refine y_half_B ?_ ?_
    · rw [es, hN]
      omega
    refine fl_Tq.cal rfl rfl (fl_bo rfl) rfl ?_
    refine y_many_q (show 1 + 2 * k < 256 by omega) ?_
    refine y_half_C n16 ?_
    rw [e2, hh, en]
    have ez : (if 2 * ((t2_pop (1 + 2 * k) : Nat) : Int) = 2 * (h : Int) then (if (t2_hz (t2_hB f h k)).toInt = (-1 : Int32).toInt then Int32.ofNat (1 + 2 * k) else (if (y_differ_v f (Int32.ofNat (1 + 2 * k))).toInt < (y_differ_v f (t2_hz (t2_hB f h k))).toInt then Int32.ofNat (1 + 2 * k) else t2_hz (t2_hB f h k))) else t2_hz (t2_hB f h k)) = t2_hz (t2_hB f h (k + 1)) := by
      rw [t2_hB_s]
      by_cases h1 : t2_pop (1 + 2 * k) = h
      · rw [if_pos h1, if_pos (by omega)]
        cases hb : t2_hB f h k with
        | none =>
          exact if_pos rfl
        | some t =>
          have ht := t2_hb_lt k t hb
          have et : (Int32.ofNat t).toInt = (t : Int) := at_ofN (by omega)
          dsimp only
          refine (if_neg (show ¬ ((Int32.ofNat t).toInt = (-1 : Int32).toInt) by rw [et, cm]; omega)).trans ?_
          by_cases h2 : (y_differ_v f (Int32.ofNat (1 + 2 * k))).toInt < (y_differ_v f (Int32.ofNat t)).toInt
          · rw [if_pos h2]
            exact if_pos h2
          · rw [if_neg h2]
            exact if_neg h2
      · rw [if_neg h1, if_neg (by omega)]
    rw [ez]
    exact nx
end T2HALF
/-! ===== halves, on both sides ===== -/
theorem t2_cmp_40 {L : Nat} {xs : Nat → Int32} {f : t2_F} {l : t2_L} {a : Int32} (_hall : ∀ c ∈ at_CM ++ at_CA, at_Valid at_XI (pw_P L xs) c) (hg : t2_Z (f, l)) : fl_Tq (pw_P L xs) 141 0 (fl_args (am_mxl (pw_P L xs) 141) [lx_x, .inl a]) [] (f, l) (t2_End L xs 304 [at_this, .inl a]) := by
  have I : c0_I f f := hg.2.1
  have e5 : f 1 5 = f 280 2 := I.1.1.1
  have n16 := I.rhu.1
  have c0 : (0 : Int32).toInt = 0 := rfl
  have c1 : (1 : Int32).toInt = 1 := by decide +kernel
  have c2 : (2 : Int32).toInt = 2 := by decide +kernel
  have c8 : (8 : Int32).toInt = 8 := by decide +kernel
  have d : (f 280 2 / (2 : Int32)).toInt = (f 280 2).toInt / 2 := by rw [at_div32 n16.1 (by omega), c2]
  have dm : (f 280 2 / (2 : Int32) * (2 : Int32)).toInt = (f 280 2).toInt / 2 * 2 := by rw [at_mul32 (by rw [d, c2]; omega) (by rw [d, c2]; omega), d, c2]
  have re : (f 280 2 - f 280 2 / (2 : Int32) * (2 : Int32)).toInt = (f 280 2).toInt - (f 280 2).toInt / 2 * 2 := by rw [at_sub32 (by omega) (by omega), dm]
  by_cases h : ((f 280 2).toInt = 2 ∨ (f 280 2).toInt = 4 ∨ (f 280 2).toInt = 6 ∨ (f 280 2).toInt = 8) ∧ 0 ≤ a.toInt ∧ a.toInt ≤ 1
  · obtain ⟨h', N, g1, g2, g3, g4, g5, g6, j, hj, hp⟩ := t2_cases h.1
    have hs : ∃ t : Nat, t2_hB f h' N = some t := by
      cases hb : t2_hB f h' N with
      | some t => exact ⟨t, rfl⟩
      | none => exact absurd hp (t2_hb_no N hb j hj)
    obtain ⟨t, ht⟩ := hs
    refine t2_qq (y := if a.toInt = 0 then t2_hz (t2_hB f h' N) else t2_hy f (t2_hB f h' N)) hg (fun Q k => ?_) (fun Q k => ?_)
    · show fl_Tq (pw_P L xs) 141 0 [some (.inr (.inr (.inl (0, 0)))), some (.inl a), none, none, none, none, none] [] (f, l) Q
      have g := x_half_l (L := L) (xs := xs) (l := l) (a := a) I g1 g2 g4 k N 0 (Nat.zero_add _)
      refine x_half_A (fun h1 => ?_) (fun _ h1 => ?_) (fun _ _ _ h1 => ?_) (fun _ _ _ _ => g) (fun _ _ h1 => ?_)
      · rw [e5] at h1
        omega
      · rw [e5, c8] at h1
        omega
      · rw [t2_w0, c0, c1] at h1
        exact absurd h.2 h1
      · rw [e5, re] at h1
        omega
    · show fl_Tq (pw_P L xs) 304 0 [some (.inr (.inr (.inl (76, 277)))), some (.inl a), none, none] [] (f, l) Q
      have k' : Q (some (.inl (if a.toInt = 0 then t2_hz (t2_hB f h' N) else y_differ_v f (t2_hz (t2_hB f h' N))))) (f, l) := by
        rw [ht] at k ⊢
        exact k
      have g := y_half_l (L := L) (xs := xs) (l := l) (a := a) I g1 g3 g4 k' N 0 (Nat.zero_add _)
      refine y_half_A (fun h1 => ?_) (fun _ h1 => ?_) (fun _ _ h1 => ?_) (fun _ _ _ => g)
      · rw [r_i0, c0, c1] at h1
        exact absurd h.2 h1
      · rw [r_i0, c2, c8] at h1
        omega
      · rw [re, c1] at h1
        omega
  · refine t2_qq (y := (-1 : Int32)) hg (fun Q k => ?_) (fun Q k => ?_)
    · show fl_Tq (pw_P L xs) 141 0 [some (.inr (.inr (.inl (0, 0)))), some (.inl a), none, none, none, none, none] [] (f, l) Q
      refine x_half_A (fun _ => k) (fun _ _ => k) (fun _ _ _ _ => k) (fun h1 h2 h3 h4 => ?_) (fun _ _ _ => k)
      rw [e5] at h1 h2
      rw [e5, re] at h3
      rw [c8] at h2
      rw [t2_w0, c0, c1, Classical.not_not] at h4
      exact absurd ⟨by omega, h4⟩ h
    · show fl_Tq (pw_P L xs) 304 0 [some (.inr (.inr (.inl (76, 277)))), some (.inl a), none, none] [] (f, l) Q
      refine y_half_A (fun _ => k) (fun _ _ => k) (fun _ _ _ => k) (fun h1 h2 h3 => ?_)
      rw [r_i0, c0, c1, Classical.not_not] at h1
      rw [r_i0, c2, c8, Classical.not_not] at h2
      rw [re, c1] at h3
      exact absurd ⟨by omega, h1⟩ h

end

/-! 95.05.19p41.lean.txt -/
section
theorem x_ch_A {L : Nat} {xs : Nat → Int32} {f : t2_F} {l : t2_L} {Q : Option fl_V → fl_M → Prop} {a b c : Int32}  (k : ((t2_within_v a (0 : Int32) (24 : Int32)).toInt = 0) → Q (some (.inl (-1 : Int32))) (f, l)) (k1 : (¬ ((t2_within_v a (0 : Int32) (24 : Int32)).toInt = 0)) → ((t2_within_v b (1 : Int32) (12 : Int32)).toInt = 0) → Q (some (.inl (-1 : Int32))) (f, l)) (k2 : (¬ ((t2_within_v a (0 : Int32) (24 : Int32)).toInt = 0)) → (¬ ((t2_within_v b (1 : Int32) (12 : Int32)).toInt = 0)) → ((t2_within_v c (0 : Int32) (1 : Int32)).toInt = 0) → Q (some (.inl (-1 : Int32))) (f, l)) (k3 : (¬ ((t2_within_v a (0 : Int32) (24 : Int32)).toInt = 0)) → (¬ ((t2_within_v b (1 : Int32) (12 : Int32)).toInt = 0)) → (¬ ((t2_within_v c (0 : Int32) (1 : Int32)).toInt = 0)) → fl_Tq (pw_P L xs) 142 31 [some (.inr (.inr (.inl (0, 0)))), some (.inl a), some (.inl b), some (.inl c), none, none, none, none] [] (f, l) Q) : fl_Tq (pw_P L xs) 142 0 [some (.inr (.inr (.inl (0, 0)))), some (.inl a), some (.inl b), some (.inl c), none, none, none, none] [] (f, l) Q := by
  refine fl_Tq.stp (pc' := 1) (lv' := [some (.inr (.inr (.inl (0, 0)))), some (.inl a), some (.inl b), some (.inl c), none, none, none, none]) (st' := [.inl a]) (m' := (f, l)) rfl rfl (fl_bo rfl) rfl ?_
  refine fl_Tq.cI (c := (0 : Int32)) rfl (by decide +kernel) (fl_bo rfl) ?_
  refine fl_Tq.cB (c := (24 : Int32)) rfl (by decide +kernel) (fl_bo rfl) ?_
  refine fl_Tq.cal rfl rfl (fl_bo rfl) rfl ?_
  refine t2_within_q  ?_
  show fl_Tq _ 142 7 [some (.inr (.inr (.inl (0, 0)))), some (.inl a), some (.inl b), some (.inl c), none, none, none, none] [.inl (t2_within_v a (0 : Int32) (24 : Int32))] (f, l) _
  by_cases h1 : (t2_within_v a (0 : Int32) (24 : Int32)).toInt = 0
  · refine fl_Tq.zt rfl (fl_bo rfl) (c1_eq_t h1) rfl ?_
    refine fl_Tq.cI (c := (-1 : Int32)) rfl (by decide +kernel) (fl_bo rfl) ?_
    exact fl_Tq.ret rfl rfl rfl (k h1)
  · refine fl_Tq.zf rfl (fl_bo rfl) (c1_eq_f h1) rfl ?_
    refine fl_Tq.stp (pc' := 11) (lv' := [some (.inr (.inr (.inl (0, 0)))), some (.inl a), some (.inl b), some (.inl c), none, none, none, none]) (st' := [.inl b]) (m' := (f, l)) rfl rfl (fl_bo rfl) rfl ?_
    refine fl_Tq.cI (c := (1 : Int32)) rfl (by decide +kernel) (fl_bo rfl) ?_
    refine fl_Tq.cB (c := (12 : Int32)) rfl (by decide +kernel) (fl_bo rfl) ?_
    refine fl_Tq.cal rfl rfl (fl_bo rfl) rfl ?_
    refine t2_within_q  ?_
    show fl_Tq _ 142 17 [some (.inr (.inr (.inl (0, 0)))), some (.inl a), some (.inl b), some (.inl c), none, none, none, none] [.inl (t2_within_v b (1 : Int32) (12 : Int32))] (f, l) _
    by_cases h2 : (t2_within_v b (1 : Int32) (12 : Int32)).toInt = 0
    · refine fl_Tq.zt rfl (fl_bo rfl) (c1_eq_t h2) rfl ?_
      refine fl_Tq.cI (c := (-1 : Int32)) rfl (by decide +kernel) (fl_bo rfl) ?_
      exact fl_Tq.ret rfl rfl rfl (k1 h1 h2)
    · refine fl_Tq.zf rfl (fl_bo rfl) (c1_eq_f h2) rfl ?_
      refine fl_Tq.stp (pc' := 21) (lv' := [some (.inr (.inr (.inl (0, 0)))), some (.inl a), some (.inl b), some (.inl c), none, none, none, none]) (st' := [.inl c]) (m' := (f, l)) rfl rfl (fl_bo rfl) rfl ?_
      refine fl_Tq.cI (c := (0 : Int32)) rfl (by decide +kernel) (fl_bo rfl) ?_
      refine fl_Tq.cI (c := (1 : Int32)) rfl (by decide +kernel) (fl_bo rfl) ?_
      refine fl_Tq.cal rfl rfl (fl_bo rfl) rfl ?_
      refine t2_within_q  ?_
      show fl_Tq _ 142 26 [some (.inr (.inr (.inl (0, 0)))), some (.inl a), some (.inl b), some (.inl c), none, none, none, none] [.inl (t2_within_v c (0 : Int32) (1 : Int32))] (f, l) _
      by_cases h3 : (t2_within_v c (0 : Int32) (1 : Int32)).toInt = 0
      · refine fl_Tq.zf rfl (fl_bo rfl) (c1_ne_f h3) rfl ?_
        refine fl_Tq.cI (c := (-1 : Int32)) rfl (by decide +kernel) (fl_bo rfl) ?_
        exact fl_Tq.ret rfl rfl rfl (k2 h1 h2 h3)
      · refine fl_Tq.zt rfl (fl_bo rfl) (c1_ne_t h3) rfl ?_
        exact k3 h1 h2 h3
theorem y_ch_A {L : Nat} {xs : Nat → Int32} {f : t2_F} {l : t2_L} {Q : Option fl_V → fl_M → Prop} {a b c : Int32}  (k : ((r_isIn_v a (0 : Int32) (24 : Int32)).toInt = 0) → Q (some (.inl (-1 : Int32))) (f, l)) (k1 : (¬ ((r_isIn_v a (0 : Int32) (24 : Int32)).toInt = 0)) → ((r_isIn_v b (1 : Int32) (12 : Int32)).toInt = 0) → Q (some (.inl (-1 : Int32))) (f, l)) (k2 : (¬ ((r_isIn_v a (0 : Int32) (24 : Int32)).toInt = 0)) → (¬ ((r_isIn_v b (1 : Int32) (12 : Int32)).toInt = 0)) → ((r_isIn_v c (0 : Int32) (1 : Int32)).toInt = 0) → Q (some (.inl (-1 : Int32))) (f, l)) (k3 : (¬ ((r_isIn_v a (0 : Int32) (24 : Int32)).toInt = 0)) → (¬ ((r_isIn_v b (1 : Int32) (12 : Int32)).toInt = 0)) → (¬ ((r_isIn_v c (0 : Int32) (1 : Int32)).toInt = 0)) → fl_Tq (pw_P L xs) 308 31 [some (.inr (.inr (.inl (76, 277)))), some (.inl a), some (.inl b), some (.inl c), none, none, none, none, none, none] [] (f, l) Q) : fl_Tq (pw_P L xs) 308 0 [some (.inr (.inr (.inl (76, 277)))), some (.inl a), some (.inl b), some (.inl c), none, none, none, none, none, none] [] (f, l) Q := by
  refine fl_Tq.stp (pc' := 1) (lv' := [some (.inr (.inr (.inl (76, 277)))), some (.inl a), some (.inl b), some (.inl c), none, none, none, none, none, none]) (st' := [.inl a]) (m' := (f, l)) rfl rfl (fl_bo rfl) rfl ?_
  refine fl_Tq.cI (c := (0 : Int32)) rfl (by decide +kernel) (fl_bo rfl) ?_
  refine fl_Tq.cB (c := (24 : Int32)) rfl (by decide +kernel) (fl_bo rfl) ?_
  refine fl_Tq.cal rfl rfl (fl_bo rfl) rfl ?_
  refine r_isIn_q  ?_
  show fl_Tq _ 308 7 [some (.inr (.inr (.inl (76, 277)))), some (.inl a), some (.inl b), some (.inl c), none, none, none, none, none, none] [.inl (r_isIn_v a (0 : Int32) (24 : Int32))] (f, l) _
  by_cases h1 : (r_isIn_v a (0 : Int32) (24 : Int32)).toInt = 0
  · refine fl_Tq.zt rfl (fl_bo rfl) (c1_eq_t h1) rfl ?_
    refine fl_Tq.cI (c := (-1 : Int32)) rfl (by decide +kernel) (fl_bo rfl) ?_
    exact fl_Tq.ret rfl rfl rfl (k h1)
  · refine fl_Tq.zf rfl (fl_bo rfl) (c1_eq_f h1) rfl ?_
    refine fl_Tq.stp (pc' := 11) (lv' := [some (.inr (.inr (.inl (76, 277)))), some (.inl a), some (.inl b), some (.inl c), none, none, none, none, none, none]) (st' := [.inl b]) (m' := (f, l)) rfl rfl (fl_bo rfl) rfl ?_
    refine fl_Tq.cI (c := (1 : Int32)) rfl (by decide +kernel) (fl_bo rfl) ?_
    refine fl_Tq.cB (c := (12 : Int32)) rfl (by decide +kernel) (fl_bo rfl) ?_
    refine fl_Tq.cal rfl rfl (fl_bo rfl) rfl ?_
    refine r_isIn_q  ?_
    show fl_Tq _ 308 17 [some (.inr (.inr (.inl (76, 277)))), some (.inl a), some (.inl b), some (.inl c), none, none, none, none, none, none] [.inl (r_isIn_v b (1 : Int32) (12 : Int32))] (f, l) _
    by_cases h2 : (r_isIn_v b (1 : Int32) (12 : Int32)).toInt = 0
    · refine fl_Tq.zt rfl (fl_bo rfl) (c1_eq_t h2) rfl ?_
      refine fl_Tq.cI (c := (-1 : Int32)) rfl (by decide +kernel) (fl_bo rfl) ?_
      exact fl_Tq.ret rfl rfl rfl (k1 h1 h2)
    · refine fl_Tq.zf rfl (fl_bo rfl) (c1_eq_f h2) rfl ?_
      refine fl_Tq.stp (pc' := 21) (lv' := [some (.inr (.inr (.inl (76, 277)))), some (.inl a), some (.inl b), some (.inl c), none, none, none, none, none, none]) (st' := [.inl c]) (m' := (f, l)) rfl rfl (fl_bo rfl) rfl ?_
      refine fl_Tq.cI (c := (0 : Int32)) rfl (by decide +kernel) (fl_bo rfl) ?_
      refine fl_Tq.cI (c := (1 : Int32)) rfl (by decide +kernel) (fl_bo rfl) ?_
      refine fl_Tq.cal rfl rfl (fl_bo rfl) rfl ?_
      refine r_isIn_q  ?_
      show fl_Tq _ 308 26 [some (.inr (.inr (.inl (76, 277)))), some (.inl a), some (.inl b), some (.inl c), none, none, none, none, none, none] [.inl (r_isIn_v c (0 : Int32) (1 : Int32))] (f, l) _
      by_cases h3 : (r_isIn_v c (0 : Int32) (1 : Int32)).toInt = 0
      · refine fl_Tq.zf rfl (fl_bo rfl) (c1_ne_f h3) rfl ?_
        refine fl_Tq.cI (c := (-1 : Int32)) rfl (by decide +kernel) (fl_bo rfl) ?_
        exact fl_Tq.ret rfl rfl rfl (k2 h1 h2 h3)
      · refine fl_Tq.zt rfl (fl_bo rfl) (c1_ne_t h3) rfl ?_
        exact k3 h1 h2 h3
def tz_c142 : at_C := (142, [.inl (0, some 0), .inr (false, -2147483648, 2147483647), .inr (false, -2147483648, 2147483647), .inr (false, -2147483648, 2147483647)], [], some (.inr (false, -2147483648, 2147483647)), false, [(75, false, 0, 324)])
set_option maxRecDepth 100000 in
theorem tz_c142_in : tz_c142 ∈ at_CM ++ at_CA := List.mem_of_getElem? (i := 111) rfl
def tz_c308 : at_C := (308, [.inl (76, some 277), .inr (false, -2147483648, 2147483647), .inr (false, -2147483648, 2147483647), .inr (false, -2147483648, 2147483647)], [], some (.inr (false, -2147483648, 2147483647)), false, [(83, false, 0, 16249)])
set_option maxRecDepth 100000 in
theorem tz_c308_in : tz_c308 ∈ at_CM ++ at_CA := List.mem_of_getElem? (i := 9) rfl
/-! ===== cheapest, on both sides ===== -/
theorem ch_ieq {a b : Int32} (e : (some (.inl a : fl_V)).map fl_c = (some (.inl b : fl_V)).map fl_c) : (some (.inl a) : Option fl_V) = some (.inl b) := by
  have e : (some (Value.int a)) = some (Value.int b) := e
  injection e with e
  injection e with e
  rw [e]
/-- the class's answer first, which leaves longs alone changed; the reference's from there, the same -/
theorem t2_long {L : Nat} {xs : Nat → Int32} {f : t2_F} {l : t2_L} {c1 : at_C} {ac ar : List fl_V} {mc mr : Nat} (hv1 : at_Valid at_XI (pw_P L xs) c1) (e1 : c1.1 = mc) (Z : t2_Z (f, l)) (k1 : at_agk l.2 c1.2.1 ac) (l1 : c1.2.2.1 = []) (R : ∀ m, t2_Z m → fl_Tq (pw_P L xs) mr 0 (fl_args (am_mxl (pw_P L xs) mr) ar) [] m t2_ZI) (F : fl_Tq (pw_P L xs) mc 0 (fl_args (am_mxl (pw_P L xs) mc) ac) [] (f, l) (fun v m => ∃ (J : Nat → Nat → Int64) (y : Int32), v = some (.inl y) ∧ m = (f, J, l.2) ∧ fl_Tq (pw_P L xs) mr 0 (fl_args (am_mxl (pw_P L xs) mr) ar) [] (f, J, l.2) (fun v2 _ => v2 = some (.inl y)))) : fl_Tq (pw_P L xs) mc 0 (fl_args (am_mxl (pw_P L xs) mc) ac) [] (f, l) (t2_End L xs mr ar) := by
  subst e1
  refine fl_Tq.mono (t2_join F (hv1 (f, l) ac Z.1 k1 (fun q hq => by rw [l1] at hq; cases hq))) ?_
  rintro v m1 ⟨⟨J, y, rfl, rfl, T⟩, v2, m2, e1, e2, g2, -, -⟩
  have U : t2_U (f, J, l.2) := fun p hp i => Z.U p hp i
  have g1 : at_Good at_XI (f, J, l.2) := t2_Good e2 g2 U
  have Z1 : t2_Z (f, J, l.2) := ⟨g1, Z.2⟩
  refine ⟨⟨y, rfl⟩, fl_Tq.mono (t2_join (R _ Z1) T) ?_⟩
  rintro v3 m3 ⟨⟨⟨y3, rfl⟩, Z3⟩, v4, m4, e3, -, rfl⟩
  exact ⟨ch_ieq e3, Z3⟩
theorem t2_cmp_41 {L : Nat} {xs : Nat → Int32} {f : t2_F} {l : t2_L} {a b c : Int32} (hall : ∀ c ∈ at_CM ++ at_CA, at_Valid at_XI (pw_P L xs) c) (hg : t2_Z (f, l)) : fl_Tq (pw_P L xs) 142 0 (fl_args (am_mxl (pw_P L xs) 142) [lx_x, .inl a, .inl b, .inl c]) [] (f, l) (t2_End L xs 308 [at_this, .inl a, .inl b, .inl c]) := by
  have I : c0_I f f := hg.2.1
  have c0 : (0 : Int32).toInt = 0 := rfl
  have c1 : (1 : Int32).toInt = 1 := by decide +kernel
  have c12 : (12 : Int32).toInt = 12 := by decide +kernel
  have c24 : (24 : Int32).toInt = 24 := by decide +kernel
  have pr : ∀ h : Nat, h < 24 → 0 ≤ (f 6 h).toInt ∧ (f 6 h).toInt ≤ 999 := fun h hh =>
    hg.1.1 6 (by unfold fl_N; omega) (0, 0, 0, 1, 24, 0, 999) (by decide +kernel) h ⟨0, h, by decide, by dsimp only; omega, by omega, by dsimp only; omega, by dsimp only; omega⟩
  have e6 : ∀ h : Nat, h < 24 → f 6 h = f 280 (315 + h) := I.2.2.1.1.2.2.2.1
  refine t2_long (hall _ tz_c142_in) rfl hg ⟨lx_kx _, lx_ki _, lx_ki _, lx_ki _, True.intro⟩ rfl (fun m Z => t2_qcall (hall _ tz_c308_in) rfl Z ⟨at_k277 _, lx_ki _, lx_ki _, lx_ki _, True.intro⟩ rfl rfl rfl) ?_
  show fl_Tq (pw_P L xs) 142 0 [some (.inr (.inr (.inl (0, 0)))), some (.inl a), some (.inl b), some (.inl c), none, none, none, none] [] (f, l) _
  have no : ¬ (((0 ≤ a.toInt ∧ a.toInt ≤ 24) ∧ (1 ≤ b.toInt ∧ b.toInt ≤ 12)) ∧ (0 ≤ c.toInt ∧ c.toInt ≤ 1)) → ∃ (J : Nat → Nat → Int64) (y : Int32), (some (.inl (-1 : Int32)) : Option fl_V) = some (.inl y) ∧ ((f, l) : fl_M) = (f, J, l.2) ∧ fl_Tq (pw_P L xs) 308 0 (fl_args (am_mxl (pw_P L xs) 308) [at_this, .inl a, .inl b, .inl c]) [] (f, J, l.2) (fun v2 _ => v2 = some (.inl y)) := fun hn => by
    refine ⟨l.1, _, rfl, rfl, ?_⟩
    show fl_Tq (pw_P L xs) 308 0 [some (.inr (.inr (.inl (76, 277)))), some (.inl a), some (.inl b), some (.inl c), none, none, none, none, none, none] [] (f, l) _
    refine y_ch_A (fun _ => rfl) (fun _ _ => rfl) (fun _ _ _ => rfl) (fun h1 h2 h3 => absurd ?_ hn)
    rw [r_i0, Classical.not_not, c0, c24] at h1
    rw [r_i0, Classical.not_not, c1, c12] at h2
    rw [r_i0, Classical.not_not, c0, c1] at h3
    exact ⟨⟨h1, h2⟩, h3⟩
  refine x_ch_A (fun h1 => no (by rw [t2_w0, c0, c24] at h1; exact fun h => h1 h.1.1)) (fun _ h2 => no (by rw [t2_w0, c1, c12] at h2; exact fun h => h2 h.1.2)) (fun _ _ h3 => no (by rw [t2_w0, c0, c1] at h3; exact fun h => h3 h.2)) (fun h1 h2 h3 => ?_)
  have v1 := h1
  have v2 := h2
  have v3 := h3
  rw [t2_w0, Classical.not_not, c0, c24] at v1
  rw [t2_w0, Classical.not_not, c1, c12] at v2
  rw [t2_w0, Classical.not_not, c0, c1] at v3
  obtain ⟨K, hK⟩ : ∃ K : Nat, a.toInt = (K : Int) := ⟨a.toInt.toNat, by omega⟩
  obtain ⟨M, hM⟩ : ∃ M : Nat, b.toInt = (M : Int) := ⟨b.toInt.toNat, by omega⟩
  have ea : a = Int32.ofNat K := Int32.toInt.inj (by rw [at_ofN (by omega)]; exact hK)
  have eb : b = Int32.ofNat M := Int32.toInt.inj (by rw [at_ofN (by omega)]; exact hM)
  obtain ⟨p, hp, hp1⟩ : ∃ p : Nat → Int, (∀ h : Nat, 0 ≤ p h ∧ p h ≤ 999) ∧ ∀ h : Nat, h < 24 → (f 6 h).toInt = p h := by
    refine ⟨fun h => if h < 24 then (f 6 h).toInt else 0, fun h => ?_, fun h hh => (if_pos hh).symm⟩
    dsimp only
    by_cases hh : h < 24
    · rw [if_pos hh]
      exact pr h hh
    · rw [if_neg hh]
      omega
  have hp2 : ∀ h : Nat, h < 24 → (f 280 (315 + h)).toInt = p h := fun h hh => by rw [← hp1 h hh, e6 h hh]
  have cw : c.toInt = 0 ∨ c.toInt = 1 := by omega
  subst ea eb
  refine x_cheap_q (p := p) (K := K) (M := M) (w := c) hp hp1 (by omega) (by omega) (by omega) cw (fun J y hy => ?_)
  refine ⟨J, y, rfl, rfl, ?_⟩
  show fl_Tq (pw_P L xs) 308 0 [some (.inr (.inr (.inl (76, 277)))), some (.inl (Int32.ofNat K)), some (.inl (Int32.ofNat M)), some (.inl c), none, none, none, none, none, none] [] (f, J, l.2) _
  refine y_ch_A (l := (J, l.2)) (fun h => absurd h h1) (fun _ h => absurd h h2) (fun _ _ h => absurd h h3) (fun _ _ _ => ?_)
  refine r_cheap_q (m := (f, J, l.2)) (p := p) (k := K) (mm := M) hp hp2 hK hM (by omega) (by omega) (by omega) cw (fun v _ hv => ?_)
  have : v = y := Int32.toInt.inj (hv.trans hy.symm)
  rw [this]

end

/-! 95.05.20p42.lean.txt -/
section
noncomputable def x_hours_a28 (f : t2_F) (a b : Int32) : Nat → Int32
  | 0 => (0 : Int32)
  | k28 + 1 => t2_max_v (x_hours_a28 f a b k28) ((t2_chargeBy_v a (f (18 + 4 * k28) 0)) - (f (18 + 4 * k28) 2))
noncomputable def x_hours_v (f : t2_F) (a b : Int32) : Int32 := if (t2_within_v a (0 : Int32) (1000 : Int32)).toInt = 0 then (-1 : Int32) else (if (t2_within_v b (1 : Int32) (99999 : Int32)).toInt = 0 then (-1 : Int32) else (((((x_hours_a28 f a b ((f 1 5).toInt.toNat)).toInt64) + ((b * (3600 : Int32)).toInt64)) - (1 : Int64)) / ((b * (3600 : Int32)).toInt64)).toInt32)
theorem x_hours_q {L : Nat} {xs : Nat → Int32} {f : t2_F} {l : t2_L} {Q : Option fl_V → fl_M → Prop} {a b : Int32} (hc : 0 ≤ (f 1 5).toInt ∧ (f 1 5).toInt ≤ 16) (k : Q (some (.inl (x_hours_v f a b))) (f, l)) : fl_Tq (pw_P L xs) 143 0 (fl_args (am_mxl (pw_P L xs) 143) [.inr (.inr (.inl (0, 0))), .inl a, .inl b]) [] (f, l) Q := by
  refine fl_Tq.stp (pc' := 1) (lv' := [some (.inr (.inr (.inl (0, 0)))), some (.inl a), some (.inl b), none, none, none]) (st' := [.inl a]) (m' := (f, l)) rfl rfl (fl_bo rfl) rfl ?_
  refine fl_Tq.cI (c := (0 : Int32)) rfl (by decide +kernel) (fl_bo rfl) ?_
  refine fl_Tq.cS (c := (1000 : Int32)) rfl (by decide +kernel) (fl_bo rfl) ?_
  refine fl_Tq.cal rfl rfl (fl_bo rfl) rfl ?_
  refine t2_within_q  ?_
  show fl_Tq _ 143 8 [some (.inr (.inr (.inl (0, 0)))), some (.inl a), some (.inl b), none, none, none] [.inl (t2_within_v a (0 : Int32) (1000 : Int32))] (f, l) _
  by_cases h1 : (t2_within_v a (0 : Int32) (1000 : Int32)).toInt = 0
  · refine fl_Tq.zt rfl (fl_bo rfl) (c1_eq_t h1) rfl ?_
    refine fl_Tq.cI (c := (-1 : Int32)) rfl (by decide +kernel) (fl_bo rfl) ?_
    refine fl_Tq.ret rfl rfl rfl ?_
    unfold x_hours_v at k
    simp only [if_pos h1] at k
    exact k
  · refine fl_Tq.zf rfl (fl_bo rfl) (c1_eq_f h1) rfl ?_
    refine fl_Tq.stp (pc' := 12) (lv' := [some (.inr (.inr (.inl (0, 0)))), some (.inl a), some (.inl b), none, none, none]) (st' := [.inl b]) (m' := (f, l)) rfl rfl (fl_bo rfl) rfl ?_
    refine fl_Tq.cI (c := (1 : Int32)) rfl (by decide +kernel) (fl_bo rfl) ?_
    refine fl_Tq.stp (pc' := 15) (lv' := [some (.inr (.inr (.inl (0, 0)))), some (.inl a), some (.inl b), none, none, none]) (st' := [.inl (99999 : Int32), .inl (1 : Int32), .inl b]) (m' := (f, l)) rfl rfl (fl_bo rfl) rfl ?_
    refine fl_Tq.cal rfl rfl (fl_bo rfl) rfl ?_
    refine t2_within_q  ?_
    show fl_Tq _ 143 18 [some (.inr (.inr (.inl (0, 0)))), some (.inl a), some (.inl b), none, none, none] [.inl (t2_within_v b (1 : Int32) (99999 : Int32))] (f, l) _
    by_cases h2 : (t2_within_v b (1 : Int32) (99999 : Int32)).toInt = 0
    · refine fl_Tq.zf rfl (fl_bo rfl) (c1_ne_f h2) rfl ?_
      refine fl_Tq.cI (c := (-1 : Int32)) rfl (by decide +kernel) (fl_bo rfl) ?_
      refine fl_Tq.ret rfl rfl rfl ?_
      unfold x_hours_v at k
      simp only [if_neg h1, if_pos h2] at k
      exact k
    · refine fl_Tq.zt rfl (fl_bo rfl) (c1_ne_t h2) rfl ?_
      refine fl_Tq.cI (c := (0 : Int32)) rfl (by decide +kernel) (fl_bo rfl) ?_
      refine fl_Tq.stp (pc' := 25) (lv' := [some (.inr (.inr (.inl (0, 0)))), some (.inl a), some (.inl b), some (.inl (0 : Int32)), none, none]) (st' := []) (m' := (f, l)) rfl rfl (fl_bo rfl) rfl ?_
      refine fl_Tq.cI (c := (0 : Int32)) rfl (by decide +kernel) (fl_bo rfl) ?_
      refine fl_Tq.stp (pc' := 28) (lv' := [some (.inr (.inr (.inl (0, 0)))), some (.inl a), some (.inl b), some (.inl (0 : Int32)), some (.inl (0 : Int32)), none]) (st' := []) (m' := (f, l)) rfl rfl (fl_bo rfl) rfl ?_
      have hs28 : ∀ k28 : Nat, k28 < (f 1 5).toInt.toNat → fl_Tq (pw_P L xs) 143 28 [some (.inr (.inr (.inl (0, 0)))), some (.inl a), some (.inl b), some (.inl (x_hours_a28 f a b (k28 + 1))), some (.inl (Int32.ofNat (k28 + 1))), none] [] (f, l) Q → fl_Tq (pw_P L xs) 143 28 [some (.inr (.inr (.inl (0, 0)))), some (.inl a), some (.inl b), some (.inl (x_hours_a28 f a b k28)), some (.inl (Int32.ofNat k28)), none] [] (f, l) Q := by
        intro k28 hk28 hS
        refine fl_Tq.stp (pc' := 30) (lv' := [some (.inr (.inr (.inl (0, 0)))), some (.inl a), some (.inl b), some (.inl (x_hours_a28 f a b k28)), some (.inl (Int32.ofNat k28)), none]) (st' := [.inl (Int32.ofNat k28)]) (m' := (f, l)) rfl rfl (fl_bo rfl) rfl ?_
        refine fl_Tq.stp (pc' := 31) (lv' := [some (.inr (.inr (.inl (0, 0)))), some (.inl a), some (.inl b), some (.inl (x_hours_a28 f a b k28)), some (.inl (Int32.ofNat k28)), none]) (st' := [.inr (.inr (.inl (0, 0))), .inl (Int32.ofNat k28)]) (m' := (f, l)) rfl rfl (fl_bo rfl) rfl ?_
        refine fl_Tq.stp (pc' := 34) (lv' := [some (.inr (.inr (.inl (0, 0)))), some (.inl a), some (.inl b), some (.inl (x_hours_a28 f a b k28)), some (.inl (Int32.ofNat k28)), none]) (st' := [.inr (.inr (.inl (1, 1))), .inl (Int32.ofNat k28)]) (m' := (f, l)) rfl rfl (fl_bo rfl) rfl ?_
        refine fl_Tq.gfV (k := 5) (v := f 1 5) rfl (fl_bo rfl) rfl rfl ?_
        refine fl_Tq.jf rfl (fl_bo rfl) (c2_ge_f (t2_lk hk28 (t2_nn hc.1))) rfl ?_
        refine fl_Tq.stp (pc' := 41) (lv' := [some (.inr (.inr (.inl (0, 0)))), some (.inl a), some (.inl b), some (.inl (x_hours_a28 f a b k28)), some (.inl (Int32.ofNat k28)), none]) (st' := [.inr (.inr (.inl (0, 0)))]) (m' := (f, l)) rfl rfl (fl_bo rfl) rfl ?_
        refine fl_Tq.stp (pc' := 44) (lv' := [some (.inr (.inr (.inl (0, 0)))), some (.inl a), some (.inl b), some (.inl (x_hours_a28 f a b k28)), some (.inl (Int32.ofNat k28)), none]) (st' := [.inr (.inr (.inl (1, 1)))]) (m' := (f, l)) rfl rfl (fl_bo rfl) rfl ?_
        refine fl_Tq.stp (pc' := 47) (lv' := [some (.inr (.inr (.inl (0, 0)))), some (.inl a), some (.inl b), some (.inl (x_hours_a28 f a b k28)), some (.inl (Int32.ofNat k28)), none]) (st' := [.inr (.inr (.inl (2, 2)))]) (m' := (f, l)) rfl rfl (fl_bo rfl) rfl ?_
        refine fl_Tq.stp (pc' := 49) (lv' := [some (.inr (.inr (.inl (0, 0)))), some (.inl a), some (.inl b), some (.inl (x_hours_a28 f a b k28)), some (.inl (Int32.ofNat k28)), none]) (st' := [.inl (Int32.ofNat k28), .inr (.inr (.inl (2, 2)))]) (m' := (f, l)) rfl rfl (fl_bo rfl) rfl ?_
        refine fl_Tq.qld (p := 2) (τ := 2) (n := 16) (t := 18) (b := 16) (d := 3) (k := k28) rfl (fl_bo rfl) rfl (at_ofN (by omega)) (by omega) ?_
        show fl_Tq _ 143 50 [some (.inr (.inr (.inl (0, 0)))), some (.inl a), some (.inl b), some (.inl (x_hours_a28 f a b k28)), some (.inl (Int32.ofNat k28)), none] [.inr (.inr (.inl (18, 18 + 4 * k28)))] (f, l) _
        refine fl_Tq.stp (pc' := 52) (lv' := [some (.inr (.inr (.inl (0, 0)))), some (.inl a), some (.inl b), some (.inl (x_hours_a28 f a b k28)), some (.inl (Int32.ofNat k28)), some (.inr (.inr (.inl (18, 18 + 4 * k28))))]) (st' := []) (m' := (f, l)) rfl rfl (fl_oks_ok ⟨(t2_kc0 (by omega)), True.intro⟩) rfl ?_
        refine fl_Tq.stp (pc' := 53) (lv' := [some (.inr (.inr (.inl (0, 0)))), some (.inl a), some (.inl b), some (.inl (x_hours_a28 f a b k28)), some (.inl (Int32.ofNat k28)), some (.inr (.inr (.inl (18, 18 + 4 * k28))))]) (st' := [.inl (x_hours_a28 f a b k28)]) (m' := (f, l)) rfl rfl (fl_bo rfl) rfl ?_
        refine fl_Tq.stp (pc' := 54) (lv' := [some (.inr (.inr (.inl (0, 0)))), some (.inl a), some (.inl b), some (.inl (x_hours_a28 f a b k28)), some (.inl (Int32.ofNat k28)), some (.inr (.inr (.inl (18, 18 + 4 * k28))))]) (st' := [.inl a, .inl (x_hours_a28 f a b k28)]) (m' := (f, l)) rfl rfl (fl_bo rfl) rfl ?_
        refine fl_Tq.stp (pc' := 56) (lv' := [some (.inr (.inr (.inl (0, 0)))), some (.inl a), some (.inl b), some (.inl (x_hours_a28 f a b k28)), some (.inl (Int32.ofNat k28)), some (.inr (.inr (.inl (18, 18 + 4 * k28))))]) (st' := [.inr (.inr (.inl (18, 18 + 4 * k28))), .inl a, .inl (x_hours_a28 f a b k28)]) (m' := (f, l)) rfl rfl (fl_bo rfl) rfl ?_
        refine fl_Tq.gfV (k := 0) (v := f (18 + 4 * k28) 0) rfl (fl_oks_ok ⟨(t2_kc0 (by omega)), True.intro, True.intro, True.intro⟩) rfl rfl ?_
        refine fl_Tq.cal rfl rfl (fl_bo rfl) rfl ?_
        refine t2_chargeBy_q  ?_
        show fl_Tq _ 143 62 [some (.inr (.inr (.inl (0, 0)))), some (.inl a), some (.inl b), some (.inl (x_hours_a28 f a b k28)), some (.inl (Int32.ofNat k28)), some (.inr (.inr (.inl (18, 18 + 4 * k28))))] [.inl (t2_chargeBy_v a (f (18 + 4 * k28) 0)), .inl (x_hours_a28 f a b k28)] (f, l) _
        refine fl_Tq.stp (pc' := 64) (lv' := [some (.inr (.inr (.inl (0, 0)))), some (.inl a), some (.inl b), some (.inl (x_hours_a28 f a b k28)), some (.inl (Int32.ofNat k28)), some (.inr (.inr (.inl (18, 18 + 4 * k28))))]) (st' := [.inr (.inr (.inl (18, 18 + 4 * k28))), .inl (t2_chargeBy_v a (f (18 + 4 * k28) 0)), .inl (x_hours_a28 f a b k28)]) (m' := (f, l)) rfl rfl (fl_bo rfl) rfl ?_
        refine fl_Tq.gfV (k := 2) (v := f (18 + 4 * k28) 2) rfl (fl_oks_ok ⟨(t2_kc0 (by omega)), True.intro, True.intro, True.intro⟩) rfl rfl ?_
        refine fl_Tq.stp (pc' := 68) (lv' := [some (.inr (.inr (.inl (0, 0)))), some (.inl a), some (.inl b), some (.inl (x_hours_a28 f a b k28)), some (.inl (Int32.ofNat k28)), some (.inr (.inr (.inl (18, 18 + 4 * k28))))]) (st' := [.inl ((t2_chargeBy_v a (f (18 + 4 * k28) 0)) - (f (18 + 4 * k28) 2)), .inl (x_hours_a28 f a b k28)]) (m' := (f, l)) rfl rfl (fl_bo rfl) rfl ?_
        refine fl_Tq.cal rfl rfl (fl_bo rfl) rfl ?_
        refine t2_max_q  ?_
        show fl_Tq _ 143 71 [some (.inr (.inr (.inl (0, 0)))), some (.inl a), some (.inl b), some (.inl (x_hours_a28 f a b k28)), some (.inl (Int32.ofNat k28)), some (.inr (.inr (.inl (18, 18 + 4 * k28))))] [.inl (t2_max_v (x_hours_a28 f a b k28) ((t2_chargeBy_v a (f (18 + 4 * k28) 0)) - (f (18 + 4 * k28) 2)))] (f, l) _
        refine fl_Tq.stp (pc' := 72) (lv' := [some (.inr (.inr (.inl (0, 0)))), some (.inl a), some (.inl b), some (.inl (t2_max_v (x_hours_a28 f a b k28) ((t2_chargeBy_v a (f (18 + 4 * k28) 0)) - (f (18 + 4 * k28) 2)))), some (.inl (Int32.ofNat k28)), some (.inr (.inr (.inl (18, 18 + 4 * k28))))]) (st' := []) (m' := (f, l)) rfl rfl (fl_bo rfl) rfl ?_
        refine fl_Tq.stp (pc' := 75) (lv' := [some (.inr (.inr (.inl (0, 0)))), some (.inl a), some (.inl b), some (.inl (t2_max_v (x_hours_a28 f a b k28) ((t2_chargeBy_v a (f (18 + 4 * k28) 0)) - (f (18 + 4 * k28) 2)))), some (.inl ((Int32.ofNat k28) + (1 : Int32))), some (.inr (.inr (.inl (18, 18 + 4 * k28))))]) (st' := []) (m' := (f, l)) rfl rfl (fl_bo rfl) rfl ?_
        refine fl_Tq.stp (pc' := 28) (lv' := [some (.inr (.inr (.inl (0, 0)))), some (.inl a), some (.inl b), some (.inl (t2_max_v (x_hours_a28 f a b k28) ((t2_chargeBy_v a (f (18 + 4 * k28) 0)) - (f (18 + 4 * k28) 2)))), some (.inl ((Int32.ofNat k28) + (1 : Int32))), some (.inr (.inr (.inl (18, 18 + 4 * k28))))]) (st' := []) (m' := (f, l)) rfl rfl (fl_bo rfl) rfl ?_
        have ea : x_hours_a28 f a b (k28 + 1) = t2_max_v (x_hours_a28 f a b k28) ((t2_chargeBy_v a (f (18 + 4 * k28) 0)) - (f (18 + 4 * k28) 2)) := by
          show (t2_max_v (x_hours_a28 f a b k28) ((t2_chargeBy_v a (f (18 + 4 * k28) 0)) - (f (18 + 4 * k28) 2))) = _
          rfl
        rw [ea, ← t2_k1] at hS
        exact fl_Tq.fg hS ⟨rfl, rfl, rfl, rfl, rfl, True.intro⟩
      refine t2_for (S := fun k28 => fl_Tq (pw_P L xs) 143 28 [some (.inr (.inr (.inl (0, 0)))), some (.inl a), some (.inl b), some (.inl (x_hours_a28 f a b k28)), some (.inl (Int32.ofNat k28)), none] [] (f, l) Q) hs28 ?_
      show fl_Tq (pw_P L xs) 143 28 [some (.inr (.inr (.inl (0, 0)))), some (.inl a), some (.inl b), some (.inl (x_hours_a28 f a b ((f 1 5).toInt.toNat))), some (.inl (Int32.ofNat ((f 1 5).toInt.toNat))), none] [] (f, l) _
      refine fl_Tq.stp (pc' := 30) (lv' := [some (.inr (.inr (.inl (0, 0)))), some (.inl a), some (.inl b), some (.inl (x_hours_a28 f a b ((f 1 5).toInt.toNat))), some (.inl (Int32.ofNat ((f 1 5).toInt.toNat))), none]) (st' := [.inl (Int32.ofNat ((f 1 5).toInt.toNat))]) (m' := (f, l)) rfl rfl (fl_bo rfl) rfl ?_
      refine fl_Tq.stp (pc' := 31) (lv' := [some (.inr (.inr (.inl (0, 0)))), some (.inl a), some (.inl b), some (.inl (x_hours_a28 f a b ((f 1 5).toInt.toNat))), some (.inl (Int32.ofNat ((f 1 5).toInt.toNat))), none]) (st' := [.inr (.inr (.inl (0, 0))), .inl (Int32.ofNat ((f 1 5).toInt.toNat))]) (m' := (f, l)) rfl rfl (fl_bo rfl) rfl ?_
      refine fl_Tq.stp (pc' := 34) (lv' := [some (.inr (.inr (.inl (0, 0)))), some (.inl a), some (.inl b), some (.inl (x_hours_a28 f a b ((f 1 5).toInt.toNat))), some (.inl (Int32.ofNat ((f 1 5).toInt.toNat))), none]) (st' := [.inr (.inr (.inl (1, 1))), .inl (Int32.ofNat ((f 1 5).toInt.toNat))]) (m' := (f, l)) rfl rfl (fl_bo rfl) rfl ?_
      refine fl_Tq.gfV (k := 5) (v := f 1 5) rfl (fl_bo rfl) rfl rfl ?_
      refine fl_Tq.jt rfl (fl_bo rfl) (c2_ge_t (t2_ln (t2_nn hc.1))) rfl ?_
      refine fl_Tq.stp (pc' := 79) (lv' := [some (.inr (.inr (.inl (0, 0)))), some (.inl a), some (.inl b), some (.inl (x_hours_a28 f a b ((f 1 5).toInt.toNat))), some (.inl (Int32.ofNat ((f 1 5).toInt.toNat))), none]) (st' := [.inl b]) (m' := (f, l)) rfl rfl (fl_bo rfl) rfl ?_
      refine fl_Tq.cS (c := (3600 : Int32)) rfl (by decide +kernel) (fl_bo rfl) ?_
      refine fl_Tq.stp (pc' := 83) (lv' := [some (.inr (.inr (.inl (0, 0)))), some (.inl a), some (.inl b), some (.inl (x_hours_a28 f a b ((f 1 5).toInt.toNat))), some (.inl (Int32.ofNat ((f 1 5).toInt.toNat))), none]) (st' := [.inl (b * (3600 : Int32))]) (m' := (f, l)) rfl rfl (fl_bo rfl) rfl ?_
      refine fl_Tq.stp (pc' := 85) (lv' := [some (.inr (.inr (.inl (0, 0)))), some (.inl a), some (.inl b), some (.inl (x_hours_a28 f a b ((f 1 5).toInt.toNat))), some (.inl (b * (3600 : Int32))), none]) (st' := []) (m' := (f, l)) rfl rfl (fl_bo rfl) rfl ?_
      refine fl_Tq.stp (pc' := 86) (lv' := [some (.inr (.inr (.inl (0, 0)))), some (.inl a), some (.inl b), some (.inl (x_hours_a28 f a b ((f 1 5).toInt.toNat))), some (.inl (b * (3600 : Int32))), none]) (st' := [.inl (x_hours_a28 f a b ((f 1 5).toInt.toNat))]) (m' := (f, l)) rfl rfl (fl_bo rfl) rfl ?_
      refine fl_Tq.stp (pc' := 87) (lv' := [some (.inr (.inr (.inl (0, 0)))), some (.inl a), some (.inl b), some (.inl (x_hours_a28 f a b ((f 1 5).toInt.toNat))), some (.inl (b * (3600 : Int32))), none]) (st' := [.inr (.inl ((x_hours_a28 f a b ((f 1 5).toInt.toNat)).toInt64))]) (m' := (f, l)) rfl rfl (fl_bo rfl) rfl ?_
      refine fl_Tq.stp (pc' := 89) (lv' := [some (.inr (.inr (.inl (0, 0)))), some (.inl a), some (.inl b), some (.inl (x_hours_a28 f a b ((f 1 5).toInt.toNat))), some (.inl (b * (3600 : Int32))), none]) (st' := [.inl (b * (3600 : Int32)), .inr (.inl ((x_hours_a28 f a b ((f 1 5).toInt.toNat)).toInt64))]) (m' := (f, l)) rfl rfl (fl_bo rfl) rfl ?_
      refine fl_Tq.stp (pc' := 90) (lv' := [some (.inr (.inr (.inl (0, 0)))), some (.inl a), some (.inl b), some (.inl (x_hours_a28 f a b ((f 1 5).toInt.toNat))), some (.inl (b * (3600 : Int32))), none]) (st' := [.inr (.inl ((b * (3600 : Int32)).toInt64)), .inr (.inl ((x_hours_a28 f a b ((f 1 5).toInt.toNat)).toInt64))]) (m' := (f, l)) rfl rfl (fl_bo rfl) rfl ?_
      refine fl_Tq.stp (pc' := 91) (lv' := [some (.inr (.inr (.inl (0, 0)))), some (.inl a), some (.inl b), some (.inl (x_hours_a28 f a b ((f 1 5).toInt.toNat))), some (.inl (b * (3600 : Int32))), none]) (st' := [.inr (.inl (((x_hours_a28 f a b ((f 1 5).toInt.toNat)).toInt64) + ((b * (3600 : Int32)).toInt64)))]) (m' := (f, l)) rfl rfl (fl_bo rfl) rfl ?_
      refine fl_Tq.stp (pc' := 92) (lv' := [some (.inr (.inr (.inl (0, 0)))), some (.inl a), some (.inl b), some (.inl (x_hours_a28 f a b ((f 1 5).toInt.toNat))), some (.inl (b * (3600 : Int32))), none]) (st' := [.inr (.inl (1 : Int64)), .inr (.inl (((x_hours_a28 f a b ((f 1 5).toInt.toNat)).toInt64) + ((b * (3600 : Int32)).toInt64)))]) (m' := (f, l)) rfl rfl (fl_bo rfl) rfl ?_
      refine fl_Tq.stp (pc' := 93) (lv' := [some (.inr (.inr (.inl (0, 0)))), some (.inl a), some (.inl b), some (.inl (x_hours_a28 f a b ((f 1 5).toInt.toNat))), some (.inl (b * (3600 : Int32))), none]) (st' := [.inr (.inl ((((x_hours_a28 f a b ((f 1 5).toInt.toNat)).toInt64) + ((b * (3600 : Int32)).toInt64)) - (1 : Int64)))]) (m' := (f, l)) rfl rfl (fl_bo rfl) rfl ?_
      refine fl_Tq.stp (pc' := 95) (lv' := [some (.inr (.inr (.inl (0, 0)))), some (.inl a), some (.inl b), some (.inl (x_hours_a28 f a b ((f 1 5).toInt.toNat))), some (.inl (b * (3600 : Int32))), none]) (st' := [.inl (b * (3600 : Int32)), .inr (.inl ((((x_hours_a28 f a b ((f 1 5).toInt.toNat)).toInt64) + ((b * (3600 : Int32)).toInt64)) - (1 : Int64)))]) (m' := (f, l)) rfl rfl (fl_bo rfl) rfl ?_
      refine fl_Tq.stp (pc' := 96) (lv' := [some (.inr (.inr (.inl (0, 0)))), some (.inl a), some (.inl b), some (.inl (x_hours_a28 f a b ((f 1 5).toInt.toNat))), some (.inl (b * (3600 : Int32))), none]) (st' := [.inr (.inl ((b * (3600 : Int32)).toInt64)), .inr (.inl ((((x_hours_a28 f a b ((f 1 5).toInt.toNat)).toInt64) + ((b * (3600 : Int32)).toInt64)) - (1 : Int64)))]) (m' := (f, l)) rfl rfl (fl_bo rfl) rfl ?_
      refine fl_Tq.dvJ rfl (fl_bo rfl) (t2_hour_nz64 h2) ?_
      refine fl_Tq.stp (pc' := 98) (lv' := [some (.inr (.inr (.inl (0, 0)))), some (.inl a), some (.inl b), some (.inl (x_hours_a28 f a b ((f 1 5).toInt.toNat))), some (.inl (b * (3600 : Int32))), none]) (st' := [.inl ((((((x_hours_a28 f a b ((f 1 5).toInt.toNat)).toInt64) + ((b * (3600 : Int32)).toInt64)) - (1 : Int64)) / ((b * (3600 : Int32)).toInt64)).toInt32)]) (m' := (f, l)) rfl rfl (fl_bo rfl) rfl ?_
      refine fl_Tq.ret rfl rfl rfl ?_
      unfold x_hours_v at k
      simp only [if_neg h1, if_neg h2] at k
      exact k
noncomputable def y_hours_a28 (f : t2_F) (a b : Int32) : Nat → Int32
  | 0 => (0 : Int32)
  | k28 + 1 => if (y_hours_a28 f a b k28).toInt < ((r_chargeAt_v f (Int32.ofNat k28) k28 a) - (f 280 (444 + 61 * k28 + 1))).toInt then (r_chargeAt_v f (Int32.ofNat k28) k28 a) - (f 280 (444 + 61 * k28 + 1)) else y_hours_a28 f a b k28
noncomputable def y_hours_v (f : t2_F) (a b : Int32) : Int32 := if (r_isIn_v a (0 : Int32) (1000 : Int32)).toInt = 0 then (-1 : Int32) else (if (r_isIn_v b (1 : Int32) (99999 : Int32)).toInt = 0 then (-1 : Int32) else ((y_hours_a28 f a b ((f 280 2).toInt.toNat)) / ((3600 : Int32) * b)) + (if 0 < ((y_hours_a28 f a b ((f 280 2).toInt.toNat)) - (y_hours_a28 f a b ((f 280 2).toInt.toNat)) / ((3600 : Int32) * b) * ((3600 : Int32) * b)).toInt then (1 : Int32) else (0 : Int32)))
theorem y_hours_q {L : Nat} {xs : Nat → Int32} {f : t2_F} {l : t2_L} {Q : Option fl_V → fl_M → Prop} {a b : Int32} (hn : 0 ≤ (f 280 2).toInt ∧ (f 280 2).toInt ≤ 16) (hk : ∀ C : Nat, (C : Int) < (f 280 2).toInt → t2_ck f C) (k : Q (some (.inl (y_hours_v f a b))) (f, l)) : fl_Tq (pw_P L xs) 309 0 (fl_args (am_mxl (pw_P L xs) 309) [.inr (.inr (.inl (76, 277))), .inl a, .inl b]) [] (f, l) Q := by
  refine fl_Tq.stp (pc' := 1) (lv' := [some (.inr (.inr (.inl (76, 277)))), some (.inl a), some (.inl b), none, none]) (st' := [.inl a]) (m' := (f, l)) rfl rfl (fl_bo rfl) rfl ?_
  refine fl_Tq.cI (c := (0 : Int32)) rfl (by decide +kernel) (fl_bo rfl) ?_
  refine fl_Tq.cS (c := (1000 : Int32)) rfl (by decide +kernel) (fl_bo rfl) ?_
  refine fl_Tq.cal rfl rfl (fl_bo rfl) rfl ?_
  refine r_isIn_q  ?_
  show fl_Tq _ 309 8 [some (.inr (.inr (.inl (76, 277)))), some (.inl a), some (.inl b), none, none] [.inl (r_isIn_v a (0 : Int32) (1000 : Int32))] (f, l) _
  by_cases h1 : (r_isIn_v a (0 : Int32) (1000 : Int32)).toInt = 0
  · refine fl_Tq.zt rfl (fl_bo rfl) (c1_eq_t h1) rfl ?_
    refine fl_Tq.cI (c := (-1 : Int32)) rfl (by decide +kernel) (fl_bo rfl) ?_
    refine fl_Tq.ret rfl rfl rfl ?_
    unfold y_hours_v at k
    simp only [if_pos h1] at k
    exact k
  · refine fl_Tq.zf rfl (fl_bo rfl) (c1_eq_f h1) rfl ?_
    refine fl_Tq.stp (pc' := 12) (lv' := [some (.inr (.inr (.inl (76, 277)))), some (.inl a), some (.inl b), none, none]) (st' := [.inl b]) (m' := (f, l)) rfl rfl (fl_bo rfl) rfl ?_
    refine fl_Tq.cI (c := (1 : Int32)) rfl (by decide +kernel) (fl_bo rfl) ?_
    refine fl_Tq.stp (pc' := 15) (lv' := [some (.inr (.inr (.inl (76, 277)))), some (.inl a), some (.inl b), none, none]) (st' := [.inl (99999 : Int32), .inl (1 : Int32), .inl b]) (m' := (f, l)) rfl rfl (fl_bo rfl) rfl ?_
    refine fl_Tq.cal rfl rfl (fl_bo rfl) rfl ?_
    refine r_isIn_q  ?_
    show fl_Tq _ 309 18 [some (.inr (.inr (.inl (76, 277)))), some (.inl a), some (.inl b), none, none] [.inl (r_isIn_v b (1 : Int32) (99999 : Int32))] (f, l) _
    by_cases h2 : (r_isIn_v b (1 : Int32) (99999 : Int32)).toInt = 0
    · refine fl_Tq.zf rfl (fl_bo rfl) (c1_ne_f h2) rfl ?_
      refine fl_Tq.cI (c := (-1 : Int32)) rfl (by decide +kernel) (fl_bo rfl) ?_
      refine fl_Tq.ret rfl rfl rfl ?_
      unfold y_hours_v at k
      simp only [if_neg h1, if_pos h2] at k
      exact k
    · refine fl_Tq.zt rfl (fl_bo rfl) (c1_ne_t h2) rfl ?_
      refine fl_Tq.cI (c := (0 : Int32)) rfl (by decide +kernel) (fl_bo rfl) ?_
      refine fl_Tq.stp (pc' := 25) (lv' := [some (.inr (.inr (.inl (76, 277)))), some (.inl a), some (.inl b), some (.inl (0 : Int32)), none]) (st' := []) (m' := (f, l)) rfl rfl (fl_bo rfl) rfl ?_
      refine fl_Tq.cI (c := (0 : Int32)) rfl (by decide +kernel) (fl_bo rfl) ?_
      refine fl_Tq.stp (pc' := 28) (lv' := [some (.inr (.inr (.inl (76, 277)))), some (.inl a), some (.inl b), some (.inl (0 : Int32)), some (.inl (0 : Int32))]) (st' := []) (m' := (f, l)) rfl rfl (fl_bo rfl) rfl ?_
      have hs28 : ∀ k28 : Nat, k28 < (f 280 2).toInt.toNat → fl_Tq (pw_P L xs) 309 28 [some (.inr (.inr (.inl (76, 277)))), some (.inl a), some (.inl b), some (.inl (y_hours_a28 f a b (k28 + 1))), some (.inl (Int32.ofNat (k28 + 1)))] [] (f, l) Q → fl_Tq (pw_P L xs) 309 28 [some (.inr (.inr (.inl (76, 277)))), some (.inl a), some (.inl b), some (.inl (y_hours_a28 f a b k28)), some (.inl (Int32.ofNat k28))] [] (f, l) Q := by
        intro k28 hk28 hS
        refine fl_Tq.stp (pc' := 30) (lv' := [some (.inr (.inr (.inl (76, 277)))), some (.inl a), some (.inl b), some (.inl (y_hours_a28 f a b k28)), some (.inl (Int32.ofNat k28))]) (st' := [.inl (Int32.ofNat k28)]) (m' := (f, l)) rfl rfl (fl_bo rfl) rfl ?_
        refine fl_Tq.stp (pc' := 31) (lv' := [some (.inr (.inr (.inl (76, 277)))), some (.inl a), some (.inl b), some (.inl (y_hours_a28 f a b k28)), some (.inl (Int32.ofNat k28))]) (st' := [.inr (.inr (.inl (76, 277))), .inl (Int32.ofNat k28)]) (m' := (f, l)) rfl rfl (fl_bo rfl) rfl ?_
        refine fl_Tq.stp (pc' := 34) (lv' := [some (.inr (.inr (.inl (76, 277)))), some (.inl a), some (.inl b), some (.inl (y_hours_a28 f a b k28)), some (.inl (Int32.ofNat k28))]) (st' := [.inr (.inr (.inl (79, 280))), .inl (Int32.ofNat k28)]) (m' := (f, l)) rfl rfl (fl_bo rfl) rfl ?_
        refine fl_Tq.cI (c := (2 : Int32)) rfl (by decide +kernel) (fl_bo rfl) ?_
        refine fl_Tq.ldV (p := 280) (τ := 79) (n := 29780) (z := (0, 0, 0)) (k := 2) (v := f 280 2) rfl (fl_bo rfl) rfl (by decide +kernel) (by decide) rfl ?_
        refine fl_Tq.jf rfl (fl_bo rfl) (c2_ge_f (t2_lk hk28 (t2_nn hn.1))) rfl ?_
        refine fl_Tq.stp (pc' := 40) (lv' := [some (.inr (.inr (.inl (76, 277)))), some (.inl a), some (.inl b), some (.inl (y_hours_a28 f a b k28)), some (.inl (Int32.ofNat k28))]) (st' := [.inr (.inr (.inl (76, 277)))]) (m' := (f, l)) rfl rfl (fl_bo rfl) rfl ?_
        refine fl_Tq.stp (pc' := 42) (lv' := [some (.inr (.inr (.inl (76, 277)))), some (.inl a), some (.inl b), some (.inl (y_hours_a28 f a b k28)), some (.inl (Int32.ofNat k28))]) (st' := [.inl (Int32.ofNat k28), .inr (.inr (.inl (76, 277)))]) (m' := (f, l)) rfl rfl (fl_bo rfl) rfl ?_
        refine fl_Tq.stp (pc' := 43) (lv' := [some (.inr (.inr (.inl (76, 277)))), some (.inl a), some (.inl b), some (.inl (y_hours_a28 f a b k28)), some (.inl (Int32.ofNat k28))]) (st' := [.inl a, .inl (Int32.ofNat k28), .inr (.inr (.inl (76, 277)))]) (m' := (f, l)) rfl rfl (fl_bo rfl) rfl ?_
        refine fl_Tq.cal rfl rfl (fl_bo rfl) rfl ?_
        refine r_chargeAt_q (at_ofN (by omega)) (by omega) ?_
        show fl_Tq _ 309 46 [some (.inr (.inr (.inl (76, 277)))), some (.inl a), some (.inl b), some (.inl (y_hours_a28 f a b k28)), some (.inl (Int32.ofNat k28))] [.inl (r_chargeAt_v f (Int32.ofNat k28) k28 a)] (f, l) _
        refine fl_Tq.stp (pc' := 47) (lv' := [some (.inr (.inr (.inl (76, 277)))), some (.inl a), some (.inl b), some (.inl (y_hours_a28 f a b k28)), some (.inl (Int32.ofNat k28))]) (st' := [.inr (.inr (.inl (76, 277))), .inl (r_chargeAt_v f (Int32.ofNat k28) k28 a)]) (m' := (f, l)) rfl rfl (fl_bo rfl) rfl ?_
        refine fl_Tq.stp (pc' := 49) (lv' := [some (.inr (.inr (.inl (76, 277)))), some (.inl a), some (.inl b), some (.inl (y_hours_a28 f a b k28)), some (.inl (Int32.ofNat k28))]) (st' := [.inl (Int32.ofNat k28), .inr (.inr (.inl (76, 277))), .inl (r_chargeAt_v f (Int32.ofNat k28) k28 a)]) (m' := (f, l)) rfl rfl (fl_bo rfl) rfl ?_
        refine fl_Tq.cI (c := (1 : Int32)) rfl (by decide +kernel) (fl_bo rfl) ?_
        refine fl_Tq.cal rfl rfl (fl_bo rfl) rfl ?_
        refine t2_get (C := k28) (W := 1) (v := f 280 (444 + 61 * k28 + 1)) (at_ofN (by omega)) (by decide +kernel) (by omega) (by decide) rfl ?_
        show fl_Tq _ 309 53 [some (.inr (.inr (.inl (76, 277)))), some (.inl a), some (.inl b), some (.inl (y_hours_a28 f a b k28)), some (.inl (Int32.ofNat k28))] [.inl (f 280 (444 + 61 * k28 + 1)), .inl (r_chargeAt_v f (Int32.ofNat k28) k28 a)] (f, l) _
        refine fl_Tq.stp (pc' := 54) (lv' := [some (.inr (.inr (.inl (76, 277)))), some (.inl a), some (.inl b), some (.inl (y_hours_a28 f a b k28)), some (.inl (Int32.ofNat k28))]) (st' := [.inl ((r_chargeAt_v f (Int32.ofNat k28) k28 a) - (f 280 (444 + 61 * k28 + 1)))]) (m' := (f, l)) rfl rfl (fl_bo rfl) rfl ?_
        refine fl_Tq.stp (pc' := 55) (lv' := [some (.inr (.inr (.inl (76, 277)))), some (.inl a), some (.inl b), some (.inl (y_hours_a28 f a b k28)), some (.inl (Int32.ofNat k28))]) (st' := [.inl (y_hours_a28 f a b k28), .inl ((r_chargeAt_v f (Int32.ofNat k28) k28 a) - (f 280 (444 + 61 * k28 + 1)))]) (m' := (f, l)) rfl rfl (fl_bo rfl) rfl ?_
        have hj190 : fl_Tq (pw_P L xs) 309 77 [some (.inr (.inr (.inl (76, 277)))), some (.inl a), some (.inl b), some (.inl (y_hours_a28 f a b k28)), some (.inl (Int32.ofNat k28))] [.inl (if (y_hours_a28 f a b k28).toInt < ((r_chargeAt_v f (Int32.ofNat k28) k28 a) - (f 280 (444 + 61 * k28 + 1))).toInt then (r_chargeAt_v f (Int32.ofNat k28) k28 a) - (f 280 (444 + 61 * k28 + 1)) else y_hours_a28 f a b k28)] (f, l) Q → fl_Tq (pw_P L xs) 309 55 [some (.inr (.inr (.inl (76, 277)))), some (.inl a), some (.inl b), some (.inl (y_hours_a28 f a b k28)), some (.inl (Int32.ofNat k28))] [.inl (y_hours_a28 f a b k28), .inl ((r_chargeAt_v f (Int32.ofNat k28) k28 a) - (f 280 (444 + 61 * k28 + 1)))] (f, l) Q := by
          intro hJ
          by_cases h3 : (y_hours_a28 f a b k28).toInt < ((r_chargeAt_v f (Int32.ofNat k28) k28 a) - (f 280 (444 + 61 * k28 + 1))).toInt
          · refine fl_Tq.jf rfl (fl_bo rfl) (c2_le_f h3) rfl ?_
            refine fl_Tq.stp (pc' := 59) (lv' := [some (.inr (.inr (.inl (76, 277)))), some (.inl a), some (.inl b), some (.inl (y_hours_a28 f a b k28)), some (.inl (Int32.ofNat k28))]) (st' := [.inr (.inr (.inl (76, 277)))]) (m' := (f, l)) rfl rfl (fl_bo rfl) rfl ?_
            refine fl_Tq.stp (pc' := 61) (lv' := [some (.inr (.inr (.inl (76, 277)))), some (.inl a), some (.inl b), some (.inl (y_hours_a28 f a b k28)), some (.inl (Int32.ofNat k28))]) (st' := [.inl (Int32.ofNat k28), .inr (.inr (.inl (76, 277)))]) (m' := (f, l)) rfl rfl (fl_bo rfl) rfl ?_
            refine fl_Tq.stp (pc' := 62) (lv' := [some (.inr (.inr (.inl (76, 277)))), some (.inl a), some (.inl b), some (.inl (y_hours_a28 f a b k28)), some (.inl (Int32.ofNat k28))]) (st' := [.inl a, .inl (Int32.ofNat k28), .inr (.inr (.inl (76, 277)))]) (m' := (f, l)) rfl rfl (fl_bo rfl) rfl ?_
            refine fl_Tq.cal rfl rfl (fl_bo rfl) rfl ?_
            refine r_chargeAt_q (at_ofN (by omega)) (by omega) ?_
            show fl_Tq _ 309 65 [some (.inr (.inr (.inl (76, 277)))), some (.inl a), some (.inl b), some (.inl (y_hours_a28 f a b k28)), some (.inl (Int32.ofNat k28))] [.inl (r_chargeAt_v f (Int32.ofNat k28) k28 a)] (f, l) _
            refine fl_Tq.stp (pc' := 66) (lv' := [some (.inr (.inr (.inl (76, 277)))), some (.inl a), some (.inl b), some (.inl (y_hours_a28 f a b k28)), some (.inl (Int32.ofNat k28))]) (st' := [.inr (.inr (.inl (76, 277))), .inl (r_chargeAt_v f (Int32.ofNat k28) k28 a)]) (m' := (f, l)) rfl rfl (fl_bo rfl) rfl ?_
            refine fl_Tq.stp (pc' := 68) (lv' := [some (.inr (.inr (.inl (76, 277)))), some (.inl a), some (.inl b), some (.inl (y_hours_a28 f a b k28)), some (.inl (Int32.ofNat k28))]) (st' := [.inl (Int32.ofNat k28), .inr (.inr (.inl (76, 277))), .inl (r_chargeAt_v f (Int32.ofNat k28) k28 a)]) (m' := (f, l)) rfl rfl (fl_bo rfl) rfl ?_
            refine fl_Tq.cI (c := (1 : Int32)) rfl (by decide +kernel) (fl_bo rfl) ?_
            refine fl_Tq.cal rfl rfl (fl_bo rfl) rfl ?_
            refine t2_get (C := k28) (W := 1) (v := f 280 (444 + 61 * k28 + 1)) (at_ofN (by omega)) (by decide +kernel) (by omega) (by decide) rfl ?_
            show fl_Tq _ 309 72 [some (.inr (.inr (.inl (76, 277)))), some (.inl a), some (.inl b), some (.inl (y_hours_a28 f a b k28)), some (.inl (Int32.ofNat k28))] [.inl (f 280 (444 + 61 * k28 + 1)), .inl (r_chargeAt_v f (Int32.ofNat k28) k28 a)] (f, l) _
            refine fl_Tq.stp (pc' := 73) (lv' := [some (.inr (.inr (.inl (76, 277)))), some (.inl a), some (.inl b), some (.inl (y_hours_a28 f a b k28)), some (.inl (Int32.ofNat k28))]) (st' := [.inl ((r_chargeAt_v f (Int32.ofNat k28) k28 a) - (f 280 (444 + 61 * k28 + 1)))]) (m' := (f, l)) rfl rfl (fl_bo rfl) rfl ?_
            refine fl_Tq.stp (pc' := 77) (lv' := [some (.inr (.inr (.inl (76, 277)))), some (.inl a), some (.inl b), some (.inl (y_hours_a28 f a b k28)), some (.inl (Int32.ofNat k28))]) (st' := [.inl ((r_chargeAt_v f (Int32.ofNat k28) k28 a) - (f 280 (444 + 61 * k28 + 1)))]) (m' := (f, l)) rfl rfl (fl_bo rfl) rfl ?_
            have e0 : (if (y_hours_a28 f a b k28).toInt < ((r_chargeAt_v f (Int32.ofNat k28) k28 a) - (f 280 (444 + 61 * k28 + 1))).toInt then (r_chargeAt_v f (Int32.ofNat k28) k28 a) - (f 280 (444 + 61 * k28 + 1)) else y_hours_a28 f a b k28) = (r_chargeAt_v f (Int32.ofNat k28) k28 a) - (f 280 (444 + 61 * k28 + 1)) := by simp only [if_pos h3]
            rw [e0] at hJ
            exact hJ
          · refine fl_Tq.jt rfl (fl_bo rfl) (c2_le_t h3) rfl ?_
            refine fl_Tq.stp (pc' := 77) (lv' := [some (.inr (.inr (.inl (76, 277)))), some (.inl a), some (.inl b), some (.inl (y_hours_a28 f a b k28)), some (.inl (Int32.ofNat k28))]) (st' := [.inl (y_hours_a28 f a b k28)]) (m' := (f, l)) rfl rfl (fl_bo rfl) rfl ?_
            have e0 : (if (y_hours_a28 f a b k28).toInt < ((r_chargeAt_v f (Int32.ofNat k28) k28 a) - (f 280 (444 + 61 * k28 + 1))).toInt then (r_chargeAt_v f (Int32.ofNat k28) k28 a) - (f 280 (444 + 61 * k28 + 1)) else y_hours_a28 f a b k28) = y_hours_a28 f a b k28 := by simp only [if_neg h3]
            rw [e0] at hJ
            exact hJ
        refine hj190 ?_
        show fl_Tq _ 309 77 [some (.inr (.inr (.inl (76, 277)))), some (.inl a), some (.inl b), some (.inl (y_hours_a28 f a b k28)), some (.inl (Int32.ofNat k28))] [.inl (if (y_hours_a28 f a b k28).toInt < ((r_chargeAt_v f (Int32.ofNat k28) k28 a) - (f 280 (444 + 61 * k28 + 1))).toInt then (r_chargeAt_v f (Int32.ofNat k28) k28 a) - (f 280 (444 + 61 * k28 + 1)) else y_hours_a28 f a b k28)] (f, l) _
        refine fl_Tq.stp (pc' := 78) (lv' := [some (.inr (.inr (.inl (76, 277)))), some (.inl a), some (.inl b), some (.inl (if (y_hours_a28 f a b k28).toInt < ((r_chargeAt_v f (Int32.ofNat k28) k28 a) - (f 280 (444 + 61 * k28 + 1))).toInt then (r_chargeAt_v f (Int32.ofNat k28) k28 a) - (f 280 (444 + 61 * k28 + 1)) else y_hours_a28 f a b k28)), some (.inl (Int32.ofNat k28))]) (st' := []) (m' := (f, l)) rfl rfl (fl_bo rfl) rfl ?_
        refine fl_Tq.stp (pc' := 81) (lv' := [some (.inr (.inr (.inl (76, 277)))), some (.inl a), some (.inl b), some (.inl (if (y_hours_a28 f a b k28).toInt < ((r_chargeAt_v f (Int32.ofNat k28) k28 a) - (f 280 (444 + 61 * k28 + 1))).toInt then (r_chargeAt_v f (Int32.ofNat k28) k28 a) - (f 280 (444 + 61 * k28 + 1)) else y_hours_a28 f a b k28)), some (.inl ((Int32.ofNat k28) + (1 : Int32)))]) (st' := []) (m' := (f, l)) rfl rfl (fl_bo rfl) rfl ?_
        refine fl_Tq.stp (pc' := 28) (lv' := [some (.inr (.inr (.inl (76, 277)))), some (.inl a), some (.inl b), some (.inl (if (y_hours_a28 f a b k28).toInt < ((r_chargeAt_v f (Int32.ofNat k28) k28 a) - (f 280 (444 + 61 * k28 + 1))).toInt then (r_chargeAt_v f (Int32.ofNat k28) k28 a) - (f 280 (444 + 61 * k28 + 1)) else y_hours_a28 f a b k28)), some (.inl ((Int32.ofNat k28) + (1 : Int32)))]) (st' := []) (m' := (f, l)) rfl rfl (fl_bo rfl) rfl ?_
        have ea : y_hours_a28 f a b (k28 + 1) = if (y_hours_a28 f a b k28).toInt < ((r_chargeAt_v f (Int32.ofNat k28) k28 a) - (f 280 (444 + 61 * k28 + 1))).toInt then (r_chargeAt_v f (Int32.ofNat k28) k28 a) - (f 280 (444 + 61 * k28 + 1)) else y_hours_a28 f a b k28 := by
          show (if (y_hours_a28 f a b k28).toInt < ((r_chargeAt_v f (Int32.ofNat k28) k28 a) - (f 280 (444 + 61 * k28 + 1))).toInt then (r_chargeAt_v f (Int32.ofNat k28) k28 a) - (f 280 (444 + 61 * k28 + 1)) else y_hours_a28 f a b k28) = _
          rfl
        rw [ea, ← t2_k1] at hS
        exact hS
      refine t2_for (S := fun k28 => fl_Tq (pw_P L xs) 309 28 [some (.inr (.inr (.inl (76, 277)))), some (.inl a), some (.inl b), some (.inl (y_hours_a28 f a b k28)), some (.inl (Int32.ofNat k28))] [] (f, l) Q) hs28 ?_
      show fl_Tq (pw_P L xs) 309 28 [some (.inr (.inr (.inl (76, 277)))), some (.inl a), some (.inl b), some (.inl (y_hours_a28 f a b ((f 280 2).toInt.toNat))), some (.inl (Int32.ofNat ((f 280 2).toInt.toNat)))] [] (f, l) _
      refine fl_Tq.stp (pc' := 30) (lv' := [some (.inr (.inr (.inl (76, 277)))), some (.inl a), some (.inl b), some (.inl (y_hours_a28 f a b ((f 280 2).toInt.toNat))), some (.inl (Int32.ofNat ((f 280 2).toInt.toNat)))]) (st' := [.inl (Int32.ofNat ((f 280 2).toInt.toNat))]) (m' := (f, l)) rfl rfl (fl_bo rfl) rfl ?_
      refine fl_Tq.stp (pc' := 31) (lv' := [some (.inr (.inr (.inl (76, 277)))), some (.inl a), some (.inl b), some (.inl (y_hours_a28 f a b ((f 280 2).toInt.toNat))), some (.inl (Int32.ofNat ((f 280 2).toInt.toNat)))]) (st' := [.inr (.inr (.inl (76, 277))), .inl (Int32.ofNat ((f 280 2).toInt.toNat))]) (m' := (f, l)) rfl rfl (fl_bo rfl) rfl ?_
      refine fl_Tq.stp (pc' := 34) (lv' := [some (.inr (.inr (.inl (76, 277)))), some (.inl a), some (.inl b), some (.inl (y_hours_a28 f a b ((f 280 2).toInt.toNat))), some (.inl (Int32.ofNat ((f 280 2).toInt.toNat)))]) (st' := [.inr (.inr (.inl (79, 280))), .inl (Int32.ofNat ((f 280 2).toInt.toNat))]) (m' := (f, l)) rfl rfl (fl_bo rfl) rfl ?_
      refine fl_Tq.cI (c := (2 : Int32)) rfl (by decide +kernel) (fl_bo rfl) ?_
      refine fl_Tq.ldV (p := 280) (τ := 79) (n := 29780) (z := (0, 0, 0)) (k := 2) (v := f 280 2) rfl (fl_bo rfl) rfl (by decide +kernel) (by decide) rfl ?_
      refine fl_Tq.jt rfl (fl_bo rfl) (c2_ge_t (t2_ln (t2_nn hn.1))) rfl ?_
      refine fl_Tq.cS (c := (3600 : Int32)) rfl (by decide +kernel) (fl_bo rfl) ?_
      refine fl_Tq.stp (pc' := 88) (lv' := [some (.inr (.inr (.inl (76, 277)))), some (.inl a), some (.inl b), some (.inl (y_hours_a28 f a b ((f 280 2).toInt.toNat))), some (.inl (Int32.ofNat ((f 280 2).toInt.toNat)))]) (st' := [.inl b, .inl (3600 : Int32)]) (m' := (f, l)) rfl rfl (fl_bo rfl) rfl ?_
      refine fl_Tq.stp (pc' := 89) (lv' := [some (.inr (.inr (.inl (76, 277)))), some (.inl a), some (.inl b), some (.inl (y_hours_a28 f a b ((f 280 2).toInt.toNat))), some (.inl (Int32.ofNat ((f 280 2).toInt.toNat)))]) (st' := [.inl ((3600 : Int32) * b)]) (m' := (f, l)) rfl rfl (fl_bo rfl) rfl ?_
      refine fl_Tq.stp (pc' := 91) (lv' := [some (.inr (.inr (.inl (76, 277)))), some (.inl a), some (.inl b), some (.inl (y_hours_a28 f a b ((f 280 2).toInt.toNat))), some (.inl ((3600 : Int32) * b))]) (st' := []) (m' := (f, l)) rfl rfl (fl_bo rfl) rfl ?_
      refine fl_Tq.stp (pc' := 92) (lv' := [some (.inr (.inr (.inl (76, 277)))), some (.inl a), some (.inl b), some (.inl (y_hours_a28 f a b ((f 280 2).toInt.toNat))), some (.inl ((3600 : Int32) * b))]) (st' := [.inl (y_hours_a28 f a b ((f 280 2).toInt.toNat))]) (m' := (f, l)) rfl rfl (fl_bo rfl) rfl ?_
      refine fl_Tq.stp (pc' := 94) (lv' := [some (.inr (.inr (.inl (76, 277)))), some (.inl a), some (.inl b), some (.inl (y_hours_a28 f a b ((f 280 2).toInt.toNat))), some (.inl ((3600 : Int32) * b))]) (st' := [.inl ((3600 : Int32) * b), .inl (y_hours_a28 f a b ((f 280 2).toInt.toNat))]) (m' := (f, l)) rfl rfl (fl_bo rfl) rfl ?_
      refine fl_Tq.dv rfl (fl_bo rfl) (t2_hour_nz h2) ?_
      refine fl_Tq.stp (pc' := 96) (lv' := [some (.inr (.inr (.inl (76, 277)))), some (.inl a), some (.inl b), some (.inl (y_hours_a28 f a b ((f 280 2).toInt.toNat))), some (.inl ((3600 : Int32) * b))]) (st' := [.inl (y_hours_a28 f a b ((f 280 2).toInt.toNat)), .inl ((y_hours_a28 f a b ((f 280 2).toInt.toNat)) / ((3600 : Int32) * b))]) (m' := (f, l)) rfl rfl (fl_bo rfl) rfl ?_
      refine fl_Tq.stp (pc' := 98) (lv' := [some (.inr (.inr (.inl (76, 277)))), some (.inl a), some (.inl b), some (.inl (y_hours_a28 f a b ((f 280 2).toInt.toNat))), some (.inl ((3600 : Int32) * b))]) (st' := [.inl ((3600 : Int32) * b), .inl (y_hours_a28 f a b ((f 280 2).toInt.toNat)), .inl ((y_hours_a28 f a b ((f 280 2).toInt.toNat)) / ((3600 : Int32) * b))]) (m' := (f, l)) rfl rfl (fl_bo rfl) rfl ?_
      refine fl_Tq.rm rfl (fl_bo rfl) (t2_hour_nz h2) ?_
      have hj191 : fl_Tq (pw_P L xs) 309 107 [some (.inr (.inr (.inl (76, 277)))), some (.inl a), some (.inl b), some (.inl (y_hours_a28 f a b ((f 280 2).toInt.toNat))), some (.inl ((3600 : Int32) * b))] [.inl (if 0 < ((y_hours_a28 f a b ((f 280 2).toInt.toNat)) - (y_hours_a28 f a b ((f 280 2).toInt.toNat)) / ((3600 : Int32) * b) * ((3600 : Int32) * b)).toInt then (1 : Int32) else (0 : Int32)), .inl ((y_hours_a28 f a b ((f 280 2).toInt.toNat)) / ((3600 : Int32) * b))] (f, l) Q → fl_Tq (pw_P L xs) 309 99 [some (.inr (.inr (.inl (76, 277)))), some (.inl a), some (.inl b), some (.inl (y_hours_a28 f a b ((f 280 2).toInt.toNat))), some (.inl ((3600 : Int32) * b))] [.inl ((y_hours_a28 f a b ((f 280 2).toInt.toNat)) - (y_hours_a28 f a b ((f 280 2).toInt.toNat)) / ((3600 : Int32) * b) * ((3600 : Int32) * b)), .inl ((y_hours_a28 f a b ((f 280 2).toInt.toNat)) / ((3600 : Int32) * b))] (f, l) Q := by
        intro hJ
        by_cases h4 : 0 < ((y_hours_a28 f a b ((f 280 2).toInt.toNat)) - (y_hours_a28 f a b ((f 280 2).toInt.toNat)) / ((3600 : Int32) * b) * ((3600 : Int32) * b)).toInt
        · refine fl_Tq.zf rfl (fl_bo rfl) (c1_le_f h4) rfl ?_
          refine fl_Tq.cI (c := (1 : Int32)) rfl (by decide +kernel) (fl_bo rfl) ?_
          refine fl_Tq.stp (pc' := 107) (lv' := [some (.inr (.inr (.inl (76, 277)))), some (.inl a), some (.inl b), some (.inl (y_hours_a28 f a b ((f 280 2).toInt.toNat))), some (.inl ((3600 : Int32) * b))]) (st' := [.inl (1 : Int32), .inl ((y_hours_a28 f a b ((f 280 2).toInt.toNat)) / ((3600 : Int32) * b))]) (m' := (f, l)) rfl rfl (fl_bo rfl) rfl ?_
          have e0 : (if 0 < ((y_hours_a28 f a b ((f 280 2).toInt.toNat)) - (y_hours_a28 f a b ((f 280 2).toInt.toNat)) / ((3600 : Int32) * b) * ((3600 : Int32) * b)).toInt then (1 : Int32) else (0 : Int32)) = (1 : Int32) := by simp only [if_pos h4]
          rw [e0] at hJ
          exact hJ
        · refine fl_Tq.zt rfl (fl_bo rfl) (c1_le_t h4) rfl ?_
          refine fl_Tq.cI (c := (0 : Int32)) rfl (by decide +kernel) (fl_bo rfl) ?_
          have e0 : (if 0 < ((y_hours_a28 f a b ((f 280 2).toInt.toNat)) - (y_hours_a28 f a b ((f 280 2).toInt.toNat)) / ((3600 : Int32) * b) * ((3600 : Int32) * b)).toInt then (1 : Int32) else (0 : Int32)) = (0 : Int32) := by simp only [if_neg h4]
          rw [e0] at hJ
          exact hJ
      refine hj191 ?_
      show fl_Tq _ 309 107 [some (.inr (.inr (.inl (76, 277)))), some (.inl a), some (.inl b), some (.inl (y_hours_a28 f a b ((f 280 2).toInt.toNat))), some (.inl ((3600 : Int32) * b))] [.inl (if 0 < ((y_hours_a28 f a b ((f 280 2).toInt.toNat)) - (y_hours_a28 f a b ((f 280 2).toInt.toNat)) / ((3600 : Int32) * b) * ((3600 : Int32) * b)).toInt then (1 : Int32) else (0 : Int32)), .inl ((y_hours_a28 f a b ((f 280 2).toInt.toNat)) / ((3600 : Int32) * b))] (f, l) _
      refine fl_Tq.stp (pc' := 108) (lv' := [some (.inr (.inr (.inl (76, 277)))), some (.inl a), some (.inl b), some (.inl (y_hours_a28 f a b ((f 280 2).toInt.toNat))), some (.inl ((3600 : Int32) * b))]) (st' := [.inl (((y_hours_a28 f a b ((f 280 2).toInt.toNat)) / ((3600 : Int32) * b)) + (if 0 < ((y_hours_a28 f a b ((f 280 2).toInt.toNat)) - (y_hours_a28 f a b ((f 280 2).toInt.toNat)) / ((3600 : Int32) * b) * ((3600 : Int32) * b)).toInt then (1 : Int32) else (0 : Int32)))]) (m' := (f, l)) rfl rfl (fl_bo rfl) rfl ?_
      refine fl_Tq.ret rfl rfl rfl ?_
      unfold y_hours_v at k
      simp only [if_neg h1, if_neg h2] at k
      exact k
theorem x_hours_e {f : t2_F} {a b : Int32} (I : c0_I f f) : x_hours_v f a b = y_hours_v f a b := by
  have c0 : (0 : Int32).toInt = 0 := rfl
  have c1000 : (1000 : Int32).toInt = 1000 := by decide +kernel
  unfold x_hours_v y_hours_v
  by_cases h1 : (t2_within_v a (0 : Int32) (1000 : Int32)).toInt = 0
  · rw [if_pos h1]
    exact (if_pos h1).symm
  rw [if_neg h1]
  refine Eq.trans ?_ (if_neg h1).symm
  by_cases h2 : (t2_within_v b (1 : Int32) (99999 : Int32)).toInt = 0
  · rw [if_pos h2]
    exact (if_pos h2).symm
  rw [if_neg h2]
  refine Eq.trans ?_ (if_neg h2).symm
  have ha : 0 ≤ a.toInt ∧ a.toInt ≤ 1000 := by
    rw [t2_w0, c0, c1000, Classical.not_not] at h1
    exact h1
  have hb := t2_hour_b h2
  have eb := t2_hour_e hb
  have a1 : ∀ k : Nat, k ≤ (f 280 2).toInt.toNat → x_hours_a28 f a b k = y_hours_a28 f a b k ∧ 0 ≤ (y_hours_a28 f a b k).toInt ∧ (y_hours_a28 f a b k).toInt ≤ 36000000 := by
    intro k
    induction k with
    | zero =>
      intro _
      refine ⟨rfl, ?_⟩
      show 0 ≤ (0 : Int32).toInt ∧ (0 : Int32).toInt ≤ 36000000
      omega
    | succ k ih =>
      intro hk
      obtain ⟨i1, i2, i3⟩ := ih (by omega)
      have ck := I.ck (C := k) (by omega)
      have e : r_chargeAt_v f (Int32.ofNat k) k a = t2_chargeBy_v a (f 280 (444 + 61 * k + 0)) := t2_cha ck ha
      obtain ⟨-, n1, n2, -⟩ := t2_chg ha ck.1
      have s : x_hours_a28 f a b (k + 1) = t2_max_v (x_hours_a28 f a b k) ((t2_chargeBy_v a (f (18 + 4 * k) 0)) - (f (18 + 4 * k) 2)) := rfl
      have s2 : y_hours_a28 f a b (k + 1) = if (y_hours_a28 f a b k).toInt < ((r_chargeAt_v f (Int32.ofNat k) k a) - (f 280 (444 + 61 * k + 1))).toInt then (r_chargeAt_v f (Int32.ofNat k) k a) - (f 280 (444 + 61 * k + 1)) else y_hours_a28 f a b k := rfl
      rw [s, s2, e, i1, I.chg (by omega), I.capa (by omega)]
      obtain ⟨k1, k2, k3⟩ := ck
      have d : (t2_chargeBy_v a (f 280 (444 + 61 * k + 0)) - f 280 (444 + 61 * k + 1)).toInt ≤ 36000000 := by
        rw [at_sub32 (by have := k1.2; omega) (by have := k1.2; omega)]
        have := k1.2
        omega
      generalize t2_chargeBy_v a (f 280 (444 + 61 * k + 0)) - f 280 (444 + 61 * k + 1) = z at d
      generalize y_hours_a28 f a b k = y at i2 i3
      unfold t2_max_v
      by_cases hh : y.toInt < z.toInt
      · rw [if_pos hh]
        exact ⟨rfl, by omega, d⟩
      · rw [if_neg hh]
        exact ⟨rfl, i2, i3⟩
  obtain ⟨e1, e2, e3⟩ := a1 _ (Nat.le_refl _)
  rw [show (f 1 5) = f 280 2 from I.1.1.1, e1, eb.2]
  exact t2_updiv ⟨e2, by omega⟩ ⟨by omega, by omega⟩
/-! ===== hours, on both sides ===== -/
theorem t2_cmp_42 {L : Nat} {xs : Nat → Int32} {f : t2_F} {l : t2_L} {a b : Int32} (_hall : ∀ c ∈ at_CM ++ at_CA, at_Valid at_XI (pw_P L xs) c) (hg : t2_Z (f, l)) : fl_Tq (pw_P L xs) 143 0 (fl_args (am_mxl (pw_P L xs) 143) [lx_x, .inl a, .inl b]) [] (f, l) (t2_End L xs 309 [at_this, .inl a, .inl b]) := by
  have I : c0_I f f := hg.2.1
  refine t2_qq (y := y_hours_v f a b) hg (fun Q k => x_hours_q I.hc ?_) (fun Q k => y_hours_q I.rhu.1 I.rhu.2 k)
  rw [x_hours_e I]
  exact k

end

/-! 95.05.21p43.lean.txt -/
section
noncomputable def x_energy_a4 (f : t2_F) : Nat → Int64
  | 0 => (0 : Int64)
  | k4 + 1 => (x_energy_a4 f k4) + (((f (18 + 4 * k4) 2).toInt64) * ((f (18 + 4 * k4) 4).toInt64))
noncomputable def x_energy_v (f : t2_F) : Int32 := ((x_energy_a4 f ((f 1 5).toInt.toNat)) / (3600000 : Int64)).toInt32
theorem x_energy_q {L : Nat} {xs : Nat → Int32} {f : t2_F} {l : t2_L} {Q : Option fl_V → fl_M → Prop}  (hc : 0 ≤ (f 1 5).toInt ∧ (f 1 5).toInt ≤ 16) (k : Q (some (.inl (x_energy_v f))) (f, l)) : fl_Tq (pw_P L xs) 144 0 (fl_args (am_mxl (pw_P L xs) 144) [.inr (.inr (.inl (0, 0)))]) [] (f, l) Q := by
  refine fl_Tq.stp (pc' := 1) (lv' := [some (.inr (.inr (.inl (0, 0)))), none, none, none]) (st' := [.inr (.inl (0 : Int64))]) (m' := (f, l)) rfl rfl (fl_bo rfl) rfl ?_
  refine fl_Tq.stp (pc' := 2) (lv' := [some (.inr (.inr (.inl (0, 0)))), some (.inr (.inl (0 : Int64))), none, none]) (st' := []) (m' := (f, l)) rfl rfl (fl_bo rfl) rfl ?_
  refine fl_Tq.cI (c := (0 : Int32)) rfl (by decide +kernel) (fl_bo rfl) ?_
  refine fl_Tq.stp (pc' := 4) (lv' := [some (.inr (.inr (.inl (0, 0)))), some (.inr (.inl (0 : Int64))), none, some (.inl (0 : Int32))]) (st' := []) (m' := (f, l)) rfl rfl (fl_bo rfl) rfl ?_
  have hs4 : ∀ k4 : Nat, k4 < (f 1 5).toInt.toNat → fl_Tq (pw_P L xs) 144 4 [some (.inr (.inr (.inl (0, 0)))), some (.inr (.inl (x_energy_a4 f (k4 + 1)))), none, some (.inl (Int32.ofNat (k4 + 1)))] [] (f, l) Q → fl_Tq (pw_P L xs) 144 4 [some (.inr (.inr (.inl (0, 0)))), some (.inr (.inl (x_energy_a4 f k4))), none, some (.inl (Int32.ofNat k4))] [] (f, l) Q := by
    intro k4 hk4 hS
    refine fl_Tq.stp (pc' := 5) (lv' := [some (.inr (.inr (.inl (0, 0)))), some (.inr (.inl (x_energy_a4 f k4))), none, some (.inl (Int32.ofNat k4))]) (st' := [.inl (Int32.ofNat k4)]) (m' := (f, l)) rfl rfl (fl_bo rfl) rfl ?_
    refine fl_Tq.stp (pc' := 6) (lv' := [some (.inr (.inr (.inl (0, 0)))), some (.inr (.inl (x_energy_a4 f k4))), none, some (.inl (Int32.ofNat k4))]) (st' := [.inr (.inr (.inl (0, 0))), .inl (Int32.ofNat k4)]) (m' := (f, l)) rfl rfl (fl_bo rfl) rfl ?_
    refine fl_Tq.stp (pc' := 9) (lv' := [some (.inr (.inr (.inl (0, 0)))), some (.inr (.inl (x_energy_a4 f k4))), none, some (.inl (Int32.ofNat k4))]) (st' := [.inr (.inr (.inl (1, 1))), .inl (Int32.ofNat k4)]) (m' := (f, l)) rfl rfl (fl_bo rfl) rfl ?_
    refine fl_Tq.gfV (k := 5) (v := f 1 5) rfl (fl_bo rfl) rfl rfl ?_
    refine fl_Tq.jf rfl (fl_bo rfl) (c2_ge_f (t2_lk hk4 (t2_nn hc.1))) rfl ?_
    refine fl_Tq.stp (pc' := 16) (lv' := [some (.inr (.inr (.inl (0, 0)))), some (.inr (.inl (x_energy_a4 f k4))), none, some (.inl (Int32.ofNat k4))]) (st' := [.inr (.inl (x_energy_a4 f k4))]) (m' := (f, l)) rfl rfl (fl_bo rfl) rfl ?_
    refine fl_Tq.stp (pc' := 17) (lv' := [some (.inr (.inr (.inl (0, 0)))), some (.inr (.inl (x_energy_a4 f k4))), none, some (.inl (Int32.ofNat k4))]) (st' := [.inr (.inr (.inl (0, 0))), .inr (.inl (x_energy_a4 f k4))]) (m' := (f, l)) rfl rfl (fl_bo rfl) rfl ?_
    refine fl_Tq.stp (pc' := 20) (lv' := [some (.inr (.inr (.inl (0, 0)))), some (.inr (.inl (x_energy_a4 f k4))), none, some (.inl (Int32.ofNat k4))]) (st' := [.inr (.inr (.inl (1, 1))), .inr (.inl (x_energy_a4 f k4))]) (m' := (f, l)) rfl rfl (fl_bo rfl) rfl ?_
    refine fl_Tq.stp (pc' := 23) (lv' := [some (.inr (.inr (.inl (0, 0)))), some (.inr (.inl (x_energy_a4 f k4))), none, some (.inl (Int32.ofNat k4))]) (st' := [.inr (.inr (.inl (2, 2))), .inr (.inl (x_energy_a4 f k4))]) (m' := (f, l)) rfl rfl (fl_bo rfl) rfl ?_
    refine fl_Tq.stp (pc' := 24) (lv' := [some (.inr (.inr (.inl (0, 0)))), some (.inr (.inl (x_energy_a4 f k4))), none, some (.inl (Int32.ofNat k4))]) (st' := [.inl (Int32.ofNat k4), .inr (.inr (.inl (2, 2))), .inr (.inl (x_energy_a4 f k4))]) (m' := (f, l)) rfl rfl (fl_bo rfl) rfl ?_
    refine fl_Tq.qld (p := 2) (τ := 2) (n := 16) (t := 18) (b := 16) (d := 3) (k := k4) rfl (fl_bo rfl) rfl (at_ofN (by omega)) (by omega) ?_
    show fl_Tq _ 144 25 [some (.inr (.inr (.inl (0, 0)))), some (.inr (.inl (x_energy_a4 f k4))), none, some (.inl (Int32.ofNat k4))] [.inr (.inr (.inl (18, 18 + 4 * k4))), .inr (.inl (x_energy_a4 f k4))] (f, l) _
    refine fl_Tq.gfV (k := 2) (v := f (18 + 4 * k4) 2) rfl (fl_oks_ok ⟨(t2_kc0 (by omega)), True.intro, True.intro⟩) rfl rfl ?_
    refine fl_Tq.stp (pc' := 29) (lv' := [some (.inr (.inr (.inl (0, 0)))), some (.inr (.inl (x_energy_a4 f k4))), none, some (.inl (Int32.ofNat k4))]) (st' := [.inr (.inl ((f (18 + 4 * k4) 2).toInt64)), .inr (.inl (x_energy_a4 f k4))]) (m' := (f, l)) rfl rfl (fl_bo rfl) rfl ?_
    refine fl_Tq.stp (pc' := 30) (lv' := [some (.inr (.inr (.inl (0, 0)))), some (.inr (.inl (x_energy_a4 f k4))), none, some (.inl (Int32.ofNat k4))]) (st' := [.inr (.inr (.inl (0, 0))), .inr (.inl ((f (18 + 4 * k4) 2).toInt64)), .inr (.inl (x_energy_a4 f k4))]) (m' := (f, l)) rfl rfl (fl_bo rfl) rfl ?_
    refine fl_Tq.stp (pc' := 33) (lv' := [some (.inr (.inr (.inl (0, 0)))), some (.inr (.inl (x_energy_a4 f k4))), none, some (.inl (Int32.ofNat k4))]) (st' := [.inr (.inr (.inl (1, 1))), .inr (.inl ((f (18 + 4 * k4) 2).toInt64)), .inr (.inl (x_energy_a4 f k4))]) (m' := (f, l)) rfl rfl (fl_bo rfl) rfl ?_
    refine fl_Tq.stp (pc' := 36) (lv' := [some (.inr (.inr (.inl (0, 0)))), some (.inr (.inl (x_energy_a4 f k4))), none, some (.inl (Int32.ofNat k4))]) (st' := [.inr (.inr (.inl (2, 2))), .inr (.inl ((f (18 + 4 * k4) 2).toInt64)), .inr (.inl (x_energy_a4 f k4))]) (m' := (f, l)) rfl rfl (fl_bo rfl) rfl ?_
    refine fl_Tq.stp (pc' := 37) (lv' := [some (.inr (.inr (.inl (0, 0)))), some (.inr (.inl (x_energy_a4 f k4))), none, some (.inl (Int32.ofNat k4))]) (st' := [.inl (Int32.ofNat k4), .inr (.inr (.inl (2, 2))), .inr (.inl ((f (18 + 4 * k4) 2).toInt64)), .inr (.inl (x_energy_a4 f k4))]) (m' := (f, l)) rfl rfl (fl_bo rfl) rfl ?_
    refine fl_Tq.qld (p := 2) (τ := 2) (n := 16) (t := 18) (b := 16) (d := 3) (k := k4) rfl (fl_bo rfl) rfl (at_ofN (by omega)) (by omega) ?_
    show fl_Tq _ 144 38 [some (.inr (.inr (.inl (0, 0)))), some (.inr (.inl (x_energy_a4 f k4))), none, some (.inl (Int32.ofNat k4))] [.inr (.inr (.inl (18, 18 + 4 * k4))), .inr (.inl ((f (18 + 4 * k4) 2).toInt64)), .inr (.inl (x_energy_a4 f k4))] (f, l) _
    refine fl_Tq.gfV (k := 4) (v := f (18 + 4 * k4) 4) rfl (fl_oks_ok ⟨(t2_kc0 (by omega)), True.intro, True.intro, True.intro⟩) rfl rfl ?_
    refine fl_Tq.stp (pc' := 42) (lv' := [some (.inr (.inr (.inl (0, 0)))), some (.inr (.inl (x_energy_a4 f k4))), none, some (.inl (Int32.ofNat k4))]) (st' := [.inr (.inl ((f (18 + 4 * k4) 4).toInt64)), .inr (.inl ((f (18 + 4 * k4) 2).toInt64)), .inr (.inl (x_energy_a4 f k4))]) (m' := (f, l)) rfl rfl (fl_bo rfl) rfl ?_
    refine fl_Tq.stp (pc' := 43) (lv' := [some (.inr (.inr (.inl (0, 0)))), some (.inr (.inl (x_energy_a4 f k4))), none, some (.inl (Int32.ofNat k4))]) (st' := [.inr (.inl (((f (18 + 4 * k4) 2).toInt64) * ((f (18 + 4 * k4) 4).toInt64))), .inr (.inl (x_energy_a4 f k4))]) (m' := (f, l)) rfl rfl (fl_bo rfl) rfl ?_
    refine fl_Tq.stp (pc' := 44) (lv' := [some (.inr (.inr (.inl (0, 0)))), some (.inr (.inl (x_energy_a4 f k4))), none, some (.inl (Int32.ofNat k4))]) (st' := [.inr (.inl ((x_energy_a4 f k4) + (((f (18 + 4 * k4) 2).toInt64) * ((f (18 + 4 * k4) 4).toInt64))))]) (m' := (f, l)) rfl rfl (fl_bo rfl) rfl ?_
    refine fl_Tq.stp (pc' := 45) (lv' := [some (.inr (.inr (.inl (0, 0)))), some (.inr (.inl ((x_energy_a4 f k4) + (((f (18 + 4 * k4) 2).toInt64) * ((f (18 + 4 * k4) 4).toInt64))))), none, some (.inl (Int32.ofNat k4))]) (st' := []) (m' := (f, l)) rfl rfl (fl_bo rfl) rfl ?_
    refine fl_Tq.stp (pc' := 48) (lv' := [some (.inr (.inr (.inl (0, 0)))), some (.inr (.inl ((x_energy_a4 f k4) + (((f (18 + 4 * k4) 2).toInt64) * ((f (18 + 4 * k4) 4).toInt64))))), none, some (.inl ((Int32.ofNat k4) + (1 : Int32)))]) (st' := []) (m' := (f, l)) rfl rfl (fl_bo rfl) rfl ?_
    refine fl_Tq.stp (pc' := 4) (lv' := [some (.inr (.inr (.inl (0, 0)))), some (.inr (.inl ((x_energy_a4 f k4) + (((f (18 + 4 * k4) 2).toInt64) * ((f (18 + 4 * k4) 4).toInt64))))), none, some (.inl ((Int32.ofNat k4) + (1 : Int32)))]) (st' := []) (m' := (f, l)) rfl rfl (fl_bo rfl) rfl ?_
    have ea : x_energy_a4 f (k4 + 1) = (x_energy_a4 f k4) + (((f (18 + 4 * k4) 2).toInt64) * ((f (18 + 4 * k4) 4).toInt64)) := by
      show ((x_energy_a4 f k4) + (((f (18 + 4 * k4) 2).toInt64) * ((f (18 + 4 * k4) 4).toInt64))) = _
      rfl
    rw [ea, ← t2_k1] at hS
    exact hS
  refine t2_for (S := fun k4 => fl_Tq (pw_P L xs) 144 4 [some (.inr (.inr (.inl (0, 0)))), some (.inr (.inl (x_energy_a4 f k4))), none, some (.inl (Int32.ofNat k4))] [] (f, l) Q) hs4 ?_
  show fl_Tq (pw_P L xs) 144 4 [some (.inr (.inr (.inl (0, 0)))), some (.inr (.inl (x_energy_a4 f ((f 1 5).toInt.toNat)))), none, some (.inl (Int32.ofNat ((f 1 5).toInt.toNat)))] [] (f, l) _
  refine fl_Tq.stp (pc' := 5) (lv' := [some (.inr (.inr (.inl (0, 0)))), some (.inr (.inl (x_energy_a4 f ((f 1 5).toInt.toNat)))), none, some (.inl (Int32.ofNat ((f 1 5).toInt.toNat)))]) (st' := [.inl (Int32.ofNat ((f 1 5).toInt.toNat))]) (m' := (f, l)) rfl rfl (fl_bo rfl) rfl ?_
  refine fl_Tq.stp (pc' := 6) (lv' := [some (.inr (.inr (.inl (0, 0)))), some (.inr (.inl (x_energy_a4 f ((f 1 5).toInt.toNat)))), none, some (.inl (Int32.ofNat ((f 1 5).toInt.toNat)))]) (st' := [.inr (.inr (.inl (0, 0))), .inl (Int32.ofNat ((f 1 5).toInt.toNat))]) (m' := (f, l)) rfl rfl (fl_bo rfl) rfl ?_
  refine fl_Tq.stp (pc' := 9) (lv' := [some (.inr (.inr (.inl (0, 0)))), some (.inr (.inl (x_energy_a4 f ((f 1 5).toInt.toNat)))), none, some (.inl (Int32.ofNat ((f 1 5).toInt.toNat)))]) (st' := [.inr (.inr (.inl (1, 1))), .inl (Int32.ofNat ((f 1 5).toInt.toNat))]) (m' := (f, l)) rfl rfl (fl_bo rfl) rfl ?_
  refine fl_Tq.gfV (k := 5) (v := f 1 5) rfl (fl_bo rfl) rfl rfl ?_
  refine fl_Tq.jt rfl (fl_bo rfl) (c2_ge_t (t2_ln (t2_nn hc.1))) rfl ?_
  refine fl_Tq.stp (pc' := 52) (lv' := [some (.inr (.inr (.inl (0, 0)))), some (.inr (.inl (x_energy_a4 f ((f 1 5).toInt.toNat)))), none, some (.inl (Int32.ofNat ((f 1 5).toInt.toNat)))]) (st' := [.inr (.inl (x_energy_a4 f ((f 1 5).toInt.toNat)))]) (m' := (f, l)) rfl rfl (fl_bo rfl) rfl ?_
  refine fl_Tq.stp (pc' := 55) (lv' := [some (.inr (.inr (.inl (0, 0)))), some (.inr (.inl (x_energy_a4 f ((f 1 5).toInt.toNat)))), none, some (.inl (Int32.ofNat ((f 1 5).toInt.toNat)))]) (st' := [.inr (.inl (3600000 : Int64)), .inr (.inl (x_energy_a4 f ((f 1 5).toInt.toNat)))]) (m' := (f, l)) rfl rfl (fl_bo rfl) rfl ?_
  refine fl_Tq.dvJ rfl (fl_bo rfl) (by decide +kernel) ?_
  refine fl_Tq.stp (pc' := 57) (lv' := [some (.inr (.inr (.inl (0, 0)))), some (.inr (.inl (x_energy_a4 f ((f 1 5).toInt.toNat)))), none, some (.inl (Int32.ofNat ((f 1 5).toInt.toNat)))]) (st' := [.inl (((x_energy_a4 f ((f 1 5).toInt.toNat)) / (3600000 : Int64)).toInt32)]) (m' := (f, l)) rfl rfl (fl_bo rfl) rfl ?_
  exact fl_Tq.ret rfl rfl rfl k
noncomputable def y_energy_a4 (f : t2_F) : Nat → Int64
  | 0 => (0 : Int64)
  | k4 + 1 => (y_energy_a4 f k4) + (((f 280 (444 + 61 * k4 + 1)).toInt64) * ((t2_rb (r_partOf_v f (Int32.ofNat k4) k4)).toInt64))
noncomputable def y_energy_v (f : t2_F) : Int32 := ((y_energy_a4 f ((f 280 2).toInt.toNat)) / (3600000 : Int64)).toInt32
theorem y_energy_q {L : Nat} {xs : Nat → Int32} {f : t2_F} {l : t2_L} {Q : Option fl_V → fl_M → Prop}  (hn : 0 ≤ (f 280 2).toInt ∧ (f 280 2).toInt ≤ 16) (hr : t2_RS f) (hk : ∀ C : Nat, (C : Int) < (f 280 2).toInt → t2_ck f C) (k : Q (some (.inl (y_energy_v f))) (f, l)) : fl_Tq (pw_P L xs) 281 0 (fl_args (am_mxl (pw_P L xs) 281) [.inr (.inr (.inl (76, 277)))]) [] (f, l) Q := by
  refine fl_Tq.stp (pc' := 1) (lv' := [some (.inr (.inr (.inl (76, 277)))), none, none, none]) (st' := [.inr (.inl (0 : Int64))]) (m' := (f, l)) rfl rfl (fl_bo rfl) rfl ?_
  refine fl_Tq.stp (pc' := 2) (lv' := [some (.inr (.inr (.inl (76, 277)))), some (.inr (.inl (0 : Int64))), none, none]) (st' := []) (m' := (f, l)) rfl rfl (fl_bo rfl) rfl ?_
  refine fl_Tq.cI (c := (0 : Int32)) rfl (by decide +kernel) (fl_bo rfl) ?_
  refine fl_Tq.stp (pc' := 4) (lv' := [some (.inr (.inr (.inl (76, 277)))), some (.inr (.inl (0 : Int64))), none, some (.inl (0 : Int32))]) (st' := []) (m' := (f, l)) rfl rfl (fl_bo rfl) rfl ?_
  have hs4 : ∀ k4 : Nat, k4 < (f 280 2).toInt.toNat → fl_Tq (pw_P L xs) 281 4 [some (.inr (.inr (.inl (76, 277)))), some (.inr (.inl (y_energy_a4 f (k4 + 1)))), none, some (.inl (Int32.ofNat (k4 + 1)))] [] (f, l) Q → fl_Tq (pw_P L xs) 281 4 [some (.inr (.inr (.inl (76, 277)))), some (.inr (.inl (y_energy_a4 f k4))), none, some (.inl (Int32.ofNat k4))] [] (f, l) Q := by
    intro k4 hk4 hS
    refine fl_Tq.stp (pc' := 5) (lv' := [some (.inr (.inr (.inl (76, 277)))), some (.inr (.inl (y_energy_a4 f k4))), none, some (.inl (Int32.ofNat k4))]) (st' := [.inl (Int32.ofNat k4)]) (m' := (f, l)) rfl rfl (fl_bo rfl) rfl ?_
    refine fl_Tq.stp (pc' := 6) (lv' := [some (.inr (.inr (.inl (76, 277)))), some (.inr (.inl (y_energy_a4 f k4))), none, some (.inl (Int32.ofNat k4))]) (st' := [.inr (.inr (.inl (76, 277))), .inl (Int32.ofNat k4)]) (m' := (f, l)) rfl rfl (fl_bo rfl) rfl ?_
    refine fl_Tq.stp (pc' := 9) (lv' := [some (.inr (.inr (.inl (76, 277)))), some (.inr (.inl (y_energy_a4 f k4))), none, some (.inl (Int32.ofNat k4))]) (st' := [.inr (.inr (.inl (79, 280))), .inl (Int32.ofNat k4)]) (m' := (f, l)) rfl rfl (fl_bo rfl) rfl ?_
    refine fl_Tq.cI (c := (2 : Int32)) rfl (by decide +kernel) (fl_bo rfl) ?_
    refine fl_Tq.ldV (p := 280) (τ := 79) (n := 29780) (z := (0, 0, 0)) (k := 2) (v := f 280 2) rfl (fl_bo rfl) rfl (by decide +kernel) (by decide) rfl ?_
    refine fl_Tq.jf rfl (fl_bo rfl) (c2_ge_f (t2_lk hk4 (t2_nn hn.1))) rfl ?_
    refine fl_Tq.stp (pc' := 15) (lv' := [some (.inr (.inr (.inl (76, 277)))), some (.inr (.inl (y_energy_a4 f k4))), none, some (.inl (Int32.ofNat k4))]) (st' := [.inr (.inl (y_energy_a4 f k4))]) (m' := (f, l)) rfl rfl (fl_bo rfl) rfl ?_
    refine fl_Tq.stp (pc' := 16) (lv' := [some (.inr (.inr (.inl (76, 277)))), some (.inr (.inl (y_energy_a4 f k4))), none, some (.inl (Int32.ofNat k4))]) (st' := [.inr (.inr (.inl (76, 277))), .inr (.inl (y_energy_a4 f k4))]) (m' := (f, l)) rfl rfl (fl_bo rfl) rfl ?_
    refine fl_Tq.stp (pc' := 17) (lv' := [some (.inr (.inr (.inl (76, 277)))), some (.inr (.inl (y_energy_a4 f k4))), none, some (.inl (Int32.ofNat k4))]) (st' := [.inl (Int32.ofNat k4), .inr (.inr (.inl (76, 277))), .inr (.inl (y_energy_a4 f k4))]) (m' := (f, l)) rfl rfl (fl_bo rfl) rfl ?_
    refine fl_Tq.cI (c := (1 : Int32)) rfl (by decide +kernel) (fl_bo rfl) ?_
    refine fl_Tq.cal rfl rfl (fl_bo rfl) rfl ?_
    refine t2_get (C := k4) (W := 1) (v := f 280 (444 + 61 * k4 + 1)) (at_ofN (by omega)) (by decide +kernel) (by omega) (by decide) rfl ?_
    show fl_Tq _ 281 21 [some (.inr (.inr (.inl (76, 277)))), some (.inr (.inl (y_energy_a4 f k4))), none, some (.inl (Int32.ofNat k4))] [.inl (f 280 (444 + 61 * k4 + 1)), .inr (.inl (y_energy_a4 f k4))] (f, l) _
    refine fl_Tq.stp (pc' := 22) (lv' := [some (.inr (.inr (.inl (76, 277)))), some (.inr (.inl (y_energy_a4 f k4))), none, some (.inl (Int32.ofNat k4))]) (st' := [.inr (.inl ((f 280 (444 + 61 * k4 + 1)).toInt64)), .inr (.inl (y_energy_a4 f k4))]) (m' := (f, l)) rfl rfl (fl_bo rfl) rfl ?_
    refine fl_Tq.stp (pc' := 23) (lv' := [some (.inr (.inr (.inl (76, 277)))), some (.inr (.inl (y_energy_a4 f k4))), none, some (.inl (Int32.ofNat k4))]) (st' := [.inr (.inr (.inl (76, 277))), .inr (.inl ((f 280 (444 + 61 * k4 + 1)).toInt64)), .inr (.inl (y_energy_a4 f k4))]) (m' := (f, l)) rfl rfl (fl_bo rfl) rfl ?_
    refine fl_Tq.stp (pc' := 24) (lv' := [some (.inr (.inr (.inl (76, 277)))), some (.inr (.inl (y_energy_a4 f k4))), none, some (.inl (Int32.ofNat k4))]) (st' := [.inr (.inr (.inl (76, 277))), .inr (.inr (.inl (76, 277))), .inr (.inl ((f 280 (444 + 61 * k4 + 1)).toInt64)), .inr (.inl (y_energy_a4 f k4))]) (m' := (f, l)) rfl rfl (fl_bo rfl) rfl ?_
    refine fl_Tq.stp (pc' := 25) (lv' := [some (.inr (.inr (.inl (76, 277)))), some (.inr (.inl (y_energy_a4 f k4))), none, some (.inl (Int32.ofNat k4))]) (st' := [.inl (Int32.ofNat k4), .inr (.inr (.inl (76, 277))), .inr (.inr (.inl (76, 277))), .inr (.inl ((f 280 (444 + 61 * k4 + 1)).toInt64)), .inr (.inl (y_energy_a4 f k4))]) (m' := (f, l)) rfl rfl (fl_bo rfl) rfl ?_
    refine fl_Tq.cal rfl rfl (fl_bo rfl) rfl ?_
    refine r_partOf_q (at_ofN (by omega)) (by omega) (hk k4 (by omega)) ?_
    show fl_Tq _ 281 28 [some (.inr (.inr (.inl (76, 277)))), some (.inr (.inl (y_energy_a4 f k4))), none, some (.inl (Int32.ofNat k4))] [.inl (r_partOf_v f (Int32.ofNat k4) k4), .inr (.inr (.inl (76, 277))), .inr (.inl ((f 280 (444 + 61 * k4 + 1)).toInt64)), .inr (.inl (y_energy_a4 f k4))] (f, l) _
    refine fl_Tq.cal rfl rfl (fl_bo rfl) rfl ?_
    refine r_restOf_q hr (t2_ckp (hk k4 (by omega))).1 (t2_ckp (hk k4 (by omega))).2 ?_
    show fl_Tq _ 281 31 [some (.inr (.inr (.inl (76, 277)))), some (.inr (.inl (y_energy_a4 f k4))), none, some (.inl (Int32.ofNat k4))] [.inl (t2_rb (r_partOf_v f (Int32.ofNat k4) k4)), .inr (.inl ((f 280 (444 + 61 * k4 + 1)).toInt64)), .inr (.inl (y_energy_a4 f k4))] (f, l) _
    refine fl_Tq.stp (pc' := 32) (lv' := [some (.inr (.inr (.inl (76, 277)))), some (.inr (.inl (y_energy_a4 f k4))), none, some (.inl (Int32.ofNat k4))]) (st' := [.inr (.inl ((t2_rb (r_partOf_v f (Int32.ofNat k4) k4)).toInt64)), .inr (.inl ((f 280 (444 + 61 * k4 + 1)).toInt64)), .inr (.inl (y_energy_a4 f k4))]) (m' := (f, l)) rfl rfl (fl_bo rfl) rfl ?_
    refine fl_Tq.stp (pc' := 33) (lv' := [some (.inr (.inr (.inl (76, 277)))), some (.inr (.inl (y_energy_a4 f k4))), none, some (.inl (Int32.ofNat k4))]) (st' := [.inr (.inl (((f 280 (444 + 61 * k4 + 1)).toInt64) * ((t2_rb (r_partOf_v f (Int32.ofNat k4) k4)).toInt64))), .inr (.inl (y_energy_a4 f k4))]) (m' := (f, l)) rfl rfl (fl_bo rfl) rfl ?_
    refine fl_Tq.stp (pc' := 34) (lv' := [some (.inr (.inr (.inl (76, 277)))), some (.inr (.inl (y_energy_a4 f k4))), none, some (.inl (Int32.ofNat k4))]) (st' := [.inr (.inl ((y_energy_a4 f k4) + (((f 280 (444 + 61 * k4 + 1)).toInt64) * ((t2_rb (r_partOf_v f (Int32.ofNat k4) k4)).toInt64))))]) (m' := (f, l)) rfl rfl (fl_bo rfl) rfl ?_
    refine fl_Tq.stp (pc' := 35) (lv' := [some (.inr (.inr (.inl (76, 277)))), some (.inr (.inl ((y_energy_a4 f k4) + (((f 280 (444 + 61 * k4 + 1)).toInt64) * ((t2_rb (r_partOf_v f (Int32.ofNat k4) k4)).toInt64))))), none, some (.inl (Int32.ofNat k4))]) (st' := []) (m' := (f, l)) rfl rfl (fl_bo rfl) rfl ?_
    refine fl_Tq.stp (pc' := 38) (lv' := [some (.inr (.inr (.inl (76, 277)))), some (.inr (.inl ((y_energy_a4 f k4) + (((f 280 (444 + 61 * k4 + 1)).toInt64) * ((t2_rb (r_partOf_v f (Int32.ofNat k4) k4)).toInt64))))), none, some (.inl ((Int32.ofNat k4) + (1 : Int32)))]) (st' := []) (m' := (f, l)) rfl rfl (fl_bo rfl) rfl ?_
    refine fl_Tq.stp (pc' := 4) (lv' := [some (.inr (.inr (.inl (76, 277)))), some (.inr (.inl ((y_energy_a4 f k4) + (((f 280 (444 + 61 * k4 + 1)).toInt64) * ((t2_rb (r_partOf_v f (Int32.ofNat k4) k4)).toInt64))))), none, some (.inl ((Int32.ofNat k4) + (1 : Int32)))]) (st' := []) (m' := (f, l)) rfl rfl (fl_bo rfl) rfl ?_
    have ea : y_energy_a4 f (k4 + 1) = (y_energy_a4 f k4) + (((f 280 (444 + 61 * k4 + 1)).toInt64) * ((t2_rb (r_partOf_v f (Int32.ofNat k4) k4)).toInt64)) := by
      show ((y_energy_a4 f k4) + (((f 280 (444 + 61 * k4 + 1)).toInt64) * ((t2_rb (r_partOf_v f (Int32.ofNat k4) k4)).toInt64))) = _
      rfl
    rw [ea, ← t2_k1] at hS
    exact hS
  refine t2_for (S := fun k4 => fl_Tq (pw_P L xs) 281 4 [some (.inr (.inr (.inl (76, 277)))), some (.inr (.inl (y_energy_a4 f k4))), none, some (.inl (Int32.ofNat k4))] [] (f, l) Q) hs4 ?_
  show fl_Tq (pw_P L xs) 281 4 [some (.inr (.inr (.inl (76, 277)))), some (.inr (.inl (y_energy_a4 f ((f 280 2).toInt.toNat)))), none, some (.inl (Int32.ofNat ((f 280 2).toInt.toNat)))] [] (f, l) _
  refine fl_Tq.stp (pc' := 5) (lv' := [some (.inr (.inr (.inl (76, 277)))), some (.inr (.inl (y_energy_a4 f ((f 280 2).toInt.toNat)))), none, some (.inl (Int32.ofNat ((f 280 2).toInt.toNat)))]) (st' := [.inl (Int32.ofNat ((f 280 2).toInt.toNat))]) (m' := (f, l)) rfl rfl (fl_bo rfl) rfl ?_
  refine fl_Tq.stp (pc' := 6) (lv' := [some (.inr (.inr (.inl (76, 277)))), some (.inr (.inl (y_energy_a4 f ((f 280 2).toInt.toNat)))), none, some (.inl (Int32.ofNat ((f 280 2).toInt.toNat)))]) (st' := [.inr (.inr (.inl (76, 277))), .inl (Int32.ofNat ((f 280 2).toInt.toNat))]) (m' := (f, l)) rfl rfl (fl_bo rfl) rfl ?_
  refine fl_Tq.stp (pc' := 9) (lv' := [some (.inr (.inr (.inl (76, 277)))), some (.inr (.inl (y_energy_a4 f ((f 280 2).toInt.toNat)))), none, some (.inl (Int32.ofNat ((f 280 2).toInt.toNat)))]) (st' := [.inr (.inr (.inl (79, 280))), .inl (Int32.ofNat ((f 280 2).toInt.toNat))]) (m' := (f, l)) rfl rfl (fl_bo rfl) rfl ?_
  refine fl_Tq.cI (c := (2 : Int32)) rfl (by decide +kernel) (fl_bo rfl) ?_
  refine fl_Tq.ldV (p := 280) (τ := 79) (n := 29780) (z := (0, 0, 0)) (k := 2) (v := f 280 2) rfl (fl_bo rfl) rfl (by decide +kernel) (by decide) rfl ?_
  refine fl_Tq.jt rfl (fl_bo rfl) (c2_ge_t (t2_ln (t2_nn hn.1))) rfl ?_
  refine fl_Tq.stp (pc' := 42) (lv' := [some (.inr (.inr (.inl (76, 277)))), some (.inr (.inl (y_energy_a4 f ((f 280 2).toInt.toNat)))), none, some (.inl (Int32.ofNat ((f 280 2).toInt.toNat)))]) (st' := [.inr (.inl (y_energy_a4 f ((f 280 2).toInt.toNat)))]) (m' := (f, l)) rfl rfl (fl_bo rfl) rfl ?_
  refine fl_Tq.stp (pc' := 45) (lv' := [some (.inr (.inr (.inl (76, 277)))), some (.inr (.inl (y_energy_a4 f ((f 280 2).toInt.toNat)))), none, some (.inl (Int32.ofNat ((f 280 2).toInt.toNat)))]) (st' := [.inr (.inl (3600000 : Int64)), .inr (.inl (y_energy_a4 f ((f 280 2).toInt.toNat)))]) (m' := (f, l)) rfl rfl (fl_bo rfl) rfl ?_
  refine fl_Tq.dvJ rfl (fl_bo rfl) (by decide +kernel) ?_
  refine fl_Tq.stp (pc' := 47) (lv' := [some (.inr (.inr (.inl (76, 277)))), some (.inr (.inl (y_energy_a4 f ((f 280 2).toInt.toNat)))), none, some (.inl (Int32.ofNat ((f 280 2).toInt.toNat)))]) (st' := [.inl (((y_energy_a4 f ((f 280 2).toInt.toNat)) / (3600000 : Int64)).toInt32)]) (m' := (f, l)) rfl rfl (fl_bo rfl) rfl ?_
  exact fl_Tq.ret rfl rfl rfl k
theorem x_energy_e {f : t2_F} (I : c0_I f f) : x_energy_v f = y_energy_v f := by
  have a1 : ∀ k : Nat, k ≤ (f 280 2).toInt.toNat → x_energy_a4 f k = y_energy_a4 f k := by
    intro k
    induction k with
    | zero => intro _; rfl
    | succ k ih =>
      intro hk
      show x_energy_a4 f k + (((f (18 + 4 * k) 2).toInt64) * ((f (18 + 4 * k) 4).toInt64)) = y_energy_a4 f k + (((f 280 (444 + 61 * k + 1)).toInt64) * ((t2_rb (r_partOf_v f (Int32.ofNat k) k)).toInt64))
      rw [ih (by omega), I.chg (by omega), I.rst (by omega) (Int32.ofNat k)]
  unfold x_energy_v y_energy_v
  rw [show (f 1 5) = f 280 2 from I.1.1.1, a1 _ (Nat.le_refl _)]
/-! ===== energy, on both sides ===== -/
theorem t2_cmp_43 {L : Nat} {xs : Nat → Int32} {f : t2_F} {l : t2_L} (_hall : ∀ c ∈ at_CM ++ at_CA, at_Valid at_XI (pw_P L xs) c) (hg : t2_Z (f, l)) : fl_Tq (pw_P L xs) 144 0 (fl_args (am_mxl (pw_P L xs) 144) [lx_x]) [] (f, l) (t2_End L xs 281 [at_this]) := by
  have I : c0_I f f := hg.2.1
  refine t2_qq (y := y_energy_v f) hg (fun Q k => x_energy_q I.hc ?_) (fun Q k => y_energy_q I.rhu.1 (t2_Good.RS hg.1) I.rhu.2 k)
  rw [x_energy_e I]
  exact k

end
