/-! ===== printed by wip/gen/boxgen.py: the compared call's answer, by its arguments ===== -/
def bx_c113_0 : at_C := (113, [.inl (0, some 0), .inr (false, -2147483648, -1)], [], some (.inr (false, 0, 0)), false, [(22, false, 2, 3), (23, false, 0, 15), (24, false, 0, 15), (25, false, 5, 16), (27, false, 6, 8), (28, false, 0, 29), (29, false, 0, 2), (30, false, 0, 23), (31, false, 0, 11), (32, false, 0, 47), (33, false, 0, 39), (34, false, 3, 6), (35, false, 0, 10), (36, false, 0, 3), (37, false, 2, 3), (38, false, 0, 71), (40, false, 2, 3), (41, false, 0, 95), (42, false, 0, 18), (43, false, 2, 2), (44, false, 0, 31), (45, false, 0, 10), (46, false, 2, 3), (47, false, 0, 15), (48, false, 0, 15), (73, false, 1, 2), (74, false, 0, 19)])
set_option maxRecDepth 1000000 in
theorem bx_k113_0 : at_chk (at_CM ++ at_CA) at_JT 4000 bx_c113_0 = true := by decide +kernel
def bx_c113_1 : at_C := (113, [.inl (0, some 0), .inr (false, 3, 2147483647)], [], some (.inr (false, 0, 0)), false, [(22, false, 2, 3), (23, false, 0, 15), (24, false, 0, 15), (25, false, 5, 16), (27, false, 6, 8), (28, false, 0, 29), (29, false, 0, 2), (30, false, 0, 23), (31, false, 0, 11), (32, false, 0, 47), (33, false, 0, 39), (34, false, 3, 6), (35, false, 0, 10), (36, false, 0, 3), (37, false, 2, 3), (38, false, 0, 71), (40, false, 2, 3), (41, false, 0, 95), (42, false, 0, 18), (43, false, 2, 2), (44, false, 0, 31), (45, false, 0, 10), (46, false, 2, 3), (47, false, 0, 15), (48, false, 0, 15), (73, false, 1, 2), (74, false, 0, 19)])
set_option maxRecDepth 1000000 in
theorem bx_k113_1 : at_chk (at_CM ++ at_CA) at_JT 4000 bx_c113_1 = true := by decide +kernel
def bx_c113_2 : at_C := (113, [.inl (0, some 0), .inr (false, 0, 2)], [], some (.inr (false, 1, 1)), false, [(22, false, 2, 3), (23, false, 0, 15), (24, false, 0, 15), (25, false, 5, 16), (27, false, 6, 8), (28, false, 0, 29), (29, false, 0, 2), (30, false, 0, 23), (31, false, 0, 11), (32, false, 0, 47), (33, false, 0, 39), (34, false, 3, 6), (35, false, 0, 10), (36, false, 0, 3), (37, false, 2, 3), (38, false, 0, 71), (40, false, 2, 3), (41, false, 0, 95), (42, false, 0, 18), (43, false, 2, 2), (44, false, 0, 31), (45, false, 0, 10), (46, false, 2, 3), (47, false, 0, 15), (48, false, 0, 15), (73, false, 1, 2), (74, false, 0, 19)])
set_option maxRecDepth 1000000 in
theorem bx_k113_2 : at_chk (at_CM ++ at_CA) at_JT 4000 bx_c113_2 = true := by decide +kernel
def bx_c257_0 : at_C := (257, [.inl (76, some 277), .inr (false, -2147483648, -1)], [], some (.inr (false, 0, 0)), false, [(79, false, 0, 1), (79, false, 339, 443), (79, false, 1420, 29779)])
set_option maxRecDepth 1000000 in
theorem bx_k257_0 : at_chk (at_CM ++ at_CA) at_JT 4000 bx_c257_0 = true := by decide +kernel
def bx_c257_1 : at_C := (257, [.inl (76, some 277), .inr (false, 3, 2147483647)], [], some (.inr (false, 0, 0)), false, [(79, false, 0, 1), (79, false, 339, 443), (79, false, 1420, 29779)])
set_option maxRecDepth 1000000 in
theorem bx_k257_1 : at_chk (at_CM ++ at_CA) at_JT 4000 bx_c257_1 = true := by decide +kernel
def bx_c257_2 : at_C := (257, [.inl (76, some 277), .inr (false, 0, 2)], [], some (.inr (false, 1, 1)), false, [(79, false, 0, 1), (79, false, 339, 443), (79, false, 1420, 29779)])
set_option maxRecDepth 1000000 in
theorem bx_k257_2 : at_chk (at_CM ++ at_CA) at_JT 4000 bx_c257_2 = true := by decide +kernel
def bx_w (a1 : Int32) : Int := if 0 ≤ a1.toInt ∧ a1.toInt ≤ 2 then 1 else 0
set_option maxRecDepth 1000000 in
theorem bx_l68 : am_cl nw_P0 0 (.invokevirtual 68) = some (113, 2) := by decide +kernel
set_option maxRecDepth 1000000 in
theorem bx_l71 : am_cl nw_P0 0 (.invokevirtual 71) = some (257, 2) := by decide +kernel
section BXS
variable {L : Nat} {xs : Nat → Int32} {m : fl_M} {Q : Option fl_V → fl_M → Prop}
theorem bx_m113 {a1 : Int32} (hall : ∀ c ∈ at_CM ++ at_CA, at_Valid at_XI (pw_P L xs) c) (hg : at_Good at_XI m) (k : ∀ (b : Int32) (m' : fl_M), at_Good at_XI m' → b.toInt = bx_w a1 → Q (some (.inl b)) m') : fl_Tq (pw_P L xs) 113 0 (fl_args (am_mxl (pw_P L xs) 113) [lx_x, .inl a1]) [] m Q := by
  have hV : ∀ c : at_C, at_chk (at_CM ++ at_CA) at_JT 4000 c = true → at_Valid at_XI (pw_P L xs) c := fun c e => at_chk_ok at_XI_XX (fun m h => by have := h.h40; omega) hall e
  have ra1 := at_i32 a1
  by_cases l0 : a1.toInt < 0
  · refine fl_Tq.mono (hV _ bx_k113_0 m [lx_x, .inl a1] hg ⟨lx_kx _, ⟨_, rfl, by omega, by omega⟩, True.intro⟩ (fun q hq => by cases hq)) (fun v m1 ⟨hg1, _, hv1⟩ => ?_)
    obtain ⟨x, rfl, x1, x2, -⟩ := hv1
    refine k x m1 hg1 ?_
    unfold bx_w
    rw [if_neg (by omega)]; omega
  by_cases u0 : 2 < a1.toInt
  · refine fl_Tq.mono (hV _ bx_k113_1 m [lx_x, .inl a1] hg ⟨lx_kx _, ⟨_, rfl, by omega, by omega⟩, True.intro⟩ (fun q hq => by cases hq)) (fun v m1 ⟨hg1, _, hv1⟩ => ?_)
    obtain ⟨x, rfl, x1, x2, -⟩ := hv1
    refine k x m1 hg1 ?_
    unfold bx_w
    rw [if_neg (by omega)]; omega
  refine fl_Tq.mono (hV _ bx_k113_2 m [lx_x, .inl a1] hg ⟨lx_kx _, ⟨_, rfl, by omega, by omega⟩, True.intro⟩ (fun q hq => by cases hq)) (fun v m1 ⟨hg1, _, hv1⟩ => ?_)
  obtain ⟨x, rfl, x1, x2, -⟩ := hv1
  refine k x m1 hg1 ?_
  unfold bx_w
  rw [if_pos (by omega)]; omega
theorem bx_m257 {a1 : Int32} (hall : ∀ c ∈ at_CM ++ at_CA, at_Valid at_XI (pw_P L xs) c) (hg : at_Good at_XI m) (k : ∀ (b : Int32) (m' : fl_M), at_Good at_XI m' → b.toInt = bx_w a1 → Q (some (.inl b)) m') : fl_Tq (pw_P L xs) 257 0 (fl_args (am_mxl (pw_P L xs) 257) [at_this, .inl a1]) [] m Q := by
  have hV : ∀ c : at_C, at_chk (at_CM ++ at_CA) at_JT 4000 c = true → at_Valid at_XI (pw_P L xs) c := fun c e => at_chk_ok at_XI_XX (fun m h => by have := h.h40; omega) hall e
  have ra1 := at_i32 a1
  by_cases l0 : a1.toInt < 0
  · refine fl_Tq.mono (hV _ bx_k257_0 m [at_this, .inl a1] hg ⟨at_k277 _, ⟨_, rfl, by omega, by omega⟩, True.intro⟩ (fun q hq => by cases hq)) (fun v m1 ⟨hg1, _, hv1⟩ => ?_)
    obtain ⟨x, rfl, x1, x2, -⟩ := hv1
    refine k x m1 hg1 ?_
    unfold bx_w
    rw [if_neg (by omega)]; omega
  by_cases u0 : 2 < a1.toInt
  · refine fl_Tq.mono (hV _ bx_k257_1 m [at_this, .inl a1] hg ⟨at_k277 _, ⟨_, rfl, by omega, by omega⟩, True.intro⟩ (fun q hq => by cases hq)) (fun v m1 ⟨hg1, _, hv1⟩ => ?_)
    obtain ⟨x, rfl, x1, x2, -⟩ := hv1
    refine k x m1 hg1 ?_
    unfold bx_w
    rw [if_neg (by omega)]; omega
  refine fl_Tq.mono (hV _ bx_k257_2 m [at_this, .inl a1] hg ⟨at_k277 _, ⟨_, rfl, by omega, by omega⟩, True.intro⟩ (fun q hq => by cases hq)) (fun v m1 ⟨hg1, _, hv1⟩ => ?_)
  obtain ⟨x, rfl, x1, x2, -⟩ := hv1
  refine k x m1 hg1 ?_
  unfold bx_w
  rw [if_pos (by omega)]; omega
theorem lx_c12 {i : Nat} (hall : ∀ c ∈ at_CM ++ at_CA, at_Valid at_XI (pw_P L xs) c) (hL : L ≤ 3072) (hi : i + 6 ≤ L) (hg : at_Good at_XI m) (kk : ∀ m' : fl_M, at_Good at_XI m' → fl_Tq (pw_P L xs) 0 2030 (lx_lv i) [] m' Q) : fl_Tq (pw_P L xs) 0 646 (lx_lv i) [] m Q := by
  refine fl_Tq.stp (pw_cod lx_k646) rfl (fl_bo rfl) rfl ?_
  refine lx_arg (i := i) (jn := 1) (pw_cod lx_k647) (pw_cod lx_k648) (pw_cod lx_k649) (pw_cod lx_k650) (pw_cod lx_k651) rfl (fl_bo rfl) hL (by omega) ?_
  refine fl_Tq.cal (mj := 113) (n := 2) (pw_cod lx_k652) (pw_cll bx_l68) (fl_bo rfl) rfl ?_
  refine bx_m113 hall hg (fun b1 m1 hg1 hb1 => ?_)
  refine fl_Tq.stp (pw_cod lx_k655) rfl (fl_bo rfl) rfl ?_
  refine lx_arg (i := i) (jn := 1) (pw_cod lx_k656) (pw_cod lx_k657) (pw_cod lx_k658) (pw_cod lx_k659) (pw_cod lx_k660) rfl (fl_bo rfl) hL (by omega) ?_
  refine fl_Tq.cal (mj := 257) (n := 2) (pw_cod lx_k661) (pw_cll bx_l71) (fl_bo rfl) rfl ?_
  refine bx_m257 hall hg1 (fun b2 m2 hg2 hb2 => ?_)
  refine fl_Tq.jt (pw_cod lx_k664) (fl_bo rfl) ?_ rfl ?_
  · rw [at_c2]
    exact decide_eq_true (by omega)
  exact kk m2 hg2
end BXS
