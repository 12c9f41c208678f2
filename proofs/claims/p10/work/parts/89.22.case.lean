/-! ===== printed by wip/gen/boxgen.py: the compared call's answer, by its arguments ===== -/
def bx_c109_0 : at_C := (109, [.inl (0, some 0), .inr (false, -2147483648, -1), .inr (false, -2147483648, 2147483647)], [], some (.inr (false, 0, 0)), false, [(5, false, 0, 2), (25, false, 5, 16), (27, false, 6, 8), (28, false, 0, 29), (29, false, 0, 2), (30, false, 0, 23), (31, false, 0, 11), (32, false, 0, 47), (33, false, 0, 39), (34, false, 3, 6), (35, false, 0, 10), (36, false, 0, 3), (37, false, 2, 3), (38, false, 0, 71), (40, false, 2, 3), (41, false, 0, 95), (42, false, 0, 18), (43, false, 2, 2), (44, false, 0, 31), (45, false, 0, 10), (46, false, 2, 3), (47, false, 0, 15), (48, false, 0, 15), (73, false, 1, 2), (74, false, 0, 19)])
set_option maxRecDepth 1000000 in
theorem bx_k109_0 : at_chk (at_CM ++ at_CA) at_JT 4000 bx_c109_0 = true := by decide +kernel
def bx_c109_1 : at_C := (109, [.inl (0, some 0), .inr (false, 3, 2147483647), .inr (false, -2147483648, 2147483647)], [], some (.inr (false, 0, 0)), false, [(5, false, 0, 2), (25, false, 5, 16), (27, false, 6, 8), (28, false, 0, 29), (29, false, 0, 2), (30, false, 0, 23), (31, false, 0, 11), (32, false, 0, 47), (33, false, 0, 39), (34, false, 3, 6), (35, false, 0, 10), (36, false, 0, 3), (37, false, 2, 3), (38, false, 0, 71), (40, false, 2, 3), (41, false, 0, 95), (42, false, 0, 18), (43, false, 2, 2), (44, false, 0, 31), (45, false, 0, 10), (46, false, 2, 3), (47, false, 0, 15), (48, false, 0, 15), (73, false, 1, 2), (74, false, 0, 19)])
set_option maxRecDepth 1000000 in
theorem bx_k109_1 : at_chk (at_CM ++ at_CA) at_JT 4000 bx_c109_1 = true := by decide +kernel
def bx_c109_2 : at_C := (109, [.inl (0, some 0), .inr (false, 0, 2), .inr (false, -2147483648, -1)], [], some (.inr (false, 0, 0)), false, [(5, false, 0, 2), (25, false, 5, 16), (27, false, 6, 8), (28, false, 0, 29), (29, false, 0, 2), (30, false, 0, 23), (31, false, 0, 11), (32, false, 0, 47), (33, false, 0, 39), (34, false, 3, 6), (35, false, 0, 10), (36, false, 0, 3), (37, false, 2, 3), (38, false, 0, 71), (40, false, 2, 3), (41, false, 0, 95), (42, false, 0, 18), (43, false, 2, 2), (44, false, 0, 31), (45, false, 0, 10), (46, false, 2, 3), (47, false, 0, 15), (48, false, 0, 15), (73, false, 1, 2), (74, false, 0, 19)])
set_option maxRecDepth 1000000 in
theorem bx_k109_2 : at_chk (at_CM ++ at_CA) at_JT 4000 bx_c109_2 = true := by decide +kernel
def bx_c109_3 : at_C := (109, [.inl (0, some 0), .inr (false, 0, 2), .inr (false, 3, 2147483647)], [], some (.inr (false, 0, 0)), false, [(5, false, 0, 2), (25, false, 5, 16), (27, false, 6, 8), (28, false, 0, 29), (29, false, 0, 2), (30, false, 0, 23), (31, false, 0, 11), (32, false, 0, 47), (33, false, 0, 39), (34, false, 3, 6), (35, false, 0, 10), (36, false, 0, 3), (37, false, 2, 3), (38, false, 0, 71), (40, false, 2, 3), (41, false, 0, 95), (42, false, 0, 18), (43, false, 2, 2), (44, false, 0, 31), (45, false, 0, 10), (46, false, 2, 3), (47, false, 0, 15), (48, false, 0, 15), (73, false, 1, 2), (74, false, 0, 19)])
set_option maxRecDepth 1000000 in
theorem bx_k109_3 : at_chk (at_CM ++ at_CA) at_JT 4000 bx_c109_3 = true := by decide +kernel
def bx_c109_4 : at_C := (109, [.inl (0, some 0), .inr (false, 0, 2), .inr (false, 0, 2)], [], some (.inr (false, 1, 1)), false, [(5, false, 0, 2), (25, false, 5, 16), (27, false, 6, 8), (28, false, 0, 29), (29, false, 0, 2), (30, false, 0, 23), (31, false, 0, 11), (32, false, 0, 47), (33, false, 0, 39), (34, false, 3, 6), (35, false, 0, 10), (36, false, 0, 3), (37, false, 2, 3), (38, false, 0, 71), (40, false, 2, 3), (41, false, 0, 95), (42, false, 0, 18), (43, false, 2, 2), (44, false, 0, 31), (45, false, 0, 10), (46, false, 2, 3), (47, false, 0, 15), (48, false, 0, 15), (73, false, 1, 2), (74, false, 0, 19)])
set_option maxRecDepth 1000000 in
theorem bx_k109_4 : at_chk (at_CM ++ at_CA) at_JT 4000 bx_c109_4 = true := by decide +kernel
def bx_c258_0 : at_C := (258, [.inl (76, some 277), .inr (false, -2147483648, -1), .inr (false, -2147483648, 2147483647)], [], some (.inr (false, 0, 0)), false, [(79, false, 0, 1), (79, false, 64, 66), (79, false, 1420, 29779)])
set_option maxRecDepth 1000000 in
theorem bx_k258_0 : at_chk (at_CM ++ at_CA) at_JT 4000 bx_c258_0 = true := by decide +kernel
def bx_c258_1 : at_C := (258, [.inl (76, some 277), .inr (false, 3, 2147483647), .inr (false, -2147483648, 2147483647)], [], some (.inr (false, 0, 0)), false, [(79, false, 0, 1), (79, false, 64, 66), (79, false, 1420, 29779)])
set_option maxRecDepth 1000000 in
theorem bx_k258_1 : at_chk (at_CM ++ at_CA) at_JT 4000 bx_c258_1 = true := by decide +kernel
def bx_c258_2 : at_C := (258, [.inl (76, some 277), .inr (false, 0, 2), .inr (false, -2147483648, -1)], [], some (.inr (false, 0, 0)), false, [(79, false, 0, 1), (79, false, 64, 66), (79, false, 1420, 29779)])
set_option maxRecDepth 1000000 in
theorem bx_k258_2 : at_chk (at_CM ++ at_CA) at_JT 4000 bx_c258_2 = true := by decide +kernel
def bx_c258_3 : at_C := (258, [.inl (76, some 277), .inr (false, 0, 2), .inr (false, 3, 2147483647)], [], some (.inr (false, 0, 0)), false, [(79, false, 0, 1), (79, false, 64, 66), (79, false, 1420, 29779)])
set_option maxRecDepth 1000000 in
theorem bx_k258_3 : at_chk (at_CM ++ at_CA) at_JT 4000 bx_c258_3 = true := by decide +kernel
def bx_c258_4 : at_C := (258, [.inl (76, some 277), .inr (false, 0, 2), .inr (false, 0, 2)], [], some (.inr (false, 1, 1)), false, [(79, false, 0, 1), (79, false, 64, 66), (79, false, 1420, 29779)])
set_option maxRecDepth 1000000 in
theorem bx_k258_4 : at_chk (at_CM ++ at_CA) at_JT 4000 bx_c258_4 = true := by decide +kernel
def bx_w (a1 a2 : Int32) : Int := if 0 ≤ a1.toInt ∧ a1.toInt ≤ 2 ∧ 0 ≤ a2.toInt ∧ a2.toInt ≤ 2 then 1 else 0
set_option maxRecDepth 1000000 in
theorem bx_l50 : am_cl nw_P0 0 (.invokevirtual 50) = some (109, 3) := by decide +kernel
set_option maxRecDepth 1000000 in
theorem bx_l53 : am_cl nw_P0 0 (.invokevirtual 53) = some (258, 3) := by decide +kernel
section BXS
variable {L : Nat} {xs : Nat → Int32} {m : fl_M} {Q : Option fl_V → fl_M → Prop}
theorem bx_m109 {a1 a2 : Int32} (hall : ∀ c ∈ at_CM ++ at_CA, at_Valid at_XI (pw_P L xs) c) (hg : at_Good at_XI m) (k : ∀ (b : Int32) (m' : fl_M), at_Good at_XI m' → b.toInt = bx_w a1 a2 → Q (some (.inl b)) m') : fl_Tq (pw_P L xs) 109 0 (fl_args (am_mxl (pw_P L xs) 109) [lx_x, .inl a1, .inl a2]) [] m Q := by
  have hV : ∀ c : at_C, at_chk (at_CM ++ at_CA) at_JT 4000 c = true → at_Valid at_XI (pw_P L xs) c := fun c e => at_chk_ok at_XI_XX (fun m h => by have := h.h40; omega) hall e
  have ra1 := at_i32 a1
  have ra2 := at_i32 a2
  by_cases l0 : a1.toInt < 0
  · refine fl_Tq.mono (hV _ bx_k109_0 m [lx_x, .inl a1, .inl a2] hg ⟨lx_kx _, ⟨_, rfl, by omega, by omega⟩, ⟨_, rfl, by omega, by omega⟩, True.intro⟩ (fun q hq => by cases hq)) (fun v m1 ⟨hg1, _, hv1⟩ => ?_)
    obtain ⟨x, rfl, x1, x2, -⟩ := hv1
    refine k x m1 hg1 ?_
    unfold bx_w
    rw [if_neg (by omega)]; omega
  by_cases u0 : 2 < a1.toInt
  · refine fl_Tq.mono (hV _ bx_k109_1 m [lx_x, .inl a1, .inl a2] hg ⟨lx_kx _, ⟨_, rfl, by omega, by omega⟩, ⟨_, rfl, by omega, by omega⟩, True.intro⟩ (fun q hq => by cases hq)) (fun v m1 ⟨hg1, _, hv1⟩ => ?_)
    obtain ⟨x, rfl, x1, x2, -⟩ := hv1
    refine k x m1 hg1 ?_
    unfold bx_w
    rw [if_neg (by omega)]; omega
  by_cases l1 : a2.toInt < 0
  · refine fl_Tq.mono (hV _ bx_k109_2 m [lx_x, .inl a1, .inl a2] hg ⟨lx_kx _, ⟨_, rfl, by omega, by omega⟩, ⟨_, rfl, by omega, by omega⟩, True.intro⟩ (fun q hq => by cases hq)) (fun v m1 ⟨hg1, _, hv1⟩ => ?_)
    obtain ⟨x, rfl, x1, x2, -⟩ := hv1
    refine k x m1 hg1 ?_
    unfold bx_w
    rw [if_neg (by omega)]; omega
  by_cases u1 : 2 < a2.toInt
  · refine fl_Tq.mono (hV _ bx_k109_3 m [lx_x, .inl a1, .inl a2] hg ⟨lx_kx _, ⟨_, rfl, by omega, by omega⟩, ⟨_, rfl, by omega, by omega⟩, True.intro⟩ (fun q hq => by cases hq)) (fun v m1 ⟨hg1, _, hv1⟩ => ?_)
    obtain ⟨x, rfl, x1, x2, -⟩ := hv1
    refine k x m1 hg1 ?_
    unfold bx_w
    rw [if_neg (by omega)]; omega
  refine fl_Tq.mono (hV _ bx_k109_4 m [lx_x, .inl a1, .inl a2] hg ⟨lx_kx _, ⟨_, rfl, by omega, by omega⟩, ⟨_, rfl, by omega, by omega⟩, True.intro⟩ (fun q hq => by cases hq)) (fun v m1 ⟨hg1, _, hv1⟩ => ?_)
  obtain ⟨x, rfl, x1, x2, -⟩ := hv1
  refine k x m1 hg1 ?_
  unfold bx_w
  rw [if_pos (by omega)]; omega
theorem bx_m258 {a1 a2 : Int32} (hall : ∀ c ∈ at_CM ++ at_CA, at_Valid at_XI (pw_P L xs) c) (hg : at_Good at_XI m) (k : ∀ (b : Int32) (m' : fl_M), at_Good at_XI m' → b.toInt = bx_w a1 a2 → Q (some (.inl b)) m') : fl_Tq (pw_P L xs) 258 0 (fl_args (am_mxl (pw_P L xs) 258) [at_this, .inl a1, .inl a2]) [] m Q := by
  have hV : ∀ c : at_C, at_chk (at_CM ++ at_CA) at_JT 4000 c = true → at_Valid at_XI (pw_P L xs) c := fun c e => at_chk_ok at_XI_XX (fun m h => by have := h.h40; omega) hall e
  have ra1 := at_i32 a1
  have ra2 := at_i32 a2
  by_cases l0 : a1.toInt < 0
  · refine fl_Tq.mono (hV _ bx_k258_0 m [at_this, .inl a1, .inl a2] hg ⟨at_k277 _, ⟨_, rfl, by omega, by omega⟩, ⟨_, rfl, by omega, by omega⟩, True.intro⟩ (fun q hq => by cases hq)) (fun v m1 ⟨hg1, _, hv1⟩ => ?_)
    obtain ⟨x, rfl, x1, x2, -⟩ := hv1
    refine k x m1 hg1 ?_
    unfold bx_w
    rw [if_neg (by omega)]; omega
  by_cases u0 : 2 < a1.toInt
  · refine fl_Tq.mono (hV _ bx_k258_1 m [at_this, .inl a1, .inl a2] hg ⟨at_k277 _, ⟨_, rfl, by omega, by omega⟩, ⟨_, rfl, by omega, by omega⟩, True.intro⟩ (fun q hq => by cases hq)) (fun v m1 ⟨hg1, _, hv1⟩ => ?_)
    obtain ⟨x, rfl, x1, x2, -⟩ := hv1
    refine k x m1 hg1 ?_
    unfold bx_w
    rw [if_neg (by omega)]; omega
  by_cases l1 : a2.toInt < 0
  · refine fl_Tq.mono (hV _ bx_k258_2 m [at_this, .inl a1, .inl a2] hg ⟨at_k277 _, ⟨_, rfl, by omega, by omega⟩, ⟨_, rfl, by omega, by omega⟩, True.intro⟩ (fun q hq => by cases hq)) (fun v m1 ⟨hg1, _, hv1⟩ => ?_)
    obtain ⟨x, rfl, x1, x2, -⟩ := hv1
    refine k x m1 hg1 ?_
    unfold bx_w
    rw [if_neg (by omega)]; omega
  by_cases u1 : 2 < a2.toInt
  · refine fl_Tq.mono (hV _ bx_k258_3 m [at_this, .inl a1, .inl a2] hg ⟨at_k277 _, ⟨_, rfl, by omega, by omega⟩, ⟨_, rfl, by omega, by omega⟩, True.intro⟩ (fun q hq => by cases hq)) (fun v m1 ⟨hg1, _, hv1⟩ => ?_)
    obtain ⟨x, rfl, x1, x2, -⟩ := hv1
    refine k x m1 hg1 ?_
    unfold bx_w
    rw [if_neg (by omega)]; omega
  refine fl_Tq.mono (hV _ bx_k258_4 m [at_this, .inl a1, .inl a2] hg ⟨at_k277 _, ⟨_, rfl, by omega, by omega⟩, ⟨_, rfl, by omega, by omega⟩, True.intro⟩ (fun q hq => by cases hq)) (fun v m1 ⟨hg1, _, hv1⟩ => ?_)
  obtain ⟨x, rfl, x1, x2, -⟩ := hv1
  refine k x m1 hg1 ?_
  unfold bx_w
  rw [if_pos (by omega)]; omega
theorem lx_c8 {i : Nat} (hall : ∀ c ∈ at_CM ++ at_CA, at_Valid at_XI (pw_P L xs) c) (hL : L ≤ 3072) (hi : i + 6 ≤ L) (hg : at_Good at_XI m) (kk : ∀ m' : fl_M, at_Good at_XI m' → fl_Tq (pw_P L xs) 0 2030 (lx_lv i) [] m' Q) : fl_Tq (pw_P L xs) 0 534 (lx_lv i) [] m Q := by
  refine fl_Tq.stp (pw_cod lx_k534) rfl (fl_bo rfl) rfl ?_
  refine lx_arg (i := i) (jn := 1) (pw_cod lx_k535) (pw_cod lx_k536) (pw_cod lx_k537) (pw_cod lx_k538) (pw_cod lx_k539) rfl (fl_bo rfl) hL (by omega) ?_
  refine lx_arg (i := i) (jn := 2) (pw_cod lx_k540) (pw_cod lx_k541) (pw_cod lx_k542) (pw_cod lx_k543) (pw_cod lx_k544) rfl (fl_bo rfl) hL (by omega) ?_
  refine fl_Tq.cal (mj := 109) (n := 3) (pw_cod lx_k545) (pw_cll bx_l50) (fl_bo rfl) rfl ?_
  refine bx_m109 hall hg (fun b1 m1 hg1 hb1 => ?_)
  refine fl_Tq.stp (pw_cod lx_k548) rfl (fl_bo rfl) rfl ?_
  refine lx_arg (i := i) (jn := 1) (pw_cod lx_k549) (pw_cod lx_k550) (pw_cod lx_k551) (pw_cod lx_k552) (pw_cod lx_k553) rfl (fl_bo rfl) hL (by omega) ?_
  refine lx_arg (i := i) (jn := 2) (pw_cod lx_k554) (pw_cod lx_k555) (pw_cod lx_k556) (pw_cod lx_k557) (pw_cod lx_k558) rfl (fl_bo rfl) hL (by omega) ?_
  refine fl_Tq.cal (mj := 258) (n := 3) (pw_cod lx_k559) (pw_cll bx_l53) (fl_bo rfl) rfl ?_
  refine bx_m258 hall hg1 (fun b2 m2 hg2 hb2 => ?_)
  refine fl_Tq.jt (pw_cod lx_k562) (fl_bo rfl) ?_ rfl ?_
  · rw [at_c2]
    exact decide_eq_true (by omega)
  exact kk m2 hg2
end BXS
