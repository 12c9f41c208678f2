/-! ===== printed by wip/gen/lawgen3.py: the law's cases ===== -/
theorem ly_c0 {L : Nat} {xs : Nat → Int32} {m : fl_M} {Q : Option fl_V → fl_M → Prop} {i : Nat} (hall : ∀ c ∈ at_CM ++ at_CA, at_Valid at_XI (pw_P L xs) c) (hL : L ≤ 3072) (hi : i + 6 ≤ L) (hg : t2_Z m) (kk : ∀ m' : fl_M, t2_Z m' → fl_Tq (pw_P L xs) 0 2030 (lx_lv i) [] m' Q) : fl_Tq (pw_P L xs) 0 320 (lx_lv i) [] m Q := by
  obtain ⟨f, l⟩ := m
  refine fl_Tq.stp (pw_cod lx_k320) rfl (fl_bo rfl) rfl ?_
  refine lx_arg (i := i) (jn := 1) (pw_cod lx_k321) (pw_cod lx_k322) (pw_cod lx_k323) (pw_cod lx_k324) (pw_cod lx_k325) rfl (fl_bo rfl) hL (by omega) ?_
  refine lx_arg (i := i) (jn := 2) (pw_cod lx_k326) (pw_cod lx_k327) (pw_cod lx_k328) (pw_cod lx_k329) (pw_cod lx_k330) rfl (fl_bo rfl) hL (by omega) ?_
  refine lx_arg (i := i) (jn := 3) (pw_cod lx_k331) (pw_cod lx_k332) (pw_cod lx_k333) (pw_cod lx_k334) (pw_cod lx_k335) rfl (fl_bo rfl) hL (by omega) ?_
  refine lx_callG (as_ := [lx_x, .inl (xs (i + 1)), .inl (xs (i + 2)), .inl (xs (i + 3))]) (rest := []) (pw_cod lx_k336) (pw_cll lx_l13) rfl (fl_bo rfl) rfl rfl (t2_step (ar := [at_this, .inl (xs (i + 1)), .inl (xs (i + 2)), .inl (xs (i + 3))]) (hall _ at_c101_in) (hall _ at_c243_in) rfl rfl hg ⟨lx_kx _, lx_ki _, lx_ki _, lx_ki _, True.intro⟩ rfl (fun _ => ⟨at_k277 _, lx_ki _, lx_ki _, lx_ki _, True.intro⟩) rfl (t2_cell hg)) (fun v1 m1 hg1 => ?_)
  obtain ⟨⟨y1, rfl⟩, hg1⟩ := hg1
  refine fl_Tq.stp (pw_cod lx_k339) rfl (fl_bo rfl) rfl ?_
  refine lx_arg (i := i) (jn := 1) (pw_cod lx_k340) (pw_cod lx_k341) (pw_cod lx_k342) (pw_cod lx_k343) (pw_cod lx_k344) rfl (fl_bo rfl) hL (by omega) ?_
  refine lx_arg (i := i) (jn := 2) (pw_cod lx_k345) (pw_cod lx_k346) (pw_cod lx_k347) (pw_cod lx_k348) (pw_cod lx_k349) rfl (fl_bo rfl) hL (by omega) ?_
  refine lx_arg (i := i) (jn := 3) (pw_cod lx_k350) (pw_cod lx_k351) (pw_cod lx_k352) (pw_cod lx_k353) (pw_cod lx_k354) rfl (fl_bo rfl) hL (by omega) ?_
  refine lx_callG (as_ := [at_this, .inl (xs (i + 1)), .inl (xs (i + 2)), .inl (xs (i + 3))]) (rest := [.inl y1]) (pw_cod lx_k355) (pw_cll lx_l17) rfl (fl_bo rfl) rfl rfl hg1 (fun v2 m2 hg2 => ?_)
  obtain ⟨rfl, hg2⟩ := hg2
  refine fl_Tq.jt (pw_cod lx_k358) (fl_bo rfl) (by rw [at_c2]; exact decide_eq_true (by omega)) rfl ?_
  exact kk m2 hg2
theorem ly_c1 {L : Nat} {xs : Nat → Int32} {m : fl_M} {Q : Option fl_V → fl_M → Prop} {i : Nat} (hall : ∀ c ∈ at_CM ++ at_CA, at_Valid at_XI (pw_P L xs) c) (hL : L ≤ 3072) (hi : i + 6 ≤ L) (hg : t2_Z m) (kk : ∀ m' : fl_M, t2_Z m' → fl_Tq (pw_P L xs) 0 2030 (lx_lv i) [] m' Q) : fl_Tq (pw_P L xs) 0 363 (lx_lv i) [] m Q := by
  obtain ⟨f, l⟩ := m
  refine fl_Tq.stp (pw_cod lx_k363) rfl (fl_bo rfl) rfl ?_
  refine lx_arg (i := i) (jn := 1) (pw_cod lx_k364) (pw_cod lx_k365) (pw_cod lx_k366) (pw_cod lx_k367) (pw_cod lx_k368) rfl (fl_bo rfl) hL (by omega) ?_
  refine lx_arg (i := i) (jn := 2) (pw_cod lx_k369) (pw_cod lx_k370) (pw_cod lx_k371) (pw_cod lx_k372) (pw_cod lx_k373) rfl (fl_bo rfl) hL (by omega) ?_
  refine lx_callG (as_ := [lx_x, .inl (xs (i + 1)), .inl (xs (i + 2))]) (rest := []) (pw_cod lx_k374) (pw_cll lx_l18) rfl (fl_bo rfl) rfl rfl (t2_step (ar := [at_this, .inl (xs (i + 1)), .inl (xs (i + 2))]) (hall _ at_c102_in) (hall _ at_c244_in) rfl rfl hg ⟨lx_kx _, lx_ki _, lx_ki _, True.intro⟩ rfl (fun _ => ⟨at_k277 _, lx_ki _, lx_ki _, True.intro⟩) rfl (t2_charge hg)) (fun v1 m1 hg1 => ?_)
  obtain ⟨⟨y1, rfl⟩, hg1⟩ := hg1
  refine fl_Tq.stp (pw_cod lx_k377) rfl (fl_bo rfl) rfl ?_
  refine fl_Tq.stp (pw_cod lx_k378) rfl (fl_bo rfl) rfl ?_
  refine lx_arg (i := i) (jn := 1) (pw_cod lx_k379) (pw_cod lx_k380) (pw_cod lx_k381) (pw_cod lx_k382) (pw_cod lx_k383) rfl (fl_bo rfl) hL (by omega) ?_
  refine lx_arg (i := i) (jn := 2) (pw_cod lx_k384) (pw_cod lx_k385) (pw_cod lx_k386) (pw_cod lx_k387) (pw_cod lx_k388) rfl (fl_bo rfl) hL (by omega) ?_
  refine lx_callG (as_ := [at_this, .inl (xs (i + 1)), .inl (xs (i + 2))]) (rest := []) (pw_cod lx_k389) (pw_cll lx_l22) rfl (fl_bo rfl) rfl rfl hg1 (fun v2 m2 hg2 => ?_)
  obtain ⟨rfl, hg2⟩ := hg2
  refine fl_Tq.stp (pw_cod lx_k392) rfl (fl_bo rfl) rfl ?_
  refine fl_Tq.stp (pw_cod lx_k393) rfl (fl_bo rfl) rfl ?_
  exact kk m2 hg2
theorem ly_c2 {L : Nat} {xs : Nat → Int32} {m : fl_M} {Q : Option fl_V → fl_M → Prop} {i : Nat} (hall : ∀ c ∈ at_CM ++ at_CA, at_Valid at_XI (pw_P L xs) c) (hL : L ≤ 3072) (hi : i + 6 ≤ L) (hg : t2_Z m) (kk : ∀ m' : fl_M, t2_Z m' → fl_Tq (pw_P L xs) 0 2030 (lx_lv i) [] m' Q) : fl_Tq (pw_P L xs) 0 396 (lx_lv i) [] m Q := by
  obtain ⟨f, l⟩ := m
  refine fl_Tq.stp (pw_cod lx_k396) rfl (fl_bo rfl) rfl ?_
  refine lx_arg (i := i) (jn := 1) (pw_cod lx_k397) (pw_cod lx_k398) (pw_cod lx_k399) (pw_cod lx_k400) (pw_cod lx_k401) rfl (fl_bo rfl) hL (by omega) ?_
  refine lx_arg (i := i) (jn := 2) (pw_cod lx_k402) (pw_cod lx_k403) (pw_cod lx_k404) (pw_cod lx_k405) (pw_cod lx_k406) rfl (fl_bo rfl) hL (by omega) ?_
  refine lx_callG (as_ := [lx_x, .inl (xs (i + 1)), .inl (xs (i + 2))]) (rest := []) (pw_cod lx_k407) (pw_cll lx_l23) rfl (fl_bo rfl) rfl rfl (t2_step (ar := [at_this, .inl (xs (i + 1)), .inl (xs (i + 2))]) (hall _ at_c103_in) (hall _ at_c245_in) rfl rfl hg ⟨lx_kx _, lx_ki _, lx_ki _, True.intro⟩ rfl (fun _ => ⟨at_k277 _, lx_ki _, lx_ki _, True.intro⟩) rfl (t2_warm hg)) (fun v1 m1 hg1 => ?_)
  obtain ⟨⟨y1, rfl⟩, hg1⟩ := hg1
  refine fl_Tq.stp (pw_cod lx_k410) rfl (fl_bo rfl) rfl ?_
  refine fl_Tq.stp (pw_cod lx_k411) rfl (fl_bo rfl) rfl ?_
  refine lx_arg (i := i) (jn := 1) (pw_cod lx_k412) (pw_cod lx_k413) (pw_cod lx_k414) (pw_cod lx_k415) (pw_cod lx_k416) rfl (fl_bo rfl) hL (by omega) ?_
  refine lx_arg (i := i) (jn := 2) (pw_cod lx_k417) (pw_cod lx_k418) (pw_cod lx_k419) (pw_cod lx_k420) (pw_cod lx_k421) rfl (fl_bo rfl) hL (by omega) ?_
  refine lx_callG (as_ := [at_this, .inl (xs (i + 1)), .inl (xs (i + 2))]) (rest := []) (pw_cod lx_k422) (pw_cll lx_l26) rfl (fl_bo rfl) rfl rfl hg1 (fun v2 m2 hg2 => ?_)
  obtain ⟨rfl, hg2⟩ := hg2
  refine fl_Tq.stp (pw_cod lx_k425) rfl (fl_bo rfl) rfl ?_
  refine fl_Tq.stp (pw_cod lx_k426) rfl (fl_bo rfl) rfl ?_
  exact kk m2 hg2
theorem ly_c3 {L : Nat} {xs : Nat → Int32} {m : fl_M} {Q : Option fl_V → fl_M → Prop} {i : Nat} (hall : ∀ c ∈ at_CM ++ at_CA, at_Valid at_XI (pw_P L xs) c) (hL : L ≤ 3072) (hi : i + 6 ≤ L) (hg : t2_Z m) (kk : ∀ m' : fl_M, t2_Z m' → fl_Tq (pw_P L xs) 0 2030 (lx_lv i) [] m' Q) : fl_Tq (pw_P L xs) 0 429 (lx_lv i) [] m Q := by
  obtain ⟨f, l⟩ := m
  refine fl_Tq.stp (pw_cod lx_k429) rfl (fl_bo rfl) rfl ?_
  refine lx_arg (i := i) (jn := 1) (pw_cod lx_k430) (pw_cod lx_k431) (pw_cod lx_k432) (pw_cod lx_k433) (pw_cod lx_k434) rfl (fl_bo rfl) hL (by omega) ?_
  refine lx_arg (i := i) (jn := 2) (pw_cod lx_k435) (pw_cod lx_k436) (pw_cod lx_k437) (pw_cod lx_k438) (pw_cod lx_k439) rfl (fl_bo rfl) hL (by omega) ?_
  refine lx_callG (as_ := [lx_x, .inl (xs (i + 1)), .inl (xs (i + 2))]) (rest := []) (pw_cod lx_k440) (pw_cll lx_l27) rfl (fl_bo rfl) rfl rfl (t2_step (ar := [at_this, .inl (xs (i + 1)), .inl (xs (i + 2))]) (hall _ at_c104_in) (hall _ at_c247_in) rfl rfl hg ⟨lx_kx _, lx_ki _, lx_ki _, True.intro⟩ rfl (fun _ => ⟨at_k277 _, lx_ki _, lx_ki _, True.intro⟩) rfl (t2_set hg)) (fun v1 m1 hg1 => ?_)
  obtain ⟨⟨y1, rfl⟩, hg1⟩ := hg1
  refine fl_Tq.stp (pw_cod lx_k443) rfl (fl_bo rfl) rfl ?_
  refine fl_Tq.stp (pw_cod lx_k444) rfl (fl_bo rfl) rfl ?_
  refine lx_arg (i := i) (jn := 1) (pw_cod lx_k445) (pw_cod lx_k446) (pw_cod lx_k447) (pw_cod lx_k448) (pw_cod lx_k449) rfl (fl_bo rfl) hL (by omega) ?_
  refine lx_arg (i := i) (jn := 2) (pw_cod lx_k450) (pw_cod lx_k451) (pw_cod lx_k452) (pw_cod lx_k453) (pw_cod lx_k454) rfl (fl_bo rfl) hL (by omega) ?_
  refine lx_callG (as_ := [at_this, .inl (xs (i + 1)), .inl (xs (i + 2))]) (rest := []) (pw_cod lx_k455) (pw_cll lx_l30) rfl (fl_bo rfl) rfl rfl hg1 (fun v2 m2 hg2 => ?_)
  obtain ⟨rfl, hg2⟩ := hg2
  refine fl_Tq.stp (pw_cod lx_k458) rfl (fl_bo rfl) rfl ?_
  refine fl_Tq.stp (pw_cod lx_k459) rfl (fl_bo rfl) rfl ?_
  exact kk m2 hg2
theorem ly_c4 {L : Nat} {xs : Nat → Int32} {m : fl_M} {Q : Option fl_V → fl_M → Prop} {i : Nat} (hall : ∀ c ∈ at_CM ++ at_CA, at_Valid at_XI (pw_P L xs) c) (hL : L ≤ 3072) (hi : i + 6 ≤ L) (hg : t2_Z m) (kk : ∀ m' : fl_M, t2_Z m' → fl_Tq (pw_P L xs) 0 2030 (lx_lv i) [] m' Q) : fl_Tq (pw_P L xs) 0 462 (lx_lv i) [] m Q := by
  obtain ⟨f, l⟩ := m
  refine fl_Tq.stp (pw_cod lx_k462) rfl (fl_bo rfl) rfl ?_
  refine lx_arg (i := i) (jn := 1) (pw_cod lx_k463) (pw_cod lx_k464) (pw_cod lx_k465) (pw_cod lx_k466) (pw_cod lx_k467) rfl (fl_bo rfl) hL (by omega) ?_
  refine lx_callG (as_ := [lx_x, .inl (xs (i + 1))]) (rest := []) (pw_cod lx_k468) (pw_cll lx_l31) rfl (fl_bo rfl) rfl rfl (t2_stepG (ar := [at_this, .inl (xs (i + 1))]) (hall _ at_c105_in) (hall _ at_c250_in) rfl rfl hg ⟨lx_kx _, lx_ki _, True.intro⟩ rfl (fun _ => ⟨at_k277 _, lx_ki _, True.intro⟩) rfl (t2_run hall hg)) (fun v1 m1 hg1 => ?_)
  obtain ⟨⟨y1, rfl⟩, hg1⟩ := hg1
  refine fl_Tq.stp (pw_cod lx_k471) rfl (fl_bo rfl) rfl ?_
  refine fl_Tq.stp (pw_cod lx_k472) rfl (fl_bo rfl) rfl ?_
  refine lx_arg (i := i) (jn := 1) (pw_cod lx_k473) (pw_cod lx_k474) (pw_cod lx_k475) (pw_cod lx_k476) (pw_cod lx_k477) rfl (fl_bo rfl) hL (by omega) ?_
  refine lx_callG (as_ := [at_this, .inl (xs (i + 1))]) (rest := []) (pw_cod lx_k478) (pw_cll lx_l35) rfl (fl_bo rfl) rfl rfl hg1 (fun v2 m2 hg2 => ?_)
  obtain ⟨rfl, hg2⟩ := hg2
  refine fl_Tq.stp (pw_cod lx_k481) rfl (fl_bo rfl) rfl ?_
  refine fl_Tq.stp (pw_cod lx_k482) rfl (fl_bo rfl) rfl ?_
  exact kk m2 hg2
theorem ly_c5 {L : Nat} {xs : Nat → Int32} {m : fl_M} {Q : Option fl_V → fl_M → Prop} {i : Nat} (hall : ∀ c ∈ at_CM ++ at_CA, at_Valid at_XI (pw_P L xs) c) (hL : L ≤ 3072) (hi : i + 6 ≤ L) (hg : t2_Z m) (kk : ∀ m' : fl_M, t2_Z m' → fl_Tq (pw_P L xs) 0 2030 (lx_lv i) [] m' Q) : fl_Tq (pw_P L xs) 0 485 (lx_lv i) [] m Q := by
  obtain ⟨f, l⟩ := m
  refine fl_Tq.stp (pw_cod lx_k485) rfl (fl_bo rfl) rfl ?_
  refine lx_callG (as_ := [lx_x]) (rest := []) (pw_cod lx_k486) (pw_cll lx_l36) rfl (fl_bo rfl) rfl rfl (t2_step (ar := [at_this]) (hall _ at_c106_in) (hall _ at_c251_in) rfl rfl hg ⟨lx_kx _, True.intro⟩ rfl (fun _ => ⟨at_k277 _, True.intro⟩) rfl (t2_close hg)) (fun v1 m1 hg1 => ?_)
  obtain ⟨⟨y1, rfl⟩, hg1⟩ := hg1
  refine fl_Tq.stp (pw_cod lx_k489) rfl (fl_bo rfl) rfl ?_
  refine fl_Tq.stp (pw_cod lx_k490) rfl (fl_bo rfl) rfl ?_
  refine lx_callG (as_ := [at_this]) (rest := []) (pw_cod lx_k491) (pw_cll lx_l40) rfl (fl_bo rfl) rfl rfl hg1 (fun v2 m2 hg2 => ?_)
  obtain ⟨rfl, hg2⟩ := hg2
  refine fl_Tq.stp (pw_cod lx_k494) rfl (fl_bo rfl) rfl ?_
  refine fl_Tq.stp (pw_cod lx_k495) rfl (fl_bo rfl) rfl ?_
  exact kk m2 hg2
theorem ly_c6 {L : Nat} {xs : Nat → Int32} {m : fl_M} {Q : Option fl_V → fl_M → Prop} {i : Nat} (hall : ∀ c ∈ at_CM ++ at_CA, at_Valid at_XI (pw_P L xs) c) (hL : L ≤ 3072) (hi : i + 6 ≤ L) (hg : t2_Z m) (kk : ∀ m' : fl_M, t2_Z m' → fl_Tq (pw_P L xs) 0 2030 (lx_lv i) [] m' Q) : fl_Tq (pw_P L xs) 0 498 (lx_lv i) [] m Q := by
  obtain ⟨f, l⟩ := m
  refine fl_Tq.stp (pw_cod lx_k498) rfl (fl_bo rfl) rfl ?_
  refine lx_callG (as_ := [lx_x]) (rest := []) (pw_cod lx_k499) (pw_cll lx_l41) rfl (fl_bo rfl) rfl rfl (t2_step (ar := [at_this]) (hall _ at_c107_in) (hall _ at_c252_in) rfl rfl hg ⟨lx_kx _, True.intro⟩ rfl (fun _ => ⟨at_k277 _, True.intro⟩) rfl (t2_open hg)) (fun v1 m1 hg1 => ?_)
  obtain ⟨⟨y1, rfl⟩, hg1⟩ := hg1
  refine fl_Tq.stp (pw_cod lx_k502) rfl (fl_bo rfl) rfl ?_
  refine fl_Tq.stp (pw_cod lx_k503) rfl (fl_bo rfl) rfl ?_
  refine lx_callG (as_ := [at_this]) (rest := []) (pw_cod lx_k504) (pw_cll lx_l44) rfl (fl_bo rfl) rfl rfl hg1 (fun v2 m2 hg2 => ?_)
  obtain ⟨rfl, hg2⟩ := hg2
  refine fl_Tq.stp (pw_cod lx_k507) rfl (fl_bo rfl) rfl ?_
  refine fl_Tq.stp (pw_cod lx_k508) rfl (fl_bo rfl) rfl ?_
  exact kk m2 hg2
theorem ly_c7 {L : Nat} {xs : Nat → Int32} {m : fl_M} {Q : Option fl_V → fl_M → Prop} {i : Nat} (hall : ∀ c ∈ at_CM ++ at_CA, at_Valid at_XI (pw_P L xs) c) (hL : L ≤ 3072) (hi : i + 6 ≤ L) (hg : t2_Z m) (kk : ∀ m' : fl_M, t2_Z m' → fl_Tq (pw_P L xs) 0 2030 (lx_lv i) [] m' Q) : fl_Tq (pw_P L xs) 0 511 (lx_lv i) [] m Q := by
  obtain ⟨f, l⟩ := m
  refine fl_Tq.stp (pw_cod lx_k511) rfl (fl_bo rfl) rfl ?_
  refine lx_arg (i := i) (jn := 1) (pw_cod lx_k512) (pw_cod lx_k513) (pw_cod lx_k514) (pw_cod lx_k515) (pw_cod lx_k516) rfl (fl_bo rfl) hL (by omega) ?_
  refine lx_callG (as_ := [lx_x, .inl (xs (i + 1))]) (rest := []) (pw_cod lx_k517) (pw_cll lx_l45) rfl (fl_bo rfl) rfl rfl (t2_step (ar := [at_this, .inl (xs (i + 1))]) (hall _ at_c108_in) (hall _ at_c254_in) rfl rfl hg ⟨lx_kx _, lx_ki _, True.intro⟩ rfl (fun _ => ⟨at_k277 _, lx_ki _, True.intro⟩) rfl (t2_reset hg)) (fun v1 m1 hg1 => ?_)
  obtain ⟨⟨y1, rfl⟩, hg1⟩ := hg1
  refine fl_Tq.stp (pw_cod lx_k520) rfl (fl_bo rfl) rfl ?_
  refine fl_Tq.stp (pw_cod lx_k521) rfl (fl_bo rfl) rfl ?_
  refine lx_arg (i := i) (jn := 1) (pw_cod lx_k522) (pw_cod lx_k523) (pw_cod lx_k524) (pw_cod lx_k525) (pw_cod lx_k526) rfl (fl_bo rfl) hL (by omega) ?_
  refine lx_callG (as_ := [at_this, .inl (xs (i + 1))]) (rest := []) (pw_cod lx_k527) (pw_cll lx_l49) rfl (fl_bo rfl) rfl rfl hg1 (fun v2 m2 hg2 => ?_)
  obtain ⟨rfl, hg2⟩ := hg2
  refine fl_Tq.stp (pw_cod lx_k530) rfl (fl_bo rfl) rfl ?_
  refine fl_Tq.stp (pw_cod lx_k531) rfl (fl_bo rfl) rfl ?_
  exact kk m2 hg2
theorem ly_c8 {L : Nat} {xs : Nat → Int32} {m : fl_M} {Q : Option fl_V → fl_M → Prop} {i : Nat} (hall : ∀ c ∈ at_CM ++ at_CA, at_Valid at_XI (pw_P L xs) c) (hL : L ≤ 3072) (hi : i + 6 ≤ L) (hg : t2_Z m) (kk : ∀ m' : fl_M, t2_Z m' → fl_Tq (pw_P L xs) 0 2030 (lx_lv i) [] m' Q) : fl_Tq (pw_P L xs) 0 534 (lx_lv i) [] m Q := by
  obtain ⟨f, l⟩ := m
  refine fl_Tq.stp (pw_cod lx_k534) rfl (fl_bo rfl) rfl ?_
  refine lx_arg (i := i) (jn := 1) (pw_cod lx_k535) (pw_cod lx_k536) (pw_cod lx_k537) (pw_cod lx_k538) (pw_cod lx_k539) rfl (fl_bo rfl) hL (by omega) ?_
  refine lx_arg (i := i) (jn := 2) (pw_cod lx_k540) (pw_cod lx_k541) (pw_cod lx_k542) (pw_cod lx_k543) (pw_cod lx_k544) rfl (fl_bo rfl) hL (by omega) ?_
  refine lx_callG (as_ := [lx_x, .inl (xs (i + 1)), .inl (xs (i + 2))]) (rest := []) (pw_cod lx_k545) (pw_cll lx_l50) rfl (fl_bo rfl) rfl rfl (t2_step (ar := [at_this, .inl (xs (i + 1)), .inl (xs (i + 2))]) (hall _ at_c109_in) (hall _ at_c258_in) rfl rfl hg ⟨lx_kx _, lx_ki _, lx_ki _, True.intro⟩ rfl (fun _ => ⟨at_k277 _, lx_ki _, lx_ki _, True.intro⟩) rfl (t2_stuck hg)) (fun v1 m1 hg1 => ?_)
  obtain ⟨⟨y1, rfl⟩, hg1⟩ := hg1
  refine fl_Tq.stp (pw_cod lx_k548) rfl (fl_bo rfl) rfl ?_
  refine fl_Tq.stp (pw_cod lx_k549) rfl (fl_bo rfl) rfl ?_
  refine lx_arg (i := i) (jn := 1) (pw_cod lx_k550) (pw_cod lx_k551) (pw_cod lx_k552) (pw_cod lx_k553) (pw_cod lx_k554) rfl (fl_bo rfl) hL (by omega) ?_
  refine lx_arg (i := i) (jn := 2) (pw_cod lx_k555) (pw_cod lx_k556) (pw_cod lx_k557) (pw_cod lx_k558) (pw_cod lx_k559) rfl (fl_bo rfl) hL (by omega) ?_
  refine lx_callG (as_ := [at_this, .inl (xs (i + 1)), .inl (xs (i + 2))]) (rest := []) (pw_cod lx_k560) (pw_cll lx_l53) rfl (fl_bo rfl) rfl rfl hg1 (fun v2 m2 hg2 => ?_)
  obtain ⟨rfl, hg2⟩ := hg2
  refine fl_Tq.stp (pw_cod lx_k563) rfl (fl_bo rfl) rfl ?_
  refine fl_Tq.stp (pw_cod lx_k564) rfl (fl_bo rfl) rfl ?_
  exact kk m2 hg2
theorem ly_c9 {L : Nat} {xs : Nat → Int32} {m : fl_M} {Q : Option fl_V → fl_M → Prop} {i : Nat} (hall : ∀ c ∈ at_CM ++ at_CA, at_Valid at_XI (pw_P L xs) c) (hL : L ≤ 3072) (hi : i + 6 ≤ L) (hg : t2_Z m) (kk : ∀ m' : fl_M, t2_Z m' → fl_Tq (pw_P L xs) 0 2030 (lx_lv i) [] m' Q) : fl_Tq (pw_P L xs) 0 567 (lx_lv i) [] m Q := by
  obtain ⟨f, l⟩ := m
  refine fl_Tq.stp (pw_cod lx_k567) rfl (fl_bo rfl) rfl ?_
  refine lx_arg (i := i) (jn := 1) (pw_cod lx_k568) (pw_cod lx_k569) (pw_cod lx_k570) (pw_cod lx_k571) (pw_cod lx_k572) rfl (fl_bo rfl) hL (by omega) ?_
  refine lx_arg (i := i) (jn := 2) (pw_cod lx_k573) (pw_cod lx_k574) (pw_cod lx_k575) (pw_cod lx_k576) (pw_cod lx_k577) rfl (fl_bo rfl) hL (by omega) ?_
  refine lx_callG (as_ := [lx_x, .inl (xs (i + 1)), .inl (xs (i + 2))]) (rest := []) (pw_cod lx_k578) (pw_cll lx_l54) rfl (fl_bo rfl) rfl rfl (t2_step (ar := [at_this, .inl (xs (i + 1)), .inl (xs (i + 2))]) (hall _ at_c110_in) (hall _ at_c259_in) rfl rfl hg ⟨lx_kx _, lx_ki _, lx_ki _, True.intro⟩ rfl (fun _ => ⟨at_k277 _, lx_ki _, lx_ki _, True.intro⟩) rfl (t2_zone hg)) (fun v1 m1 hg1 => ?_)
  obtain ⟨⟨y1, rfl⟩, hg1⟩ := hg1
  refine fl_Tq.stp (pw_cod lx_k581) rfl (fl_bo rfl) rfl ?_
  refine fl_Tq.stp (pw_cod lx_k582) rfl (fl_bo rfl) rfl ?_
  refine lx_arg (i := i) (jn := 1) (pw_cod lx_k583) (pw_cod lx_k584) (pw_cod lx_k585) (pw_cod lx_k586) (pw_cod lx_k587) rfl (fl_bo rfl) hL (by omega) ?_
  refine lx_arg (i := i) (jn := 2) (pw_cod lx_k588) (pw_cod lx_k589) (pw_cod lx_k590) (pw_cod lx_k591) (pw_cod lx_k592) rfl (fl_bo rfl) hL (by omega) ?_
  refine lx_callG (as_ := [at_this, .inl (xs (i + 1)), .inl (xs (i + 2))]) (rest := []) (pw_cod lx_k593) (pw_cll lx_l58) rfl (fl_bo rfl) rfl rfl hg1 (fun v2 m2 hg2 => ?_)
  obtain ⟨rfl, hg2⟩ := hg2
  refine fl_Tq.stp (pw_cod lx_k596) rfl (fl_bo rfl) rfl ?_
  refine fl_Tq.stp (pw_cod lx_k597) rfl (fl_bo rfl) rfl ?_
  exact kk m2 hg2
theorem ly_c10 {L : Nat} {xs : Nat → Int32} {m : fl_M} {Q : Option fl_V → fl_M → Prop} {i : Nat} (hall : ∀ c ∈ at_CM ++ at_CA, at_Valid at_XI (pw_P L xs) c) (hL : L ≤ 3072) (hi : i + 6 ≤ L) (hg : t2_Z m) (kk : ∀ m' : fl_M, t2_Z m' → fl_Tq (pw_P L xs) 0 2030 (lx_lv i) [] m' Q) : fl_Tq (pw_P L xs) 0 600 (lx_lv i) [] m Q := by
  obtain ⟨f, l⟩ := m
  refine fl_Tq.stp (pw_cod lx_k600) rfl (fl_bo rfl) rfl ?_
  refine lx_callG (as_ := [lx_x]) (rest := []) (pw_cod lx_k601) (pw_cll lx_l59) rfl (fl_bo rfl) rfl rfl (t2_step (ar := [at_this]) (hall _ at_c111_in) (hall _ at_c255_in) rfl rfl hg ⟨lx_kx _, True.intro⟩ rfl (fun _ => ⟨at_k277 _, True.intro⟩) rfl (t2_hear hg)) (fun v1 m1 hg1 => ?_)
  obtain ⟨⟨y1, rfl⟩, hg1⟩ := hg1
  refine fl_Tq.stp (pw_cod lx_k604) rfl (fl_bo rfl) rfl ?_
  refine fl_Tq.stp (pw_cod lx_k605) rfl (fl_bo rfl) rfl ?_
  refine lx_callG (as_ := [at_this]) (rest := []) (pw_cod lx_k606) (pw_cll lx_l63) rfl (fl_bo rfl) rfl rfl hg1 (fun v2 m2 hg2 => ?_)
  obtain ⟨rfl, hg2⟩ := hg2
  refine fl_Tq.stp (pw_cod lx_k609) rfl (fl_bo rfl) rfl ?_
  refine fl_Tq.stp (pw_cod lx_k610) rfl (fl_bo rfl) rfl ?_
  exact kk m2 hg2
theorem ly_c11 {L : Nat} {xs : Nat → Int32} {m : fl_M} {Q : Option fl_V → fl_M → Prop} {i : Nat} (hall : ∀ c ∈ at_CM ++ at_CA, at_Valid at_XI (pw_P L xs) c) (hL : L ≤ 3072) (hi : i + 6 ≤ L) (hg : t2_Z m) (kk : ∀ m' : fl_M, t2_Z m' → fl_Tq (pw_P L xs) 0 2030 (lx_lv i) [] m' Q) : fl_Tq (pw_P L xs) 0 613 (lx_lv i) [] m Q := by
  obtain ⟨f, l⟩ := m
  refine fl_Tq.stp (pw_cod lx_k613) rfl (fl_bo rfl) rfl ?_
  refine lx_arg (i := i) (jn := 1) (pw_cod lx_k614) (pw_cod lx_k615) (pw_cod lx_k616) (pw_cod lx_k617) (pw_cod lx_k618) rfl (fl_bo rfl) hL (by omega) ?_
  refine lx_arg (i := i) (jn := 2) (pw_cod lx_k619) (pw_cod lx_k620) (pw_cod lx_k621) (pw_cod lx_k622) (pw_cod lx_k623) rfl (fl_bo rfl) hL (by omega) ?_
  refine lx_callG (as_ := [lx_x, .inl (xs (i + 1)), .inl (xs (i + 2))]) (rest := []) (pw_cod lx_k624) (pw_cll lx_l64) rfl (fl_bo rfl) rfl rfl (t2_step (ar := [at_this, .inl (xs (i + 1)), .inl (xs (i + 2))]) (hall _ at_c112_in) (hall _ at_c256_in) rfl rfl hg ⟨lx_kx _, lx_ki _, lx_ki _, True.intro⟩ rfl (fun _ => ⟨at_k277 _, lx_ki _, lx_ki _, True.intro⟩) rfl (t2_price hg)) (fun v1 m1 hg1 => ?_)
  obtain ⟨⟨y1, rfl⟩, hg1⟩ := hg1
  refine fl_Tq.stp (pw_cod lx_k627) rfl (fl_bo rfl) rfl ?_
  refine fl_Tq.stp (pw_cod lx_k628) rfl (fl_bo rfl) rfl ?_
  refine lx_arg (i := i) (jn := 1) (pw_cod lx_k629) (pw_cod lx_k630) (pw_cod lx_k631) (pw_cod lx_k632) (pw_cod lx_k633) rfl (fl_bo rfl) hL (by omega) ?_
  refine lx_arg (i := i) (jn := 2) (pw_cod lx_k634) (pw_cod lx_k635) (pw_cod lx_k636) (pw_cod lx_k637) (pw_cod lx_k638) rfl (fl_bo rfl) hL (by omega) ?_
  refine lx_callG (as_ := [at_this, .inl (xs (i + 1)), .inl (xs (i + 2))]) (rest := []) (pw_cod lx_k639) (pw_cll lx_l67) rfl (fl_bo rfl) rfl rfl hg1 (fun v2 m2 hg2 => ?_)
  obtain ⟨rfl, hg2⟩ := hg2
  refine fl_Tq.stp (pw_cod lx_k642) rfl (fl_bo rfl) rfl ?_
  refine fl_Tq.stp (pw_cod lx_k643) rfl (fl_bo rfl) rfl ?_
  exact kk m2 hg2
theorem ly_c12 {L : Nat} {xs : Nat → Int32} {m : fl_M} {Q : Option fl_V → fl_M → Prop} {i : Nat} (hall : ∀ c ∈ at_CM ++ at_CA, at_Valid at_XI (pw_P L xs) c) (hL : L ≤ 3072) (hi : i + 6 ≤ L) (hg : t2_Z m) (kk : ∀ m' : fl_M, t2_Z m' → fl_Tq (pw_P L xs) 0 2030 (lx_lv i) [] m' Q) : fl_Tq (pw_P L xs) 0 646 (lx_lv i) [] m Q := by
  obtain ⟨f, l⟩ := m
  refine fl_Tq.stp (pw_cod lx_k646) rfl (fl_bo rfl) rfl ?_
  refine lx_arg (i := i) (jn := 1) (pw_cod lx_k647) (pw_cod lx_k648) (pw_cod lx_k649) (pw_cod lx_k650) (pw_cod lx_k651) rfl (fl_bo rfl) hL (by omega) ?_
  refine lx_callG (as_ := [lx_x, .inl (xs (i + 1))]) (rest := []) (pw_cod lx_k652) (pw_cll lx_l68) rfl (fl_bo rfl) rfl rfl (t2_step (ar := [at_this, .inl (xs (i + 1))]) (hall _ at_c113_in) (hall _ at_c257_in) rfl rfl hg ⟨lx_kx _, lx_ki _, True.intro⟩ rfl (fun _ => ⟨at_k277 _, lx_ki _, True.intro⟩) rfl (t2_mark hg)) (fun v1 m1 hg1 => ?_)
  obtain ⟨⟨y1, rfl⟩, hg1⟩ := hg1
  refine fl_Tq.stp (pw_cod lx_k655) rfl (fl_bo rfl) rfl ?_
  refine fl_Tq.stp (pw_cod lx_k656) rfl (fl_bo rfl) rfl ?_
  refine lx_arg (i := i) (jn := 1) (pw_cod lx_k657) (pw_cod lx_k658) (pw_cod lx_k659) (pw_cod lx_k660) (pw_cod lx_k661) rfl (fl_bo rfl) hL (by omega) ?_
  refine lx_callG (as_ := [at_this, .inl (xs (i + 1))]) (rest := []) (pw_cod lx_k662) (pw_cll lx_l71) rfl (fl_bo rfl) rfl rfl hg1 (fun v2 m2 hg2 => ?_)
  obtain ⟨rfl, hg2⟩ := hg2
  refine fl_Tq.stp (pw_cod lx_k665) rfl (fl_bo rfl) rfl ?_
  refine fl_Tq.stp (pw_cod lx_k666) rfl (fl_bo rfl) rfl ?_
  exact kk m2 hg2
theorem ly_c13 {L : Nat} {xs : Nat → Int32} {m : fl_M} {Q : Option fl_V → fl_M → Prop} {i : Nat} (hall : ∀ c ∈ at_CM ++ at_CA, at_Valid at_XI (pw_P L xs) c) (hL : L ≤ 3072) (hi : i + 6 ≤ L) (hg : t2_Z m) (kk : ∀ m' : fl_M, t2_Z m' → fl_Tq (pw_P L xs) 0 2030 (lx_lv i) [] m' Q) : fl_Tq (pw_P L xs) 0 669 (lx_lv i) [] m Q := by
  obtain ⟨f, l⟩ := m
  refine fl_Tq.stp (pw_cod lx_k669) rfl (fl_bo rfl) rfl ?_
  refine lx_arg (i := i) (jn := 1) (pw_cod lx_k670) (pw_cod lx_k671) (pw_cod lx_k672) (pw_cod lx_k673) (pw_cod lx_k674) rfl (fl_bo rfl) hL (by omega) ?_
  refine lx_arg (i := i) (jn := 2) (pw_cod lx_k675) (pw_cod lx_k676) (pw_cod lx_k677) (pw_cod lx_k678) (pw_cod lx_k679) rfl (fl_bo rfl) hL (by omega) ?_
  refine lx_callG (as_ := [lx_x, .inl (xs (i + 1)), .inl (xs (i + 2))]) (rest := []) (pw_cod lx_k680) (pw_cll lx_l72) rfl (fl_bo rfl) rfl rfl (t2_step (ar := [at_this, .inl (xs (i + 1)), .inl (xs (i + 2))]) (hall _ at_c114_in) (hall _ at_c260_in) rfl rfl hg ⟨lx_kx _, lx_ki _, lx_ki _, True.intro⟩ rfl (fun _ => ⟨at_k277 _, lx_ki _, lx_ki _, True.intro⟩) rfl (t2_piece hg)) (fun v1 m1 hg1 => ?_)
  obtain ⟨⟨y1, rfl⟩, hg1⟩ := hg1
  refine fl_Tq.stp (pw_cod lx_k683) rfl (fl_bo rfl) rfl ?_
  refine fl_Tq.stp (pw_cod lx_k684) rfl (fl_bo rfl) rfl ?_
  refine lx_arg (i := i) (jn := 1) (pw_cod lx_k685) (pw_cod lx_k686) (pw_cod lx_k687) (pw_cod lx_k688) (pw_cod lx_k689) rfl (fl_bo rfl) hL (by omega) ?_
  refine lx_arg (i := i) (jn := 2) (pw_cod lx_k690) (pw_cod lx_k691) (pw_cod lx_k692) (pw_cod lx_k693) (pw_cod lx_k694) rfl (fl_bo rfl) hL (by omega) ?_
  refine lx_callG (as_ := [at_this, .inl (xs (i + 1)), .inl (xs (i + 2))]) (rest := []) (pw_cod lx_k695) (pw_cll lx_l75) rfl (fl_bo rfl) rfl rfl hg1 (fun v2 m2 hg2 => ?_)
  obtain ⟨rfl, hg2⟩ := hg2
  refine fl_Tq.stp (pw_cod lx_k698) rfl (fl_bo rfl) rfl ?_
  refine fl_Tq.stp (pw_cod lx_k699) rfl (fl_bo rfl) rfl ?_
  exact kk m2 hg2
theorem ly_c14 {L : Nat} {xs : Nat → Int32} {m : fl_M} {Q : Option fl_V → fl_M → Prop} {i : Nat} (hall : ∀ c ∈ at_CM ++ at_CA, at_Valid at_XI (pw_P L xs) c) (hL : L ≤ 3072) (hi : i + 6 ≤ L) (hg : t2_Z m) (kk : ∀ m' : fl_M, t2_Z m' → fl_Tq (pw_P L xs) 0 2030 (lx_lv i) [] m' Q) : fl_Tq (pw_P L xs) 0 702 (lx_lv i) [] m Q := by
  obtain ⟨f, l⟩ := m
  refine fl_Tq.stp (pw_cod lx_k702) rfl (fl_bo rfl) rfl ?_
  refine lx_arg (i := i) (jn := 1) (pw_cod lx_k703) (pw_cod lx_k704) (pw_cod lx_k705) (pw_cod lx_k706) (pw_cod lx_k707) rfl (fl_bo rfl) hL (by omega) ?_
  refine lx_arg (i := i) (jn := 2) (pw_cod lx_k708) (pw_cod lx_k709) (pw_cod lx_k710) (pw_cod lx_k711) (pw_cod lx_k712) rfl (fl_bo rfl) hL (by omega) ?_
  refine lx_boolV (pw_cod lx_k713) (pw_cod lx_k716) (pw_cod lx_k717) (pw_cod lx_k720) (fl_bo rfl) rfl rfl ?_
  refine lx_arg (i := i) (jn := 3) (pw_cod lx_k721) (pw_cod lx_k722) (pw_cod lx_k723) (pw_cod lx_k724) (pw_cod lx_k725) rfl (fl_bo rfl) hL (by omega) ?_
  refine lx_arg (i := i) (jn := 4) (pw_cod lx_k726) (pw_cod lx_k727) (pw_cod lx_k728) (pw_cod lx_k729) (pw_cod lx_k730) rfl (fl_bo rfl) hL (by omega) ?_
  refine lx_arg (i := i) (jn := 5) (pw_cod lx_k731) (pw_cod lx_k732) (pw_cod lx_k733) (pw_cod lx_k734) (pw_cod lx_k735) rfl (fl_bo rfl) hL (by omega) ?_
  refine lx_callG (as_ := [lx_x, .inl (xs (i + 1)), .inl (t2_b01 (xs (i + 2))), .inl (xs (i + 3)), .inl (xs (i + 4)), .inl (xs (i + 5))]) (rest := []) (pw_cod lx_k736) (pw_cll lx_l76) rfl (fl_bo rfl) rfl rfl (t2_step (ar := [at_this, .inl (xs (i + 1)), .inl (t2_b01 (xs (i + 2))), .inl (xs (i + 3)), .inl (xs (i + 4)), .inl (xs (i + 5))]) (hall _ at_c115_in) (hall _ at_c261_in) rfl rfl hg ⟨lx_kx _, lx_ki _, t2_b01_k _, lx_ki _, lx_ki _, lx_ki _, True.intro⟩ rfl (fun _ => ⟨at_k277 _, lx_ki _, t2_b01_k _, lx_ki _, lx_ki _, lx_ki _, True.intro⟩) rfl (t2_rule hg)) (fun v1 m1 hg1 => ?_)
  obtain ⟨⟨y1, rfl⟩, hg1⟩ := hg1
  refine fl_Tq.stp (pw_cod lx_k739) rfl (fl_bo rfl) rfl ?_
  refine fl_Tq.stp (pw_cod lx_k740) rfl (fl_bo rfl) rfl ?_
  refine lx_arg (i := i) (jn := 1) (pw_cod lx_k741) (pw_cod lx_k742) (pw_cod lx_k743) (pw_cod lx_k744) (pw_cod lx_k745) rfl (fl_bo rfl) hL (by omega) ?_
  refine lx_arg (i := i) (jn := 2) (pw_cod lx_k746) (pw_cod lx_k747) (pw_cod lx_k748) (pw_cod lx_k749) (pw_cod lx_k750) rfl (fl_bo rfl) hL (by omega) ?_
  refine lx_boolV (pw_cod lx_k751) (pw_cod lx_k754) (pw_cod lx_k755) (pw_cod lx_k758) (fl_bo rfl) rfl rfl ?_
  refine lx_arg (i := i) (jn := 3) (pw_cod lx_k759) (pw_cod lx_k760) (pw_cod lx_k761) (pw_cod lx_k762) (pw_cod lx_k763) rfl (fl_bo rfl) hL (by omega) ?_
  refine lx_arg (i := i) (jn := 4) (pw_cod lx_k764) (pw_cod lx_k765) (pw_cod lx_k766) (pw_cod lx_k767) (pw_cod lx_k768) rfl (fl_bo rfl) hL (by omega) ?_
  refine lx_arg (i := i) (jn := 5) (pw_cod lx_k769) (pw_cod lx_k770) (pw_cod lx_k771) (pw_cod lx_k772) (pw_cod lx_k773) rfl (fl_bo rfl) hL (by omega) ?_
  refine lx_callG (as_ := [at_this, .inl (xs (i + 1)), .inl (t2_b01 (xs (i + 2))), .inl (xs (i + 3)), .inl (xs (i + 4)), .inl (xs (i + 5))]) (rest := []) (pw_cod lx_k774) (pw_cll lx_l80) rfl (fl_bo rfl) rfl rfl hg1 (fun v2 m2 hg2 => ?_)
  obtain ⟨rfl, hg2⟩ := hg2
  refine fl_Tq.stp (pw_cod lx_k777) rfl (fl_bo rfl) rfl ?_
  refine fl_Tq.stp (pw_cod lx_k778) rfl (fl_bo rfl) rfl ?_
  exact kk m2 hg2
theorem ly_c15 {L : Nat} {xs : Nat → Int32} {m : fl_M} {Q : Option fl_V → fl_M → Prop} {i : Nat} (hall : ∀ c ∈ at_CM ++ at_CA, at_Valid at_XI (pw_P L xs) c) (hL : L ≤ 3072) (hi : i + 6 ≤ L) (hg : t2_Z m) (kk : ∀ m' : fl_M, t2_Z m' → fl_Tq (pw_P L xs) 0 2030 (lx_lv i) [] m' Q) : fl_Tq (pw_P L xs) 0 781 (lx_lv i) [] m Q := by
  obtain ⟨f, l⟩ := m
  refine fl_Tq.stp (pw_cod lx_k781) rfl (fl_bo rfl) rfl ?_
  refine lx_callG (as_ := [lx_x]) (rest := []) (pw_cod lx_k782) (pw_cll lx_l81) rfl (fl_bo rfl) rfl rfl (t2_step (ar := [at_this]) (hall _ at_c116_in) (hall _ at_c263_in) rfl rfl hg ⟨lx_kx _, True.intro⟩ rfl (fun _ => ⟨at_k277 _, True.intro⟩) rfl (t2_unrule hg)) (fun v1 m1 hg1 => ?_)
  obtain ⟨⟨y1, rfl⟩, hg1⟩ := hg1
  refine fl_Tq.stp (pw_cod lx_k785) rfl (fl_bo rfl) rfl ?_
  refine fl_Tq.stp (pw_cod lx_k786) rfl (fl_bo rfl) rfl ?_
  refine lx_callG (as_ := [at_this]) (rest := []) (pw_cod lx_k787) (pw_cll lx_l84) rfl (fl_bo rfl) rfl rfl hg1 (fun v2 m2 hg2 => ?_)
  obtain ⟨rfl, hg2⟩ := hg2
  refine fl_Tq.stp (pw_cod lx_k790) rfl (fl_bo rfl) rfl ?_
  refine fl_Tq.stp (pw_cod lx_k791) rfl (fl_bo rfl) rfl ?_
  exact kk m2 hg2
theorem ly_c16 {L : Nat} {xs : Nat → Int32} {m : fl_M} {Q : Option fl_V → fl_M → Prop} {i : Nat} (hall : ∀ c ∈ at_CM ++ at_CA, at_Valid at_XI (pw_P L xs) c) (hL : L ≤ 3072) (hi : i + 6 ≤ L) (hg : t2_Z m) (kk : ∀ m' : fl_M, t2_Z m' → fl_Tq (pw_P L xs) 0 2030 (lx_lv i) [] m' Q) : fl_Tq (pw_P L xs) 0 794 (lx_lv i) [] m Q := by
  obtain ⟨f, l⟩ := m
  refine fl_Tq.stp (pw_cod lx_k794) rfl (fl_bo rfl) rfl ?_
  refine lx_callG (as_ := [lx_x]) (rest := []) (pw_cod lx_k795) (pw_cll lx_l85) rfl (fl_bo rfl) rfl rfl (t2_step (ar := [at_this]) (hall _ at_c117_in) (hall _ at_c264_in) rfl rfl hg ⟨lx_kx _, True.intro⟩ rfl (fun _ => ⟨at_k277 _, True.intro⟩) rfl (t2_wipe hg)) (fun v1 m1 hg1 => ?_)
  obtain ⟨⟨y1, rfl⟩, hg1⟩ := hg1
  refine fl_Tq.stp (pw_cod lx_k798) rfl (fl_bo rfl) rfl ?_
  refine fl_Tq.stp (pw_cod lx_k799) rfl (fl_bo rfl) rfl ?_
  refine lx_callG (as_ := [at_this]) (rest := []) (pw_cod lx_k800) (pw_cll lx_l88) rfl (fl_bo rfl) rfl rfl hg1 (fun v2 m2 hg2 => ?_)
  obtain ⟨rfl, hg2⟩ := hg2
  refine fl_Tq.stp (pw_cod lx_k803) rfl (fl_bo rfl) rfl ?_
  refine fl_Tq.stp (pw_cod lx_k804) rfl (fl_bo rfl) rfl ?_
  exact kk m2 hg2
