/-! 95.11.lawcase.lean.txt -/
section
/-! ===== printed by wip/gen/lawgen3.py: the law's cases ===== -/
theorem ly_c0 {L : Nat} {xs : Nat → Int32} {m : fl_M} {Q : Option fl_V → fl_M → Prop} {i : Nat} (hall : ∀ c ∈ at_CM ++ at_CA, at_Valid at_XI (pw_P L xs) c) (hL : L ≤ 3072) (hi : i + 6 ≤ L) (hg : t2_Z m) (h0 : m = at_m0) (kk : ∀ m' : fl_M, t2_Z m' → fl_Tq (pw_P L xs) 0 2031 (lx_lv i) [] m' Q) : fl_Tq (pw_P L xs) 0 320 (lx_lv i) [] m Q := by
  obtain ⟨f, l⟩ := m
  refine fl_Tq.stp (pw_cod lx_k320) rfl (fl_bo rfl) rfl ?_
  refine lx_arg (i := i) (jn := 1) (pw_cod lx_k321) (pw_cod lx_k322) (pw_cod lx_k323) (pw_cod lx_k324) (pw_cod lx_k325) rfl (fl_bo rfl) hL (by omega) ?_
  refine lx_arg (i := i) (jn := 2) (pw_cod lx_k326) (pw_cod lx_k327) (pw_cod lx_k328) (pw_cod lx_k329) (pw_cod lx_k330) rfl (fl_bo rfl) hL (by omega) ?_
  refine lx_arg (i := i) (jn := 3) (pw_cod lx_k331) (pw_cod lx_k332) (pw_cod lx_k333) (pw_cod lx_k334) (pw_cod lx_k335) rfl (fl_bo rfl) hL (by omega) ?_
  refine lx_callG (as_ := [lx_x, .inl (xs (i + 1)), .inl (xs (i + 2)), .inl (xs (i + 3))]) (rest := []) (pw_cod lx_k336) (pw_cll lx_l13) rfl (fl_bo rfl) rfl rfl (t2_step (ar := [at_this, .inl (xs (i + 1)), .inl (xs (i + 2)), .inl (xs (i + 3))]) (hall _ at_c101_in) (hall _ at_c243_in) rfl rfl hg ⟨lx_kx _, lx_ki _, lx_ki _, lx_ki _, True.intro⟩ rfl (fun _ => ⟨at_k277 _, lx_ki _, lx_ki _, lx_ki _, True.intro⟩) rfl (t2_cell hg)) (fun v1 m1 hg1 => ?_)
  obtain ⟨⟨y1, rfl⟩, hg1⟩ := hg1
  refine fl_Tq.stp (pw_cod lx_k339) rfl (fl_bo rfl) rfl ?_
  refine lx_arg (i := i) (jn := 1) (pw_cod lx_k340) (pw_cod lx_k341) (pw_cod lx_k342) (pw_cod lx_k343) (pw_cod lx_k344) rfl (fl_bo rfl) hL (by omega) ?_
  refine lx_arg (i := i) (jn := 2) (pw_cod lx_k345) (pw_cod lx_k346) (pw_cod lx_k347) (pw_cod lx_k348) (pw_cod lx_k349) rfl (fl_bo rfl) hL (by omega) ?_
  refine lx_arg (i := i) (jn := 3) (pw_cod lx_k350) (pw_cod lx_k351) (pw_cod lx_k352) (pw_cod lx_k353) (pw_cod lx_k354) rfl (fl_bo rfl) hL (by omega) ?_
  refine lx_callG (as_ := [at_this, .inl (xs (i + 1)), .inl (xs (i + 2)), .inl (xs (i + 3))]) (rest := [.inl y1]) (pw_cod lx_k355) (pw_cll lx_l17) rfl (fl_bo rfl) rfl rfl hg1 (fun v2 m2 hg2 => ?_)
  obtain ⟨rfl, hg2⟩ := hg2
  refine fl_Tq.jt (pw_cod lx_k358) (fl_bo rfl) (by rw [at_c2]; exact decide_eq_true (by omega)) rfl ?_
  exact kk m2 hg2
theorem ly_c1 {L : Nat} {xs : Nat → Int32} {m : fl_M} {Q : Option fl_V → fl_M → Prop} {i : Nat} (hall : ∀ c ∈ at_CM ++ at_CA, at_Valid at_XI (pw_P L xs) c) (hL : L ≤ 3072) (hi : i + 6 ≤ L) (hg : t2_Z m) (h0 : m = at_m0) (kk : ∀ m' : fl_M, t2_Z m' → fl_Tq (pw_P L xs) 0 2031 (lx_lv i) [] m' Q) : fl_Tq (pw_P L xs) 0 363 (lx_lv i) [] m Q := by
  obtain ⟨f, l⟩ := m
  refine fl_Tq.stp (pw_cod lx_k363) rfl (fl_bo rfl) rfl ?_
  refine lx_arg (i := i) (jn := 1) (pw_cod lx_k364) (pw_cod lx_k365) (pw_cod lx_k366) (pw_cod lx_k367) (pw_cod lx_k368) rfl (fl_bo rfl) hL (by omega) ?_
  refine lx_arg (i := i) (jn := 2) (pw_cod lx_k369) (pw_cod lx_k370) (pw_cod lx_k371) (pw_cod lx_k372) (pw_cod lx_k373) rfl (fl_bo rfl) hL (by omega) ?_
  refine lx_callG (as_ := [lx_x, .inl (xs (i + 1)), .inl (xs (i + 2))]) (rest := []) (pw_cod lx_k374) (pw_cll lx_l18) rfl (fl_bo rfl) rfl rfl (t2_step (ar := [at_this, .inl (xs (i + 1)), .inl (xs (i + 2))]) (hall _ at_c102_in) (hall _ at_c244_in) rfl rfl hg ⟨lx_kx _, lx_ki _, lx_ki _, True.intro⟩ rfl (fun _ => ⟨at_k277 _, lx_ki _, lx_ki _, True.intro⟩) rfl (t2_charge hg)) (fun v1 m1 hg1 => ?_)
  obtain ⟨⟨y1, rfl⟩, hg1⟩ := hg1
  refine fl_Tq.stp (pw_cod lx_k377) rfl (fl_bo rfl) rfl ?_
  refine lx_arg (i := i) (jn := 1) (pw_cod lx_k378) (pw_cod lx_k379) (pw_cod lx_k380) (pw_cod lx_k381) (pw_cod lx_k382) rfl (fl_bo rfl) hL (by omega) ?_
  refine lx_arg (i := i) (jn := 2) (pw_cod lx_k383) (pw_cod lx_k384) (pw_cod lx_k385) (pw_cod lx_k386) (pw_cod lx_k387) rfl (fl_bo rfl) hL (by omega) ?_
  refine lx_callG (as_ := [at_this, .inl (xs (i + 1)), .inl (xs (i + 2))]) (rest := [.inl y1]) (pw_cod lx_k388) (pw_cll lx_l22) rfl (fl_bo rfl) rfl rfl hg1 (fun v2 m2 hg2 => ?_)
  obtain ⟨rfl, hg2⟩ := hg2
  refine fl_Tq.jt (pw_cod lx_k391) (fl_bo rfl) (by rw [at_c2]; exact decide_eq_true (by omega)) rfl ?_
  exact kk m2 hg2
theorem ly_c2 {L : Nat} {xs : Nat → Int32} {m : fl_M} {Q : Option fl_V → fl_M → Prop} {i : Nat} (hall : ∀ c ∈ at_CM ++ at_CA, at_Valid at_XI (pw_P L xs) c) (hL : L ≤ 3072) (hi : i + 6 ≤ L) (hg : t2_Z m) (h0 : m = at_m0) (kk : ∀ m' : fl_M, t2_Z m' → fl_Tq (pw_P L xs) 0 2031 (lx_lv i) [] m' Q) : fl_Tq (pw_P L xs) 0 396 (lx_lv i) [] m Q := by
  obtain ⟨f, l⟩ := m
  refine fl_Tq.stp (pw_cod lx_k396) rfl (fl_bo rfl) rfl ?_
  refine lx_arg (i := i) (jn := 1) (pw_cod lx_k397) (pw_cod lx_k398) (pw_cod lx_k399) (pw_cod lx_k400) (pw_cod lx_k401) rfl (fl_bo rfl) hL (by omega) ?_
  refine lx_arg (i := i) (jn := 2) (pw_cod lx_k402) (pw_cod lx_k403) (pw_cod lx_k404) (pw_cod lx_k405) (pw_cod lx_k406) rfl (fl_bo rfl) hL (by omega) ?_
  refine lx_callG (as_ := [lx_x, .inl (xs (i + 1)), .inl (xs (i + 2))]) (rest := []) (pw_cod lx_k407) (pw_cll lx_l23) rfl (fl_bo rfl) rfl rfl (t2_step (ar := [at_this, .inl (xs (i + 1)), .inl (xs (i + 2))]) (hall _ at_c103_in) (hall _ at_c245_in) rfl rfl hg ⟨lx_kx _, lx_ki _, lx_ki _, True.intro⟩ rfl (fun _ => ⟨at_k277 _, lx_ki _, lx_ki _, True.intro⟩) rfl (t2_warm hg)) (fun v1 m1 hg1 => ?_)
  obtain ⟨⟨y1, rfl⟩, hg1⟩ := hg1
  refine fl_Tq.stp (pw_cod lx_k410) rfl (fl_bo rfl) rfl ?_
  refine lx_arg (i := i) (jn := 1) (pw_cod lx_k411) (pw_cod lx_k412) (pw_cod lx_k413) (pw_cod lx_k414) (pw_cod lx_k415) rfl (fl_bo rfl) hL (by omega) ?_
  refine lx_arg (i := i) (jn := 2) (pw_cod lx_k416) (pw_cod lx_k417) (pw_cod lx_k418) (pw_cod lx_k419) (pw_cod lx_k420) rfl (fl_bo rfl) hL (by omega) ?_
  refine lx_callG (as_ := [at_this, .inl (xs (i + 1)), .inl (xs (i + 2))]) (rest := [.inl y1]) (pw_cod lx_k421) (pw_cll lx_l26) rfl (fl_bo rfl) rfl rfl hg1 (fun v2 m2 hg2 => ?_)
  obtain ⟨rfl, hg2⟩ := hg2
  refine fl_Tq.jt (pw_cod lx_k424) (fl_bo rfl) (by rw [at_c2]; exact decide_eq_true (by omega)) rfl ?_
  exact kk m2 hg2
theorem ly_c3 {L : Nat} {xs : Nat → Int32} {m : fl_M} {Q : Option fl_V → fl_M → Prop} {i : Nat} (hall : ∀ c ∈ at_CM ++ at_CA, at_Valid at_XI (pw_P L xs) c) (hL : L ≤ 3072) (hi : i + 6 ≤ L) (hg : t2_Z m) (h0 : m = at_m0) (kk : ∀ m' : fl_M, t2_Z m' → fl_Tq (pw_P L xs) 0 2031 (lx_lv i) [] m' Q) : fl_Tq (pw_P L xs) 0 429 (lx_lv i) [] m Q := by
  obtain ⟨f, l⟩ := m
  refine fl_Tq.stp (pw_cod lx_k429) rfl (fl_bo rfl) rfl ?_
  refine lx_arg (i := i) (jn := 1) (pw_cod lx_k430) (pw_cod lx_k431) (pw_cod lx_k432) (pw_cod lx_k433) (pw_cod lx_k434) rfl (fl_bo rfl) hL (by omega) ?_
  refine lx_arg (i := i) (jn := 2) (pw_cod lx_k435) (pw_cod lx_k436) (pw_cod lx_k437) (pw_cod lx_k438) (pw_cod lx_k439) rfl (fl_bo rfl) hL (by omega) ?_
  refine lx_callG (as_ := [lx_x, .inl (xs (i + 1)), .inl (xs (i + 2))]) (rest := []) (pw_cod lx_k440) (pw_cll lx_l27) rfl (fl_bo rfl) rfl rfl (t2_step (ar := [at_this, .inl (xs (i + 1)), .inl (xs (i + 2))]) (hall _ at_c104_in) (hall _ at_c247_in) rfl rfl hg ⟨lx_kx _, lx_ki _, lx_ki _, True.intro⟩ rfl (fun _ => ⟨at_k277 _, lx_ki _, lx_ki _, True.intro⟩) rfl (t2_set hg)) (fun v1 m1 hg1 => ?_)
  obtain ⟨⟨y1, rfl⟩, hg1⟩ := hg1
  refine fl_Tq.stp (pw_cod lx_k443) rfl (fl_bo rfl) rfl ?_
  refine lx_arg (i := i) (jn := 1) (pw_cod lx_k444) (pw_cod lx_k445) (pw_cod lx_k446) (pw_cod lx_k447) (pw_cod lx_k448) rfl (fl_bo rfl) hL (by omega) ?_
  refine lx_arg (i := i) (jn := 2) (pw_cod lx_k449) (pw_cod lx_k450) (pw_cod lx_k451) (pw_cod lx_k452) (pw_cod lx_k453) rfl (fl_bo rfl) hL (by omega) ?_
  refine lx_callG (as_ := [at_this, .inl (xs (i + 1)), .inl (xs (i + 2))]) (rest := [.inl y1]) (pw_cod lx_k454) (pw_cll lx_l30) rfl (fl_bo rfl) rfl rfl hg1 (fun v2 m2 hg2 => ?_)
  obtain ⟨rfl, hg2⟩ := hg2
  refine fl_Tq.jt (pw_cod lx_k457) (fl_bo rfl) (by rw [at_c2]; exact decide_eq_true (by omega)) rfl ?_
  exact kk m2 hg2
theorem ly_c4 {L : Nat} {xs : Nat → Int32} {m : fl_M} {Q : Option fl_V → fl_M → Prop} {i : Nat} (hall : ∀ c ∈ at_CM ++ at_CA, at_Valid at_XI (pw_P L xs) c) (hL : L ≤ 3072) (hi : i + 6 ≤ L) (hg : t2_Z m) (h0 : m = at_m0) (kk : ∀ m' : fl_M, t2_Z m' → fl_Tq (pw_P L xs) 0 2031 (lx_lv i) [] m' Q) : fl_Tq (pw_P L xs) 0 462 (lx_lv i) [] m Q := by
  obtain ⟨f, l⟩ := m
  refine fl_Tq.stp (pw_cod lx_k462) rfl (fl_bo rfl) rfl ?_
  refine lx_arg (i := i) (jn := 1) (pw_cod lx_k463) (pw_cod lx_k464) (pw_cod lx_k465) (pw_cod lx_k466) (pw_cod lx_k467) rfl (fl_bo rfl) hL (by omega) ?_
  refine lx_callG (as_ := [lx_x, .inl (xs (i + 1))]) (rest := []) (pw_cod lx_k468) (pw_cll lx_l31) rfl (fl_bo rfl) rfl rfl (t2_stepG (ar := [at_this, .inl (xs (i + 1))]) (hall _ at_c105_in) (hall _ at_c250_in) rfl rfl hg ⟨lx_kx _, lx_ki _, True.intro⟩ rfl (fun _ => ⟨at_k277 _, lx_ki _, True.intro⟩) rfl (t2_run hall hg)) (fun v1 m1 hg1 => ?_)
  obtain ⟨⟨y1, rfl⟩, hg1⟩ := hg1
  refine fl_Tq.stp (pw_cod lx_k471) rfl (fl_bo rfl) rfl ?_
  refine lx_arg (i := i) (jn := 1) (pw_cod lx_k472) (pw_cod lx_k473) (pw_cod lx_k474) (pw_cod lx_k475) (pw_cod lx_k476) rfl (fl_bo rfl) hL (by omega) ?_
  refine lx_callG (as_ := [at_this, .inl (xs (i + 1))]) (rest := [.inl y1]) (pw_cod lx_k477) (pw_cll lx_l35) rfl (fl_bo rfl) rfl rfl hg1 (fun v2 m2 hg2 => ?_)
  obtain ⟨rfl, hg2⟩ := hg2
  refine fl_Tq.jt (pw_cod lx_k480) (fl_bo rfl) (by rw [at_c2]; exact decide_eq_true (by omega)) rfl ?_
  exact kk m2 hg2
theorem ly_c5 {L : Nat} {xs : Nat → Int32} {m : fl_M} {Q : Option fl_V → fl_M → Prop} {i : Nat} (hall : ∀ c ∈ at_CM ++ at_CA, at_Valid at_XI (pw_P L xs) c) (hL : L ≤ 3072) (hi : i + 6 ≤ L) (hg : t2_Z m) (h0 : m = at_m0) (kk : ∀ m' : fl_M, t2_Z m' → fl_Tq (pw_P L xs) 0 2031 (lx_lv i) [] m' Q) : fl_Tq (pw_P L xs) 0 485 (lx_lv i) [] m Q := by
  obtain ⟨f, l⟩ := m
  refine fl_Tq.stp (pw_cod lx_k485) rfl (fl_bo rfl) rfl ?_
  refine lx_callG (as_ := [lx_x]) (rest := []) (pw_cod lx_k486) (pw_cll lx_l36) rfl (fl_bo rfl) rfl rfl (t2_step (ar := [at_this]) (hall _ at_c106_in) (hall _ at_c251_in) rfl rfl hg ⟨lx_kx _, True.intro⟩ rfl (fun _ => ⟨at_k277 _, True.intro⟩) rfl (t2_close hg)) (fun v1 m1 hg1 => ?_)
  obtain ⟨⟨y1, rfl⟩, hg1⟩ := hg1
  refine fl_Tq.stp (pw_cod lx_k489) rfl (fl_bo rfl) rfl ?_
  refine lx_callG (as_ := [at_this]) (rest := [.inl y1]) (pw_cod lx_k490) (pw_cll lx_l40) rfl (fl_bo rfl) rfl rfl hg1 (fun v2 m2 hg2 => ?_)
  obtain ⟨rfl, hg2⟩ := hg2
  refine fl_Tq.jt (pw_cod lx_k493) (fl_bo rfl) (by rw [at_c2]; exact decide_eq_true (by omega)) rfl ?_
  exact kk m2 hg2
theorem ly_c6 {L : Nat} {xs : Nat → Int32} {m : fl_M} {Q : Option fl_V → fl_M → Prop} {i : Nat} (hall : ∀ c ∈ at_CM ++ at_CA, at_Valid at_XI (pw_P L xs) c) (hL : L ≤ 3072) (hi : i + 6 ≤ L) (hg : t2_Z m) (h0 : m = at_m0) (kk : ∀ m' : fl_M, t2_Z m' → fl_Tq (pw_P L xs) 0 2031 (lx_lv i) [] m' Q) : fl_Tq (pw_P L xs) 0 498 (lx_lv i) [] m Q := by
  obtain ⟨f, l⟩ := m
  refine fl_Tq.stp (pw_cod lx_k498) rfl (fl_bo rfl) rfl ?_
  refine lx_callG (as_ := [lx_x]) (rest := []) (pw_cod lx_k499) (pw_cll lx_l41) rfl (fl_bo rfl) rfl rfl (t2_step (ar := [at_this]) (hall _ at_c107_in) (hall _ at_c252_in) rfl rfl hg ⟨lx_kx _, True.intro⟩ rfl (fun _ => ⟨at_k277 _, True.intro⟩) rfl (t2_open hg)) (fun v1 m1 hg1 => ?_)
  obtain ⟨⟨y1, rfl⟩, hg1⟩ := hg1
  refine fl_Tq.stp (pw_cod lx_k502) rfl (fl_bo rfl) rfl ?_
  refine lx_callG (as_ := [at_this]) (rest := [.inl y1]) (pw_cod lx_k503) (pw_cll lx_l44) rfl (fl_bo rfl) rfl rfl hg1 (fun v2 m2 hg2 => ?_)
  obtain ⟨rfl, hg2⟩ := hg2
  refine fl_Tq.jt (pw_cod lx_k506) (fl_bo rfl) (by rw [at_c2]; exact decide_eq_true (by omega)) rfl ?_
  exact kk m2 hg2
theorem ly_c7 {L : Nat} {xs : Nat → Int32} {m : fl_M} {Q : Option fl_V → fl_M → Prop} {i : Nat} (hall : ∀ c ∈ at_CM ++ at_CA, at_Valid at_XI (pw_P L xs) c) (hL : L ≤ 3072) (hi : i + 6 ≤ L) (hg : t2_Z m) (h0 : m = at_m0) (kk : ∀ m' : fl_M, t2_Z m' → fl_Tq (pw_P L xs) 0 2031 (lx_lv i) [] m' Q) : fl_Tq (pw_P L xs) 0 511 (lx_lv i) [] m Q := by
  obtain ⟨f, l⟩ := m
  refine fl_Tq.stp (pw_cod lx_k511) rfl (fl_bo rfl) rfl ?_
  refine lx_arg (i := i) (jn := 1) (pw_cod lx_k512) (pw_cod lx_k513) (pw_cod lx_k514) (pw_cod lx_k515) (pw_cod lx_k516) rfl (fl_bo rfl) hL (by omega) ?_
  refine lx_callG (as_ := [lx_x, .inl (xs (i + 1))]) (rest := []) (pw_cod lx_k517) (pw_cll lx_l45) rfl (fl_bo rfl) rfl rfl (t2_step (ar := [at_this, .inl (xs (i + 1))]) (hall _ at_c108_in) (hall _ at_c254_in) rfl rfl hg ⟨lx_kx _, lx_ki _, True.intro⟩ rfl (fun _ => ⟨at_k277 _, lx_ki _, True.intro⟩) rfl (t2_reset hg)) (fun v1 m1 hg1 => ?_)
  obtain ⟨⟨y1, rfl⟩, hg1⟩ := hg1
  refine fl_Tq.stp (pw_cod lx_k520) rfl (fl_bo rfl) rfl ?_
  refine lx_arg (i := i) (jn := 1) (pw_cod lx_k521) (pw_cod lx_k522) (pw_cod lx_k523) (pw_cod lx_k524) (pw_cod lx_k525) rfl (fl_bo rfl) hL (by omega) ?_
  refine lx_callG (as_ := [at_this, .inl (xs (i + 1))]) (rest := [.inl y1]) (pw_cod lx_k526) (pw_cll lx_l49) rfl (fl_bo rfl) rfl rfl hg1 (fun v2 m2 hg2 => ?_)
  obtain ⟨rfl, hg2⟩ := hg2
  refine fl_Tq.jt (pw_cod lx_k529) (fl_bo rfl) (by rw [at_c2]; exact decide_eq_true (by omega)) rfl ?_
  exact kk m2 hg2
theorem ly_c8 {L : Nat} {xs : Nat → Int32} {m : fl_M} {Q : Option fl_V → fl_M → Prop} {i : Nat} (hall : ∀ c ∈ at_CM ++ at_CA, at_Valid at_XI (pw_P L xs) c) (hL : L ≤ 3072) (hi : i + 6 ≤ L) (hg : t2_Z m) (h0 : m = at_m0) (kk : ∀ m' : fl_M, t2_Z m' → fl_Tq (pw_P L xs) 0 2031 (lx_lv i) [] m' Q) : fl_Tq (pw_P L xs) 0 534 (lx_lv i) [] m Q := by
  obtain ⟨f, l⟩ := m
  refine fl_Tq.stp (pw_cod lx_k534) rfl (fl_bo rfl) rfl ?_
  refine lx_arg (i := i) (jn := 1) (pw_cod lx_k535) (pw_cod lx_k536) (pw_cod lx_k537) (pw_cod lx_k538) (pw_cod lx_k539) rfl (fl_bo rfl) hL (by omega) ?_
  refine lx_arg (i := i) (jn := 2) (pw_cod lx_k540) (pw_cod lx_k541) (pw_cod lx_k542) (pw_cod lx_k543) (pw_cod lx_k544) rfl (fl_bo rfl) hL (by omega) ?_
  refine lx_callG (as_ := [lx_x, .inl (xs (i + 1)), .inl (xs (i + 2))]) (rest := []) (pw_cod lx_k545) (pw_cll lx_l50) rfl (fl_bo rfl) rfl rfl (t2_step (ar := [at_this, .inl (xs (i + 1)), .inl (xs (i + 2))]) (hall _ at_c109_in) (hall _ at_c258_in) rfl rfl hg ⟨lx_kx _, lx_ki _, lx_ki _, True.intro⟩ rfl (fun _ => ⟨at_k277 _, lx_ki _, lx_ki _, True.intro⟩) rfl (t2_stuck hg)) (fun v1 m1 hg1 => ?_)
  obtain ⟨⟨y1, rfl⟩, hg1⟩ := hg1
  refine fl_Tq.stp (pw_cod lx_k548) rfl (fl_bo rfl) rfl ?_
  refine lx_arg (i := i) (jn := 1) (pw_cod lx_k549) (pw_cod lx_k550) (pw_cod lx_k551) (pw_cod lx_k552) (pw_cod lx_k553) rfl (fl_bo rfl) hL (by omega) ?_
  refine lx_arg (i := i) (jn := 2) (pw_cod lx_k554) (pw_cod lx_k555) (pw_cod lx_k556) (pw_cod lx_k557) (pw_cod lx_k558) rfl (fl_bo rfl) hL (by omega) ?_
  refine lx_callG (as_ := [at_this, .inl (xs (i + 1)), .inl (xs (i + 2))]) (rest := [.inl y1]) (pw_cod lx_k559) (pw_cll lx_l53) rfl (fl_bo rfl) rfl rfl hg1 (fun v2 m2 hg2 => ?_)
  obtain ⟨rfl, hg2⟩ := hg2
  refine fl_Tq.jt (pw_cod lx_k562) (fl_bo rfl) (by rw [at_c2]; exact decide_eq_true (by omega)) rfl ?_
  exact kk m2 hg2
theorem ly_c9 {L : Nat} {xs : Nat → Int32} {m : fl_M} {Q : Option fl_V → fl_M → Prop} {i : Nat} (hall : ∀ c ∈ at_CM ++ at_CA, at_Valid at_XI (pw_P L xs) c) (hL : L ≤ 3072) (hi : i + 6 ≤ L) (hg : t2_Z m) (h0 : m = at_m0) (kk : ∀ m' : fl_M, t2_Z m' → fl_Tq (pw_P L xs) 0 2031 (lx_lv i) [] m' Q) : fl_Tq (pw_P L xs) 0 567 (lx_lv i) [] m Q := by
  obtain ⟨f, l⟩ := m
  refine fl_Tq.stp (pw_cod lx_k567) rfl (fl_bo rfl) rfl ?_
  refine lx_arg (i := i) (jn := 1) (pw_cod lx_k568) (pw_cod lx_k569) (pw_cod lx_k570) (pw_cod lx_k571) (pw_cod lx_k572) rfl (fl_bo rfl) hL (by omega) ?_
  refine lx_arg (i := i) (jn := 2) (pw_cod lx_k573) (pw_cod lx_k574) (pw_cod lx_k575) (pw_cod lx_k576) (pw_cod lx_k577) rfl (fl_bo rfl) hL (by omega) ?_
  refine lx_callG (as_ := [lx_x, .inl (xs (i + 1)), .inl (xs (i + 2))]) (rest := []) (pw_cod lx_k578) (pw_cll lx_l54) rfl (fl_bo rfl) rfl rfl (t2_step (ar := [at_this, .inl (xs (i + 1)), .inl (xs (i + 2))]) (hall _ at_c110_in) (hall _ at_c259_in) rfl rfl hg ⟨lx_kx _, lx_ki _, lx_ki _, True.intro⟩ rfl (fun _ => ⟨at_k277 _, lx_ki _, lx_ki _, True.intro⟩) rfl (t2_zone hg)) (fun v1 m1 hg1 => ?_)
  obtain ⟨⟨y1, rfl⟩, hg1⟩ := hg1
  refine fl_Tq.stp (pw_cod lx_k581) rfl (fl_bo rfl) rfl ?_
  refine lx_arg (i := i) (jn := 1) (pw_cod lx_k582) (pw_cod lx_k583) (pw_cod lx_k584) (pw_cod lx_k585) (pw_cod lx_k586) rfl (fl_bo rfl) hL (by omega) ?_
  refine lx_arg (i := i) (jn := 2) (pw_cod lx_k587) (pw_cod lx_k588) (pw_cod lx_k589) (pw_cod lx_k590) (pw_cod lx_k591) rfl (fl_bo rfl) hL (by omega) ?_
  refine lx_callG (as_ := [at_this, .inl (xs (i + 1)), .inl (xs (i + 2))]) (rest := [.inl y1]) (pw_cod lx_k592) (pw_cll lx_l58) rfl (fl_bo rfl) rfl rfl hg1 (fun v2 m2 hg2 => ?_)
  obtain ⟨rfl, hg2⟩ := hg2
  refine fl_Tq.jt (pw_cod lx_k595) (fl_bo rfl) (by rw [at_c2]; exact decide_eq_true (by omega)) rfl ?_
  exact kk m2 hg2
theorem ly_c10 {L : Nat} {xs : Nat → Int32} {m : fl_M} {Q : Option fl_V → fl_M → Prop} {i : Nat} (hall : ∀ c ∈ at_CM ++ at_CA, at_Valid at_XI (pw_P L xs) c) (hL : L ≤ 3072) (hi : i + 6 ≤ L) (hg : t2_Z m) (h0 : m = at_m0) (kk : ∀ m' : fl_M, t2_Z m' → fl_Tq (pw_P L xs) 0 2031 (lx_lv i) [] m' Q) : fl_Tq (pw_P L xs) 0 600 (lx_lv i) [] m Q := by
  obtain ⟨f, l⟩ := m
  refine fl_Tq.stp (pw_cod lx_k600) rfl (fl_bo rfl) rfl ?_
  refine lx_callG (as_ := [lx_x]) (rest := []) (pw_cod lx_k601) (pw_cll lx_l59) rfl (fl_bo rfl) rfl rfl (t2_step (ar := [at_this]) (hall _ at_c111_in) (hall _ at_c255_in) rfl rfl hg ⟨lx_kx _, True.intro⟩ rfl (fun _ => ⟨at_k277 _, True.intro⟩) rfl (t2_hear hg)) (fun v1 m1 hg1 => ?_)
  obtain ⟨⟨y1, rfl⟩, hg1⟩ := hg1
  refine fl_Tq.stp (pw_cod lx_k604) rfl (fl_bo rfl) rfl ?_
  refine lx_callG (as_ := [at_this]) (rest := [.inl y1]) (pw_cod lx_k605) (pw_cll lx_l63) rfl (fl_bo rfl) rfl rfl hg1 (fun v2 m2 hg2 => ?_)
  obtain ⟨rfl, hg2⟩ := hg2
  refine fl_Tq.jt (pw_cod lx_k608) (fl_bo rfl) (by rw [at_c2]; exact decide_eq_true (by omega)) rfl ?_
  exact kk m2 hg2
theorem ly_c11 {L : Nat} {xs : Nat → Int32} {m : fl_M} {Q : Option fl_V → fl_M → Prop} {i : Nat} (hall : ∀ c ∈ at_CM ++ at_CA, at_Valid at_XI (pw_P L xs) c) (hL : L ≤ 3072) (hi : i + 6 ≤ L) (hg : t2_Z m) (h0 : m = at_m0) (kk : ∀ m' : fl_M, t2_Z m' → fl_Tq (pw_P L xs) 0 2031 (lx_lv i) [] m' Q) : fl_Tq (pw_P L xs) 0 613 (lx_lv i) [] m Q := by
  obtain ⟨f, l⟩ := m
  refine fl_Tq.stp (pw_cod lx_k613) rfl (fl_bo rfl) rfl ?_
  refine lx_arg (i := i) (jn := 1) (pw_cod lx_k614) (pw_cod lx_k615) (pw_cod lx_k616) (pw_cod lx_k617) (pw_cod lx_k618) rfl (fl_bo rfl) hL (by omega) ?_
  refine lx_arg (i := i) (jn := 2) (pw_cod lx_k619) (pw_cod lx_k620) (pw_cod lx_k621) (pw_cod lx_k622) (pw_cod lx_k623) rfl (fl_bo rfl) hL (by omega) ?_
  refine lx_callG (as_ := [lx_x, .inl (xs (i + 1)), .inl (xs (i + 2))]) (rest := []) (pw_cod lx_k624) (pw_cll lx_l64) rfl (fl_bo rfl) rfl rfl (t2_step (ar := [at_this, .inl (xs (i + 1)), .inl (xs (i + 2))]) (hall _ at_c112_in) (hall _ at_c256_in) rfl rfl hg ⟨lx_kx _, lx_ki _, lx_ki _, True.intro⟩ rfl (fun _ => ⟨at_k277 _, lx_ki _, lx_ki _, True.intro⟩) rfl (t2_price hg)) (fun v1 m1 hg1 => ?_)
  obtain ⟨⟨y1, rfl⟩, hg1⟩ := hg1
  refine fl_Tq.stp (pw_cod lx_k627) rfl (fl_bo rfl) rfl ?_
  refine lx_arg (i := i) (jn := 1) (pw_cod lx_k628) (pw_cod lx_k629) (pw_cod lx_k630) (pw_cod lx_k631) (pw_cod lx_k632) rfl (fl_bo rfl) hL (by omega) ?_
  refine lx_arg (i := i) (jn := 2) (pw_cod lx_k633) (pw_cod lx_k634) (pw_cod lx_k635) (pw_cod lx_k636) (pw_cod lx_k637) rfl (fl_bo rfl) hL (by omega) ?_
  refine lx_callG (as_ := [at_this, .inl (xs (i + 1)), .inl (xs (i + 2))]) (rest := [.inl y1]) (pw_cod lx_k638) (pw_cll lx_l67) rfl (fl_bo rfl) rfl rfl hg1 (fun v2 m2 hg2 => ?_)
  obtain ⟨rfl, hg2⟩ := hg2
  refine fl_Tq.jt (pw_cod lx_k641) (fl_bo rfl) (by rw [at_c2]; exact decide_eq_true (by omega)) rfl ?_
  exact kk m2 hg2
theorem ly_c12 {L : Nat} {xs : Nat → Int32} {m : fl_M} {Q : Option fl_V → fl_M → Prop} {i : Nat} (hall : ∀ c ∈ at_CM ++ at_CA, at_Valid at_XI (pw_P L xs) c) (hL : L ≤ 3072) (hi : i + 6 ≤ L) (hg : t2_Z m) (h0 : m = at_m0) (kk : ∀ m' : fl_M, t2_Z m' → fl_Tq (pw_P L xs) 0 2031 (lx_lv i) [] m' Q) : fl_Tq (pw_P L xs) 0 646 (lx_lv i) [] m Q := by
  obtain ⟨f, l⟩ := m
  refine fl_Tq.stp (pw_cod lx_k646) rfl (fl_bo rfl) rfl ?_
  refine lx_arg (i := i) (jn := 1) (pw_cod lx_k647) (pw_cod lx_k648) (pw_cod lx_k649) (pw_cod lx_k650) (pw_cod lx_k651) rfl (fl_bo rfl) hL (by omega) ?_
  refine lx_callG (as_ := [lx_x, .inl (xs (i + 1))]) (rest := []) (pw_cod lx_k652) (pw_cll lx_l68) rfl (fl_bo rfl) rfl rfl (t2_step (ar := [at_this, .inl (xs (i + 1))]) (hall _ at_c113_in) (hall _ at_c257_in) rfl rfl hg ⟨lx_kx _, lx_ki _, True.intro⟩ rfl (fun _ => ⟨at_k277 _, lx_ki _, True.intro⟩) rfl (t2_mark hg)) (fun v1 m1 hg1 => ?_)
  obtain ⟨⟨y1, rfl⟩, hg1⟩ := hg1
  refine fl_Tq.stp (pw_cod lx_k655) rfl (fl_bo rfl) rfl ?_
  refine lx_arg (i := i) (jn := 1) (pw_cod lx_k656) (pw_cod lx_k657) (pw_cod lx_k658) (pw_cod lx_k659) (pw_cod lx_k660) rfl (fl_bo rfl) hL (by omega) ?_
  refine lx_callG (as_ := [at_this, .inl (xs (i + 1))]) (rest := [.inl y1]) (pw_cod lx_k661) (pw_cll lx_l71) rfl (fl_bo rfl) rfl rfl hg1 (fun v2 m2 hg2 => ?_)
  obtain ⟨rfl, hg2⟩ := hg2
  refine fl_Tq.jt (pw_cod lx_k664) (fl_bo rfl) (by rw [at_c2]; exact decide_eq_true (by omega)) rfl ?_
  exact kk m2 hg2
theorem ly_c13 {L : Nat} {xs : Nat → Int32} {m : fl_M} {Q : Option fl_V → fl_M → Prop} {i : Nat} (hall : ∀ c ∈ at_CM ++ at_CA, at_Valid at_XI (pw_P L xs) c) (hL : L ≤ 3072) (hi : i + 6 ≤ L) (hg : t2_Z m) (h0 : m = at_m0) (kk : ∀ m' : fl_M, t2_Z m' → fl_Tq (pw_P L xs) 0 2031 (lx_lv i) [] m' Q) : fl_Tq (pw_P L xs) 0 669 (lx_lv i) [] m Q := by
  obtain ⟨f, l⟩ := m
  refine fl_Tq.stp (pw_cod lx_k669) rfl (fl_bo rfl) rfl ?_
  refine lx_arg (i := i) (jn := 1) (pw_cod lx_k670) (pw_cod lx_k671) (pw_cod lx_k672) (pw_cod lx_k673) (pw_cod lx_k674) rfl (fl_bo rfl) hL (by omega) ?_
  refine lx_arg (i := i) (jn := 2) (pw_cod lx_k675) (pw_cod lx_k676) (pw_cod lx_k677) (pw_cod lx_k678) (pw_cod lx_k679) rfl (fl_bo rfl) hL (by omega) ?_
  refine lx_callG (as_ := [lx_x, .inl (xs (i + 1)), .inl (xs (i + 2))]) (rest := []) (pw_cod lx_k680) (pw_cll lx_l72) rfl (fl_bo rfl) rfl rfl (t2_step (ar := [at_this, .inl (xs (i + 1)), .inl (xs (i + 2))]) (hall _ at_c114_in) (hall _ at_c260_in) rfl rfl hg ⟨lx_kx _, lx_ki _, lx_ki _, True.intro⟩ rfl (fun _ => ⟨at_k277 _, lx_ki _, lx_ki _, True.intro⟩) rfl (t2_piece hg)) (fun v1 m1 hg1 => ?_)
  obtain ⟨⟨y1, rfl⟩, hg1⟩ := hg1
  refine fl_Tq.stp (pw_cod lx_k683) rfl (fl_bo rfl) rfl ?_
  refine lx_arg (i := i) (jn := 1) (pw_cod lx_k684) (pw_cod lx_k685) (pw_cod lx_k686) (pw_cod lx_k687) (pw_cod lx_k688) rfl (fl_bo rfl) hL (by omega) ?_
  refine lx_arg (i := i) (jn := 2) (pw_cod lx_k689) (pw_cod lx_k690) (pw_cod lx_k691) (pw_cod lx_k692) (pw_cod lx_k693) rfl (fl_bo rfl) hL (by omega) ?_
  refine lx_callG (as_ := [at_this, .inl (xs (i + 1)), .inl (xs (i + 2))]) (rest := [.inl y1]) (pw_cod lx_k694) (pw_cll lx_l75) rfl (fl_bo rfl) rfl rfl hg1 (fun v2 m2 hg2 => ?_)
  obtain ⟨rfl, hg2⟩ := hg2
  refine fl_Tq.jt (pw_cod lx_k697) (fl_bo rfl) (by rw [at_c2]; exact decide_eq_true (by omega)) rfl ?_
  exact kk m2 hg2
theorem ly_c14 {L : Nat} {xs : Nat → Int32} {m : fl_M} {Q : Option fl_V → fl_M → Prop} {i : Nat} (hall : ∀ c ∈ at_CM ++ at_CA, at_Valid at_XI (pw_P L xs) c) (hL : L ≤ 3072) (hi : i + 6 ≤ L) (hg : t2_Z m) (h0 : m = at_m0) (kk : ∀ m' : fl_M, t2_Z m' → fl_Tq (pw_P L xs) 0 2031 (lx_lv i) [] m' Q) : fl_Tq (pw_P L xs) 0 702 (lx_lv i) [] m Q := by
  obtain ⟨f, l⟩ := m
  refine fl_Tq.stp (pw_cod lx_k702) rfl (fl_bo rfl) rfl ?_
  refine lx_arg (i := i) (jn := 1) (pw_cod lx_k703) (pw_cod lx_k704) (pw_cod lx_k705) (pw_cod lx_k706) (pw_cod lx_k707) rfl (fl_bo rfl) hL (by omega) ?_
  refine lx_arg (i := i) (jn := 2) (pw_cod lx_k708) (pw_cod lx_k709) (pw_cod lx_k710) (pw_cod lx_k711) (pw_cod lx_k712) rfl (fl_bo rfl) hL (by omega) ?_
  refine lx_boolV (pw_cod lx_k713) (pw_cod lx_k716) (pw_cod lx_k717) (pw_cod lx_k720) (fl_bo rfl) rfl rfl ?_
  refine lx_arg (i := i) (jn := 3) (pw_cod lx_k721) (pw_cod lx_k722) (pw_cod lx_k723) (pw_cod lx_k724) (pw_cod lx_k725) rfl (fl_bo rfl) hL (by omega) ?_
  refine lx_arg (i := i) (jn := 4) (pw_cod lx_k726) (pw_cod lx_k727) (pw_cod lx_k728) (pw_cod lx_k729) (pw_cod lx_k730) rfl (fl_bo rfl) hL (by omega) ?_
  refine lx_arg (i := i) (jn := 5) (pw_cod lx_k731) (pw_cod lx_k732) (pw_cod lx_k733) (pw_cod lx_k734) (pw_cod lx_k735) rfl (fl_bo rfl) hL (by omega) ?_
  refine lx_callG (as_ := [lx_x, .inl (xs (i + 1)), .inl (t2_b01 (xs (i + 2))), .inl (xs (i + 3)), .inl (xs (i + 4)), .inl (xs (i + 5))]) (rest := []) (pw_cod lx_k736) (pw_cll lx_l76) rfl (fl_bo rfl) rfl rfl (t2_step (ar := [at_this, .inl (xs (i + 1)), .inl (t2_b01 (xs (i + 2))), .inl (xs (i + 3)), .inl (xs (i + 4)), .inl (xs (i + 5))]) (hall _ at_c115_in) (hall _ at_c261_in) rfl rfl hg ⟨lx_kx _, lx_ki _, t2_b01_k _, lx_ki _, lx_ki _, lx_ki _, True.intro⟩ rfl (fun _ => ⟨at_k277 _, lx_ki _, t2_b01_k _, lx_ki _, lx_ki _, lx_ki _, True.intro⟩) rfl (t2_rule hg)) (fun v1 m1 hg1 => ?_)
  obtain ⟨⟨y1, rfl⟩, hg1⟩ := hg1
  refine fl_Tq.stp (pw_cod lx_k739) rfl (fl_bo rfl) rfl ?_
  refine lx_arg (i := i) (jn := 1) (pw_cod lx_k740) (pw_cod lx_k741) (pw_cod lx_k742) (pw_cod lx_k743) (pw_cod lx_k744) rfl (fl_bo rfl) hL (by omega) ?_
  refine lx_arg (i := i) (jn := 2) (pw_cod lx_k745) (pw_cod lx_k746) (pw_cod lx_k747) (pw_cod lx_k748) (pw_cod lx_k749) rfl (fl_bo rfl) hL (by omega) ?_
  refine lx_boolV (pw_cod lx_k750) (pw_cod lx_k753) (pw_cod lx_k754) (pw_cod lx_k757) (fl_bo rfl) rfl rfl ?_
  refine lx_arg (i := i) (jn := 3) (pw_cod lx_k758) (pw_cod lx_k759) (pw_cod lx_k760) (pw_cod lx_k761) (pw_cod lx_k762) rfl (fl_bo rfl) hL (by omega) ?_
  refine lx_arg (i := i) (jn := 4) (pw_cod lx_k763) (pw_cod lx_k764) (pw_cod lx_k765) (pw_cod lx_k766) (pw_cod lx_k767) rfl (fl_bo rfl) hL (by omega) ?_
  refine lx_arg (i := i) (jn := 5) (pw_cod lx_k768) (pw_cod lx_k769) (pw_cod lx_k770) (pw_cod lx_k771) (pw_cod lx_k772) rfl (fl_bo rfl) hL (by omega) ?_
  refine lx_callG (as_ := [at_this, .inl (xs (i + 1)), .inl (t2_b01 (xs (i + 2))), .inl (xs (i + 3)), .inl (xs (i + 4)), .inl (xs (i + 5))]) (rest := [.inl y1]) (pw_cod lx_k773) (pw_cll lx_l80) rfl (fl_bo rfl) rfl rfl hg1 (fun v2 m2 hg2 => ?_)
  obtain ⟨rfl, hg2⟩ := hg2
  refine fl_Tq.jt (pw_cod lx_k776) (fl_bo rfl) (by rw [at_c2]; exact decide_eq_true (by omega)) rfl ?_
  exact kk m2 hg2
theorem ly_c15 {L : Nat} {xs : Nat → Int32} {m : fl_M} {Q : Option fl_V → fl_M → Prop} {i : Nat} (hall : ∀ c ∈ at_CM ++ at_CA, at_Valid at_XI (pw_P L xs) c) (hL : L ≤ 3072) (hi : i + 6 ≤ L) (hg : t2_Z m) (h0 : m = at_m0) (kk : ∀ m' : fl_M, t2_Z m' → fl_Tq (pw_P L xs) 0 2031 (lx_lv i) [] m' Q) : fl_Tq (pw_P L xs) 0 781 (lx_lv i) [] m Q := by
  obtain ⟨f, l⟩ := m
  refine fl_Tq.stp (pw_cod lx_k781) rfl (fl_bo rfl) rfl ?_
  refine lx_callG (as_ := [lx_x]) (rest := []) (pw_cod lx_k782) (pw_cll lx_l81) rfl (fl_bo rfl) rfl rfl (t2_step (ar := [at_this]) (hall _ at_c116_in) (hall _ at_c263_in) rfl rfl hg ⟨lx_kx _, True.intro⟩ rfl (fun _ => ⟨at_k277 _, True.intro⟩) rfl (t2_unrule hg)) (fun v1 m1 hg1 => ?_)
  obtain ⟨⟨y1, rfl⟩, hg1⟩ := hg1
  refine fl_Tq.stp (pw_cod lx_k785) rfl (fl_bo rfl) rfl ?_
  refine lx_callG (as_ := [at_this]) (rest := [.inl y1]) (pw_cod lx_k786) (pw_cll lx_l84) rfl (fl_bo rfl) rfl rfl hg1 (fun v2 m2 hg2 => ?_)
  obtain ⟨rfl, hg2⟩ := hg2
  refine fl_Tq.jt (pw_cod lx_k789) (fl_bo rfl) (by rw [at_c2]; exact decide_eq_true (by omega)) rfl ?_
  exact kk m2 hg2
theorem ly_c16 {L : Nat} {xs : Nat → Int32} {m : fl_M} {Q : Option fl_V → fl_M → Prop} {i : Nat} (hall : ∀ c ∈ at_CM ++ at_CA, at_Valid at_XI (pw_P L xs) c) (hL : L ≤ 3072) (hi : i + 6 ≤ L) (hg : t2_Z m) (h0 : m = at_m0) (kk : ∀ m' : fl_M, t2_Z m' → fl_Tq (pw_P L xs) 0 2031 (lx_lv i) [] m' Q) : fl_Tq (pw_P L xs) 0 794 (lx_lv i) [] m Q := by
  obtain ⟨f, l⟩ := m
  refine fl_Tq.stp (pw_cod lx_k794) rfl (fl_bo rfl) rfl ?_
  refine lx_callG (as_ := [lx_x]) (rest := []) (pw_cod lx_k795) (pw_cll lx_l85) rfl (fl_bo rfl) rfl rfl (t2_step (ar := [at_this]) (hall _ at_c117_in) (hall _ at_c264_in) rfl rfl hg ⟨lx_kx _, True.intro⟩ rfl (fun _ => ⟨at_k277 _, True.intro⟩) rfl (t2_wipe hg)) (fun v1 m1 hg1 => ?_)
  obtain ⟨⟨y1, rfl⟩, hg1⟩ := hg1
  refine fl_Tq.stp (pw_cod lx_k798) rfl (fl_bo rfl) rfl ?_
  refine lx_callG (as_ := [at_this]) (rest := [.inl y1]) (pw_cod lx_k799) (pw_cll lx_l88) rfl (fl_bo rfl) rfl rfl hg1 (fun v2 m2 hg2 => ?_)
  obtain ⟨rfl, hg2⟩ := hg2
  refine fl_Tq.jt (pw_cod lx_k802) (fl_bo rfl) (by rw [at_c2]; exact decide_eq_true (by omega)) rfl ?_
  exact kk m2 hg2

end

/-! 95.12.lawcase.lean.txt -/
section
/-! ===== printed by wip/gen/lawgen3.py: the law's cases ===== -/
theorem ly_c17 {L : Nat} {xs : Nat → Int32} {m : fl_M} {Q : Option fl_V → fl_M → Prop} {i : Nat} (hall : ∀ c ∈ at_CM ++ at_CA, at_Valid at_XI (pw_P L xs) c) (hL : L ≤ 3072) (hi : i + 6 ≤ L) (hg : t2_Z m) (h0 : m = at_m0) (kk : ∀ m' : fl_M, t2_Z m' → fl_Tq (pw_P L xs) 0 2031 (lx_lv i) [] m' Q) : fl_Tq (pw_P L xs) 0 807 (lx_lv i) [] m Q := by
  obtain ⟨f, l⟩ := m
  refine fl_Tq.stp (pw_cod lx_k807) rfl (fl_bo rfl) rfl ?_
  refine lx_callG (as_ := [lx_x]) (rest := []) (pw_cod lx_k808) (pw_cll lx_l89) rfl (fl_bo rfl) rfl rfl (t2_stepG (ar := [at_this]) (hall _ at_c118_in) (hall _ at_c267_in) rfl rfl hg ⟨lx_kx _, True.intro⟩ rfl (fun _ => ⟨at_k277 _, True.intro⟩) rfl (t2_drive hall hg)) (fun v1 m1 hg1 => ?_)
  obtain ⟨⟨y1, rfl⟩, hg1⟩ := hg1
  refine fl_Tq.stp (pw_cod lx_k811) rfl (fl_bo rfl) rfl ?_
  refine lx_callG (as_ := [at_this]) (rest := [.inl y1]) (pw_cod lx_k812) (pw_cll lx_l92) rfl (fl_bo rfl) rfl rfl hg1 (fun v2 m2 hg2 => ?_)
  obtain ⟨rfl, hg2⟩ := hg2
  refine fl_Tq.jt (pw_cod lx_k815) (fl_bo rfl) (by rw [at_c2]; exact decide_eq_true (by omega)) rfl ?_
  exact kk m2 hg2
theorem ly_c18 {L : Nat} {xs : Nat → Int32} {m : fl_M} {Q : Option fl_V → fl_M → Prop} {i : Nat} (hall : ∀ c ∈ at_CM ++ at_CA, at_Valid at_XI (pw_P L xs) c) (hL : L ≤ 3072) (hi : i + 6 ≤ L) (hg : t2_Z m) (h0 : m = at_m0) (kk : ∀ m' : fl_M, t2_Z m' → fl_Tq (pw_P L xs) 0 2031 (lx_lv i) [] m' Q) : fl_Tq (pw_P L xs) 0 820 (lx_lv i) [] m Q := by
  obtain ⟨f, l⟩ := m
  refine fl_Tq.stp (pw_cod lx_k820) rfl (fl_bo rfl) rfl ?_
  refine lx_callG (as_ := [lx_x]) (rest := []) (pw_cod lx_k821) (pw_cll lx_l93) rfl (fl_bo rfl) rfl rfl (t2_step (ar := [at_this]) (hall _ at_c119_in) (hall _ at_c242_in) rfl rfl hg ⟨lx_kx _, True.intro⟩ rfl (fun _ => ⟨at_k277 _, True.intro⟩) rfl (t2_undo hg)) (fun v1 m1 hg1 => ?_)
  obtain ⟨⟨y1, rfl⟩, hg1⟩ := hg1
  refine fl_Tq.stp (pw_cod lx_k824) rfl (fl_bo rfl) rfl ?_
  refine lx_callG (as_ := [at_this]) (rest := [.inl y1]) (pw_cod lx_k825) (pw_cll lx_l96) rfl (fl_bo rfl) rfl rfl hg1 (fun v2 m2 hg2 => ?_)
  obtain ⟨rfl, hg2⟩ := hg2
  refine fl_Tq.jt (pw_cod lx_k828) (fl_bo rfl) (by rw [at_c2]; exact decide_eq_true (by omega)) rfl ?_
  exact kk m2 hg2
theorem ly_c19 {L : Nat} {xs : Nat → Int32} {m : fl_M} {Q : Option fl_V → fl_M → Prop} {i : Nat} (hall : ∀ c ∈ at_CM ++ at_CA, at_Valid at_XI (pw_P L xs) c) (hL : L ≤ 3072) (hi : i + 6 ≤ L) (hg : t2_Z m) (h0 : m = at_m0) (kk : ∀ m' : fl_M, t2_Z m' → fl_Tq (pw_P L xs) 0 2031 (lx_lv i) [] m' Q) : fl_Tq (pw_P L xs) 0 833 (lx_lv i) [] m Q := by
  obtain ⟨f, l⟩ := m
  refine fl_Tq.stp (pw_cod lx_k833) rfl (fl_bo rfl) rfl ?_
  refine lx_arg (i := i) (jn := 1) (pw_cod lx_k834) (pw_cod lx_k835) (pw_cod lx_k836) (pw_cod lx_k837) (pw_cod lx_k838) rfl (fl_bo rfl) hL (by omega) ?_
  refine lx_callG (as_ := [lx_x, .inl (xs (i + 1))]) (rest := []) (pw_cod lx_k839) (pw_cll lx_l97) rfl (fl_bo rfl) rfl rfl (t2_cmp_21 hall hg) (fun v1 m1 hg1 => ?_)
  obtain ⟨⟨y1, rfl⟩, hg1⟩ := hg1
  refine fl_Tq.stp (pw_cod lx_k842) rfl (fl_bo rfl) rfl ?_
  refine lx_arg (i := i) (jn := 1) (pw_cod lx_k843) (pw_cod lx_k844) (pw_cod lx_k845) (pw_cod lx_k846) (pw_cod lx_k847) rfl (fl_bo rfl) hL (by omega) ?_
  refine lx_callG (as_ := [at_this, .inl (xs (i + 1))]) (rest := [.inl y1]) (pw_cod lx_k848) (pw_cll lx_l100) rfl (fl_bo rfl) rfl rfl hg1 (fun v2 m2 hg2 => ?_)
  obtain ⟨rfl, hg2⟩ := hg2
  refine fl_Tq.jt (pw_cod lx_k851) (fl_bo rfl) (by rw [at_c2]; exact decide_eq_true (by omega)) rfl ?_
  exact kk m2 hg2
theorem ly_c20 {L : Nat} {xs : Nat → Int32} {m : fl_M} {Q : Option fl_V → fl_M → Prop} {i : Nat} (hall : ∀ c ∈ at_CM ++ at_CA, at_Valid at_XI (pw_P L xs) c) (hL : L ≤ 3072) (hi : i + 6 ≤ L) (hg : t2_Z m) (h0 : m = at_m0) (kk : ∀ m' : fl_M, t2_Z m' → fl_Tq (pw_P L xs) 0 2031 (lx_lv i) [] m' Q) : fl_Tq (pw_P L xs) 0 856 (lx_lv i) [] m Q := by
  obtain ⟨f, l⟩ := m
  refine fl_Tq.stp (pw_cod lx_k856) rfl (fl_bo rfl) rfl ?_
  refine lx_arg (i := i) (jn := 1) (pw_cod lx_k857) (pw_cod lx_k858) (pw_cod lx_k859) (pw_cod lx_k860) (pw_cod lx_k861) rfl (fl_bo rfl) hL (by omega) ?_
  refine lx_callG (as_ := [lx_x, .inl (xs (i + 1))]) (rest := []) (pw_cod lx_k862) (pw_cll lx_l101) rfl (fl_bo rfl) rfl rfl (t2_cmp_22 hall hg) (fun v1 m1 hg1 => ?_)
  obtain ⟨⟨y1, rfl⟩, hg1⟩ := hg1
  refine fl_Tq.stp (pw_cod lx_k865) rfl (fl_bo rfl) rfl ?_
  refine lx_arg (i := i) (jn := 1) (pw_cod lx_k866) (pw_cod lx_k867) (pw_cod lx_k868) (pw_cod lx_k869) (pw_cod lx_k870) rfl (fl_bo rfl) hL (by omega) ?_
  refine lx_callG (as_ := [at_this, .inl (xs (i + 1))]) (rest := [.inl y1]) (pw_cod lx_k871) (pw_cll lx_l104) rfl (fl_bo rfl) rfl rfl hg1 (fun v2 m2 hg2 => ?_)
  obtain ⟨rfl, hg2⟩ := hg2
  refine fl_Tq.jt (pw_cod lx_k874) (fl_bo rfl) (by rw [at_c2]; exact decide_eq_true (by omega)) rfl ?_
  exact kk m2 hg2
theorem ly_c21 {L : Nat} {xs : Nat → Int32} {m : fl_M} {Q : Option fl_V → fl_M → Prop} {i : Nat} (hall : ∀ c ∈ at_CM ++ at_CA, at_Valid at_XI (pw_P L xs) c) (hL : L ≤ 3072) (hi : i + 6 ≤ L) (hg : t2_Z m) (h0 : m = at_m0) (kk : ∀ m' : fl_M, t2_Z m' → fl_Tq (pw_P L xs) 0 2031 (lx_lv i) [] m' Q) : fl_Tq (pw_P L xs) 0 879 (lx_lv i) [] m Q := by
  obtain ⟨f, l⟩ := m
  refine fl_Tq.stp (pw_cod lx_k879) rfl (fl_bo rfl) rfl ?_
  refine lx_arg (i := i) (jn := 1) (pw_cod lx_k880) (pw_cod lx_k881) (pw_cod lx_k882) (pw_cod lx_k883) (pw_cod lx_k884) rfl (fl_bo rfl) hL (by omega) ?_
  refine lx_arg (i := i) (jn := 2) (pw_cod lx_k885) (pw_cod lx_k886) (pw_cod lx_k887) (pw_cod lx_k888) (pw_cod lx_k889) rfl (fl_bo rfl) hL (by omega) ?_
  refine lx_callG (as_ := [lx_x, .inl (xs (i + 1)), .inl (xs (i + 2))]) (rest := []) (pw_cod lx_k890) (pw_cll lx_l105) rfl (fl_bo rfl) rfl rfl (t2_cmp_23 hall hg) (fun v1 m1 hg1 => ?_)
  obtain ⟨⟨y1, rfl⟩, hg1⟩ := hg1
  refine fl_Tq.stp (pw_cod lx_k893) rfl (fl_bo rfl) rfl ?_
  refine lx_arg (i := i) (jn := 1) (pw_cod lx_k894) (pw_cod lx_k895) (pw_cod lx_k896) (pw_cod lx_k897) (pw_cod lx_k898) rfl (fl_bo rfl) hL (by omega) ?_
  refine lx_arg (i := i) (jn := 2) (pw_cod lx_k899) (pw_cod lx_k900) (pw_cod lx_k901) (pw_cod lx_k902) (pw_cod lx_k903) rfl (fl_bo rfl) hL (by omega) ?_
  refine lx_callG (as_ := [at_this, .inl (xs (i + 1)), .inl (xs (i + 2))]) (rest := [.inl y1]) (pw_cod lx_k904) (pw_cll lx_l108) rfl (fl_bo rfl) rfl rfl hg1 (fun v2 m2 hg2 => ?_)
  obtain ⟨rfl, hg2⟩ := hg2
  refine fl_Tq.jt (pw_cod lx_k907) (fl_bo rfl) (by rw [at_c2]; exact decide_eq_true (by omega)) rfl ?_
  exact kk m2 hg2
theorem ly_c22 {L : Nat} {xs : Nat → Int32} {m : fl_M} {Q : Option fl_V → fl_M → Prop} {i : Nat} (hall : ∀ c ∈ at_CM ++ at_CA, at_Valid at_XI (pw_P L xs) c) (hL : L ≤ 3072) (hi : i + 6 ≤ L) (hg : t2_Z m) (h0 : m = at_m0) (kk : ∀ m' : fl_M, t2_Z m' → fl_Tq (pw_P L xs) 0 2031 (lx_lv i) [] m' Q) : fl_Tq (pw_P L xs) 0 912 (lx_lv i) [] m Q := by
  obtain ⟨f, l⟩ := m
  refine fl_Tq.stp (pw_cod lx_k912) rfl (fl_bo rfl) rfl ?_
  refine lx_arg (i := i) (jn := 1) (pw_cod lx_k913) (pw_cod lx_k914) (pw_cod lx_k915) (pw_cod lx_k916) (pw_cod lx_k917) rfl (fl_bo rfl) hL (by omega) ?_
  refine lx_arg (i := i) (jn := 2) (pw_cod lx_k918) (pw_cod lx_k919) (pw_cod lx_k920) (pw_cod lx_k921) (pw_cod lx_k922) rfl (fl_bo rfl) hL (by omega) ?_
  refine lx_callG (as_ := [lx_x, .inl (xs (i + 1)), .inl (xs (i + 2))]) (rest := []) (pw_cod lx_k923) (pw_cll lx_l109) rfl (fl_bo rfl) rfl rfl (t2_cmp_24 hall hg) (fun v1 m1 hg1 => ?_)
  obtain ⟨⟨y1, rfl⟩, hg1⟩ := hg1
  refine fl_Tq.stp (pw_cod lx_k926) rfl (fl_bo rfl) rfl ?_
  refine lx_arg (i := i) (jn := 1) (pw_cod lx_k927) (pw_cod lx_k928) (pw_cod lx_k929) (pw_cod lx_k930) (pw_cod lx_k931) rfl (fl_bo rfl) hL (by omega) ?_
  refine lx_arg (i := i) (jn := 2) (pw_cod lx_k932) (pw_cod lx_k933) (pw_cod lx_k934) (pw_cod lx_k935) (pw_cod lx_k936) rfl (fl_bo rfl) hL (by omega) ?_
  refine lx_callG (as_ := [at_this, .inl (xs (i + 1)), .inl (xs (i + 2))]) (rest := [.inl y1]) (pw_cod lx_k937) (pw_cll lx_l112) rfl (fl_bo rfl) rfl rfl hg1 (fun v2 m2 hg2 => ?_)
  obtain ⟨rfl, hg2⟩ := hg2
  refine fl_Tq.jt (pw_cod lx_k940) (fl_bo rfl) (by rw [at_c2]; exact decide_eq_true (by omega)) rfl ?_
  exact kk m2 hg2
theorem ly_c23 {L : Nat} {xs : Nat → Int32} {m : fl_M} {Q : Option fl_V → fl_M → Prop} {i : Nat} (hall : ∀ c ∈ at_CM ++ at_CA, at_Valid at_XI (pw_P L xs) c) (hL : L ≤ 3072) (hi : i + 6 ≤ L) (hg : t2_Z m) (h0 : m = at_m0) (kk : ∀ m' : fl_M, t2_Z m' → fl_Tq (pw_P L xs) 0 2031 (lx_lv i) [] m' Q) : fl_Tq (pw_P L xs) 0 945 (lx_lv i) [] m Q := by
  obtain ⟨f, l⟩ := m
  refine fl_Tq.stp (pw_cod lx_k945) rfl (fl_bo rfl) rfl ?_
  refine lx_arg (i := i) (jn := 1) (pw_cod lx_k946) (pw_cod lx_k947) (pw_cod lx_k948) (pw_cod lx_k949) (pw_cod lx_k950) rfl (fl_bo rfl) hL (by omega) ?_
  refine lx_arg (i := i) (jn := 2) (pw_cod lx_k951) (pw_cod lx_k952) (pw_cod lx_k953) (pw_cod lx_k954) (pw_cod lx_k955) rfl (fl_bo rfl) hL (by omega) ?_
  refine lx_callG (as_ := [lx_x, .inl (xs (i + 1)), .inl (xs (i + 2))]) (rest := []) (pw_cod lx_k956) (pw_cll lx_l113) rfl (fl_bo rfl) rfl rfl (t2_cmp_25 hall hg h0) (fun v1 m1 hg1 => ?_)
  obtain ⟨⟨y1, rfl⟩, hg1⟩ := hg1
  refine fl_Tq.stp (pw_cod lx_k959) rfl (fl_bo rfl) rfl ?_
  refine lx_arg (i := i) (jn := 1) (pw_cod lx_k960) (pw_cod lx_k961) (pw_cod lx_k962) (pw_cod lx_k963) (pw_cod lx_k964) rfl (fl_bo rfl) hL (by omega) ?_
  refine lx_arg (i := i) (jn := 2) (pw_cod lx_k965) (pw_cod lx_k966) (pw_cod lx_k967) (pw_cod lx_k968) (pw_cod lx_k969) rfl (fl_bo rfl) hL (by omega) ?_
  refine lx_callG (as_ := [at_this, .inl (xs (i + 1)), .inl (xs (i + 2))]) (rest := [.inl y1]) (pw_cod lx_k970) (pw_cll lx_l116) rfl (fl_bo rfl) rfl rfl hg1 (fun v2 m2 hg2 => ?_)
  obtain ⟨rfl, hg2⟩ := hg2
  refine fl_Tq.jt (pw_cod lx_k973) (fl_bo rfl) (by rw [at_c2]; exact decide_eq_true (by omega)) rfl ?_
  exact kk m2 hg2
theorem ly_c24 {L : Nat} {xs : Nat → Int32} {m : fl_M} {Q : Option fl_V → fl_M → Prop} {i : Nat} (hall : ∀ c ∈ at_CM ++ at_CA, at_Valid at_XI (pw_P L xs) c) (hL : L ≤ 3072) (hi : i + 6 ≤ L) (hg : t2_Z m) (h0 : m = at_m0) (kk : ∀ m' : fl_M, t2_Z m' → fl_Tq (pw_P L xs) 0 2031 (lx_lv i) [] m' Q) : fl_Tq (pw_P L xs) 0 978 (lx_lv i) [] m Q := by
  obtain ⟨f, l⟩ := m
  refine fl_Tq.stp (pw_cod lx_k978) rfl (fl_bo rfl) rfl ?_
  refine lx_arg (i := i) (jn := 1) (pw_cod lx_k979) (pw_cod lx_k980) (pw_cod lx_k981) (pw_cod lx_k982) (pw_cod lx_k983) rfl (fl_bo rfl) hL (by omega) ?_
  refine lx_arg (i := i) (jn := 2) (pw_cod lx_k984) (pw_cod lx_k985) (pw_cod lx_k986) (pw_cod lx_k987) (pw_cod lx_k988) rfl (fl_bo rfl) hL (by omega) ?_
  refine lx_callG (as_ := [lx_x, .inl (xs (i + 1)), .inl (xs (i + 2))]) (rest := []) (pw_cod lx_k989) (pw_cll lx_l117) rfl (fl_bo rfl) rfl rfl (t2_cmp_26 hall hg) (fun v1 m1 hg1 => ?_)
  obtain ⟨⟨y1, rfl⟩, hg1⟩ := hg1
  refine fl_Tq.stp (pw_cod lx_k992) rfl (fl_bo rfl) rfl ?_
  refine lx_arg (i := i) (jn := 1) (pw_cod lx_k993) (pw_cod lx_k994) (pw_cod lx_k995) (pw_cod lx_k996) (pw_cod lx_k997) rfl (fl_bo rfl) hL (by omega) ?_
  refine lx_arg (i := i) (jn := 2) (pw_cod lx_k998) (pw_cod lx_k999) (pw_cod lx_k1000) (pw_cod lx_k1001) (pw_cod lx_k1002) rfl (fl_bo rfl) hL (by omega) ?_
  refine lx_callG (as_ := [at_this, .inl (xs (i + 1)), .inl (xs (i + 2))]) (rest := [.inl y1]) (pw_cod lx_k1003) (pw_cll lx_l120) rfl (fl_bo rfl) rfl rfl hg1 (fun v2 m2 hg2 => ?_)
  obtain ⟨rfl, hg2⟩ := hg2
  refine fl_Tq.jt (pw_cod lx_k1006) (fl_bo rfl) (by rw [at_c2]; exact decide_eq_true (by omega)) rfl ?_
  exact kk m2 hg2
theorem ly_c25 {L : Nat} {xs : Nat → Int32} {m : fl_M} {Q : Option fl_V → fl_M → Prop} {i : Nat} (hall : ∀ c ∈ at_CM ++ at_CA, at_Valid at_XI (pw_P L xs) c) (hL : L ≤ 3072) (hi : i + 6 ≤ L) (hg : t2_Z m) (h0 : m = at_m0) (kk : ∀ m' : fl_M, t2_Z m' → fl_Tq (pw_P L xs) 0 2031 (lx_lv i) [] m' Q) : fl_Tq (pw_P L xs) 0 1011 (lx_lv i) [] m Q := by
  obtain ⟨f, l⟩ := m
  refine fl_Tq.stp (pw_cod lx_k1011) rfl (fl_bo rfl) rfl ?_
  refine lx_arg (i := i) (jn := 1) (pw_cod lx_k1012) (pw_cod lx_k1013) (pw_cod lx_k1014) (pw_cod lx_k1015) (pw_cod lx_k1016) rfl (fl_bo rfl) hL (by omega) ?_
  refine lx_arg (i := i) (jn := 2) (pw_cod lx_k1017) (pw_cod lx_k1018) (pw_cod lx_k1019) (pw_cod lx_k1020) (pw_cod lx_k1021) rfl (fl_bo rfl) hL (by omega) ?_
  refine lx_callG (as_ := [lx_x, .inl (xs (i + 1)), .inl (xs (i + 2))]) (rest := []) (pw_cod lx_k1022) (pw_cll lx_l121) rfl (fl_bo rfl) rfl rfl (t2_cmp_27 hall hg) (fun v1 m1 hg1 => ?_)
  obtain ⟨⟨y1, rfl⟩, hg1⟩ := hg1
  refine fl_Tq.stp (pw_cod lx_k1025) rfl (fl_bo rfl) rfl ?_
  refine lx_arg (i := i) (jn := 1) (pw_cod lx_k1026) (pw_cod lx_k1027) (pw_cod lx_k1028) (pw_cod lx_k1029) (pw_cod lx_k1030) rfl (fl_bo rfl) hL (by omega) ?_
  refine lx_arg (i := i) (jn := 2) (pw_cod lx_k1031) (pw_cod lx_k1032) (pw_cod lx_k1033) (pw_cod lx_k1034) (pw_cod lx_k1035) rfl (fl_bo rfl) hL (by omega) ?_
  refine lx_callG (as_ := [at_this, .inl (xs (i + 1)), .inl (xs (i + 2))]) (rest := [.inl y1]) (pw_cod lx_k1036) (pw_cll lx_l124) rfl (fl_bo rfl) rfl rfl hg1 (fun v2 m2 hg2 => ?_)
  obtain ⟨rfl, hg2⟩ := hg2
  refine fl_Tq.jt (pw_cod lx_k1039) (fl_bo rfl) (by rw [at_c2]; exact decide_eq_true (by omega)) rfl ?_
  exact kk m2 hg2
theorem ly_c26 {L : Nat} {xs : Nat → Int32} {m : fl_M} {Q : Option fl_V → fl_M → Prop} {i : Nat} (hall : ∀ c ∈ at_CM ++ at_CA, at_Valid at_XI (pw_P L xs) c) (hL : L ≤ 3072) (hi : i + 6 ≤ L) (hg : t2_Z m) (h0 : m = at_m0) (kk : ∀ m' : fl_M, t2_Z m' → fl_Tq (pw_P L xs) 0 2031 (lx_lv i) [] m' Q) : fl_Tq (pw_P L xs) 0 1044 (lx_lv i) [] m Q := by
  obtain ⟨f, l⟩ := m
  refine fl_Tq.stp (pw_cod lx_k1044) rfl (fl_bo rfl) rfl ?_
  refine lx_arg (i := i) (jn := 1) (pw_cod lx_k1045) (pw_cod lx_k1046) (pw_cod lx_k1047) (pw_cod lx_k1048) (pw_cod lx_k1049) rfl (fl_bo rfl) hL (by omega) ?_
  refine lx_arg (i := i) (jn := 2) (pw_cod lx_k1050) (pw_cod lx_k1051) (pw_cod lx_k1052) (pw_cod lx_k1053) (pw_cod lx_k1054) rfl (fl_bo rfl) hL (by omega) ?_
  refine lx_callG (as_ := [lx_x, .inl (xs (i + 1)), .inl (xs (i + 2))]) (rest := []) (pw_cod lx_k1055) (pw_cll lx_l125) rfl (fl_bo rfl) rfl rfl (t2_cmp_28 hall hg) (fun v1 m1 hg1 => ?_)
  obtain ⟨⟨y1, rfl⟩, hg1⟩ := hg1
  refine fl_Tq.stp (pw_cod lx_k1058) rfl (fl_bo rfl) rfl ?_
  refine lx_arg (i := i) (jn := 1) (pw_cod lx_k1059) (pw_cod lx_k1060) (pw_cod lx_k1061) (pw_cod lx_k1062) (pw_cod lx_k1063) rfl (fl_bo rfl) hL (by omega) ?_
  refine lx_arg (i := i) (jn := 2) (pw_cod lx_k1064) (pw_cod lx_k1065) (pw_cod lx_k1066) (pw_cod lx_k1067) (pw_cod lx_k1068) rfl (fl_bo rfl) hL (by omega) ?_
  refine lx_callG (as_ := [at_this, .inl (xs (i + 1)), .inl (xs (i + 2))]) (rest := [.inl y1]) (pw_cod lx_k1069) (pw_cll lx_l128) rfl (fl_bo rfl) rfl rfl hg1 (fun v2 m2 hg2 => ?_)
  obtain ⟨rfl, hg2⟩ := hg2
  refine fl_Tq.jt (pw_cod lx_k1072) (fl_bo rfl) (by rw [at_c2]; exact decide_eq_true (by omega)) rfl ?_
  exact kk m2 hg2
theorem ly_c27 {L : Nat} {xs : Nat → Int32} {m : fl_M} {Q : Option fl_V → fl_M → Prop} {i : Nat} (hall : ∀ c ∈ at_CM ++ at_CA, at_Valid at_XI (pw_P L xs) c) (hL : L ≤ 3072) (hi : i + 6 ≤ L) (hg : t2_Z m) (h0 : m = at_m0) (kk : ∀ m' : fl_M, t2_Z m' → fl_Tq (pw_P L xs) 0 2031 (lx_lv i) [] m' Q) : fl_Tq (pw_P L xs) 0 1077 (lx_lv i) [] m Q := by
  obtain ⟨f, l⟩ := m
  refine fl_Tq.stp (pw_cod lx_k1077) rfl (fl_bo rfl) rfl ?_
  refine lx_arg (i := i) (jn := 1) (pw_cod lx_k1078) (pw_cod lx_k1079) (pw_cod lx_k1080) (pw_cod lx_k1081) (pw_cod lx_k1082) rfl (fl_bo rfl) hL (by omega) ?_
  refine lx_callG (as_ := [lx_x, .inl (xs (i + 1))]) (rest := []) (pw_cod lx_k1083) (pw_cll lx_l129) rfl (fl_bo rfl) rfl rfl (t2_cmp_29 hall hg) (fun v1 m1 hg1 => ?_)
  obtain ⟨⟨y1, rfl⟩, hg1⟩ := hg1
  refine fl_Tq.stp (pw_cod lx_k1086) rfl (fl_bo rfl) rfl ?_
  refine lx_arg (i := i) (jn := 1) (pw_cod lx_k1087) (pw_cod lx_k1088) (pw_cod lx_k1089) (pw_cod lx_k1090) (pw_cod lx_k1091) rfl (fl_bo rfl) hL (by omega) ?_
  refine lx_callG (as_ := [at_this, .inl (xs (i + 1))]) (rest := [.inl y1]) (pw_cod lx_k1092) (pw_cll lx_l132) rfl (fl_bo rfl) rfl rfl hg1 (fun v2 m2 hg2 => ?_)
  obtain ⟨rfl, hg2⟩ := hg2
  refine fl_Tq.jt (pw_cod lx_k1095) (fl_bo rfl) (by rw [at_c2]; exact decide_eq_true (by omega)) rfl ?_
  exact kk m2 hg2
theorem ly_c28 {L : Nat} {xs : Nat → Int32} {m : fl_M} {Q : Option fl_V → fl_M → Prop} {i : Nat} (hall : ∀ c ∈ at_CM ++ at_CA, at_Valid at_XI (pw_P L xs) c) (hL : L ≤ 3072) (hi : i + 6 ≤ L) (hg : t2_Z m) (h0 : m = at_m0) (kk : ∀ m' : fl_M, t2_Z m' → fl_Tq (pw_P L xs) 0 2031 (lx_lv i) [] m' Q) : fl_Tq (pw_P L xs) 0 1100 (lx_lv i) [] m Q := by
  obtain ⟨f, l⟩ := m
  refine fl_Tq.stp (pw_cod lx_k1100) rfl (fl_bo rfl) rfl ?_
  refine lx_callG (as_ := [lx_x]) (rest := []) (pw_cod lx_k1101) (pw_cll lx_l133) rfl (fl_bo rfl) rfl rfl (t2_cmp_30 hall hg) (fun v1 m1 hg1 => ?_)
  obtain ⟨⟨y1, rfl⟩, hg1⟩ := hg1
  refine fl_Tq.stp (pw_cod lx_k1104) rfl (fl_bo rfl) rfl ?_
  refine lx_callG (as_ := [at_this]) (rest := [.inl y1]) (pw_cod lx_k1105) (pw_cll lx_l136) rfl (fl_bo rfl) rfl rfl hg1 (fun v2 m2 hg2 => ?_)
  obtain ⟨rfl, hg2⟩ := hg2
  refine fl_Tq.jt (pw_cod lx_k1108) (fl_bo rfl) (by rw [at_c2]; exact decide_eq_true (by omega)) rfl ?_
  exact kk m2 hg2
theorem ly_c29 {L : Nat} {xs : Nat → Int32} {m : fl_M} {Q : Option fl_V → fl_M → Prop} {i : Nat} (hall : ∀ c ∈ at_CM ++ at_CA, at_Valid at_XI (pw_P L xs) c) (hL : L ≤ 3072) (hi : i + 6 ≤ L) (hg : t2_Z m) (h0 : m = at_m0) (kk : ∀ m' : fl_M, t2_Z m' → fl_Tq (pw_P L xs) 0 2031 (lx_lv i) [] m' Q) : fl_Tq (pw_P L xs) 0 1113 (lx_lv i) [] m Q := by
  obtain ⟨f, l⟩ := m
  refine fl_Tq.stp (pw_cod lx_k1113) rfl (fl_bo rfl) rfl ?_
  refine lx_arg (i := i) (jn := 1) (pw_cod lx_k1114) (pw_cod lx_k1115) (pw_cod lx_k1116) (pw_cod lx_k1117) (pw_cod lx_k1118) rfl (fl_bo rfl) hL (by omega) ?_
  refine lx_callG (as_ := [lx_x, .inl (xs (i + 1))]) (rest := []) (pw_cod lx_k1119) (pw_cll lx_l137) rfl (fl_bo rfl) rfl rfl (t2_cmp_31 hall hg) (fun v1 m1 hg1 => ?_)
  obtain ⟨⟨y1, rfl⟩, hg1⟩ := hg1
  refine fl_Tq.stp (pw_cod lx_k1122) rfl (fl_bo rfl) rfl ?_
  refine lx_arg (i := i) (jn := 1) (pw_cod lx_k1123) (pw_cod lx_k1124) (pw_cod lx_k1125) (pw_cod lx_k1126) (pw_cod lx_k1127) rfl (fl_bo rfl) hL (by omega) ?_
  refine lx_callG (as_ := [at_this, .inl (xs (i + 1))]) (rest := [.inl y1]) (pw_cod lx_k1128) (pw_cll lx_l140) rfl (fl_bo rfl) rfl rfl hg1 (fun v2 m2 hg2 => ?_)
  obtain ⟨rfl, hg2⟩ := hg2
  refine fl_Tq.jt (pw_cod lx_k1131) (fl_bo rfl) (by rw [at_c2]; exact decide_eq_true (by omega)) rfl ?_
  exact kk m2 hg2
theorem ly_c30 {L : Nat} {xs : Nat → Int32} {m : fl_M} {Q : Option fl_V → fl_M → Prop} {i : Nat} (hall : ∀ c ∈ at_CM ++ at_CA, at_Valid at_XI (pw_P L xs) c) (hL : L ≤ 3072) (hi : i + 6 ≤ L) (hg : t2_Z m) (h0 : m = at_m0) (kk : ∀ m' : fl_M, t2_Z m' → fl_Tq (pw_P L xs) 0 2031 (lx_lv i) [] m' Q) : fl_Tq (pw_P L xs) 0 1136 (lx_lv i) [] m Q := by
  obtain ⟨f, l⟩ := m
  refine fl_Tq.stp (pw_cod lx_k1136) rfl (fl_bo rfl) rfl ?_
  refine lx_arg (i := i) (jn := 1) (pw_cod lx_k1137) (pw_cod lx_k1138) (pw_cod lx_k1139) (pw_cod lx_k1140) (pw_cod lx_k1141) rfl (fl_bo rfl) hL (by omega) ?_
  refine lx_arg (i := i) (jn := 2) (pw_cod lx_k1142) (pw_cod lx_k1143) (pw_cod lx_k1144) (pw_cod lx_k1145) (pw_cod lx_k1146) rfl (fl_bo rfl) hL (by omega) ?_
  refine lx_callG (as_ := [lx_x, .inl (xs (i + 1)), .inl (xs (i + 2))]) (rest := []) (pw_cod lx_k1147) (pw_cll lx_l141) rfl (fl_bo rfl) rfl rfl (t2_cmp_32 hall hg h0) (fun v1 m1 hg1 => ?_)
  obtain ⟨⟨y1, rfl⟩, hg1⟩ := hg1
  refine fl_Tq.stp (pw_cod lx_k1150) rfl (fl_bo rfl) rfl ?_
  refine lx_arg (i := i) (jn := 1) (pw_cod lx_k1151) (pw_cod lx_k1152) (pw_cod lx_k1153) (pw_cod lx_k1154) (pw_cod lx_k1155) rfl (fl_bo rfl) hL (by omega) ?_
  refine lx_arg (i := i) (jn := 2) (pw_cod lx_k1156) (pw_cod lx_k1157) (pw_cod lx_k1158) (pw_cod lx_k1159) (pw_cod lx_k1160) rfl (fl_bo rfl) hL (by omega) ?_
  refine lx_callG (as_ := [at_this, .inl (xs (i + 1)), .inl (xs (i + 2))]) (rest := [.inl y1]) (pw_cod lx_k1161) (pw_cll lx_l144) rfl (fl_bo rfl) rfl rfl hg1 (fun v2 m2 hg2 => ?_)
  obtain ⟨rfl, hg2⟩ := hg2
  refine fl_Tq.jt (pw_cod lx_k1164) (fl_bo rfl) (by rw [at_c2]; exact decide_eq_true (by omega)) rfl ?_
  exact kk m2 hg2
theorem ly_c31 {L : Nat} {xs : Nat → Int32} {m : fl_M} {Q : Option fl_V → fl_M → Prop} {i : Nat} (hall : ∀ c ∈ at_CM ++ at_CA, at_Valid at_XI (pw_P L xs) c) (hL : L ≤ 3072) (hi : i + 6 ≤ L) (hg : t2_Z m) (h0 : m = at_m0) (kk : ∀ m' : fl_M, t2_Z m' → fl_Tq (pw_P L xs) 0 2031 (lx_lv i) [] m' Q) : fl_Tq (pw_P L xs) 0 1169 (lx_lv i) [] m Q := by
  obtain ⟨f, l⟩ := m
  refine fl_Tq.stp (pw_cod lx_k1169) rfl (fl_bo rfl) rfl ?_
  refine lx_arg (i := i) (jn := 1) (pw_cod lx_k1170) (pw_cod lx_k1171) (pw_cod lx_k1172) (pw_cod lx_k1173) (pw_cod lx_k1174) rfl (fl_bo rfl) hL (by omega) ?_
  refine lx_callG (as_ := [lx_x, .inl (xs (i + 1))]) (rest := []) (pw_cod lx_k1175) (pw_cll lx_l145) rfl (fl_bo rfl) rfl rfl (t2_cmp_33 hall hg) (fun v1 m1 hg1 => ?_)
  obtain ⟨⟨y1, rfl⟩, hg1⟩ := hg1
  refine fl_Tq.stp (pw_cod lx_k1178) rfl (fl_bo rfl) rfl ?_
  refine lx_arg (i := i) (jn := 1) (pw_cod lx_k1179) (pw_cod lx_k1180) (pw_cod lx_k1181) (pw_cod lx_k1182) (pw_cod lx_k1183) rfl (fl_bo rfl) hL (by omega) ?_
  refine lx_callG (as_ := [at_this, .inl (xs (i + 1))]) (rest := [.inl y1]) (pw_cod lx_k1184) (pw_cll lx_l148) rfl (fl_bo rfl) rfl rfl hg1 (fun v2 m2 hg2 => ?_)
  obtain ⟨rfl, hg2⟩ := hg2
  refine fl_Tq.jt (pw_cod lx_k1187) (fl_bo rfl) (by rw [at_c2]; exact decide_eq_true (by omega)) rfl ?_
  exact kk m2 hg2
theorem ly_c32 {L : Nat} {xs : Nat → Int32} {m : fl_M} {Q : Option fl_V → fl_M → Prop} {i : Nat} (hall : ∀ c ∈ at_CM ++ at_CA, at_Valid at_XI (pw_P L xs) c) (hL : L ≤ 3072) (hi : i + 6 ≤ L) (hg : t2_Z m) (h0 : m = at_m0) (kk : ∀ m' : fl_M, t2_Z m' → fl_Tq (pw_P L xs) 0 2031 (lx_lv i) [] m' Q) : fl_Tq (pw_P L xs) 0 1192 (lx_lv i) [] m Q := by
  obtain ⟨f, l⟩ := m
  refine fl_Tq.stp (pw_cod lx_k1192) rfl (fl_bo rfl) rfl ?_
  refine lx_arg (i := i) (jn := 1) (pw_cod lx_k1193) (pw_cod lx_k1194) (pw_cod lx_k1195) (pw_cod lx_k1196) (pw_cod lx_k1197) rfl (fl_bo rfl) hL (by omega) ?_
  refine lx_arg (i := i) (jn := 2) (pw_cod lx_k1198) (pw_cod lx_k1199) (pw_cod lx_k1200) (pw_cod lx_k1201) (pw_cod lx_k1202) rfl (fl_bo rfl) hL (by omega) ?_
  refine lx_arg (i := i) (jn := 3) (pw_cod lx_k1203) (pw_cod lx_k1204) (pw_cod lx_k1205) (pw_cod lx_k1206) (pw_cod lx_k1207) rfl (fl_bo rfl) hL (by omega) ?_
  refine lx_callG (as_ := [lx_x, .inl (xs (i + 1)), .inl (xs (i + 2)), .inl (xs (i + 3))]) (rest := []) (pw_cod lx_k1208) (pw_cll lx_l149) rfl (fl_bo rfl) rfl rfl (t2_cmp_34 hall hg) (fun v1 m1 hg1 => ?_)
  obtain ⟨⟨y1, rfl⟩, hg1⟩ := hg1
  refine fl_Tq.stp (pw_cod lx_k1211) rfl (fl_bo rfl) rfl ?_
  refine lx_arg (i := i) (jn := 1) (pw_cod lx_k1212) (pw_cod lx_k1213) (pw_cod lx_k1214) (pw_cod lx_k1215) (pw_cod lx_k1216) rfl (fl_bo rfl) hL (by omega) ?_
  refine lx_arg (i := i) (jn := 2) (pw_cod lx_k1217) (pw_cod lx_k1218) (pw_cod lx_k1219) (pw_cod lx_k1220) (pw_cod lx_k1221) rfl (fl_bo rfl) hL (by omega) ?_
  refine lx_arg (i := i) (jn := 3) (pw_cod lx_k1222) (pw_cod lx_k1223) (pw_cod lx_k1224) (pw_cod lx_k1225) (pw_cod lx_k1226) rfl (fl_bo rfl) hL (by omega) ?_
  refine lx_callG (as_ := [at_this, .inl (xs (i + 1)), .inl (xs (i + 2)), .inl (xs (i + 3))]) (rest := [.inl y1]) (pw_cod lx_k1227) (pw_cll lx_l152) rfl (fl_bo rfl) rfl rfl hg1 (fun v2 m2 hg2 => ?_)
  obtain ⟨rfl, hg2⟩ := hg2
  refine fl_Tq.jt (pw_cod lx_k1230) (fl_bo rfl) (by rw [at_c2]; exact decide_eq_true (by omega)) rfl ?_
  exact kk m2 hg2
theorem ly_c33 {L : Nat} {xs : Nat → Int32} {m : fl_M} {Q : Option fl_V → fl_M → Prop} {i : Nat} (hall : ∀ c ∈ at_CM ++ at_CA, at_Valid at_XI (pw_P L xs) c) (hL : L ≤ 3072) (hi : i + 6 ≤ L) (hg : t2_Z m) (h0 : m = at_m0) (kk : ∀ m' : fl_M, t2_Z m' → fl_Tq (pw_P L xs) 0 2031 (lx_lv i) [] m' Q) : fl_Tq (pw_P L xs) 0 1235 (lx_lv i) [] m Q := by
  obtain ⟨f, l⟩ := m
  refine fl_Tq.stp (pw_cod lx_k1235) rfl (fl_bo rfl) rfl ?_
  refine lx_arg (i := i) (jn := 1) (pw_cod lx_k1236) (pw_cod lx_k1237) (pw_cod lx_k1238) (pw_cod lx_k1239) (pw_cod lx_k1240) rfl (fl_bo rfl) hL (by omega) ?_
  refine lx_callG (as_ := [lx_x, .inl (xs (i + 1))]) (rest := []) (pw_cod lx_k1241) (pw_cll lx_l153) rfl (fl_bo rfl) rfl rfl (t2_cmp_35 hall hg) (fun v1 m1 hg1 => ?_)
  obtain ⟨⟨y1, rfl⟩, hg1⟩ := hg1
  refine fl_Tq.stp (pw_cod lx_k1244) rfl (fl_bo rfl) rfl ?_
  refine lx_arg (i := i) (jn := 1) (pw_cod lx_k1245) (pw_cod lx_k1246) (pw_cod lx_k1247) (pw_cod lx_k1248) (pw_cod lx_k1249) rfl (fl_bo rfl) hL (by omega) ?_
  refine lx_callG (as_ := [at_this, .inl (xs (i + 1))]) (rest := [.inl y1]) (pw_cod lx_k1250) (pw_cll lx_l156) rfl (fl_bo rfl) rfl rfl hg1 (fun v2 m2 hg2 => ?_)
  obtain ⟨rfl, hg2⟩ := hg2
  refine fl_Tq.jt (pw_cod lx_k1253) (fl_bo rfl) (by rw [at_c2]; exact decide_eq_true (by omega)) rfl ?_
  exact kk m2 hg2

end

/-! 95.13.lawcase.lean.txt -/
section
/-! ===== printed by wip/gen/lawgen3.py: the law's cases ===== -/
theorem ly_c34 {L : Nat} {xs : Nat → Int32} {m : fl_M} {Q : Option fl_V → fl_M → Prop} {i : Nat} (hall : ∀ c ∈ at_CM ++ at_CA, at_Valid at_XI (pw_P L xs) c) (hL : L ≤ 3072) (hi : i + 6 ≤ L) (hg : t2_Z m) (h0 : m = at_m0) (kk : ∀ m' : fl_M, t2_Z m' → fl_Tq (pw_P L xs) 0 2031 (lx_lv i) [] m' Q) : fl_Tq (pw_P L xs) 0 1258 (lx_lv i) [] m Q := by
  obtain ⟨f, l⟩ := m
  refine fl_Tq.stp (pw_cod lx_k1258) rfl (fl_bo rfl) rfl ?_
  refine lx_callG (as_ := [lx_x]) (rest := []) (pw_cod lx_k1259) (pw_cll lx_l157) rfl (fl_bo rfl) rfl rfl (t2_cmp_36 hall hg) (fun v1 m1 hg1 => ?_)
  obtain ⟨⟨y1, rfl⟩, hg1⟩ := hg1
  refine fl_Tq.stp (pw_cod lx_k1262) rfl (fl_bo rfl) rfl ?_
  refine lx_callG (as_ := [at_this]) (rest := [.inl y1]) (pw_cod lx_k1263) (pw_cll lx_l160) rfl (fl_bo rfl) rfl rfl hg1 (fun v2 m2 hg2 => ?_)
  obtain ⟨rfl, hg2⟩ := hg2
  refine fl_Tq.jt (pw_cod lx_k1266) (fl_bo rfl) (by rw [at_c2]; exact decide_eq_true (by omega)) rfl ?_
  exact kk m2 hg2
theorem ly_c35 {L : Nat} {xs : Nat → Int32} {m : fl_M} {Q : Option fl_V → fl_M → Prop} {i : Nat} (hall : ∀ c ∈ at_CM ++ at_CA, at_Valid at_XI (pw_P L xs) c) (hL : L ≤ 3072) (hi : i + 6 ≤ L) (hg : t2_Z m) (h0 : m = at_m0) (kk : ∀ m' : fl_M, t2_Z m' → fl_Tq (pw_P L xs) 0 2031 (lx_lv i) [] m' Q) : fl_Tq (pw_P L xs) 0 1271 (lx_lv i) [] m Q := by
  obtain ⟨f, l⟩ := m
  refine fl_Tq.stp (pw_cod lx_k1271) rfl (fl_bo rfl) rfl ?_
  refine lx_callG (as_ := [lx_x]) (rest := []) (pw_cod lx_k1272) (pw_cll lx_l161) rfl (fl_bo rfl) rfl rfl (t2_cmp_37 hall hg) (fun v1 m1 hg1 => ?_)
  obtain ⟨⟨y1, rfl⟩, hg1⟩ := hg1
  refine fl_Tq.stp (pw_cod lx_k1275) rfl (fl_bo rfl) rfl ?_
  refine lx_callG (as_ := [at_this]) (rest := [.inl y1]) (pw_cod lx_k1276) (pw_cll lx_l164) rfl (fl_bo rfl) rfl rfl hg1 (fun v2 m2 hg2 => ?_)
  obtain ⟨rfl, hg2⟩ := hg2
  refine fl_Tq.jt (pw_cod lx_k1279) (fl_bo rfl) (by rw [at_c2]; exact decide_eq_true (by omega)) rfl ?_
  exact kk m2 hg2
theorem ly_c36 {L : Nat} {xs : Nat → Int32} {m : fl_M} {Q : Option fl_V → fl_M → Prop} {i : Nat} (hall : ∀ c ∈ at_CM ++ at_CA, at_Valid at_XI (pw_P L xs) c) (hL : L ≤ 3072) (hi : i + 6 ≤ L) (hg : t2_Z m) (h0 : m = at_m0) (kk : ∀ m' : fl_M, t2_Z m' → fl_Tq (pw_P L xs) 0 2031 (lx_lv i) [] m' Q) : fl_Tq (pw_P L xs) 0 1284 (lx_lv i) [] m Q := by
  obtain ⟨f, l⟩ := m
  refine fl_Tq.stp (pw_cod lx_k1284) rfl (fl_bo rfl) rfl ?_
  refine lx_callG (as_ := [lx_x]) (rest := []) (pw_cod lx_k1285) (pw_cll lx_l165) rfl (fl_bo rfl) rfl rfl (t2_cmp_38 hall hg) (fun v1 m1 hg1 => ?_)
  obtain ⟨⟨y1, rfl⟩, hg1⟩ := hg1
  refine fl_Tq.stp (pw_cod lx_k1288) rfl (fl_bo rfl) rfl ?_
  refine lx_callG (as_ := [at_this]) (rest := [.inl y1]) (pw_cod lx_k1289) (pw_cll lx_l168) rfl (fl_bo rfl) rfl rfl hg1 (fun v2 m2 hg2 => ?_)
  obtain ⟨rfl, hg2⟩ := hg2
  refine fl_Tq.jt (pw_cod lx_k1292) (fl_bo rfl) (by rw [at_c2]; exact decide_eq_true (by omega)) rfl ?_
  exact kk m2 hg2
theorem ly_c37 {L : Nat} {xs : Nat → Int32} {m : fl_M} {Q : Option fl_V → fl_M → Prop} {i : Nat} (hall : ∀ c ∈ at_CM ++ at_CA, at_Valid at_XI (pw_P L xs) c) (hL : L ≤ 3072) (hi : i + 6 ≤ L) (hg : t2_Z m) (h0 : m = at_m0) (kk : ∀ m' : fl_M, t2_Z m' → fl_Tq (pw_P L xs) 0 2031 (lx_lv i) [] m' Q) : fl_Tq (pw_P L xs) 0 1297 (lx_lv i) [] m Q := by
  obtain ⟨f, l⟩ := m
  refine fl_Tq.stp (pw_cod lx_k1297) rfl (fl_bo rfl) rfl ?_
  refine lx_arg (i := i) (jn := 1) (pw_cod lx_k1298) (pw_cod lx_k1299) (pw_cod lx_k1300) (pw_cod lx_k1301) (pw_cod lx_k1302) rfl (fl_bo rfl) hL (by omega) ?_
  refine lx_callG (as_ := [lx_x, .inl (xs (i + 1))]) (rest := []) (pw_cod lx_k1303) (pw_cll lx_l169) rfl (fl_bo rfl) rfl rfl (t2_cmp_39 hall hg) (fun v1 m1 hg1 => ?_)
  obtain ⟨⟨y1, rfl⟩, hg1⟩ := hg1
  refine fl_Tq.stp (pw_cod lx_k1306) rfl (fl_bo rfl) rfl ?_
  refine lx_arg (i := i) (jn := 1) (pw_cod lx_k1307) (pw_cod lx_k1308) (pw_cod lx_k1309) (pw_cod lx_k1310) (pw_cod lx_k1311) rfl (fl_bo rfl) hL (by omega) ?_
  refine lx_callG (as_ := [at_this, .inl (xs (i + 1))]) (rest := [.inl y1]) (pw_cod lx_k1312) (pw_cll lx_l172) rfl (fl_bo rfl) rfl rfl hg1 (fun v2 m2 hg2 => ?_)
  obtain ⟨rfl, hg2⟩ := hg2
  refine fl_Tq.jt (pw_cod lx_k1315) (fl_bo rfl) (by rw [at_c2]; exact decide_eq_true (by omega)) rfl ?_
  exact kk m2 hg2
theorem ly_c38 {L : Nat} {xs : Nat → Int32} {m : fl_M} {Q : Option fl_V → fl_M → Prop} {i : Nat} (hall : ∀ c ∈ at_CM ++ at_CA, at_Valid at_XI (pw_P L xs) c) (hL : L ≤ 3072) (hi : i + 6 ≤ L) (hg : t2_Z m) (h0 : m = at_m0) (kk : ∀ m' : fl_M, t2_Z m' → fl_Tq (pw_P L xs) 0 2031 (lx_lv i) [] m' Q) : fl_Tq (pw_P L xs) 0 1320 (lx_lv i) [] m Q := by
  obtain ⟨f, l⟩ := m
  refine fl_Tq.stp (pw_cod lx_k1320) rfl (fl_bo rfl) rfl ?_
  refine lx_arg (i := i) (jn := 1) (pw_cod lx_k1321) (pw_cod lx_k1322) (pw_cod lx_k1323) (pw_cod lx_k1324) (pw_cod lx_k1325) rfl (fl_bo rfl) hL (by omega) ?_
  refine lx_callG (as_ := [lx_x, .inl (xs (i + 1))]) (rest := []) (pw_cod lx_k1326) (pw_cll lx_l173) rfl (fl_bo rfl) rfl rfl (t2_cmp_40 hall hg) (fun v1 m1 hg1 => ?_)
  obtain ⟨⟨y1, rfl⟩, hg1⟩ := hg1
  refine fl_Tq.stp (pw_cod lx_k1329) rfl (fl_bo rfl) rfl ?_
  refine lx_arg (i := i) (jn := 1) (pw_cod lx_k1330) (pw_cod lx_k1331) (pw_cod lx_k1332) (pw_cod lx_k1333) (pw_cod lx_k1334) rfl (fl_bo rfl) hL (by omega) ?_
  refine lx_callG (as_ := [at_this, .inl (xs (i + 1))]) (rest := [.inl y1]) (pw_cod lx_k1335) (pw_cll lx_l176) rfl (fl_bo rfl) rfl rfl hg1 (fun v2 m2 hg2 => ?_)
  obtain ⟨rfl, hg2⟩ := hg2
  refine fl_Tq.jt (pw_cod lx_k1338) (fl_bo rfl) (by rw [at_c2]; exact decide_eq_true (by omega)) rfl ?_
  exact kk m2 hg2
theorem ly_c39 {L : Nat} {xs : Nat → Int32} {m : fl_M} {Q : Option fl_V → fl_M → Prop} {i : Nat} (hall : ∀ c ∈ at_CM ++ at_CA, at_Valid at_XI (pw_P L xs) c) (hL : L ≤ 3072) (hi : i + 6 ≤ L) (hg : t2_Z m) (h0 : m = at_m0) (kk : ∀ m' : fl_M, t2_Z m' → fl_Tq (pw_P L xs) 0 2031 (lx_lv i) [] m' Q) : fl_Tq (pw_P L xs) 0 1343 (lx_lv i) [] m Q := by
  obtain ⟨f, l⟩ := m
  refine fl_Tq.stp (pw_cod lx_k1343) rfl (fl_bo rfl) rfl ?_
  refine lx_arg (i := i) (jn := 1) (pw_cod lx_k1344) (pw_cod lx_k1345) (pw_cod lx_k1346) (pw_cod lx_k1347) (pw_cod lx_k1348) rfl (fl_bo rfl) hL (by omega) ?_
  refine lx_arg (i := i) (jn := 2) (pw_cod lx_k1349) (pw_cod lx_k1350) (pw_cod lx_k1351) (pw_cod lx_k1352) (pw_cod lx_k1353) rfl (fl_bo rfl) hL (by omega) ?_
  refine lx_arg (i := i) (jn := 3) (pw_cod lx_k1354) (pw_cod lx_k1355) (pw_cod lx_k1356) (pw_cod lx_k1357) (pw_cod lx_k1358) rfl (fl_bo rfl) hL (by omega) ?_
  refine lx_callG (as_ := [lx_x, .inl (xs (i + 1)), .inl (xs (i + 2)), .inl (xs (i + 3))]) (rest := []) (pw_cod lx_k1359) (pw_cll lx_l177) rfl (fl_bo rfl) rfl rfl (t2_cmp_41 hall hg) (fun v1 m1 hg1 => ?_)
  obtain ⟨⟨y1, rfl⟩, hg1⟩ := hg1
  refine fl_Tq.stp (pw_cod lx_k1362) rfl (fl_bo rfl) rfl ?_
  refine lx_arg (i := i) (jn := 1) (pw_cod lx_k1363) (pw_cod lx_k1364) (pw_cod lx_k1365) (pw_cod lx_k1366) (pw_cod lx_k1367) rfl (fl_bo rfl) hL (by omega) ?_
  refine lx_arg (i := i) (jn := 2) (pw_cod lx_k1368) (pw_cod lx_k1369) (pw_cod lx_k1370) (pw_cod lx_k1371) (pw_cod lx_k1372) rfl (fl_bo rfl) hL (by omega) ?_
  refine lx_arg (i := i) (jn := 3) (pw_cod lx_k1373) (pw_cod lx_k1374) (pw_cod lx_k1375) (pw_cod lx_k1376) (pw_cod lx_k1377) rfl (fl_bo rfl) hL (by omega) ?_
  refine lx_callG (as_ := [at_this, .inl (xs (i + 1)), .inl (xs (i + 2)), .inl (xs (i + 3))]) (rest := [.inl y1]) (pw_cod lx_k1378) (pw_cll lx_l180) rfl (fl_bo rfl) rfl rfl hg1 (fun v2 m2 hg2 => ?_)
  obtain ⟨rfl, hg2⟩ := hg2
  refine fl_Tq.jt (pw_cod lx_k1381) (fl_bo rfl) (by rw [at_c2]; exact decide_eq_true (by omega)) rfl ?_
  exact kk m2 hg2
theorem ly_c40 {L : Nat} {xs : Nat → Int32} {m : fl_M} {Q : Option fl_V → fl_M → Prop} {i : Nat} (hall : ∀ c ∈ at_CM ++ at_CA, at_Valid at_XI (pw_P L xs) c) (hL : L ≤ 3072) (hi : i + 6 ≤ L) (hg : t2_Z m) (h0 : m = at_m0) (kk : ∀ m' : fl_M, t2_Z m' → fl_Tq (pw_P L xs) 0 2031 (lx_lv i) [] m' Q) : fl_Tq (pw_P L xs) 0 1386 (lx_lv i) [] m Q := by
  obtain ⟨f, l⟩ := m
  refine fl_Tq.stp (pw_cod lx_k1386) rfl (fl_bo rfl) rfl ?_
  refine lx_arg (i := i) (jn := 1) (pw_cod lx_k1387) (pw_cod lx_k1388) (pw_cod lx_k1389) (pw_cod lx_k1390) (pw_cod lx_k1391) rfl (fl_bo rfl) hL (by omega) ?_
  refine lx_arg (i := i) (jn := 2) (pw_cod lx_k1392) (pw_cod lx_k1393) (pw_cod lx_k1394) (pw_cod lx_k1395) (pw_cod lx_k1396) rfl (fl_bo rfl) hL (by omega) ?_
  refine lx_callG (as_ := [lx_x, .inl (xs (i + 1)), .inl (xs (i + 2))]) (rest := []) (pw_cod lx_k1397) (pw_cll lx_l181) rfl (fl_bo rfl) rfl rfl (t2_cmp_42 hall hg) (fun v1 m1 hg1 => ?_)
  obtain ⟨⟨y1, rfl⟩, hg1⟩ := hg1
  refine fl_Tq.stp (pw_cod lx_k1400) rfl (fl_bo rfl) rfl ?_
  refine lx_arg (i := i) (jn := 1) (pw_cod lx_k1401) (pw_cod lx_k1402) (pw_cod lx_k1403) (pw_cod lx_k1404) (pw_cod lx_k1405) rfl (fl_bo rfl) hL (by omega) ?_
  refine lx_arg (i := i) (jn := 2) (pw_cod lx_k1406) (pw_cod lx_k1407) (pw_cod lx_k1408) (pw_cod lx_k1409) (pw_cod lx_k1410) rfl (fl_bo rfl) hL (by omega) ?_
  refine lx_callG (as_ := [at_this, .inl (xs (i + 1)), .inl (xs (i + 2))]) (rest := [.inl y1]) (pw_cod lx_k1411) (pw_cll lx_l184) rfl (fl_bo rfl) rfl rfl hg1 (fun v2 m2 hg2 => ?_)
  obtain ⟨rfl, hg2⟩ := hg2
  refine fl_Tq.jt (pw_cod lx_k1414) (fl_bo rfl) (by rw [at_c2]; exact decide_eq_true (by omega)) rfl ?_
  exact kk m2 hg2
theorem ly_c41 {L : Nat} {xs : Nat → Int32} {m : fl_M} {Q : Option fl_V → fl_M → Prop} {i : Nat} (hall : ∀ c ∈ at_CM ++ at_CA, at_Valid at_XI (pw_P L xs) c) (hL : L ≤ 3072) (hi : i + 6 ≤ L) (hg : t2_Z m) (h0 : m = at_m0) (kk : ∀ m' : fl_M, t2_Z m' → fl_Tq (pw_P L xs) 0 2031 (lx_lv i) [] m' Q) : fl_Tq (pw_P L xs) 0 1419 (lx_lv i) [] m Q := by
  obtain ⟨f, l⟩ := m
  refine fl_Tq.stp (pw_cod lx_k1419) rfl (fl_bo rfl) rfl ?_
  refine lx_callG (as_ := [lx_x]) (rest := []) (pw_cod lx_k1420) (pw_cll lx_l185) rfl (fl_bo rfl) rfl rfl (t2_cmp_43 hall hg) (fun v1 m1 hg1 => ?_)
  obtain ⟨⟨y1, rfl⟩, hg1⟩ := hg1
  refine fl_Tq.stp (pw_cod lx_k1423) rfl (fl_bo rfl) rfl ?_
  refine lx_callG (as_ := [at_this]) (rest := [.inl y1]) (pw_cod lx_k1424) (pw_cll lx_l188) rfl (fl_bo rfl) rfl rfl hg1 (fun v2 m2 hg2 => ?_)
  obtain ⟨rfl, hg2⟩ := hg2
  refine fl_Tq.jt (pw_cod lx_k1427) (fl_bo rfl) (by rw [at_c2]; exact decide_eq_true (by omega)) rfl ?_
  exact kk m2 hg2
theorem ly_c42 {L : Nat} {xs : Nat → Int32} {m : fl_M} {Q : Option fl_V → fl_M → Prop} {i : Nat} (hall : ∀ c ∈ at_CM ++ at_CA, at_Valid at_XI (pw_P L xs) c) (hL : L ≤ 3072) (hi : i + 6 ≤ L) (hg : t2_Z m) (h0 : m = at_m0) (kk : ∀ m' : fl_M, t2_Z m' → fl_Tq (pw_P L xs) 0 2031 (lx_lv i) [] m' Q) : fl_Tq (pw_P L xs) 0 1432 (lx_lv i) [] m Q := by
  obtain ⟨f, l⟩ := m
  refine fl_Tq.stp (pw_cod lx_k1432) rfl (fl_bo rfl) rfl ?_
  refine lx_arg (i := i) (jn := 1) (pw_cod lx_k1433) (pw_cod lx_k1434) (pw_cod lx_k1435) (pw_cod lx_k1436) (pw_cod lx_k1437) rfl (fl_bo rfl) hL (by omega) ?_
  refine lx_callG (as_ := [lx_x, .inl (xs (i + 1))]) (rest := []) (pw_cod lx_k1438) (pw_cll lx_l189) rfl (fl_bo rfl) rfl rfl (t2_cmp_44 hall hg) (fun v1 m1 hg1 => ?_)
  obtain ⟨⟨y1, rfl⟩, hg1⟩ := hg1
  refine fl_Tq.stp (pw_cod lx_k1441) rfl (fl_bo rfl) rfl ?_
  refine lx_arg (i := i) (jn := 1) (pw_cod lx_k1442) (pw_cod lx_k1443) (pw_cod lx_k1444) (pw_cod lx_k1445) (pw_cod lx_k1446) rfl (fl_bo rfl) hL (by omega) ?_
  refine lx_callG (as_ := [at_this, .inl (xs (i + 1))]) (rest := [.inl y1]) (pw_cod lx_k1447) (pw_cll lx_l192) rfl (fl_bo rfl) rfl rfl hg1 (fun v2 m2 hg2 => ?_)
  obtain ⟨rfl, hg2⟩ := hg2
  refine fl_Tq.jt (pw_cod lx_k1450) (fl_bo rfl) (by rw [at_c2]; exact decide_eq_true (by omega)) rfl ?_
  exact kk m2 hg2
theorem ly_c43 {L : Nat} {xs : Nat → Int32} {m : fl_M} {Q : Option fl_V → fl_M → Prop} {i : Nat} (hall : ∀ c ∈ at_CM ++ at_CA, at_Valid at_XI (pw_P L xs) c) (hL : L ≤ 3072) (hi : i + 6 ≤ L) (hg : t2_Z m) (h0 : m = at_m0) (kk : ∀ m' : fl_M, t2_Z m' → fl_Tq (pw_P L xs) 0 2031 (lx_lv i) [] m' Q) : fl_Tq (pw_P L xs) 0 1455 (lx_lv i) [] m Q := by
  obtain ⟨f, l⟩ := m
  refine fl_Tq.stp (pw_cod lx_k1455) rfl (fl_bo rfl) rfl ?_
  refine lx_arg (i := i) (jn := 1) (pw_cod lx_k1456) (pw_cod lx_k1457) (pw_cod lx_k1458) (pw_cod lx_k1459) (pw_cod lx_k1460) rfl (fl_bo rfl) hL (by omega) ?_
  refine lx_callG (as_ := [lx_x, .inl (xs (i + 1))]) (rest := []) (pw_cod lx_k1461) (pw_cll lx_l193) rfl (fl_bo rfl) rfl rfl (t2_cmp_45 hall hg) (fun v1 m1 hg1 => ?_)
  obtain ⟨⟨y1, rfl⟩, hg1⟩ := hg1
  refine fl_Tq.stp (pw_cod lx_k1464) rfl (fl_bo rfl) rfl ?_
  refine lx_arg (i := i) (jn := 1) (pw_cod lx_k1465) (pw_cod lx_k1466) (pw_cod lx_k1467) (pw_cod lx_k1468) (pw_cod lx_k1469) rfl (fl_bo rfl) hL (by omega) ?_
  refine lx_callG (as_ := [at_this, .inl (xs (i + 1))]) (rest := [.inl y1]) (pw_cod lx_k1470) (pw_cll lx_l196) rfl (fl_bo rfl) rfl rfl hg1 (fun v2 m2 hg2 => ?_)
  obtain ⟨rfl, hg2⟩ := hg2
  refine fl_Tq.jt (pw_cod lx_k1473) (fl_bo rfl) (by rw [at_c2]; exact decide_eq_true (by omega)) rfl ?_
  exact kk m2 hg2
theorem ly_c44 {L : Nat} {xs : Nat → Int32} {m : fl_M} {Q : Option fl_V → fl_M → Prop} {i : Nat} (hall : ∀ c ∈ at_CM ++ at_CA, at_Valid at_XI (pw_P L xs) c) (hL : L ≤ 3072) (hi : i + 6 ≤ L) (hg : t2_Z m) (h0 : m = at_m0) (kk : ∀ m' : fl_M, t2_Z m' → fl_Tq (pw_P L xs) 0 2031 (lx_lv i) [] m' Q) : fl_Tq (pw_P L xs) 0 1478 (lx_lv i) [] m Q := by
  obtain ⟨f, l⟩ := m
  refine fl_Tq.stp (pw_cod lx_k1478) rfl (fl_bo rfl) rfl ?_
  refine lx_arg (i := i) (jn := 1) (pw_cod lx_k1479) (pw_cod lx_k1480) (pw_cod lx_k1481) (pw_cod lx_k1482) (pw_cod lx_k1483) rfl (fl_bo rfl) hL (by omega) ?_
  refine lx_callG (as_ := [lx_x, .inl (xs (i + 1))]) (rest := []) (pw_cod lx_k1484) (pw_cll lx_l197) rfl (fl_bo rfl) rfl rfl (t2_cmp_46 hall hg) (fun v1 m1 hg1 => ?_)
  obtain ⟨⟨y1, rfl⟩, hg1⟩ := hg1
  refine fl_Tq.stp (pw_cod lx_k1487) rfl (fl_bo rfl) rfl ?_
  refine lx_arg (i := i) (jn := 1) (pw_cod lx_k1488) (pw_cod lx_k1489) (pw_cod lx_k1490) (pw_cod lx_k1491) (pw_cod lx_k1492) rfl (fl_bo rfl) hL (by omega) ?_
  refine lx_callG (as_ := [at_this, .inl (xs (i + 1))]) (rest := [.inl y1]) (pw_cod lx_k1493) (pw_cll lx_l200) rfl (fl_bo rfl) rfl rfl hg1 (fun v2 m2 hg2 => ?_)
  obtain ⟨rfl, hg2⟩ := hg2
  refine fl_Tq.jt (pw_cod lx_k1496) (fl_bo rfl) (by rw [at_c2]; exact decide_eq_true (by omega)) rfl ?_
  exact kk m2 hg2
theorem ly_c45 {L : Nat} {xs : Nat → Int32} {m : fl_M} {Q : Option fl_V → fl_M → Prop} {i : Nat} (hall : ∀ c ∈ at_CM ++ at_CA, at_Valid at_XI (pw_P L xs) c) (hL : L ≤ 3072) (hi : i + 6 ≤ L) (hg : t2_Z m) (h0 : m = at_m0) (kk : ∀ m' : fl_M, t2_Z m' → fl_Tq (pw_P L xs) 0 2031 (lx_lv i) [] m' Q) : fl_Tq (pw_P L xs) 0 1501 (lx_lv i) [] m Q := by
  obtain ⟨f, l⟩ := m
  refine fl_Tq.stp (pw_cod lx_k1501) rfl (fl_bo rfl) rfl ?_
  refine lx_arg (i := i) (jn := 1) (pw_cod lx_k1502) (pw_cod lx_k1503) (pw_cod lx_k1504) (pw_cod lx_k1505) (pw_cod lx_k1506) rfl (fl_bo rfl) hL (by omega) ?_
  refine lx_callG (as_ := [lx_x, .inl (xs (i + 1))]) (rest := []) (pw_cod lx_k1507) (pw_cll lx_l201) rfl (fl_bo rfl) rfl rfl (t2_cmp_47 hall hg) (fun v1 m1 hg1 => ?_)
  obtain ⟨⟨y1, rfl⟩, hg1⟩ := hg1
  refine fl_Tq.stp (pw_cod lx_k1510) rfl (fl_bo rfl) rfl ?_
  refine lx_arg (i := i) (jn := 1) (pw_cod lx_k1511) (pw_cod lx_k1512) (pw_cod lx_k1513) (pw_cod lx_k1514) (pw_cod lx_k1515) rfl (fl_bo rfl) hL (by omega) ?_
  refine lx_callG (as_ := [at_this, .inl (xs (i + 1))]) (rest := [.inl y1]) (pw_cod lx_k1516) (pw_cll lx_l204) rfl (fl_bo rfl) rfl rfl hg1 (fun v2 m2 hg2 => ?_)
  obtain ⟨rfl, hg2⟩ := hg2
  refine fl_Tq.jt (pw_cod lx_k1519) (fl_bo rfl) (by rw [at_c2]; exact decide_eq_true (by omega)) rfl ?_
  exact kk m2 hg2
theorem ly_c46 {L : Nat} {xs : Nat → Int32} {m : fl_M} {Q : Option fl_V → fl_M → Prop} {i : Nat} (hall : ∀ c ∈ at_CM ++ at_CA, at_Valid at_XI (pw_P L xs) c) (hL : L ≤ 3072) (hi : i + 6 ≤ L) (hg : t2_Z m) (h0 : m = at_m0) (kk : ∀ m' : fl_M, t2_Z m' → fl_Tq (pw_P L xs) 0 2031 (lx_lv i) [] m' Q) : fl_Tq (pw_P L xs) 0 1524 (lx_lv i) [] m Q := by
  obtain ⟨f, l⟩ := m
  refine fl_Tq.stp (pw_cod lx_k1524) rfl (fl_bo rfl) rfl ?_
  refine lx_arg (i := i) (jn := 1) (pw_cod lx_k1525) (pw_cod lx_k1526) (pw_cod lx_k1527) (pw_cod lx_k1528) (pw_cod lx_k1529) rfl (fl_bo rfl) hL (by omega) ?_
  refine lx_callG (as_ := [lx_x, .inl (xs (i + 1))]) (rest := []) (pw_cod lx_k1530) (pw_cll lx_l205) rfl (fl_bo rfl) rfl rfl (t2_cmp_48 hall hg) (fun v1 m1 hg1 => ?_)
  obtain ⟨⟨y1, rfl⟩, hg1⟩ := hg1
  refine fl_Tq.stp (pw_cod lx_k1533) rfl (fl_bo rfl) rfl ?_
  refine lx_arg (i := i) (jn := 1) (pw_cod lx_k1534) (pw_cod lx_k1535) (pw_cod lx_k1536) (pw_cod lx_k1537) (pw_cod lx_k1538) rfl (fl_bo rfl) hL (by omega) ?_
  refine lx_callG (as_ := [at_this, .inl (xs (i + 1))]) (rest := [.inl y1]) (pw_cod lx_k1539) (pw_cll lx_l208) rfl (fl_bo rfl) rfl rfl hg1 (fun v2 m2 hg2 => ?_)
  obtain ⟨rfl, hg2⟩ := hg2
  refine fl_Tq.jt (pw_cod lx_k1542) (fl_bo rfl) (by rw [at_c2]; exact decide_eq_true (by omega)) rfl ?_
  exact kk m2 hg2
theorem ly_c47 {L : Nat} {xs : Nat → Int32} {m : fl_M} {Q : Option fl_V → fl_M → Prop} {i : Nat} (hall : ∀ c ∈ at_CM ++ at_CA, at_Valid at_XI (pw_P L xs) c) (hL : L ≤ 3072) (hi : i + 6 ≤ L) (hg : t2_Z m) (h0 : m = at_m0) (kk : ∀ m' : fl_M, t2_Z m' → fl_Tq (pw_P L xs) 0 2031 (lx_lv i) [] m' Q) : fl_Tq (pw_P L xs) 0 1547 (lx_lv i) [] m Q := by
  obtain ⟨f, l⟩ := m
  refine fl_Tq.stp (pw_cod lx_k1547) rfl (fl_bo rfl) rfl ?_
  refine lx_callG (as_ := [lx_x]) (rest := []) (pw_cod lx_k1548) (pw_cll lx_l209) rfl (fl_bo rfl) rfl rfl (t2_cmp_49 hall hg) (fun v1 m1 hg1 => ?_)
  obtain ⟨⟨y1, rfl⟩, hg1⟩ := hg1
  refine fl_Tq.stp (pw_cod lx_k1551) rfl (fl_bo rfl) rfl ?_
  refine lx_callG (as_ := [at_this]) (rest := [.inl y1]) (pw_cod lx_k1552) (pw_cll lx_l212) rfl (fl_bo rfl) rfl rfl hg1 (fun v2 m2 hg2 => ?_)
  obtain ⟨rfl, hg2⟩ := hg2
  refine fl_Tq.jt (pw_cod lx_k1555) (fl_bo rfl) (by rw [at_c2]; exact decide_eq_true (by omega)) rfl ?_
  exact kk m2 hg2
theorem ly_c48 {L : Nat} {xs : Nat → Int32} {m : fl_M} {Q : Option fl_V → fl_M → Prop} {i : Nat} (hall : ∀ c ∈ at_CM ++ at_CA, at_Valid at_XI (pw_P L xs) c) (hL : L ≤ 3072) (hi : i + 6 ≤ L) (hg : t2_Z m) (h0 : m = at_m0) (kk : ∀ m' : fl_M, t2_Z m' → fl_Tq (pw_P L xs) 0 2031 (lx_lv i) [] m' Q) : fl_Tq (pw_P L xs) 0 1560 (lx_lv i) [] m Q := by
  obtain ⟨f, l⟩ := m
  refine fl_Tq.stp (pw_cod lx_k1560) rfl (fl_bo rfl) rfl ?_
  refine lx_arg (i := i) (jn := 1) (pw_cod lx_k1561) (pw_cod lx_k1562) (pw_cod lx_k1563) (pw_cod lx_k1564) (pw_cod lx_k1565) rfl (fl_bo rfl) hL (by omega) ?_
  refine lx_callG (as_ := [lx_x, .inl (xs (i + 1))]) (rest := []) (pw_cod lx_k1566) (pw_cll lx_l213) rfl (fl_bo rfl) rfl rfl (t2_cmp_50 hall hg) (fun v1 m1 hg1 => ?_)
  obtain ⟨⟨y1, rfl⟩, hg1⟩ := hg1
  refine fl_Tq.stp (pw_cod lx_k1569) rfl (fl_bo rfl) rfl ?_
  refine lx_arg (i := i) (jn := 1) (pw_cod lx_k1570) (pw_cod lx_k1571) (pw_cod lx_k1572) (pw_cod lx_k1573) (pw_cod lx_k1574) rfl (fl_bo rfl) hL (by omega) ?_
  refine lx_callG (as_ := [at_this, .inl (xs (i + 1))]) (rest := [.inl y1]) (pw_cod lx_k1575) (pw_cll lx_l216) rfl (fl_bo rfl) rfl rfl hg1 (fun v2 m2 hg2 => ?_)
  obtain ⟨rfl, hg2⟩ := hg2
  refine fl_Tq.jt (pw_cod lx_k1578) (fl_bo rfl) (by rw [at_c2]; exact decide_eq_true (by omega)) rfl ?_
  exact kk m2 hg2
theorem ly_c49 {L : Nat} {xs : Nat → Int32} {m : fl_M} {Q : Option fl_V → fl_M → Prop} {i : Nat} (hall : ∀ c ∈ at_CM ++ at_CA, at_Valid at_XI (pw_P L xs) c) (hL : L ≤ 3072) (hi : i + 6 ≤ L) (hg : t2_Z m) (h0 : m = at_m0) (kk : ∀ m' : fl_M, t2_Z m' → fl_Tq (pw_P L xs) 0 2031 (lx_lv i) [] m' Q) : fl_Tq (pw_P L xs) 0 1583 (lx_lv i) [] m Q := by
  obtain ⟨f, l⟩ := m
  refine fl_Tq.stp (pw_cod lx_k1583) rfl (fl_bo rfl) rfl ?_
  refine lx_arg (i := i) (jn := 1) (pw_cod lx_k1584) (pw_cod lx_k1585) (pw_cod lx_k1586) (pw_cod lx_k1587) (pw_cod lx_k1588) rfl (fl_bo rfl) hL (by omega) ?_
  refine lx_callG (as_ := [lx_x, .inl (xs (i + 1))]) (rest := []) (pw_cod lx_k1589) (pw_cll lx_l217) rfl (fl_bo rfl) rfl rfl (t2_cmp_51 hall hg) (fun v1 m1 hg1 => ?_)
  obtain ⟨⟨y1, rfl⟩, hg1⟩ := hg1
  refine fl_Tq.stp (pw_cod lx_k1592) rfl (fl_bo rfl) rfl ?_
  refine lx_arg (i := i) (jn := 1) (pw_cod lx_k1593) (pw_cod lx_k1594) (pw_cod lx_k1595) (pw_cod lx_k1596) (pw_cod lx_k1597) rfl (fl_bo rfl) hL (by omega) ?_
  refine lx_callG (as_ := [at_this, .inl (xs (i + 1))]) (rest := [.inl y1]) (pw_cod lx_k1598) (pw_cll lx_l220) rfl (fl_bo rfl) rfl rfl hg1 (fun v2 m2 hg2 => ?_)
  obtain ⟨rfl, hg2⟩ := hg2
  refine fl_Tq.jt (pw_cod lx_k1601) (fl_bo rfl) (by rw [at_c2]; exact decide_eq_true (by omega)) rfl ?_
  exact kk m2 hg2
theorem ly_c50 {L : Nat} {xs : Nat → Int32} {m : fl_M} {Q : Option fl_V → fl_M → Prop} {i : Nat} (hall : ∀ c ∈ at_CM ++ at_CA, at_Valid at_XI (pw_P L xs) c) (hL : L ≤ 3072) (hi : i + 6 ≤ L) (hg : t2_Z m) (h0 : m = at_m0) (kk : ∀ m' : fl_M, t2_Z m' → fl_Tq (pw_P L xs) 0 2031 (lx_lv i) [] m' Q) : fl_Tq (pw_P L xs) 0 1606 (lx_lv i) [] m Q := by
  obtain ⟨f, l⟩ := m
  refine fl_Tq.stp (pw_cod lx_k1606) rfl (fl_bo rfl) rfl ?_
  refine lx_arg (i := i) (jn := 1) (pw_cod lx_k1607) (pw_cod lx_k1608) (pw_cod lx_k1609) (pw_cod lx_k1610) (pw_cod lx_k1611) rfl (fl_bo rfl) hL (by omega) ?_
  refine lx_arg (i := i) (jn := 2) (pw_cod lx_k1612) (pw_cod lx_k1613) (pw_cod lx_k1614) (pw_cod lx_k1615) (pw_cod lx_k1616) rfl (fl_bo rfl) hL (by omega) ?_
  refine lx_callG (as_ := [lx_x, .inl (xs (i + 1)), .inl (xs (i + 2))]) (rest := []) (pw_cod lx_k1617) (pw_cll lx_l221) rfl (fl_bo rfl) rfl rfl (t2_cmp_52 hall hg) (fun v1 m1 hg1 => ?_)
  obtain ⟨⟨y1, rfl⟩, hg1⟩ := hg1
  refine fl_Tq.stp (pw_cod lx_k1620) rfl (fl_bo rfl) rfl ?_
  refine lx_arg (i := i) (jn := 1) (pw_cod lx_k1621) (pw_cod lx_k1622) (pw_cod lx_k1623) (pw_cod lx_k1624) (pw_cod lx_k1625) rfl (fl_bo rfl) hL (by omega) ?_
  refine lx_arg (i := i) (jn := 2) (pw_cod lx_k1626) (pw_cod lx_k1627) (pw_cod lx_k1628) (pw_cod lx_k1629) (pw_cod lx_k1630) rfl (fl_bo rfl) hL (by omega) ?_
  refine lx_callG (as_ := [at_this, .inl (xs (i + 1)), .inl (xs (i + 2))]) (rest := [.inl y1]) (pw_cod lx_k1631) (pw_cll lx_l224) rfl (fl_bo rfl) rfl rfl hg1 (fun v2 m2 hg2 => ?_)
  obtain ⟨rfl, hg2⟩ := hg2
  refine fl_Tq.jt (pw_cod lx_k1634) (fl_bo rfl) (by rw [at_c2]; exact decide_eq_true (by omega)) rfl ?_
  exact kk m2 hg2

end

/-! 95.14.lawcase.lean.txt -/
section
/-! ===== printed by wip/gen/lawgen3.py: the law's cases ===== -/
theorem ly_c51 {L : Nat} {xs : Nat → Int32} {m : fl_M} {Q : Option fl_V → fl_M → Prop} {i : Nat} (hall : ∀ c ∈ at_CM ++ at_CA, at_Valid at_XI (pw_P L xs) c) (hL : L ≤ 3072) (hi : i + 6 ≤ L) (hg : t2_Z m) (h0 : m = at_m0) (kk : ∀ m' : fl_M, t2_Z m' → fl_Tq (pw_P L xs) 0 2031 (lx_lv i) [] m' Q) : fl_Tq (pw_P L xs) 0 1639 (lx_lv i) [] m Q := by
  obtain ⟨f, l⟩ := m
  refine fl_Tq.stp (pw_cod lx_k1639) rfl (fl_bo rfl) rfl ?_
  refine lx_arg (i := i) (jn := 1) (pw_cod lx_k1640) (pw_cod lx_k1641) (pw_cod lx_k1642) (pw_cod lx_k1643) (pw_cod lx_k1644) rfl (fl_bo rfl) hL (by omega) ?_
  refine lx_arg (i := i) (jn := 2) (pw_cod lx_k1645) (pw_cod lx_k1646) (pw_cod lx_k1647) (pw_cod lx_k1648) (pw_cod lx_k1649) rfl (fl_bo rfl) hL (by omega) ?_
  refine lx_callG (as_ := [lx_x, .inl (xs (i + 1)), .inl (xs (i + 2))]) (rest := []) (pw_cod lx_k1650) (pw_cll lx_l225) rfl (fl_bo rfl) rfl rfl (t2_cmp_53 hall hg) (fun v1 m1 hg1 => ?_)
  obtain ⟨⟨y1, rfl⟩, hg1⟩ := hg1
  refine fl_Tq.stp (pw_cod lx_k1653) rfl (fl_bo rfl) rfl ?_
  refine lx_arg (i := i) (jn := 1) (pw_cod lx_k1654) (pw_cod lx_k1655) (pw_cod lx_k1656) (pw_cod lx_k1657) (pw_cod lx_k1658) rfl (fl_bo rfl) hL (by omega) ?_
  refine lx_arg (i := i) (jn := 2) (pw_cod lx_k1659) (pw_cod lx_k1660) (pw_cod lx_k1661) (pw_cod lx_k1662) (pw_cod lx_k1663) rfl (fl_bo rfl) hL (by omega) ?_
  refine lx_callG (as_ := [at_this, .inl (xs (i + 1)), .inl (xs (i + 2))]) (rest := [.inl y1]) (pw_cod lx_k1664) (pw_cll lx_l228) rfl (fl_bo rfl) rfl rfl hg1 (fun v2 m2 hg2 => ?_)
  obtain ⟨rfl, hg2⟩ := hg2
  refine fl_Tq.jt (pw_cod lx_k1667) (fl_bo rfl) (by rw [at_c2]; exact decide_eq_true (by omega)) rfl ?_
  exact kk m2 hg2
theorem ly_c52 {L : Nat} {xs : Nat → Int32} {m : fl_M} {Q : Option fl_V → fl_M → Prop} {i : Nat} (hall : ∀ c ∈ at_CM ++ at_CA, at_Valid at_XI (pw_P L xs) c) (hL : L ≤ 3072) (hi : i + 6 ≤ L) (hg : t2_Z m) (h0 : m = at_m0) (kk : ∀ m' : fl_M, t2_Z m' → fl_Tq (pw_P L xs) 0 2031 (lx_lv i) [] m' Q) : fl_Tq (pw_P L xs) 0 1672 (lx_lv i) [] m Q := by
  obtain ⟨f, l⟩ := m
  refine fl_Tq.stp (pw_cod lx_k1672) rfl (fl_bo rfl) rfl ?_
  refine lx_arg (i := i) (jn := 1) (pw_cod lx_k1673) (pw_cod lx_k1674) (pw_cod lx_k1675) (pw_cod lx_k1676) (pw_cod lx_k1677) rfl (fl_bo rfl) hL (by omega) ?_
  refine lx_callG (as_ := [lx_x, .inl (xs (i + 1))]) (rest := []) (pw_cod lx_k1678) (pw_cll lx_l229) rfl (fl_bo rfl) rfl rfl (t2_cmp_54 hall hg) (fun v1 m1 hg1 => ?_)
  obtain ⟨⟨y1, rfl⟩, hg1⟩ := hg1
  refine fl_Tq.stp (pw_cod lx_k1681) rfl (fl_bo rfl) rfl ?_
  refine lx_arg (i := i) (jn := 1) (pw_cod lx_k1682) (pw_cod lx_k1683) (pw_cod lx_k1684) (pw_cod lx_k1685) (pw_cod lx_k1686) rfl (fl_bo rfl) hL (by omega) ?_
  refine lx_callG (as_ := [at_this, .inl (xs (i + 1))]) (rest := [.inl y1]) (pw_cod lx_k1687) (pw_cll lx_l232) rfl (fl_bo rfl) rfl rfl hg1 (fun v2 m2 hg2 => ?_)
  obtain ⟨rfl, hg2⟩ := hg2
  refine fl_Tq.jt (pw_cod lx_k1690) (fl_bo rfl) (by rw [at_c2]; exact decide_eq_true (by omega)) rfl ?_
  exact kk m2 hg2
theorem ly_c53 {L : Nat} {xs : Nat → Int32} {m : fl_M} {Q : Option fl_V → fl_M → Prop} {i : Nat} (hall : ∀ c ∈ at_CM ++ at_CA, at_Valid at_XI (pw_P L xs) c) (hL : L ≤ 3072) (hi : i + 6 ≤ L) (hg : t2_Z m) (h0 : m = at_m0) (kk : ∀ m' : fl_M, t2_Z m' → fl_Tq (pw_P L xs) 0 2031 (lx_lv i) [] m' Q) : fl_Tq (pw_P L xs) 0 1695 (lx_lv i) [] m Q := by
  obtain ⟨f, l⟩ := m
  refine fl_Tq.stp (pw_cod lx_k1695) rfl (fl_bo rfl) rfl ?_
  refine lx_callG (as_ := [lx_x]) (rest := []) (pw_cod lx_k1696) (pw_cll lx_l233) rfl (fl_bo rfl) rfl rfl (t2_cmp_55 hall hg) (fun v1 m1 hg1 => ?_)
  obtain ⟨⟨y1, rfl⟩, hg1⟩ := hg1
  refine fl_Tq.stp (pw_cod lx_k1699) rfl (fl_bo rfl) rfl ?_
  refine lx_callG (as_ := [at_this]) (rest := [.inr (.inl y1)]) (pw_cod lx_k1700) (pw_cll lx_l237) rfl (fl_bo rfl) rfl rfl hg1 (fun v2 m2 hg2 => ?_)
  obtain ⟨rfl, hg2⟩ := hg2
  refine fl_Tq.stp (pw_cod lx_k1703) rfl (fl_bo rfl) rfl ?_
  refine fl_Tq.zt (pw_cod lx_k1704) (fl_bo rfl) (lx_lcs _) rfl ?_
  exact kk m2 hg2
theorem ly_c54 {L : Nat} {xs : Nat → Int32} {m : fl_M} {Q : Option fl_V → fl_M → Prop} {i : Nat} (hall : ∀ c ∈ at_CM ++ at_CA, at_Valid at_XI (pw_P L xs) c) (hL : L ≤ 3072) (hi : i + 6 ≤ L) (hg : t2_Z m) (h0 : m = at_m0) (kk : ∀ m' : fl_M, t2_Z m' → fl_Tq (pw_P L xs) 0 2031 (lx_lv i) [] m' Q) : fl_Tq (pw_P L xs) 0 1709 (lx_lv i) [] m Q := by
  obtain ⟨f, l⟩ := m
  refine fl_Tq.stp (pw_cod lx_k1709) rfl (fl_bo rfl) rfl ?_
  refine lx_callG (as_ := [lx_x]) (rest := []) (pw_cod lx_k1710) (pw_cll lx_l238) rfl (fl_bo rfl) rfl rfl (t2_cmp_56 hall hg) (fun v1 m1 hg1 => ?_)
  obtain ⟨⟨y1, rfl⟩, hg1⟩ := hg1
  refine fl_Tq.stp (pw_cod lx_k1713) rfl (fl_bo rfl) rfl ?_
  refine lx_callG (as_ := [at_this]) (rest := [.inl y1]) (pw_cod lx_k1714) (pw_cll lx_l241) rfl (fl_bo rfl) rfl rfl hg1 (fun v2 m2 hg2 => ?_)
  obtain ⟨rfl, hg2⟩ := hg2
  refine fl_Tq.jt (pw_cod lx_k1717) (fl_bo rfl) (by rw [at_c2]; exact decide_eq_true (by omega)) rfl ?_
  exact kk m2 hg2
theorem ly_c55 {L : Nat} {xs : Nat → Int32} {m : fl_M} {Q : Option fl_V → fl_M → Prop} {i : Nat} (hall : ∀ c ∈ at_CM ++ at_CA, at_Valid at_XI (pw_P L xs) c) (hL : L ≤ 3072) (hi : i + 6 ≤ L) (hg : t2_Z m) (h0 : m = at_m0) (kk : ∀ m' : fl_M, t2_Z m' → fl_Tq (pw_P L xs) 0 2031 (lx_lv i) [] m' Q) : fl_Tq (pw_P L xs) 0 1722 (lx_lv i) [] m Q := by
  obtain ⟨f, l⟩ := m
  refine fl_Tq.stp (pw_cod lx_k1722) rfl (fl_bo rfl) rfl ?_
  refine lx_arg (i := i) (jn := 1) (pw_cod lx_k1723) (pw_cod lx_k1724) (pw_cod lx_k1725) (pw_cod lx_k1726) (pw_cod lx_k1727) rfl (fl_bo rfl) hL (by omega) ?_
  refine lx_arg (i := i) (jn := 2) (pw_cod lx_k1728) (pw_cod lx_k1729) (pw_cod lx_k1730) (pw_cod lx_k1731) (pw_cod lx_k1732) rfl (fl_bo rfl) hL (by omega) ?_
  refine lx_callG (as_ := [lx_x, .inl (xs (i + 1)), .inl (xs (i + 2))]) (rest := []) (pw_cod lx_k1733) (pw_cll lx_l242) rfl (fl_bo rfl) rfl rfl (t2_cmp_57 hall hg h0) (fun v1 m1 hg1 => ?_)
  obtain ⟨⟨y1, rfl⟩, hg1⟩ := hg1
  refine fl_Tq.stp (pw_cod lx_k1736) rfl (fl_bo rfl) rfl ?_
  refine lx_arg (i := i) (jn := 1) (pw_cod lx_k1737) (pw_cod lx_k1738) (pw_cod lx_k1739) (pw_cod lx_k1740) (pw_cod lx_k1741) rfl (fl_bo rfl) hL (by omega) ?_
  refine lx_arg (i := i) (jn := 2) (pw_cod lx_k1742) (pw_cod lx_k1743) (pw_cod lx_k1744) (pw_cod lx_k1745) (pw_cod lx_k1746) rfl (fl_bo rfl) hL (by omega) ?_
  refine lx_callG (as_ := [at_this, .inl (xs (i + 1)), .inl (xs (i + 2))]) (rest := [.inl y1]) (pw_cod lx_k1747) (pw_cll lx_l245) rfl (fl_bo rfl) rfl rfl hg1 (fun v2 m2 hg2 => ?_)
  obtain ⟨rfl, hg2⟩ := hg2
  refine fl_Tq.jt (pw_cod lx_k1750) (fl_bo rfl) (by rw [at_c2]; exact decide_eq_true (by omega)) rfl ?_
  exact kk m2 hg2
theorem ly_c56 {L : Nat} {xs : Nat → Int32} {m : fl_M} {Q : Option fl_V → fl_M → Prop} {i : Nat} (hall : ∀ c ∈ at_CM ++ at_CA, at_Valid at_XI (pw_P L xs) c) (hL : L ≤ 3072) (hi : i + 6 ≤ L) (hg : t2_Z m) (h0 : m = at_m0) (kk : ∀ m' : fl_M, t2_Z m' → fl_Tq (pw_P L xs) 0 2031 (lx_lv i) [] m' Q) : fl_Tq (pw_P L xs) 0 1755 (lx_lv i) [] m Q := by
  obtain ⟨f, l⟩ := m
  refine fl_Tq.stp (pw_cod lx_k1755) rfl (fl_bo rfl) rfl ?_
  refine lx_arg (i := i) (jn := 1) (pw_cod lx_k1756) (pw_cod lx_k1757) (pw_cod lx_k1758) (pw_cod lx_k1759) (pw_cod lx_k1760) rfl (fl_bo rfl) hL (by omega) ?_
  refine lx_arg (i := i) (jn := 2) (pw_cod lx_k1761) (pw_cod lx_k1762) (pw_cod lx_k1763) (pw_cod lx_k1764) (pw_cod lx_k1765) rfl (fl_bo rfl) hL (by omega) ?_
  refine lx_arg (i := i) (jn := 3) (pw_cod lx_k1766) (pw_cod lx_k1767) (pw_cod lx_k1768) (pw_cod lx_k1769) (pw_cod lx_k1770) rfl (fl_bo rfl) hL (by omega) ?_
  refine lx_callG (as_ := [lx_x, .inl (xs (i + 1)), .inl (xs (i + 2)), .inl (xs (i + 3))]) (rest := []) (pw_cod lx_k1771) (pw_cll lx_l246) rfl (fl_bo rfl) rfl rfl (t2_cmp_58 hall hg h0) (fun v1 m1 hg1 => ?_)
  obtain ⟨⟨y1, rfl⟩, hg1⟩ := hg1
  refine fl_Tq.stp (pw_cod lx_k1774) rfl (fl_bo rfl) rfl ?_
  refine lx_arg (i := i) (jn := 1) (pw_cod lx_k1775) (pw_cod lx_k1776) (pw_cod lx_k1777) (pw_cod lx_k1778) (pw_cod lx_k1779) rfl (fl_bo rfl) hL (by omega) ?_
  refine lx_arg (i := i) (jn := 2) (pw_cod lx_k1780) (pw_cod lx_k1781) (pw_cod lx_k1782) (pw_cod lx_k1783) (pw_cod lx_k1784) rfl (fl_bo rfl) hL (by omega) ?_
  refine lx_arg (i := i) (jn := 3) (pw_cod lx_k1785) (pw_cod lx_k1786) (pw_cod lx_k1787) (pw_cod lx_k1788) (pw_cod lx_k1789) rfl (fl_bo rfl) hL (by omega) ?_
  refine lx_callG (as_ := [at_this, .inl (xs (i + 1)), .inl (xs (i + 2)), .inl (xs (i + 3))]) (rest := [.inl y1]) (pw_cod lx_k1790) (pw_cll lx_l249) rfl (fl_bo rfl) rfl rfl hg1 (fun v2 m2 hg2 => ?_)
  obtain ⟨rfl, hg2⟩ := hg2
  refine fl_Tq.jt (pw_cod lx_k1793) (fl_bo rfl) (by rw [at_c2]; exact decide_eq_true (by omega)) rfl ?_
  exact kk m2 hg2
theorem ly_c57 {L : Nat} {xs : Nat → Int32} {m : fl_M} {Q : Option fl_V → fl_M → Prop} {i : Nat} (hall : ∀ c ∈ at_CM ++ at_CA, at_Valid at_XI (pw_P L xs) c) (hL : L ≤ 3072) (hi : i + 6 ≤ L) (hg : t2_Z m) (h0 : m = at_m0) (kk : ∀ m' : fl_M, t2_Z m' → fl_Tq (pw_P L xs) 0 2031 (lx_lv i) [] m' Q) : fl_Tq (pw_P L xs) 0 1798 (lx_lv i) [] m Q := by
  obtain ⟨f, l⟩ := m
  refine fl_Tq.stp (pw_cod lx_k1798) rfl (fl_bo rfl) rfl ?_
  refine lx_arg (i := i) (jn := 1) (pw_cod lx_k1799) (pw_cod lx_k1800) (pw_cod lx_k1801) (pw_cod lx_k1802) (pw_cod lx_k1803) rfl (fl_bo rfl) hL (by omega) ?_
  refine lx_callG (as_ := [lx_x, .inl (xs (i + 1))]) (rest := []) (pw_cod lx_k1804) (pw_cll lx_l250) rfl (fl_bo rfl) rfl rfl (t2_cmp_59 hall hg) (fun v1 m1 hg1 => ?_)
  obtain ⟨⟨y1, rfl⟩, hg1⟩ := hg1
  refine fl_Tq.stp (pw_cod lx_k1807) rfl (fl_bo rfl) rfl ?_
  refine lx_arg (i := i) (jn := 1) (pw_cod lx_k1808) (pw_cod lx_k1809) (pw_cod lx_k1810) (pw_cod lx_k1811) (pw_cod lx_k1812) rfl (fl_bo rfl) hL (by omega) ?_
  refine lx_callG (as_ := [at_this, .inl (xs (i + 1))]) (rest := [.inl y1]) (pw_cod lx_k1813) (pw_cll lx_l253) rfl (fl_bo rfl) rfl rfl hg1 (fun v2 m2 hg2 => ?_)
  obtain ⟨rfl, hg2⟩ := hg2
  refine fl_Tq.jt (pw_cod lx_k1816) (fl_bo rfl) (by rw [at_c2]; exact decide_eq_true (by omega)) rfl ?_
  exact kk m2 hg2
theorem ly_c58 {L : Nat} {xs : Nat → Int32} {m : fl_M} {Q : Option fl_V → fl_M → Prop} {i : Nat} (hall : ∀ c ∈ at_CM ++ at_CA, at_Valid at_XI (pw_P L xs) c) (hL : L ≤ 3072) (hi : i + 6 ≤ L) (hg : t2_Z m) (h0 : m = at_m0) (kk : ∀ m' : fl_M, t2_Z m' → fl_Tq (pw_P L xs) 0 2031 (lx_lv i) [] m' Q) : fl_Tq (pw_P L xs) 0 1821 (lx_lv i) [] m Q := by
  obtain ⟨f, l⟩ := m
  refine fl_Tq.stp (pw_cod lx_k1821) rfl (fl_bo rfl) rfl ?_
  refine lx_callG (as_ := [lx_x]) (rest := []) (pw_cod lx_k1822) (pw_cll lx_l254) rfl (fl_bo rfl) rfl rfl (t2_cmp_60 hall hg h0) (fun v1 m1 hg1 => ?_)
  obtain ⟨⟨y1, rfl⟩, hg1⟩ := hg1
  refine fl_Tq.stp (pw_cod lx_k1825) rfl (fl_bo rfl) rfl ?_
  refine lx_callG (as_ := [at_this]) (rest := [.inl y1]) (pw_cod lx_k1826) (pw_cll lx_l257) rfl (fl_bo rfl) rfl rfl hg1 (fun v2 m2 hg2 => ?_)
  obtain ⟨rfl, hg2⟩ := hg2
  refine fl_Tq.jt (pw_cod lx_k1829) (fl_bo rfl) (by rw [at_c2]; exact decide_eq_true (by omega)) rfl ?_
  exact kk m2 hg2
theorem ly_c59 {L : Nat} {xs : Nat → Int32} {m : fl_M} {Q : Option fl_V → fl_M → Prop} {i : Nat} (hall : ∀ c ∈ at_CM ++ at_CA, at_Valid at_XI (pw_P L xs) c) (hL : L ≤ 3072) (hi : i + 6 ≤ L) (hg : t2_Z m) (h0 : m = at_m0) (kk : ∀ m' : fl_M, t2_Z m' → fl_Tq (pw_P L xs) 0 2031 (lx_lv i) [] m' Q) : fl_Tq (pw_P L xs) 0 1834 (lx_lv i) [] m Q := by
  obtain ⟨f, l⟩ := m
  refine fl_Tq.stp (pw_cod lx_k1834) rfl (fl_bo rfl) rfl ?_
  refine lx_arg (i := i) (jn := 1) (pw_cod lx_k1835) (pw_cod lx_k1836) (pw_cod lx_k1837) (pw_cod lx_k1838) (pw_cod lx_k1839) rfl (fl_bo rfl) hL (by omega) ?_
  refine lx_callG (as_ := [lx_x, .inl (xs (i + 1))]) (rest := []) (pw_cod lx_k1840) (pw_cll lx_l258) rfl (fl_bo rfl) rfl rfl (t2_cmp_61 hall hg) (fun v1 m1 hg1 => ?_)
  obtain ⟨⟨y1, rfl⟩, hg1⟩ := hg1
  refine fl_Tq.stp (pw_cod lx_k1843) rfl (fl_bo rfl) rfl ?_
  refine lx_arg (i := i) (jn := 1) (pw_cod lx_k1844) (pw_cod lx_k1845) (pw_cod lx_k1846) (pw_cod lx_k1847) (pw_cod lx_k1848) rfl (fl_bo rfl) hL (by omega) ?_
  refine lx_callG (as_ := [at_this, .inl (xs (i + 1))]) (rest := [.inl y1]) (pw_cod lx_k1849) (pw_cll lx_l261) rfl (fl_bo rfl) rfl rfl hg1 (fun v2 m2 hg2 => ?_)
  obtain ⟨rfl, hg2⟩ := hg2
  refine fl_Tq.jt (pw_cod lx_k1852) (fl_bo rfl) (by rw [at_c2]; exact decide_eq_true (by omega)) rfl ?_
  exact kk m2 hg2
theorem ly_c60 {L : Nat} {xs : Nat → Int32} {m : fl_M} {Q : Option fl_V → fl_M → Prop} {i : Nat} (hall : ∀ c ∈ at_CM ++ at_CA, at_Valid at_XI (pw_P L xs) c) (hL : L ≤ 3072) (hi : i + 6 ≤ L) (hg : t2_Z m) (h0 : m = at_m0) (kk : ∀ m' : fl_M, t2_Z m' → fl_Tq (pw_P L xs) 0 2031 (lx_lv i) [] m' Q) : fl_Tq (pw_P L xs) 0 1857 (lx_lv i) [] m Q := by
  obtain ⟨f, l⟩ := m
  refine fl_Tq.stp (pw_cod lx_k1857) rfl (fl_bo rfl) rfl ?_
  refine lx_arg (i := i) (jn := 1) (pw_cod lx_k1858) (pw_cod lx_k1859) (pw_cod lx_k1860) (pw_cod lx_k1861) (pw_cod lx_k1862) rfl (fl_bo rfl) hL (by omega) ?_
  refine lx_arg (i := i) (jn := 2) (pw_cod lx_k1863) (pw_cod lx_k1864) (pw_cod lx_k1865) (pw_cod lx_k1866) (pw_cod lx_k1867) rfl (fl_bo rfl) hL (by omega) ?_
  refine lx_callG (as_ := [lx_x, .inl (xs (i + 1)), .inl (xs (i + 2))]) (rest := []) (pw_cod lx_k1868) (pw_cll lx_l262) rfl (fl_bo rfl) rfl rfl (t2_cmp_62 hall hg) (fun v1 m1 hg1 => ?_)
  obtain ⟨⟨y1, rfl⟩, hg1⟩ := hg1
  refine fl_Tq.stp (pw_cod lx_k1871) rfl (fl_bo rfl) rfl ?_
  refine lx_arg (i := i) (jn := 1) (pw_cod lx_k1872) (pw_cod lx_k1873) (pw_cod lx_k1874) (pw_cod lx_k1875) (pw_cod lx_k1876) rfl (fl_bo rfl) hL (by omega) ?_
  refine lx_arg (i := i) (jn := 2) (pw_cod lx_k1877) (pw_cod lx_k1878) (pw_cod lx_k1879) (pw_cod lx_k1880) (pw_cod lx_k1881) rfl (fl_bo rfl) hL (by omega) ?_
  refine lx_callG (as_ := [at_this, .inl (xs (i + 1)), .inl (xs (i + 2))]) (rest := [.inl y1]) (pw_cod lx_k1882) (pw_cll lx_l265) rfl (fl_bo rfl) rfl rfl hg1 (fun v2 m2 hg2 => ?_)
  obtain ⟨rfl, hg2⟩ := hg2
  refine fl_Tq.jt (pw_cod lx_k1885) (fl_bo rfl) (by rw [at_c2]; exact decide_eq_true (by omega)) rfl ?_
  exact kk m2 hg2
theorem ly_c61 {L : Nat} {xs : Nat → Int32} {m : fl_M} {Q : Option fl_V → fl_M → Prop} {i : Nat} (hall : ∀ c ∈ at_CM ++ at_CA, at_Valid at_XI (pw_P L xs) c) (hL : L ≤ 3072) (hi : i + 6 ≤ L) (hg : t2_Z m) (h0 : m = at_m0) (kk : ∀ m' : fl_M, t2_Z m' → fl_Tq (pw_P L xs) 0 2031 (lx_lv i) [] m' Q) : fl_Tq (pw_P L xs) 0 1890 (lx_lv i) [] m Q := by
  obtain ⟨f, l⟩ := m
  refine fl_Tq.stp (pw_cod lx_k1890) rfl (fl_bo rfl) rfl ?_
  refine lx_arg (i := i) (jn := 1) (pw_cod lx_k1891) (pw_cod lx_k1892) (pw_cod lx_k1893) (pw_cod lx_k1894) (pw_cod lx_k1895) rfl (fl_bo rfl) hL (by omega) ?_
  refine lx_arg (i := i) (jn := 2) (pw_cod lx_k1896) (pw_cod lx_k1897) (pw_cod lx_k1898) (pw_cod lx_k1899) (pw_cod lx_k1900) rfl (fl_bo rfl) hL (by omega) ?_
  refine lx_callG (as_ := [lx_x, .inl (xs (i + 1)), .inl (xs (i + 2))]) (rest := []) (pw_cod lx_k1901) (pw_cll lx_l266) rfl (fl_bo rfl) rfl rfl (t2_cmp_63 hall hg h0) (fun v1 m1 hg1 => ?_)
  obtain ⟨⟨y1, rfl⟩, hg1⟩ := hg1
  refine fl_Tq.stp (pw_cod lx_k1904) rfl (fl_bo rfl) rfl ?_
  refine lx_arg (i := i) (jn := 1) (pw_cod lx_k1905) (pw_cod lx_k1906) (pw_cod lx_k1907) (pw_cod lx_k1908) (pw_cod lx_k1909) rfl (fl_bo rfl) hL (by omega) ?_
  refine lx_arg (i := i) (jn := 2) (pw_cod lx_k1910) (pw_cod lx_k1911) (pw_cod lx_k1912) (pw_cod lx_k1913) (pw_cod lx_k1914) rfl (fl_bo rfl) hL (by omega) ?_
  refine lx_callG (as_ := [at_this, .inl (xs (i + 1)), .inl (xs (i + 2))]) (rest := [.inl y1]) (pw_cod lx_k1915) (pw_cll lx_l269) rfl (fl_bo rfl) rfl rfl hg1 (fun v2 m2 hg2 => ?_)
  obtain ⟨rfl, hg2⟩ := hg2
  refine fl_Tq.jt (pw_cod lx_k1918) (fl_bo rfl) (by rw [at_c2]; exact decide_eq_true (by omega)) rfl ?_
  exact kk m2 hg2
theorem ly_c62 {L : Nat} {xs : Nat → Int32} {m : fl_M} {Q : Option fl_V → fl_M → Prop} {i : Nat} (hall : ∀ c ∈ at_CM ++ at_CA, at_Valid at_XI (pw_P L xs) c) (hL : L ≤ 3072) (hi : i + 6 ≤ L) (hg : t2_Z m) (h0 : m = at_m0) (kk : ∀ m' : fl_M, t2_Z m' → fl_Tq (pw_P L xs) 0 2031 (lx_lv i) [] m' Q) : fl_Tq (pw_P L xs) 0 1923 (lx_lv i) [] m Q := by
  obtain ⟨f, l⟩ := m
  refine fl_Tq.stp (pw_cod lx_k1923) rfl (fl_bo rfl) rfl ?_
  refine lx_arg (i := i) (jn := 1) (pw_cod lx_k1924) (pw_cod lx_k1925) (pw_cod lx_k1926) (pw_cod lx_k1927) (pw_cod lx_k1928) rfl (fl_bo rfl) hL (by omega) ?_
  refine lx_callG (as_ := [lx_x, .inl (xs (i + 1))]) (rest := []) (pw_cod lx_k1929) (pw_cll lx_l270) rfl (fl_bo rfl) rfl rfl (t2_cmp_64 hall hg) (fun v1 m1 hg1 => ?_)
  obtain ⟨⟨y1, rfl⟩, hg1⟩ := hg1
  refine fl_Tq.stp (pw_cod lx_k1932) rfl (fl_bo rfl) rfl ?_
  refine lx_arg (i := i) (jn := 1) (pw_cod lx_k1933) (pw_cod lx_k1934) (pw_cod lx_k1935) (pw_cod lx_k1936) (pw_cod lx_k1937) rfl (fl_bo rfl) hL (by omega) ?_
  refine lx_callG (as_ := [at_this, .inl (xs (i + 1))]) (rest := [.inl y1]) (pw_cod lx_k1938) (pw_cll lx_l273) rfl (fl_bo rfl) rfl rfl hg1 (fun v2 m2 hg2 => ?_)
  obtain ⟨rfl, hg2⟩ := hg2
  refine fl_Tq.jt (pw_cod lx_k1941) (fl_bo rfl) (by rw [at_c2]; exact decide_eq_true (by omega)) rfl ?_
  exact kk m2 hg2
theorem ly_c63 {L : Nat} {xs : Nat → Int32} {m : fl_M} {Q : Option fl_V → fl_M → Prop} {i : Nat} (hall : ∀ c ∈ at_CM ++ at_CA, at_Valid at_XI (pw_P L xs) c) (hL : L ≤ 3072) (hi : i + 6 ≤ L) (hg : t2_Z m) (h0 : m = at_m0) (kk : ∀ m' : fl_M, t2_Z m' → fl_Tq (pw_P L xs) 0 2031 (lx_lv i) [] m' Q) : fl_Tq (pw_P L xs) 0 1946 (lx_lv i) [] m Q := by
  obtain ⟨f, l⟩ := m
  refine fl_Tq.stp (pw_cod lx_k1946) rfl (fl_bo rfl) rfl ?_
  refine lx_arg (i := i) (jn := 1) (pw_cod lx_k1947) (pw_cod lx_k1948) (pw_cod lx_k1949) (pw_cod lx_k1950) (pw_cod lx_k1951) rfl (fl_bo rfl) hL (by omega) ?_
  refine lx_callG (as_ := [lx_x, .inl (xs (i + 1))]) (rest := []) (pw_cod lx_k1952) (pw_cll lx_l274) rfl (fl_bo rfl) rfl rfl (t2_cmp_65 hall hg h0) (fun v1 m1 hg1 => ?_)
  obtain ⟨⟨y1, rfl⟩, hg1⟩ := hg1
  refine fl_Tq.stp (pw_cod lx_k1955) rfl (fl_bo rfl) rfl ?_
  refine lx_arg (i := i) (jn := 1) (pw_cod lx_k1956) (pw_cod lx_k1957) (pw_cod lx_k1958) (pw_cod lx_k1959) (pw_cod lx_k1960) rfl (fl_bo rfl) hL (by omega) ?_
  refine lx_callG (as_ := [at_this, .inl (xs (i + 1))]) (rest := [.inl y1]) (pw_cod lx_k1961) (pw_cll lx_l277) rfl (fl_bo rfl) rfl rfl hg1 (fun v2 m2 hg2 => ?_)
  obtain ⟨rfl, hg2⟩ := hg2
  refine fl_Tq.jt (pw_cod lx_k1964) (fl_bo rfl) (by rw [at_c2]; exact decide_eq_true (by omega)) rfl ?_
  exact kk m2 hg2
theorem ly_c64 {L : Nat} {xs : Nat → Int32} {m : fl_M} {Q : Option fl_V → fl_M → Prop} {i : Nat} (hall : ∀ c ∈ at_CM ++ at_CA, at_Valid at_XI (pw_P L xs) c) (hL : L ≤ 3072) (hi : i + 6 ≤ L) (hg : t2_Z m) (h0 : m = at_m0) (kk : ∀ m' : fl_M, t2_Z m' → fl_Tq (pw_P L xs) 0 2031 (lx_lv i) [] m' Q) : fl_Tq (pw_P L xs) 0 1969 (lx_lv i) [] m Q := by
  obtain ⟨f, l⟩ := m
  refine fl_Tq.stp (pw_cod lx_k1969) rfl (fl_bo rfl) rfl ?_
  refine lx_arg (i := i) (jn := 1) (pw_cod lx_k1970) (pw_cod lx_k1971) (pw_cod lx_k1972) (pw_cod lx_k1973) (pw_cod lx_k1974) rfl (fl_bo rfl) hL (by omega) ?_
  refine lx_callG (as_ := [lx_x, .inl (xs (i + 1))]) (rest := []) (pw_cod lx_k1975) (pw_cll lx_l278) rfl (fl_bo rfl) rfl rfl (t2_cmp_66 hall hg h0) (fun v1 m1 hg1 => ?_)
  obtain ⟨⟨y1, rfl⟩, hg1⟩ := hg1
  refine fl_Tq.stp (pw_cod lx_k1978) rfl (fl_bo rfl) rfl ?_
  refine lx_arg (i := i) (jn := 1) (pw_cod lx_k1979) (pw_cod lx_k1980) (pw_cod lx_k1981) (pw_cod lx_k1982) (pw_cod lx_k1983) rfl (fl_bo rfl) hL (by omega) ?_
  refine lx_callG (as_ := [at_this, .inl (xs (i + 1))]) (rest := [.inl y1]) (pw_cod lx_k1984) (pw_cll lx_l281) rfl (fl_bo rfl) rfl rfl hg1 (fun v2 m2 hg2 => ?_)
  obtain ⟨rfl, hg2⟩ := hg2
  refine fl_Tq.jt (pw_cod lx_k1987) (fl_bo rfl) (by rw [at_c2]; exact decide_eq_true (by omega)) rfl ?_
  exact kk m2 hg2
theorem ly_c65 {L : Nat} {xs : Nat → Int32} {m : fl_M} {Q : Option fl_V → fl_M → Prop} {i : Nat} (hall : ∀ c ∈ at_CM ++ at_CA, at_Valid at_XI (pw_P L xs) c) (hL : L ≤ 3072) (hi : i + 6 ≤ L) (hg : t2_Z m) (h0 : m = at_m0) (kk : ∀ m' : fl_M, t2_Z m' → fl_Tq (pw_P L xs) 0 2031 (lx_lv i) [] m' Q) : fl_Tq (pw_P L xs) 0 1992 (lx_lv i) [] m Q := by
  obtain ⟨f, l⟩ := m
  refine fl_Tq.stp (pw_cod lx_k1992) rfl (fl_bo rfl) rfl ?_
  refine lx_callG (as_ := [lx_x]) (rest := []) (pw_cod lx_k1993) (pw_cll lx_l282) rfl (fl_bo rfl) rfl rfl (t2_step (ar := [at_this]) (hall _ at_c120_in) (hall _ at_c323_in) rfl rfl hg ⟨lx_kx _, True.intro⟩ rfl (fun _ => ⟨at_k277 _, True.intro⟩) rfl (t2_image hg)) (fun v1 m1 hg1 => ?_)
  obtain ⟨⟨y1, rfl⟩, hg1⟩ := hg1
  refine fl_Tq.stp (pw_cod lx_k1996) rfl (fl_bo rfl) rfl ?_
  refine lx_callG (as_ := [at_this]) (rest := [.inl y1]) (pw_cod lx_k1997) (pw_cll lx_l285) rfl (fl_bo rfl) rfl rfl hg1 (fun v2 m2 hg2 => ?_)
  obtain ⟨rfl, hg2⟩ := hg2
  refine fl_Tq.jt (pw_cod lx_k2000) (fl_bo rfl) (by rw [at_c2]; exact decide_eq_true (by omega)) rfl ?_
  exact kk m2 hg2
theorem ly_c66 {L : Nat} {xs : Nat → Int32} {m : fl_M} {Q : Option fl_V → fl_M → Prop} {i : Nat} (hall : ∀ c ∈ at_CM ++ at_CA, at_Valid at_XI (pw_P L xs) c) (hL : L ≤ 3072) (hi : i + 6 ≤ L) (hg : t2_Z m) (h0 : m = at_m0) (kk : ∀ m' : fl_M, t2_Z m' → fl_Tq (pw_P L xs) 0 2031 (lx_lv i) [] m' Q) : fl_Tq (pw_P L xs) 0 2005 (lx_lv i) [] m Q := by
  obtain ⟨f, l⟩ := m
  refine fl_Tq.stp (pw_cod lx_k2005) rfl (fl_bo rfl) rfl ?_
  refine lx_callG (as_ := [lx_x]) (rest := []) (pw_cod lx_k2006) (pw_cll lx_l286) rfl (fl_bo rfl) rfl rfl (t2_step (ar := [at_this]) (hall _ at_c121_in) (hall _ at_c324_in) rfl rfl hg ⟨lx_kx _, True.intro⟩ rfl (fun _ => ⟨at_k277 _, True.intro⟩) rfl (t2_back hg)) (fun v1 m1 hg1 => ?_)
  obtain ⟨⟨y1, rfl⟩, hg1⟩ := hg1
  refine fl_Tq.stp (pw_cod lx_k2009) rfl (fl_bo rfl) rfl ?_
  refine lx_callG (as_ := [at_this]) (rest := [.inl y1]) (pw_cod lx_k2010) (pw_cll lx_l289) rfl (fl_bo rfl) rfl rfl hg1 (fun v2 m2 hg2 => ?_)
  obtain ⟨rfl, hg2⟩ := hg2
  refine fl_Tq.jt (pw_cod lx_k2013) (fl_bo rfl) (by rw [at_c2]; exact decide_eq_true (by omega)) rfl ?_
  exact kk m2 hg2
theorem ly_c67 {L : Nat} {xs : Nat → Int32} {m : fl_M} {Q : Option fl_V → fl_M → Prop} {i : Nat} (hall : ∀ c ∈ at_CM ++ at_CA, at_Valid at_XI (pw_P L xs) c) (hL : L ≤ 3072) (hi : i + 6 ≤ L) (hg : t2_Z m) (h0 : m = at_m0) (kk : ∀ m' : fl_M, t2_Z m' → fl_Tq (pw_P L xs) 0 2031 (lx_lv i) [] m' Q) : fl_Tq (pw_P L xs) 0 2018 (lx_lv i) [] m Q := by
  obtain ⟨f, l⟩ := m
  refine fl_Tq.stp (pw_cod lx_k2018) rfl (fl_bo rfl) rfl ?_
  refine lx_callG (as_ := [lx_x]) (rest := []) (pw_cod lx_k2019) (pw_cll lx_l290) rfl (fl_bo rfl) rfl rfl (t2_cmp_69 hall hg) (fun v1 m1 hg1 => ?_)
  obtain ⟨⟨y1, rfl⟩, hg1⟩ := hg1
  refine fl_Tq.stp (pw_cod lx_k2022) rfl (fl_bo rfl) rfl ?_
  refine lx_callG (as_ := [at_this]) (rest := [.inl y1]) (pw_cod lx_k2023) (pw_cll lx_l293) rfl (fl_bo rfl) rfl rfl hg1 (fun v2 m2 hg2 => ?_)
  obtain ⟨rfl, hg2⟩ := hg2
  refine fl_Tq.jt (pw_cod lx_k2026) (fl_bo rfl) (by rw [at_c2]; exact decide_eq_true (by omega)) rfl ?_
  exact kk m2 hg2

end

/-! 95.19.lawsw.lean.txt -/
section
/-! ===== printed by wip/gen/lawgen3.py: the switch ===== -/
def lx_tg : List Nat := [320, 363, 396, 429, 462, 485, 498, 511, 534, 567, 600, 613, 646, 669, 702, 781, 794, 807, 820, 833, 856, 879, 912, 945, 978, 1011, 1044, 1077, 1100, 1113, 1136, 1169, 1192, 1235, 1258, 1271, 1284, 1297, 1320, 1343, 1386, 1419, 1432, 1455, 1478, 1501, 1524, 1547, 1560, 1583, 1606, 1639, 1672, 1695, 1709, 1722, 1755, 1798, 1821, 1834, 1857, 1890, 1923, 1946, 1969, 1992, 2005, 2018]
theorem lx_swt : (List.range 68).all (fun z => am_swk (Int32.ofNat z) 0 67 #[287, 330, 363, 396, 429, 452, 465, 478, 501, 534, 567, 580, 613, 636, 669, 748, 761, 774, 787, 800, 823, 846, 879, 912, 945, 978, 1011, 1044, 1067, 1080, 1103, 1136, 1159, 1202, 1225, 1238, 1251, 1264, 1287, 1310, 1353, 1386, 1399, 1422, 1445, 1468, 1491, 1514, 1527, 1550, 1573, 1606, 1639, 1662, 1676, 1689, 1722, 1765, 1788, 1801, 1824, 1857, 1890, 1913, 1936, 1959, 1972, 1985] && decide (am_tg 33 (am_sw (Int32.ofNat z) 1998 0 67 #[287, 330, 363, 396, 429, 452, 465, 478, 501, 534, 567, 580, 613, 636, 669, 748, 761, 774, 787, 800, 823, 846, 879, 912, 945, 978, 1011, 1044, 1067, 1080, 1103, 1136, 1159, 1202, 1225, 1238, 1251, 1264, 1287, 1310, 1353, 1386, 1399, 1422, 1445, 1468, 1491, 1514, 1527, 1550, 1573, 1606, 1639, 1662, 1676, 1689, 1722, 1765, 1788, 1801, 1824, 1857, 1890, 1913, 1936, 1959, 1972, 1985]) = some (lx_tg.getD z 0))) = true := by decide +kernel
theorem ly_case {L : Nat} {xs : Nat → Int32} {m : fl_M} {Q : Option fl_V → fl_M → Prop} {i : Nat} (hall : ∀ c ∈ at_CM ++ at_CA, at_Valid at_XI (pw_P L xs) c) (hL : L ≤ 3072) (hi : i + 6 ≤ L) (hg : t2_Z m) (h0 : m = at_m0) (kk : ∀ m' : fl_M, t2_Z m' → fl_Tq (pw_P L xs) 0 2031 (lx_lv i) [] m' Q) : ∀ z : Nat, z < 68 → fl_Tq (pw_P L xs) 0 (lx_tg.getD z 0) (lx_lv i) [] m Q
  | 0, _ => ly_c0 hall hL hi hg h0 kk
  | 1, _ => ly_c1 hall hL hi hg h0 kk
  | 2, _ => ly_c2 hall hL hi hg h0 kk
  | 3, _ => ly_c3 hall hL hi hg h0 kk
  | 4, _ => ly_c4 hall hL hi hg h0 kk
  | 5, _ => ly_c5 hall hL hi hg h0 kk
  | 6, _ => ly_c6 hall hL hi hg h0 kk
  | 7, _ => ly_c7 hall hL hi hg h0 kk
  | 8, _ => ly_c8 hall hL hi hg h0 kk
  | 9, _ => ly_c9 hall hL hi hg h0 kk
  | 10, _ => ly_c10 hall hL hi hg h0 kk
  | 11, _ => ly_c11 hall hL hi hg h0 kk
  | 12, _ => ly_c12 hall hL hi hg h0 kk
  | 13, _ => ly_c13 hall hL hi hg h0 kk
  | 14, _ => ly_c14 hall hL hi hg h0 kk
  | 15, _ => ly_c15 hall hL hi hg h0 kk
  | 16, _ => ly_c16 hall hL hi hg h0 kk
  | 17, _ => ly_c17 hall hL hi hg h0 kk
  | 18, _ => ly_c18 hall hL hi hg h0 kk
  | 19, _ => ly_c19 hall hL hi hg h0 kk
  | 20, _ => ly_c20 hall hL hi hg h0 kk
  | 21, _ => ly_c21 hall hL hi hg h0 kk
  | 22, _ => ly_c22 hall hL hi hg h0 kk
  | 23, _ => ly_c23 hall hL hi hg h0 kk
  | 24, _ => ly_c24 hall hL hi hg h0 kk
  | 25, _ => ly_c25 hall hL hi hg h0 kk
  | 26, _ => ly_c26 hall hL hi hg h0 kk
  | 27, _ => ly_c27 hall hL hi hg h0 kk
  | 28, _ => ly_c28 hall hL hi hg h0 kk
  | 29, _ => ly_c29 hall hL hi hg h0 kk
  | 30, _ => ly_c30 hall hL hi hg h0 kk
  | 31, _ => ly_c31 hall hL hi hg h0 kk
  | 32, _ => ly_c32 hall hL hi hg h0 kk
  | 33, _ => ly_c33 hall hL hi hg h0 kk
  | 34, _ => ly_c34 hall hL hi hg h0 kk
  | 35, _ => ly_c35 hall hL hi hg h0 kk
  | 36, _ => ly_c36 hall hL hi hg h0 kk
  | 37, _ => ly_c37 hall hL hi hg h0 kk
  | 38, _ => ly_c38 hall hL hi hg h0 kk
  | 39, _ => ly_c39 hall hL hi hg h0 kk
  | 40, _ => ly_c40 hall hL hi hg h0 kk
  | 41, _ => ly_c41 hall hL hi hg h0 kk
  | 42, _ => ly_c42 hall hL hi hg h0 kk
  | 43, _ => ly_c43 hall hL hi hg h0 kk
  | 44, _ => ly_c44 hall hL hi hg h0 kk
  | 45, _ => ly_c45 hall hL hi hg h0 kk
  | 46, _ => ly_c46 hall hL hi hg h0 kk
  | 47, _ => ly_c47 hall hL hi hg h0 kk
  | 48, _ => ly_c48 hall hL hi hg h0 kk
  | 49, _ => ly_c49 hall hL hi hg h0 kk
  | 50, _ => ly_c50 hall hL hi hg h0 kk
  | 51, _ => ly_c51 hall hL hi hg h0 kk
  | 52, _ => ly_c52 hall hL hi hg h0 kk
  | 53, _ => ly_c53 hall hL hi hg h0 kk
  | 54, _ => ly_c54 hall hL hi hg h0 kk
  | 55, _ => ly_c55 hall hL hi hg h0 kk
  | 56, _ => ly_c56 hall hL hi hg h0 kk
  | 57, _ => ly_c57 hall hL hi hg h0 kk
  | 58, _ => ly_c58 hall hL hi hg h0 kk
  | 59, _ => ly_c59 hall hL hi hg h0 kk
  | 60, _ => ly_c60 hall hL hi hg h0 kk
  | 61, _ => ly_c61 hall hL hi hg h0 kk
  | 62, _ => ly_c62 hall hL hi hg h0 kk
  | 63, _ => ly_c63 hall hL hi hg h0 kk
  | 64, _ => ly_c64 hall hL hi hg h0 kk
  | 65, _ => ly_c65 hall hL hi hg h0 kk
  | 66, _ => ly_c66 hall hL hi hg h0 kk
  | 67, _ => ly_c67 hall hL hi hg h0 kk
  | n + 68, h => absurd h (by omega)

end

/-! 95.30.loop.lean.txt -/
section
/-! ===== the law's loop ===== -/
section LWLP
variable {L : Nat} {xs : Nat → Int32}
def lx_Q (v : Option fl_V) (m : fl_M) : Prop := v = some (.inl 1) ∧ m.2.2 ≤ 40
theorem lx_and (x : Int32) : 0 ≤ (x &&& (Int8.ofInt 127).toInt32).toInt ∧ (x &&& (Int8.ofInt 127).toInt32).toInt ≤ 127 := by
  have e : (x &&& (Int8.ofInt 127).toInt32).toInt = ((x.toUInt32 &&& 127).toNat : Int) := by
    have h : ∀ u : UInt32, (Int32.ofUInt32 (u &&& 127)).toInt = ((u &&& 127).toNat : Int) := by
      intro u
      have hu : (u &&& 127).toNat ≤ 127 := by
        rw [UInt32.toNat_and]
        exact Nat.and_le_right
      show (Int32.ofUInt32 (u &&& 127)).toBitVec.toInt = _
      rw [BitVec.toInt_eq_toNat_cond]
      have : (Int32.ofUInt32 (u &&& 127)).toBitVec.toNat = (u &&& 127).toNat := rfl
      rw [this, if_pos (by omega)]
    exact h x.toUInt32
  have hu : (x.toUInt32 &&& 127).toNat ≤ 127 := by
    rw [UInt32.toNat_and]
    exact Nat.and_le_right
  omega
theorem ly_once (hall : ∀ c ∈ at_CM ++ at_CA, at_Valid at_XI (pw_P L xs) c) (hL : L ≤ 6) : ∀ (i : Nat) (m : fl_M), i = 0 → m = at_m0 → t2_Z m → fl_Tq (pw_P L xs) 0 18 (lx_lv i) [] m lx_Q := by
  have e6 : (Int8.ofInt 6).toInt32.toInt = 6 := by decide +kernel
  have eL := at_ofN (k := L) (by omega)
  have e7 : (Int32.ofNat L - (Int8.ofInt 6).toInt32).toInt = (L : Int) - 6 := by rw [at_sub32] <;> rw [eL, e6] <;> omega
  have fin : ∀ (i : Nat) (m : fl_M), t2_Z m → fl_Tq (pw_P L xs) 0 2037 (lx_lv i) [] m lx_Q := by
    intro i m hg
    refine fl_Tq.stp (pw_cod lx_k2037) rfl (fl_bo rfl) rfl ?_
    exact fl_Tq.ret (pw_cod lx_k2038) rfl rfl ⟨rfl, hg.1.2.2.h40⟩
  have out : ∀ (i : Nat) (m : fl_M), L < i + 6 → i ≤ 6 → t2_Z m → fl_Tq (pw_P L xs) 0 18 (lx_lv i) [] m lx_Q := by
    intro i m hd hi hg
    have ei := at_ofN (k := i) (by omega)
    refine fl_Tq.stp rfl rfl (fl_bo rfl) rfl ?_
    refine fl_Tq.stp rfl rfl (fl_bo rfl) rfl ?_
    refine fl_Tq.stp rfl rfl (fl_bo rfl) rfl ?_
    refine fl_Tq.stp rfl rfl (fl_bo rfl) rfl ?_
    refine fl_Tq.stp rfl rfl (fl_bo rfl) rfl ?_
    refine fl_Tq.jt rfl (fl_bo rfl) ?_ rfl ?_
    · rw [at_c2, ei, e7]
      exact decide_eq_true (by omega)
    exact fin i m hg
  intro i m hi h0 hg
  have ei := at_ofN (k := i) (by omega)
  refine fl_Tq.stp rfl rfl (fl_bo rfl) rfl ?_
  refine fl_Tq.stp rfl rfl (fl_bo rfl) rfl ?_
  refine fl_Tq.stp rfl rfl (fl_bo rfl) rfl ?_
  refine fl_Tq.stp rfl rfl (fl_bo rfl) rfl ?_
  refine fl_Tq.stp rfl rfl (fl_bo rfl) rfl ?_
  by_cases hgo : L < i + 6
  · refine fl_Tq.jt rfl (fl_bo rfl) ?_ rfl ?_
    · rw [at_c2, ei, e7]
      exact decide_eq_true (by omega)
    exact fin i m hg
  refine fl_Tq.jf rfl (fl_bo rfl) ?_ rfl ?_
  · rw [at_c2, ei, e7]
    exact decide_eq_false (by omega)
  have back : ∀ m' : fl_M, t2_Z m' → fl_Tq (pw_P L xs) 0 2031 (lx_lv i) [] m' lx_Q := by
    intro m' hg'
    refine fl_Tq.stp (pw_cod lx_k2031) rfl (fl_bo rfl) rfl ?_
    refine fl_Tq.stp (pw_cod lx_k2034) rfl (fl_bo rfl) rfl ?_
    have := out (i + 6) m' (by omega) (by omega) hg'
    have e : Int32.ofNat i + Int32.ofInt 6 = Int32.ofNat (i + 6) := by
      have e1 : (Int32.ofInt 6).toInt = 6 := rfl
      refine Int32.toInt.inj ?_
      rw [at_add32 (by omega) (by omega), ei, e1, at_ofN (by omega)]
      omega
    unfold lx_lv at this
    rw [← e] at this
    exact this
  refine fl_Tq.stp rfl rfl (fl_bo rfl) rfl ?_
  refine fl_Tq.stp rfl rfl (fl_bo rfl) rfl ?_
  refine fl_Tq.tld (n := L) (f := xs) (k := i) rfl (fl_bo rfl) rfl ei (by omega) ?_
  refine fl_Tq.stp rfl rfl (fl_bo rfl) rfl ?_
  refine fl_Tq.stp rfl rfl (fl_bo rfl) rfl ?_
  have hx := lx_and (xs i)
  generalize hxg : xs i &&& (Int8.ofInt 127).toInt32 = x at hx
  obtain ⟨z, hz⟩ : ∃ z : Nat, x.toInt = z := ⟨x.toInt.toNat, by omega⟩
  have hxz : x = Int32.ofNat z := Int32.toInt.inj (by rw [at_ofN (by omega)]; exact hz)
  by_cases hz2 : z < 68
  · have h1 := List.all_eq_true.mp lx_swt z (List.mem_range.mpr hz2)
    simp only [Bool.and_eq_true, decide_eq_true_eq] at h1
    obtain ⟨s1, s2⟩ := h1
    refine fl_Tq.stp (pc' := lx_tg.getD z 0) (lv' := lx_lv i) (st' := []) (m' := m) rfl rfl (fl_bo rfl) ?_ (ly_case hall (by omega) (by omega) hg h0 back z hz2)
    show (bif am_swk (xs i &&& (Int8.ofInt 127).toInt32) 0 67 _ then fl_go 33 (am_sw (xs i &&& (Int8.ofInt 127).toInt32) 1998 0 67 _) (lx_lv i) [] m else none) = _
    rw [hxg, hxz, s1]
    show fl_go 33 _ (lx_lv i) [] m = _
    unfold fl_go
    rw [s2]
  · refine fl_Tq.stp (pc' := 2031) (lv' := lx_lv i) (st' := []) (m' := m) rfl rfl (fl_bo rfl) ?_ (back m hg)
    show (bif am_swk (xs i &&& (Int8.ofInt 127).toInt32) 0 67 _ then fl_go 33 (am_sw (xs i &&& (Int8.ofInt 127).toInt32) 1998 0 67 _) (lx_lv i) [] m else none) = _
    rw [hxg]
    have h1 : x.toInt < 0 ∨ 67 < x.toInt := by omega
    unfold am_swk am_sw
    rw [decide_eq_true h1, if_pos h1]
    rfl
/-- THE LAW'S RUN -/
theorem ly_run (hall : ∀ c ∈ at_CM ++ at_CA, at_Valid at_XI (pw_P L xs) c) (hL : L ≤ 6) : pw_Run L xs := by
  refine pw_Run_of (am_To.mono (at_boot (Q := lx_Q) ?_) ?_)
  · refine fl_Tq.stp rfl rfl (fl_bo rfl) rfl ?_
    refine fl_Tq.stp rfl rfl (fl_bo rfl) rfl ?_
    refine fl_Tq.stp rfl rfl (fl_bo rfl) rfl ?_
    exact ly_once hall hL 0 at_m0 rfl rfl t2_Z0
  · rintro v M ⟨v', m', rfl, rfl, rfl, h⟩
    refine ⟨rfl, ?_, ?_⟩
    · show (fl_H m').1.length ≤ 600000
      unfold fl_H fl_N
      simp
      omega
    · show fl_S m'.2.2 ≤ 7302250
      unfold fl_S
      omega
end LWLP

end

/-! 95.60.law.lean.txt -/
section
/-- THE LAW COMES TO ITS END WITH 1 -/
theorem pw_law (L : Nat) (xs : Nat → Int32) (hL : L ≤ 6) : pw_Run L xs := by
  exact ly_run at_hall hL
/-- THE LAW, from its entry -/
theorem whole_start {p : Program} {e : Env} {s : State} {m : MethodId} {below : List Frame} {meth : Method} {c : Code} (l : Launch) (hflags : l.flags = flags0) {b L : Nat} {xs : Nat → Int32} (hL : L ≤ 6) (C0 : lw_At p s m meth c b L xs) : W p l e room_1 s m #[Value.ref b] below meth c s.heap [] 0 0 (lw_Z below #[Value.ref b] s) (entryFrame m ([Value.ref b] : List Value).toArray 4) := pw_start l (pw_law L xs hL) C0

end
