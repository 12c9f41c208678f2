/-! ===== printed by wip/gen/lawgen3.py: the law's cases ===== -/
theorem ly_c17 {L : Nat} {xs : Nat → Int32} {m : fl_M} {Q : Option fl_V → fl_M → Prop} {i : Nat} (hall : ∀ c ∈ at_CM ++ at_CA, at_Valid at_XI (pw_P L xs) c) (hL : L ≤ 3072) (hi : i + 6 ≤ L) (hg : t2_Z m) (kk : ∀ m' : fl_M, t2_Z m' → fl_Tq (pw_P L xs) 0 2030 (lx_lv i) [] m' Q) : fl_Tq (pw_P L xs) 0 807 (lx_lv i) [] m Q := by
  obtain ⟨f, l⟩ := m
  refine fl_Tq.stp (pw_cod lx_k807) rfl (fl_bo rfl) rfl ?_
  refine lx_callG (as_ := [lx_x]) (rest := []) (pw_cod lx_k808) (pw_cll lx_l89) rfl (fl_bo rfl) rfl rfl (t2_stepG (ar := [at_this]) (hall _ at_c118_in) (hall _ at_c267_in) rfl rfl hg ⟨lx_kx _, True.intro⟩ rfl (fun _ => ⟨at_k277 _, True.intro⟩) rfl (t2_drive hall hg)) (fun v1 m1 hg1 => ?_)
  obtain ⟨⟨y1, rfl⟩, hg1⟩ := hg1
  refine fl_Tq.stp (pw_cod lx_k811) rfl (fl_bo rfl) rfl ?_
  refine fl_Tq.stp (pw_cod lx_k812) rfl (fl_bo rfl) rfl ?_
  refine lx_callG (as_ := [at_this]) (rest := []) (pw_cod lx_k813) (pw_cll lx_l92) rfl (fl_bo rfl) rfl rfl hg1 (fun v2 m2 hg2 => ?_)
  obtain ⟨rfl, hg2⟩ := hg2
  refine fl_Tq.stp (pw_cod lx_k816) rfl (fl_bo rfl) rfl ?_
  refine fl_Tq.stp (pw_cod lx_k817) rfl (fl_bo rfl) rfl ?_
  exact kk m2 hg2
theorem ly_c18 {L : Nat} {xs : Nat → Int32} {m : fl_M} {Q : Option fl_V → fl_M → Prop} {i : Nat} (hall : ∀ c ∈ at_CM ++ at_CA, at_Valid at_XI (pw_P L xs) c) (hL : L ≤ 3072) (hi : i + 6 ≤ L) (hg : t2_Z m) (kk : ∀ m' : fl_M, t2_Z m' → fl_Tq (pw_P L xs) 0 2030 (lx_lv i) [] m' Q) : fl_Tq (pw_P L xs) 0 820 (lx_lv i) [] m Q := by
  obtain ⟨f, l⟩ := m
  refine fl_Tq.stp (pw_cod lx_k820) rfl (fl_bo rfl) rfl ?_
  refine lx_callG (as_ := [lx_x]) (rest := []) (pw_cod lx_k821) (pw_cll lx_l93) rfl (fl_bo rfl) rfl rfl (t2_step (ar := [at_this]) (hall _ at_c119_in) (hall _ at_c242_in) rfl rfl hg ⟨lx_kx _, True.intro⟩ rfl (fun _ => ⟨at_k277 _, True.intro⟩) rfl (t2_undo hg)) (fun v1 m1 hg1 => ?_)
  obtain ⟨⟨y1, rfl⟩, hg1⟩ := hg1
  refine fl_Tq.stp (pw_cod lx_k824) rfl (fl_bo rfl) rfl ?_
  refine fl_Tq.stp (pw_cod lx_k825) rfl (fl_bo rfl) rfl ?_
  refine lx_callG (as_ := [at_this]) (rest := []) (pw_cod lx_k826) (pw_cll lx_l96) rfl (fl_bo rfl) rfl rfl hg1 (fun v2 m2 hg2 => ?_)
  obtain ⟨rfl, hg2⟩ := hg2
  refine fl_Tq.stp (pw_cod lx_k829) rfl (fl_bo rfl) rfl ?_
  refine fl_Tq.stp (pw_cod lx_k830) rfl (fl_bo rfl) rfl ?_
  exact kk m2 hg2
theorem ly_c19 {L : Nat} {xs : Nat → Int32} {m : fl_M} {Q : Option fl_V → fl_M → Prop} {i : Nat} (hall : ∀ c ∈ at_CM ++ at_CA, at_Valid at_XI (pw_P L xs) c) (hL : L ≤ 3072) (hi : i + 6 ≤ L) (hg : t2_Z m) (kk : ∀ m' : fl_M, t2_Z m' → fl_Tq (pw_P L xs) 0 2030 (lx_lv i) [] m' Q) : fl_Tq (pw_P L xs) 0 833 (lx_lv i) [] m Q := by
  obtain ⟨f, l⟩ := m
  refine fl_Tq.stp (pw_cod lx_k833) rfl (fl_bo rfl) rfl ?_
  refine lx_arg (i := i) (jn := 1) (pw_cod lx_k834) (pw_cod lx_k835) (pw_cod lx_k836) (pw_cod lx_k837) (pw_cod lx_k838) rfl (fl_bo rfl) hL (by omega) ?_
  refine lx_callG (as_ := [lx_x, .inl (xs (i + 1))]) (rest := []) (pw_cod lx_k839) (pw_cll lx_l97) rfl (fl_bo rfl) rfl rfl (t2_qcall (hall _ at_c122_in) rfl hg ⟨lx_kx _, lx_ki _, True.intro⟩ rfl rfl rfl) (fun v1 m1 hg1 => ?_)
  obtain ⟨⟨y1, rfl⟩, hg1⟩ := hg1
  refine fl_Tq.stp (pw_cod lx_k842) rfl (fl_bo rfl) rfl ?_
  refine fl_Tq.stp (pw_cod lx_k843) rfl (fl_bo rfl) rfl ?_
  refine lx_arg (i := i) (jn := 1) (pw_cod lx_k844) (pw_cod lx_k845) (pw_cod lx_k846) (pw_cod lx_k847) (pw_cod lx_k848) rfl (fl_bo rfl) hL (by omega) ?_
  refine lx_callG (as_ := [at_this, .inl (xs (i + 1))]) (rest := []) (pw_cod lx_k849) (pw_cll lx_l100) rfl (fl_bo rfl) rfl rfl (t2_qcall (hall _ at_c268_in) rfl hg1 ⟨at_k277 _, lx_ki _, True.intro⟩ rfl rfl rfl) (fun v2 m2 hg2 => ?_)
  obtain ⟨⟨y2, rfl⟩, hg2⟩ := hg2
  refine fl_Tq.stp (pw_cod lx_k852) rfl (fl_bo rfl) rfl ?_
  refine fl_Tq.stp (pw_cod lx_k853) rfl (fl_bo rfl) rfl ?_
  exact kk m2 hg2
theorem ly_c20 {L : Nat} {xs : Nat → Int32} {m : fl_M} {Q : Option fl_V → fl_M → Prop} {i : Nat} (hall : ∀ c ∈ at_CM ++ at_CA, at_Valid at_XI (pw_P L xs) c) (hL : L ≤ 3072) (hi : i + 6 ≤ L) (hg : t2_Z m) (kk : ∀ m' : fl_M, t2_Z m' → fl_Tq (pw_P L xs) 0 2030 (lx_lv i) [] m' Q) : fl_Tq (pw_P L xs) 0 856 (lx_lv i) [] m Q := by
  obtain ⟨f, l⟩ := m
  refine fl_Tq.stp (pw_cod lx_k856) rfl (fl_bo rfl) rfl ?_
  refine lx_arg (i := i) (jn := 1) (pw_cod lx_k857) (pw_cod lx_k858) (pw_cod lx_k859) (pw_cod lx_k860) (pw_cod lx_k861) rfl (fl_bo rfl) hL (by omega) ?_
  refine lx_callG (as_ := [lx_x, .inl (xs (i + 1))]) (rest := []) (pw_cod lx_k862) (pw_cll lx_l101) rfl (fl_bo rfl) rfl rfl (t2_qcall (hall _ at_c123_in) rfl hg ⟨lx_kx _, lx_ki _, True.intro⟩ rfl rfl rfl) (fun v1 m1 hg1 => ?_)
  obtain ⟨⟨y1, rfl⟩, hg1⟩ := hg1
  refine fl_Tq.stp (pw_cod lx_k865) rfl (fl_bo rfl) rfl ?_
  refine fl_Tq.stp (pw_cod lx_k866) rfl (fl_bo rfl) rfl ?_
  refine lx_arg (i := i) (jn := 1) (pw_cod lx_k867) (pw_cod lx_k868) (pw_cod lx_k869) (pw_cod lx_k870) (pw_cod lx_k871) rfl (fl_bo rfl) hL (by omega) ?_
  refine lx_callG (as_ := [at_this, .inl (xs (i + 1))]) (rest := []) (pw_cod lx_k872) (pw_cll lx_l104) rfl (fl_bo rfl) rfl rfl (t2_qcall (hall _ at_c269_in) rfl hg1 ⟨at_k277 _, lx_ki _, True.intro⟩ rfl rfl rfl) (fun v2 m2 hg2 => ?_)
  obtain ⟨⟨y2, rfl⟩, hg2⟩ := hg2
  refine fl_Tq.stp (pw_cod lx_k875) rfl (fl_bo rfl) rfl ?_
  refine fl_Tq.stp (pw_cod lx_k876) rfl (fl_bo rfl) rfl ?_
  exact kk m2 hg2
theorem ly_c21 {L : Nat} {xs : Nat → Int32} {m : fl_M} {Q : Option fl_V → fl_M → Prop} {i : Nat} (hall : ∀ c ∈ at_CM ++ at_CA, at_Valid at_XI (pw_P L xs) c) (hL : L ≤ 3072) (hi : i + 6 ≤ L) (hg : t2_Z m) (kk : ∀ m' : fl_M, t2_Z m' → fl_Tq (pw_P L xs) 0 2030 (lx_lv i) [] m' Q) : fl_Tq (pw_P L xs) 0 879 (lx_lv i) [] m Q := by
  obtain ⟨f, l⟩ := m
  refine fl_Tq.stp (pw_cod lx_k879) rfl (fl_bo rfl) rfl ?_
  refine lx_arg (i := i) (jn := 1) (pw_cod lx_k880) (pw_cod lx_k881) (pw_cod lx_k882) (pw_cod lx_k883) (pw_cod lx_k884) rfl (fl_bo rfl) hL (by omega) ?_
  refine lx_arg (i := i) (jn := 2) (pw_cod lx_k885) (pw_cod lx_k886) (pw_cod lx_k887) (pw_cod lx_k888) (pw_cod lx_k889) rfl (fl_bo rfl) hL (by omega) ?_
  refine lx_callG (as_ := [lx_x, .inl (xs (i + 1)), .inl (xs (i + 2))]) (rest := []) (pw_cod lx_k890) (pw_cll lx_l105) rfl (fl_bo rfl) rfl rfl (t2_qcall (hall _ at_c124_in) rfl hg ⟨lx_kx _, lx_ki _, lx_ki _, True.intro⟩ rfl rfl rfl) (fun v1 m1 hg1 => ?_)
  obtain ⟨⟨y1, rfl⟩, hg1⟩ := hg1
  refine fl_Tq.stp (pw_cod lx_k893) rfl (fl_bo rfl) rfl ?_
  refine fl_Tq.stp (pw_cod lx_k894) rfl (fl_bo rfl) rfl ?_
  refine lx_arg (i := i) (jn := 1) (pw_cod lx_k895) (pw_cod lx_k896) (pw_cod lx_k897) (pw_cod lx_k898) (pw_cod lx_k899) rfl (fl_bo rfl) hL (by omega) ?_
  refine lx_arg (i := i) (jn := 2) (pw_cod lx_k900) (pw_cod lx_k901) (pw_cod lx_k902) (pw_cod lx_k903) (pw_cod lx_k904) rfl (fl_bo rfl) hL (by omega) ?_
  refine lx_callG (as_ := [at_this, .inl (xs (i + 1)), .inl (xs (i + 2))]) (rest := []) (pw_cod lx_k905) (pw_cll lx_l108) rfl (fl_bo rfl) rfl rfl (t2_qcall (hall _ at_c271_in) rfl hg1 ⟨at_k277 _, lx_ki _, lx_ki _, True.intro⟩ rfl rfl rfl) (fun v2 m2 hg2 => ?_)
  obtain ⟨⟨y2, rfl⟩, hg2⟩ := hg2
  refine fl_Tq.stp (pw_cod lx_k908) rfl (fl_bo rfl) rfl ?_
  refine fl_Tq.stp (pw_cod lx_k909) rfl (fl_bo rfl) rfl ?_
  exact kk m2 hg2
theorem ly_c22 {L : Nat} {xs : Nat → Int32} {m : fl_M} {Q : Option fl_V → fl_M → Prop} {i : Nat} (hall : ∀ c ∈ at_CM ++ at_CA, at_Valid at_XI (pw_P L xs) c) (hL : L ≤ 3072) (hi : i + 6 ≤ L) (hg : t2_Z m) (kk : ∀ m' : fl_M, t2_Z m' → fl_Tq (pw_P L xs) 0 2030 (lx_lv i) [] m' Q) : fl_Tq (pw_P L xs) 0 912 (lx_lv i) [] m Q := by
  obtain ⟨f, l⟩ := m
  refine fl_Tq.stp (pw_cod lx_k912) rfl (fl_bo rfl) rfl ?_
  refine lx_arg (i := i) (jn := 1) (pw_cod lx_k913) (pw_cod lx_k914) (pw_cod lx_k915) (pw_cod lx_k916) (pw_cod lx_k917) rfl (fl_bo rfl) hL (by omega) ?_
  refine lx_arg (i := i) (jn := 2) (pw_cod lx_k918) (pw_cod lx_k919) (pw_cod lx_k920) (pw_cod lx_k921) (pw_cod lx_k922) rfl (fl_bo rfl) hL (by omega) ?_
  refine lx_callG (as_ := [lx_x, .inl (xs (i + 1)), .inl (xs (i + 2))]) (rest := []) (pw_cod lx_k923) (pw_cll lx_l109) rfl (fl_bo rfl) rfl rfl (t2_qcall (hall _ at_c125_in) rfl hg ⟨lx_kx _, lx_ki _, lx_ki _, True.intro⟩ rfl rfl rfl) (fun v1 m1 hg1 => ?_)
  obtain ⟨⟨y1, rfl⟩, hg1⟩ := hg1
  refine fl_Tq.stp (pw_cod lx_k926) rfl (fl_bo rfl) rfl ?_
  refine fl_Tq.stp (pw_cod lx_k927) rfl (fl_bo rfl) rfl ?_
  refine lx_arg (i := i) (jn := 1) (pw_cod lx_k928) (pw_cod lx_k929) (pw_cod lx_k930) (pw_cod lx_k931) (pw_cod lx_k932) rfl (fl_bo rfl) hL (by omega) ?_
  refine lx_arg (i := i) (jn := 2) (pw_cod lx_k933) (pw_cod lx_k934) (pw_cod lx_k935) (pw_cod lx_k936) (pw_cod lx_k937) rfl (fl_bo rfl) hL (by omega) ?_
  refine lx_callG (as_ := [at_this, .inl (xs (i + 1)), .inl (xs (i + 2))]) (rest := []) (pw_cod lx_k938) (pw_cll lx_l112) rfl (fl_bo rfl) rfl rfl (t2_qcall (hall _ at_c272_in) rfl hg1 ⟨at_k277 _, lx_ki _, lx_ki _, True.intro⟩ rfl rfl rfl) (fun v2 m2 hg2 => ?_)
  obtain ⟨⟨y2, rfl⟩, hg2⟩ := hg2
  refine fl_Tq.stp (pw_cod lx_k941) rfl (fl_bo rfl) rfl ?_
  refine fl_Tq.stp (pw_cod lx_k942) rfl (fl_bo rfl) rfl ?_
  exact kk m2 hg2
theorem ly_c23 {L : Nat} {xs : Nat → Int32} {m : fl_M} {Q : Option fl_V → fl_M → Prop} {i : Nat} (hall : ∀ c ∈ at_CM ++ at_CA, at_Valid at_XI (pw_P L xs) c) (hL : L ≤ 3072) (hi : i + 6 ≤ L) (hg : t2_Z m) (kk : ∀ m' : fl_M, t2_Z m' → fl_Tq (pw_P L xs) 0 2030 (lx_lv i) [] m' Q) : fl_Tq (pw_P L xs) 0 945 (lx_lv i) [] m Q := by
  obtain ⟨f, l⟩ := m
  refine fl_Tq.stp (pw_cod lx_k945) rfl (fl_bo rfl) rfl ?_
  refine lx_arg (i := i) (jn := 1) (pw_cod lx_k946) (pw_cod lx_k947) (pw_cod lx_k948) (pw_cod lx_k949) (pw_cod lx_k950) rfl (fl_bo rfl) hL (by omega) ?_
  refine lx_arg (i := i) (jn := 2) (pw_cod lx_k951) (pw_cod lx_k952) (pw_cod lx_k953) (pw_cod lx_k954) (pw_cod lx_k955) rfl (fl_bo rfl) hL (by omega) ?_
  refine lx_callG (as_ := [lx_x, .inl (xs (i + 1)), .inl (xs (i + 2))]) (rest := []) (pw_cod lx_k956) (pw_cll lx_l113) rfl (fl_bo rfl) rfl rfl (t2_qcall (hall _ at_c126_in) rfl hg ⟨lx_kx _, lx_ki _, lx_ki _, True.intro⟩ rfl rfl rfl) (fun v1 m1 hg1 => ?_)
  obtain ⟨⟨y1, rfl⟩, hg1⟩ := hg1
  refine fl_Tq.stp (pw_cod lx_k959) rfl (fl_bo rfl) rfl ?_
  refine fl_Tq.stp (pw_cod lx_k960) rfl (fl_bo rfl) rfl ?_
  refine lx_arg (i := i) (jn := 1) (pw_cod lx_k961) (pw_cod lx_k962) (pw_cod lx_k963) (pw_cod lx_k964) (pw_cod lx_k965) rfl (fl_bo rfl) hL (by omega) ?_
  refine lx_arg (i := i) (jn := 2) (pw_cod lx_k966) (pw_cod lx_k967) (pw_cod lx_k968) (pw_cod lx_k969) (pw_cod lx_k970) rfl (fl_bo rfl) hL (by omega) ?_
  refine lx_callG (as_ := [at_this, .inl (xs (i + 1)), .inl (xs (i + 2))]) (rest := []) (pw_cod lx_k971) (pw_cll lx_l116) rfl (fl_bo rfl) rfl rfl (t2_qcall (hall _ at_c273_in) rfl hg1 ⟨at_k277 _, lx_ki _, lx_ki _, True.intro⟩ rfl rfl rfl) (fun v2 m2 hg2 => ?_)
  obtain ⟨⟨y2, rfl⟩, hg2⟩ := hg2
  refine fl_Tq.stp (pw_cod lx_k974) rfl (fl_bo rfl) rfl ?_
  refine fl_Tq.stp (pw_cod lx_k975) rfl (fl_bo rfl) rfl ?_
  exact kk m2 hg2
theorem ly_c24 {L : Nat} {xs : Nat → Int32} {m : fl_M} {Q : Option fl_V → fl_M → Prop} {i : Nat} (hall : ∀ c ∈ at_CM ++ at_CA, at_Valid at_XI (pw_P L xs) c) (hL : L ≤ 3072) (hi : i + 6 ≤ L) (hg : t2_Z m) (kk : ∀ m' : fl_M, t2_Z m' → fl_Tq (pw_P L xs) 0 2030 (lx_lv i) [] m' Q) : fl_Tq (pw_P L xs) 0 978 (lx_lv i) [] m Q := by
  obtain ⟨f, l⟩ := m
  refine fl_Tq.stp (pw_cod lx_k978) rfl (fl_bo rfl) rfl ?_
  refine lx_arg (i := i) (jn := 1) (pw_cod lx_k979) (pw_cod lx_k980) (pw_cod lx_k981) (pw_cod lx_k982) (pw_cod lx_k983) rfl (fl_bo rfl) hL (by omega) ?_
  refine lx_arg (i := i) (jn := 2) (pw_cod lx_k984) (pw_cod lx_k985) (pw_cod lx_k986) (pw_cod lx_k987) (pw_cod lx_k988) rfl (fl_bo rfl) hL (by omega) ?_
  refine lx_callG (as_ := [lx_x, .inl (xs (i + 1)), .inl (xs (i + 2))]) (rest := []) (pw_cod lx_k989) (pw_cll lx_l117) rfl (fl_bo rfl) rfl rfl (t2_qcall (hall _ at_c127_in) rfl hg ⟨lx_kx _, lx_ki _, lx_ki _, True.intro⟩ rfl rfl rfl) (fun v1 m1 hg1 => ?_)
  obtain ⟨⟨y1, rfl⟩, hg1⟩ := hg1
  refine fl_Tq.stp (pw_cod lx_k992) rfl (fl_bo rfl) rfl ?_
  refine fl_Tq.stp (pw_cod lx_k993) rfl (fl_bo rfl) rfl ?_
  refine lx_arg (i := i) (jn := 1) (pw_cod lx_k994) (pw_cod lx_k995) (pw_cod lx_k996) (pw_cod lx_k997) (pw_cod lx_k998) rfl (fl_bo rfl) hL (by omega) ?_
  refine lx_arg (i := i) (jn := 2) (pw_cod lx_k999) (pw_cod lx_k1000) (pw_cod lx_k1001) (pw_cod lx_k1002) (pw_cod lx_k1003) rfl (fl_bo rfl) hL (by omega) ?_
  refine lx_callG (as_ := [at_this, .inl (xs (i + 1)), .inl (xs (i + 2))]) (rest := []) (pw_cod lx_k1004) (pw_cll lx_l120) rfl (fl_bo rfl) rfl rfl (t2_qcall (hall _ at_c274_in) rfl hg1 ⟨at_k277 _, lx_ki _, lx_ki _, True.intro⟩ rfl rfl rfl) (fun v2 m2 hg2 => ?_)
  obtain ⟨⟨y2, rfl⟩, hg2⟩ := hg2
  refine fl_Tq.stp (pw_cod lx_k1007) rfl (fl_bo rfl) rfl ?_
  refine fl_Tq.stp (pw_cod lx_k1008) rfl (fl_bo rfl) rfl ?_
  exact kk m2 hg2
theorem ly_c25 {L : Nat} {xs : Nat → Int32} {m : fl_M} {Q : Option fl_V → fl_M → Prop} {i : Nat} (hall : ∀ c ∈ at_CM ++ at_CA, at_Valid at_XI (pw_P L xs) c) (hL : L ≤ 3072) (hi : i + 6 ≤ L) (hg : t2_Z m) (kk : ∀ m' : fl_M, t2_Z m' → fl_Tq (pw_P L xs) 0 2030 (lx_lv i) [] m' Q) : fl_Tq (pw_P L xs) 0 1011 (lx_lv i) [] m Q := by
  obtain ⟨f, l⟩ := m
  refine fl_Tq.stp (pw_cod lx_k1011) rfl (fl_bo rfl) rfl ?_
  refine lx_arg (i := i) (jn := 1) (pw_cod lx_k1012) (pw_cod lx_k1013) (pw_cod lx_k1014) (pw_cod lx_k1015) (pw_cod lx_k1016) rfl (fl_bo rfl) hL (by omega) ?_
  refine lx_arg (i := i) (jn := 2) (pw_cod lx_k1017) (pw_cod lx_k1018) (pw_cod lx_k1019) (pw_cod lx_k1020) (pw_cod lx_k1021) rfl (fl_bo rfl) hL (by omega) ?_
  refine lx_callG (as_ := [lx_x, .inl (xs (i + 1)), .inl (xs (i + 2))]) (rest := []) (pw_cod lx_k1022) (pw_cll lx_l121) rfl (fl_bo rfl) rfl rfl (t2_qcall (hall _ at_c128_in) rfl hg ⟨lx_kx _, lx_ki _, lx_ki _, True.intro⟩ rfl rfl rfl) (fun v1 m1 hg1 => ?_)
  obtain ⟨⟨y1, rfl⟩, hg1⟩ := hg1
  refine fl_Tq.stp (pw_cod lx_k1025) rfl (fl_bo rfl) rfl ?_
  refine fl_Tq.stp (pw_cod lx_k1026) rfl (fl_bo rfl) rfl ?_
  refine lx_arg (i := i) (jn := 1) (pw_cod lx_k1027) (pw_cod lx_k1028) (pw_cod lx_k1029) (pw_cod lx_k1030) (pw_cod lx_k1031) rfl (fl_bo rfl) hL (by omega) ?_
  refine lx_arg (i := i) (jn := 2) (pw_cod lx_k1032) (pw_cod lx_k1033) (pw_cod lx_k1034) (pw_cod lx_k1035) (pw_cod lx_k1036) rfl (fl_bo rfl) hL (by omega) ?_
  refine lx_callG (as_ := [at_this, .inl (xs (i + 1)), .inl (xs (i + 2))]) (rest := []) (pw_cod lx_k1037) (pw_cll lx_l124) rfl (fl_bo rfl) rfl rfl (t2_qcall (hall _ at_c275_in) rfl hg1 ⟨at_k277 _, lx_ki _, lx_ki _, True.intro⟩ rfl rfl rfl) (fun v2 m2 hg2 => ?_)
  obtain ⟨⟨y2, rfl⟩, hg2⟩ := hg2
  refine fl_Tq.stp (pw_cod lx_k1040) rfl (fl_bo rfl) rfl ?_
  refine fl_Tq.stp (pw_cod lx_k1041) rfl (fl_bo rfl) rfl ?_
  exact kk m2 hg2
theorem ly_c26 {L : Nat} {xs : Nat → Int32} {m : fl_M} {Q : Option fl_V → fl_M → Prop} {i : Nat} (hall : ∀ c ∈ at_CM ++ at_CA, at_Valid at_XI (pw_P L xs) c) (hL : L ≤ 3072) (hi : i + 6 ≤ L) (hg : t2_Z m) (kk : ∀ m' : fl_M, t2_Z m' → fl_Tq (pw_P L xs) 0 2030 (lx_lv i) [] m' Q) : fl_Tq (pw_P L xs) 0 1044 (lx_lv i) [] m Q := by
  obtain ⟨f, l⟩ := m
  refine fl_Tq.stp (pw_cod lx_k1044) rfl (fl_bo rfl) rfl ?_
  refine lx_arg (i := i) (jn := 1) (pw_cod lx_k1045) (pw_cod lx_k1046) (pw_cod lx_k1047) (pw_cod lx_k1048) (pw_cod lx_k1049) rfl (fl_bo rfl) hL (by omega) ?_
  refine lx_arg (i := i) (jn := 2) (pw_cod lx_k1050) (pw_cod lx_k1051) (pw_cod lx_k1052) (pw_cod lx_k1053) (pw_cod lx_k1054) rfl (fl_bo rfl) hL (by omega) ?_
  refine lx_callG (as_ := [lx_x, .inl (xs (i + 1)), .inl (xs (i + 2))]) (rest := []) (pw_cod lx_k1055) (pw_cll lx_l125) rfl (fl_bo rfl) rfl rfl (t2_qcall (hall _ at_c129_in) rfl hg ⟨lx_kx _, lx_ki _, lx_ki _, True.intro⟩ rfl rfl rfl) (fun v1 m1 hg1 => ?_)
  obtain ⟨⟨y1, rfl⟩, hg1⟩ := hg1
  refine fl_Tq.stp (pw_cod lx_k1058) rfl (fl_bo rfl) rfl ?_
  refine fl_Tq.stp (pw_cod lx_k1059) rfl (fl_bo rfl) rfl ?_
  refine lx_arg (i := i) (jn := 1) (pw_cod lx_k1060) (pw_cod lx_k1061) (pw_cod lx_k1062) (pw_cod lx_k1063) (pw_cod lx_k1064) rfl (fl_bo rfl) hL (by omega) ?_
  refine lx_arg (i := i) (jn := 2) (pw_cod lx_k1065) (pw_cod lx_k1066) (pw_cod lx_k1067) (pw_cod lx_k1068) (pw_cod lx_k1069) rfl (fl_bo rfl) hL (by omega) ?_
  refine lx_callG (as_ := [at_this, .inl (xs (i + 1)), .inl (xs (i + 2))]) (rest := []) (pw_cod lx_k1070) (pw_cll lx_l128) rfl (fl_bo rfl) rfl rfl (t2_qcall (hall _ at_c276_in) rfl hg1 ⟨at_k277 _, lx_ki _, lx_ki _, True.intro⟩ rfl rfl rfl) (fun v2 m2 hg2 => ?_)
  obtain ⟨⟨y2, rfl⟩, hg2⟩ := hg2
  refine fl_Tq.stp (pw_cod lx_k1073) rfl (fl_bo rfl) rfl ?_
  refine fl_Tq.stp (pw_cod lx_k1074) rfl (fl_bo rfl) rfl ?_
  exact kk m2 hg2
theorem ly_c27 {L : Nat} {xs : Nat → Int32} {m : fl_M} {Q : Option fl_V → fl_M → Prop} {i : Nat} (hall : ∀ c ∈ at_CM ++ at_CA, at_Valid at_XI (pw_P L xs) c) (hL : L ≤ 3072) (hi : i + 6 ≤ L) (hg : t2_Z m) (kk : ∀ m' : fl_M, t2_Z m' → fl_Tq (pw_P L xs) 0 2030 (lx_lv i) [] m' Q) : fl_Tq (pw_P L xs) 0 1077 (lx_lv i) [] m Q := by
  obtain ⟨f, l⟩ := m
  refine fl_Tq.stp (pw_cod lx_k1077) rfl (fl_bo rfl) rfl ?_
  refine lx_arg (i := i) (jn := 1) (pw_cod lx_k1078) (pw_cod lx_k1079) (pw_cod lx_k1080) (pw_cod lx_k1081) (pw_cod lx_k1082) rfl (fl_bo rfl) hL (by omega) ?_
  refine lx_callG (as_ := [lx_x, .inl (xs (i + 1))]) (rest := []) (pw_cod lx_k1083) (pw_cll lx_l129) rfl (fl_bo rfl) rfl rfl (t2_qcall (hall _ at_c130_in) rfl hg ⟨lx_kx _, lx_ki _, True.intro⟩ rfl rfl rfl) (fun v1 m1 hg1 => ?_)
  obtain ⟨⟨y1, rfl⟩, hg1⟩ := hg1
  refine fl_Tq.stp (pw_cod lx_k1086) rfl (fl_bo rfl) rfl ?_
  refine fl_Tq.stp (pw_cod lx_k1087) rfl (fl_bo rfl) rfl ?_
  refine lx_arg (i := i) (jn := 1) (pw_cod lx_k1088) (pw_cod lx_k1089) (pw_cod lx_k1090) (pw_cod lx_k1091) (pw_cod lx_k1092) rfl (fl_bo rfl) hL (by omega) ?_
  refine lx_callG (as_ := [at_this, .inl (xs (i + 1))]) (rest := []) (pw_cod lx_k1093) (pw_cll lx_l132) rfl (fl_bo rfl) rfl rfl (t2_qcall (hall _ at_c277_in) rfl hg1 ⟨at_k277 _, lx_ki _, True.intro⟩ rfl rfl rfl) (fun v2 m2 hg2 => ?_)
  obtain ⟨⟨y2, rfl⟩, hg2⟩ := hg2
  refine fl_Tq.stp (pw_cod lx_k1096) rfl (fl_bo rfl) rfl ?_
  refine fl_Tq.stp (pw_cod lx_k1097) rfl (fl_bo rfl) rfl ?_
  exact kk m2 hg2
theorem ly_c28 {L : Nat} {xs : Nat → Int32} {m : fl_M} {Q : Option fl_V → fl_M → Prop} {i : Nat} (hall : ∀ c ∈ at_CM ++ at_CA, at_Valid at_XI (pw_P L xs) c) (hL : L ≤ 3072) (hi : i + 6 ≤ L) (hg : t2_Z m) (kk : ∀ m' : fl_M, t2_Z m' → fl_Tq (pw_P L xs) 0 2030 (lx_lv i) [] m' Q) : fl_Tq (pw_P L xs) 0 1100 (lx_lv i) [] m Q := by
  obtain ⟨f, l⟩ := m
  refine fl_Tq.stp (pw_cod lx_k1100) rfl (fl_bo rfl) rfl ?_
  refine lx_callG (as_ := [lx_x]) (rest := []) (pw_cod lx_k1101) (pw_cll lx_l133) rfl (fl_bo rfl) rfl rfl (t2_qcall (hall _ at_c131_in) rfl hg ⟨lx_kx _, True.intro⟩ rfl rfl rfl) (fun v1 m1 hg1 => ?_)
  obtain ⟨⟨y1, rfl⟩, hg1⟩ := hg1
  refine fl_Tq.stp (pw_cod lx_k1104) rfl (fl_bo rfl) rfl ?_
  refine fl_Tq.stp (pw_cod lx_k1105) rfl (fl_bo rfl) rfl ?_
  refine lx_callG (as_ := [at_this]) (rest := []) (pw_cod lx_k1106) (pw_cll lx_l136) rfl (fl_bo rfl) rfl rfl (t2_qcall (hall _ at_c278_in) rfl hg1 ⟨at_k277 _, True.intro⟩ rfl rfl rfl) (fun v2 m2 hg2 => ?_)
  obtain ⟨⟨y2, rfl⟩, hg2⟩ := hg2
  refine fl_Tq.stp (pw_cod lx_k1109) rfl (fl_bo rfl) rfl ?_
  refine fl_Tq.stp (pw_cod lx_k1110) rfl (fl_bo rfl) rfl ?_
  exact kk m2 hg2
theorem ly_c29 {L : Nat} {xs : Nat → Int32} {m : fl_M} {Q : Option fl_V → fl_M → Prop} {i : Nat} (hall : ∀ c ∈ at_CM ++ at_CA, at_Valid at_XI (pw_P L xs) c) (hL : L ≤ 3072) (hi : i + 6 ≤ L) (hg : t2_Z m) (kk : ∀ m' : fl_M, t2_Z m' → fl_Tq (pw_P L xs) 0 2030 (lx_lv i) [] m' Q) : fl_Tq (pw_P L xs) 0 1113 (lx_lv i) [] m Q := by
  obtain ⟨f, l⟩ := m
  refine fl_Tq.stp (pw_cod lx_k1113) rfl (fl_bo rfl) rfl ?_
  refine lx_arg (i := i) (jn := 1) (pw_cod lx_k1114) (pw_cod lx_k1115) (pw_cod lx_k1116) (pw_cod lx_k1117) (pw_cod lx_k1118) rfl (fl_bo rfl) hL (by omega) ?_
  refine lx_callG (as_ := [lx_x, .inl (xs (i + 1))]) (rest := []) (pw_cod lx_k1119) (pw_cll lx_l137) rfl (fl_bo rfl) rfl rfl (t2_qcall (hall _ at_c132_in) rfl hg ⟨lx_kx _, lx_ki _, True.intro⟩ rfl rfl rfl) (fun v1 m1 hg1 => ?_)
  obtain ⟨⟨y1, rfl⟩, hg1⟩ := hg1
  refine fl_Tq.stp (pw_cod lx_k1122) rfl (fl_bo rfl) rfl ?_
  refine fl_Tq.stp (pw_cod lx_k1123) rfl (fl_bo rfl) rfl ?_
  refine lx_arg (i := i) (jn := 1) (pw_cod lx_k1124) (pw_cod lx_k1125) (pw_cod lx_k1126) (pw_cod lx_k1127) (pw_cod lx_k1128) rfl (fl_bo rfl) hL (by omega) ?_
  refine lx_callG (as_ := [at_this, .inl (xs (i + 1))]) (rest := []) (pw_cod lx_k1129) (pw_cll lx_l140) rfl (fl_bo rfl) rfl rfl (t2_qcall (hall _ at_c279_in) rfl hg1 ⟨at_k277 _, lx_ki _, True.intro⟩ rfl rfl rfl) (fun v2 m2 hg2 => ?_)
  obtain ⟨⟨y2, rfl⟩, hg2⟩ := hg2
  refine fl_Tq.stp (pw_cod lx_k1132) rfl (fl_bo rfl) rfl ?_
  refine fl_Tq.stp (pw_cod lx_k1133) rfl (fl_bo rfl) rfl ?_
  exact kk m2 hg2
theorem ly_c30 {L : Nat} {xs : Nat → Int32} {m : fl_M} {Q : Option fl_V → fl_M → Prop} {i : Nat} (hall : ∀ c ∈ at_CM ++ at_CA, at_Valid at_XI (pw_P L xs) c) (hL : L ≤ 3072) (hi : i + 6 ≤ L) (hg : t2_Z m) (kk : ∀ m' : fl_M, t2_Z m' → fl_Tq (pw_P L xs) 0 2030 (lx_lv i) [] m' Q) : fl_Tq (pw_P L xs) 0 1136 (lx_lv i) [] m Q := by
  obtain ⟨f, l⟩ := m
  refine fl_Tq.stp (pw_cod lx_k1136) rfl (fl_bo rfl) rfl ?_
  refine lx_arg (i := i) (jn := 1) (pw_cod lx_k1137) (pw_cod lx_k1138) (pw_cod lx_k1139) (pw_cod lx_k1140) (pw_cod lx_k1141) rfl (fl_bo rfl) hL (by omega) ?_
  refine lx_arg (i := i) (jn := 2) (pw_cod lx_k1142) (pw_cod lx_k1143) (pw_cod lx_k1144) (pw_cod lx_k1145) (pw_cod lx_k1146) rfl (fl_bo rfl) hL (by omega) ?_
  refine lx_callG (as_ := [lx_x, .inl (xs (i + 1)), .inl (xs (i + 2))]) (rest := []) (pw_cod lx_k1147) (pw_cll lx_l141) rfl (fl_bo rfl) rfl rfl (t2_qcall (hall _ at_c133_in) rfl hg ⟨lx_kx _, lx_ki _, lx_ki _, True.intro⟩ rfl rfl rfl) (fun v1 m1 hg1 => ?_)
  obtain ⟨⟨y1, rfl⟩, hg1⟩ := hg1
  refine fl_Tq.stp (pw_cod lx_k1150) rfl (fl_bo rfl) rfl ?_
  refine fl_Tq.stp (pw_cod lx_k1151) rfl (fl_bo rfl) rfl ?_
  refine lx_arg (i := i) (jn := 1) (pw_cod lx_k1152) (pw_cod lx_k1153) (pw_cod lx_k1154) (pw_cod lx_k1155) (pw_cod lx_k1156) rfl (fl_bo rfl) hL (by omega) ?_
  refine lx_arg (i := i) (jn := 2) (pw_cod lx_k1157) (pw_cod lx_k1158) (pw_cod lx_k1159) (pw_cod lx_k1160) (pw_cod lx_k1161) rfl (fl_bo rfl) hL (by omega) ?_
  refine lx_callG (as_ := [at_this, .inl (xs (i + 1)), .inl (xs (i + 2))]) (rest := []) (pw_cod lx_k1162) (pw_cll lx_l144) rfl (fl_bo rfl) rfl rfl (t2_qcall (hall _ at_c280_in) rfl hg1 ⟨at_k277 _, lx_ki _, lx_ki _, True.intro⟩ rfl rfl rfl) (fun v2 m2 hg2 => ?_)
  obtain ⟨⟨y2, rfl⟩, hg2⟩ := hg2
  refine fl_Tq.stp (pw_cod lx_k1165) rfl (fl_bo rfl) rfl ?_
  refine fl_Tq.stp (pw_cod lx_k1166) rfl (fl_bo rfl) rfl ?_
  exact kk m2 hg2
theorem ly_c31 {L : Nat} {xs : Nat → Int32} {m : fl_M} {Q : Option fl_V → fl_M → Prop} {i : Nat} (hall : ∀ c ∈ at_CM ++ at_CA, at_Valid at_XI (pw_P L xs) c) (hL : L ≤ 3072) (hi : i + 6 ≤ L) (hg : t2_Z m) (kk : ∀ m' : fl_M, t2_Z m' → fl_Tq (pw_P L xs) 0 2030 (lx_lv i) [] m' Q) : fl_Tq (pw_P L xs) 0 1169 (lx_lv i) [] m Q := by
  obtain ⟨f, l⟩ := m
  refine fl_Tq.stp (pw_cod lx_k1169) rfl (fl_bo rfl) rfl ?_
  refine lx_arg (i := i) (jn := 1) (pw_cod lx_k1170) (pw_cod lx_k1171) (pw_cod lx_k1172) (pw_cod lx_k1173) (pw_cod lx_k1174) rfl (fl_bo rfl) hL (by omega) ?_
  refine lx_callG (as_ := [lx_x, .inl (xs (i + 1))]) (rest := []) (pw_cod lx_k1175) (pw_cll lx_l145) rfl (fl_bo rfl) rfl rfl (t2_qcall (hall _ at_c134_in) rfl hg ⟨lx_kx _, lx_ki _, True.intro⟩ rfl rfl rfl) (fun v1 m1 hg1 => ?_)
  obtain ⟨⟨y1, rfl⟩, hg1⟩ := hg1
  refine fl_Tq.stp (pw_cod lx_k1178) rfl (fl_bo rfl) rfl ?_
  refine fl_Tq.stp (pw_cod lx_k1179) rfl (fl_bo rfl) rfl ?_
  refine lx_arg (i := i) (jn := 1) (pw_cod lx_k1180) (pw_cod lx_k1181) (pw_cod lx_k1182) (pw_cod lx_k1183) (pw_cod lx_k1184) rfl (fl_bo rfl) hL (by omega) ?_
  refine lx_callG (as_ := [at_this, .inl (xs (i + 1))]) (rest := []) (pw_cod lx_k1185) (pw_cll lx_l148) rfl (fl_bo rfl) rfl rfl (t2_qcall (hall _ at_c298_in) rfl hg1 ⟨at_k277 _, lx_ki _, True.intro⟩ rfl rfl rfl) (fun v2 m2 hg2 => ?_)
  obtain ⟨⟨y2, rfl⟩, hg2⟩ := hg2
  refine fl_Tq.stp (pw_cod lx_k1188) rfl (fl_bo rfl) rfl ?_
  refine fl_Tq.stp (pw_cod lx_k1189) rfl (fl_bo rfl) rfl ?_
  exact kk m2 hg2
theorem ly_c32 {L : Nat} {xs : Nat → Int32} {m : fl_M} {Q : Option fl_V → fl_M → Prop} {i : Nat} (hall : ∀ c ∈ at_CM ++ at_CA, at_Valid at_XI (pw_P L xs) c) (hL : L ≤ 3072) (hi : i + 6 ≤ L) (hg : t2_Z m) (kk : ∀ m' : fl_M, t2_Z m' → fl_Tq (pw_P L xs) 0 2030 (lx_lv i) [] m' Q) : fl_Tq (pw_P L xs) 0 1192 (lx_lv i) [] m Q := by
  obtain ⟨f, l⟩ := m
  refine fl_Tq.stp (pw_cod lx_k1192) rfl (fl_bo rfl) rfl ?_
  refine lx_arg (i := i) (jn := 1) (pw_cod lx_k1193) (pw_cod lx_k1194) (pw_cod lx_k1195) (pw_cod lx_k1196) (pw_cod lx_k1197) rfl (fl_bo rfl) hL (by omega) ?_
  refine lx_arg (i := i) (jn := 2) (pw_cod lx_k1198) (pw_cod lx_k1199) (pw_cod lx_k1200) (pw_cod lx_k1201) (pw_cod lx_k1202) rfl (fl_bo rfl) hL (by omega) ?_
  refine lx_arg (i := i) (jn := 3) (pw_cod lx_k1203) (pw_cod lx_k1204) (pw_cod lx_k1205) (pw_cod lx_k1206) (pw_cod lx_k1207) rfl (fl_bo rfl) hL (by omega) ?_
  refine lx_callG (as_ := [lx_x, .inl (xs (i + 1)), .inl (xs (i + 2)), .inl (xs (i + 3))]) (rest := []) (pw_cod lx_k1208) (pw_cll lx_l149) rfl (fl_bo rfl) rfl rfl (t2_qcall (hall _ at_c135_in) rfl hg ⟨lx_kx _, lx_ki _, lx_ki _, lx_ki _, True.intro⟩ rfl rfl rfl) (fun v1 m1 hg1 => ?_)
  obtain ⟨⟨y1, rfl⟩, hg1⟩ := hg1
  refine fl_Tq.stp (pw_cod lx_k1211) rfl (fl_bo rfl) rfl ?_
  refine fl_Tq.stp (pw_cod lx_k1212) rfl (fl_bo rfl) rfl ?_
  refine lx_arg (i := i) (jn := 1) (pw_cod lx_k1213) (pw_cod lx_k1214) (pw_cod lx_k1215) (pw_cod lx_k1216) (pw_cod lx_k1217) rfl (fl_bo rfl) hL (by omega) ?_
  refine lx_arg (i := i) (jn := 2) (pw_cod lx_k1218) (pw_cod lx_k1219) (pw_cod lx_k1220) (pw_cod lx_k1221) (pw_cod lx_k1222) rfl (fl_bo rfl) hL (by omega) ?_
  refine lx_arg (i := i) (jn := 3) (pw_cod lx_k1223) (pw_cod lx_k1224) (pw_cod lx_k1225) (pw_cod lx_k1226) (pw_cod lx_k1227) rfl (fl_bo rfl) hL (by omega) ?_
  refine lx_callG (as_ := [at_this, .inl (xs (i + 1)), .inl (xs (i + 2)), .inl (xs (i + 3))]) (rest := []) (pw_cod lx_k1228) (pw_cll lx_l152) rfl (fl_bo rfl) rfl rfl (t2_qcall (hall _ at_c294_in) rfl hg1 ⟨at_k277 _, lx_ki _, lx_ki _, lx_ki _, True.intro⟩ rfl rfl rfl) (fun v2 m2 hg2 => ?_)
  obtain ⟨⟨y2, rfl⟩, hg2⟩ := hg2
  refine fl_Tq.stp (pw_cod lx_k1231) rfl (fl_bo rfl) rfl ?_
  refine fl_Tq.stp (pw_cod lx_k1232) rfl (fl_bo rfl) rfl ?_
  exact kk m2 hg2
theorem ly_c33 {L : Nat} {xs : Nat → Int32} {m : fl_M} {Q : Option fl_V → fl_M → Prop} {i : Nat} (hall : ∀ c ∈ at_CM ++ at_CA, at_Valid at_XI (pw_P L xs) c) (hL : L ≤ 3072) (hi : i + 6 ≤ L) (hg : t2_Z m) (kk : ∀ m' : fl_M, t2_Z m' → fl_Tq (pw_P L xs) 0 2030 (lx_lv i) [] m' Q) : fl_Tq (pw_P L xs) 0 1235 (lx_lv i) [] m Q := by
  obtain ⟨f, l⟩ := m
  refine fl_Tq.stp (pw_cod lx_k1235) rfl (fl_bo rfl) rfl ?_
  refine lx_arg (i := i) (jn := 1) (pw_cod lx_k1236) (pw_cod lx_k1237) (pw_cod lx_k1238) (pw_cod lx_k1239) (pw_cod lx_k1240) rfl (fl_bo rfl) hL (by omega) ?_
  refine lx_callG (as_ := [lx_x, .inl (xs (i + 1))]) (rest := []) (pw_cod lx_k1241) (pw_cll lx_l153) rfl (fl_bo rfl) rfl rfl (t2_qcall (hall _ at_c136_in) rfl hg ⟨lx_kx _, lx_ki _, True.intro⟩ rfl rfl rfl) (fun v1 m1 hg1 => ?_)
  obtain ⟨⟨y1, rfl⟩, hg1⟩ := hg1
  refine fl_Tq.stp (pw_cod lx_k1244) rfl (fl_bo rfl) rfl ?_
  refine fl_Tq.stp (pw_cod lx_k1245) rfl (fl_bo rfl) rfl ?_
  refine lx_arg (i := i) (jn := 1) (pw_cod lx_k1246) (pw_cod lx_k1247) (pw_cod lx_k1248) (pw_cod lx_k1249) (pw_cod lx_k1250) rfl (fl_bo rfl) hL (by omega) ?_
  refine lx_callG (as_ := [at_this, .inl (xs (i + 1))]) (rest := []) (pw_cod lx_k1251) (pw_cll lx_l156) rfl (fl_bo rfl) rfl rfl (t2_qcall (hall _ at_c295_in) rfl hg1 ⟨at_k277 _, lx_ki _, True.intro⟩ rfl rfl rfl) (fun v2 m2 hg2 => ?_)
  obtain ⟨⟨y2, rfl⟩, hg2⟩ := hg2
  refine fl_Tq.stp (pw_cod lx_k1254) rfl (fl_bo rfl) rfl ?_
  refine fl_Tq.stp (pw_cod lx_k1255) rfl (fl_bo rfl) rfl ?_
  exact kk m2 hg2
