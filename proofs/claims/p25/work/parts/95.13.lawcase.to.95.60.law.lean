/-! 95.13.lawcase.lean.txt -/
section
/-! ===== printed by wip/gen/lawgen3.py: the law's cases ===== -/
theorem ly_c34 {L : Nat} {xs : Nat → Int32} {m : fl_M} {Q : Option fl_V → fl_M → Prop} {i : Nat} (hall : ∀ c ∈ at_CM ++ at_CA, at_Valid at_XI (pw_P L xs) c) (hL : L ≤ 3072) (hi : i + 6 ≤ L) (hg : t2_Z m) (kk : ∀ m' : fl_M, t2_Z m' → fl_Tq (pw_P L xs) 0 2030 (lx_lv i) [] m' Q) : fl_Tq (pw_P L xs) 0 1258 (lx_lv i) [] m Q := by
  obtain ⟨f, l⟩ := m
  refine fl_Tq.stp (pw_cod lx_k1258) rfl (fl_bo rfl) rfl ?_
  refine lx_callG (as_ := [lx_x]) (rest := []) (pw_cod lx_k1259) (pw_cll lx_l157) rfl (fl_bo rfl) rfl rfl (t2_qcall (hall _ at_c137_in) rfl hg ⟨lx_kx _, True.intro⟩ rfl rfl rfl) (fun v1 m1 hg1 => ?_)
  obtain ⟨⟨y1, rfl⟩, hg1⟩ := hg1
  refine fl_Tq.stp (pw_cod lx_k1262) rfl (fl_bo rfl) rfl ?_
  refine fl_Tq.stp (pw_cod lx_k1263) rfl (fl_bo rfl) rfl ?_
  refine lx_callG (as_ := [at_this]) (rest := []) (pw_cod lx_k1264) (pw_cll lx_l160) rfl (fl_bo rfl) rfl rfl (t2_qcall (hall _ at_c296_in) rfl hg1 ⟨at_k277 _, True.intro⟩ rfl rfl rfl) (fun v2 m2 hg2 => ?_)
  obtain ⟨⟨y2, rfl⟩, hg2⟩ := hg2
  refine fl_Tq.stp (pw_cod lx_k1267) rfl (fl_bo rfl) rfl ?_
  refine fl_Tq.stp (pw_cod lx_k1268) rfl (fl_bo rfl) rfl ?_
  exact kk m2 hg2
theorem ly_c35 {L : Nat} {xs : Nat → Int32} {m : fl_M} {Q : Option fl_V → fl_M → Prop} {i : Nat} (hall : ∀ c ∈ at_CM ++ at_CA, at_Valid at_XI (pw_P L xs) c) (hL : L ≤ 3072) (hi : i + 6 ≤ L) (hg : t2_Z m) (kk : ∀ m' : fl_M, t2_Z m' → fl_Tq (pw_P L xs) 0 2030 (lx_lv i) [] m' Q) : fl_Tq (pw_P L xs) 0 1271 (lx_lv i) [] m Q := by
  obtain ⟨f, l⟩ := m
  refine fl_Tq.stp (pw_cod lx_k1271) rfl (fl_bo rfl) rfl ?_
  refine lx_callG (as_ := [lx_x]) (rest := []) (pw_cod lx_k1272) (pw_cll lx_l161) rfl (fl_bo rfl) rfl rfl (t2_qcall (hall _ at_c138_in) rfl hg ⟨lx_kx _, True.intro⟩ rfl rfl rfl) (fun v1 m1 hg1 => ?_)
  obtain ⟨⟨y1, rfl⟩, hg1⟩ := hg1
  refine fl_Tq.stp (pw_cod lx_k1275) rfl (fl_bo rfl) rfl ?_
  refine fl_Tq.stp (pw_cod lx_k1276) rfl (fl_bo rfl) rfl ?_
  refine lx_callG (as_ := [at_this]) (rest := []) (pw_cod lx_k1277) (pw_cll lx_l164) rfl (fl_bo rfl) rfl rfl (t2_qcall (hall _ at_c297_in) rfl hg1 ⟨at_k277 _, True.intro⟩ rfl rfl rfl) (fun v2 m2 hg2 => ?_)
  obtain ⟨⟨y2, rfl⟩, hg2⟩ := hg2
  refine fl_Tq.stp (pw_cod lx_k1280) rfl (fl_bo rfl) rfl ?_
  refine fl_Tq.stp (pw_cod lx_k1281) rfl (fl_bo rfl) rfl ?_
  exact kk m2 hg2
theorem ly_c36 {L : Nat} {xs : Nat → Int32} {m : fl_M} {Q : Option fl_V → fl_M → Prop} {i : Nat} (hall : ∀ c ∈ at_CM ++ at_CA, at_Valid at_XI (pw_P L xs) c) (hL : L ≤ 3072) (hi : i + 6 ≤ L) (hg : t2_Z m) (kk : ∀ m' : fl_M, t2_Z m' → fl_Tq (pw_P L xs) 0 2030 (lx_lv i) [] m' Q) : fl_Tq (pw_P L xs) 0 1284 (lx_lv i) [] m Q := by
  obtain ⟨f, l⟩ := m
  refine fl_Tq.stp (pw_cod lx_k1284) rfl (fl_bo rfl) rfl ?_
  refine lx_callG (as_ := [lx_x]) (rest := []) (pw_cod lx_k1285) (pw_cll lx_l165) rfl (fl_bo rfl) rfl rfl (t2_qcall (hall _ at_c139_in) rfl hg ⟨lx_kx _, True.intro⟩ rfl rfl rfl) (fun v1 m1 hg1 => ?_)
  obtain ⟨⟨y1, rfl⟩, hg1⟩ := hg1
  refine fl_Tq.stp (pw_cod lx_k1288) rfl (fl_bo rfl) rfl ?_
  refine fl_Tq.stp (pw_cod lx_k1289) rfl (fl_bo rfl) rfl ?_
  refine lx_callG (as_ := [at_this]) (rest := []) (pw_cod lx_k1290) (pw_cll lx_l168) rfl (fl_bo rfl) rfl rfl (t2_qcall (hall _ at_c300_in) rfl hg1 ⟨at_k277 _, True.intro⟩ rfl rfl rfl) (fun v2 m2 hg2 => ?_)
  obtain ⟨⟨y2, rfl⟩, hg2⟩ := hg2
  refine fl_Tq.stp (pw_cod lx_k1293) rfl (fl_bo rfl) rfl ?_
  refine fl_Tq.stp (pw_cod lx_k1294) rfl (fl_bo rfl) rfl ?_
  exact kk m2 hg2
theorem ly_c37 {L : Nat} {xs : Nat → Int32} {m : fl_M} {Q : Option fl_V → fl_M → Prop} {i : Nat} (hall : ∀ c ∈ at_CM ++ at_CA, at_Valid at_XI (pw_P L xs) c) (hL : L ≤ 3072) (hi : i + 6 ≤ L) (hg : t2_Z m) (kk : ∀ m' : fl_M, t2_Z m' → fl_Tq (pw_P L xs) 0 2030 (lx_lv i) [] m' Q) : fl_Tq (pw_P L xs) 0 1297 (lx_lv i) [] m Q := by
  obtain ⟨f, l⟩ := m
  refine fl_Tq.stp (pw_cod lx_k1297) rfl (fl_bo rfl) rfl ?_
  refine lx_arg (i := i) (jn := 1) (pw_cod lx_k1298) (pw_cod lx_k1299) (pw_cod lx_k1300) (pw_cod lx_k1301) (pw_cod lx_k1302) rfl (fl_bo rfl) hL (by omega) ?_
  refine lx_callG (as_ := [lx_x, .inl (xs (i + 1))]) (rest := []) (pw_cod lx_k1303) (pw_cll lx_l169) rfl (fl_bo rfl) rfl rfl (t2_qcall (hall _ at_c140_in) rfl hg ⟨lx_kx _, lx_ki _, True.intro⟩ rfl rfl rfl) (fun v1 m1 hg1 => ?_)
  obtain ⟨⟨y1, rfl⟩, hg1⟩ := hg1
  refine fl_Tq.stp (pw_cod lx_k1306) rfl (fl_bo rfl) rfl ?_
  refine fl_Tq.stp (pw_cod lx_k1307) rfl (fl_bo rfl) rfl ?_
  refine lx_arg (i := i) (jn := 1) (pw_cod lx_k1308) (pw_cod lx_k1309) (pw_cod lx_k1310) (pw_cod lx_k1311) (pw_cod lx_k1312) rfl (fl_bo rfl) hL (by omega) ?_
  refine lx_callG (as_ := [at_this, .inl (xs (i + 1))]) (rest := []) (pw_cod lx_k1313) (pw_cll lx_l172) rfl (fl_bo rfl) rfl rfl (t2_qcall (hall _ at_c301_in) rfl hg1 ⟨at_k277 _, lx_ki _, True.intro⟩ rfl rfl rfl) (fun v2 m2 hg2 => ?_)
  obtain ⟨⟨y2, rfl⟩, hg2⟩ := hg2
  refine fl_Tq.stp (pw_cod lx_k1316) rfl (fl_bo rfl) rfl ?_
  refine fl_Tq.stp (pw_cod lx_k1317) rfl (fl_bo rfl) rfl ?_
  exact kk m2 hg2
theorem ly_c38 {L : Nat} {xs : Nat → Int32} {m : fl_M} {Q : Option fl_V → fl_M → Prop} {i : Nat} (hall : ∀ c ∈ at_CM ++ at_CA, at_Valid at_XI (pw_P L xs) c) (hL : L ≤ 3072) (hi : i + 6 ≤ L) (hg : t2_Z m) (kk : ∀ m' : fl_M, t2_Z m' → fl_Tq (pw_P L xs) 0 2030 (lx_lv i) [] m' Q) : fl_Tq (pw_P L xs) 0 1320 (lx_lv i) [] m Q := by
  obtain ⟨f, l⟩ := m
  refine fl_Tq.stp (pw_cod lx_k1320) rfl (fl_bo rfl) rfl ?_
  refine lx_arg (i := i) (jn := 1) (pw_cod lx_k1321) (pw_cod lx_k1322) (pw_cod lx_k1323) (pw_cod lx_k1324) (pw_cod lx_k1325) rfl (fl_bo rfl) hL (by omega) ?_
  refine lx_callG (as_ := [lx_x, .inl (xs (i + 1))]) (rest := []) (pw_cod lx_k1326) (pw_cll lx_l173) rfl (fl_bo rfl) rfl rfl (t2_qcall (hall _ at_c141_in) rfl hg ⟨lx_kx _, lx_ki _, True.intro⟩ rfl rfl rfl) (fun v1 m1 hg1 => ?_)
  obtain ⟨⟨y1, rfl⟩, hg1⟩ := hg1
  refine fl_Tq.stp (pw_cod lx_k1329) rfl (fl_bo rfl) rfl ?_
  refine fl_Tq.stp (pw_cod lx_k1330) rfl (fl_bo rfl) rfl ?_
  refine lx_arg (i := i) (jn := 1) (pw_cod lx_k1331) (pw_cod lx_k1332) (pw_cod lx_k1333) (pw_cod lx_k1334) (pw_cod lx_k1335) rfl (fl_bo rfl) hL (by omega) ?_
  refine lx_callG (as_ := [at_this, .inl (xs (i + 1))]) (rest := []) (pw_cod lx_k1336) (pw_cll lx_l176) rfl (fl_bo rfl) rfl rfl (t2_qcall (hall _ at_c304_in) rfl hg1 ⟨at_k277 _, lx_ki _, True.intro⟩ rfl rfl rfl) (fun v2 m2 hg2 => ?_)
  obtain ⟨⟨y2, rfl⟩, hg2⟩ := hg2
  refine fl_Tq.stp (pw_cod lx_k1339) rfl (fl_bo rfl) rfl ?_
  refine fl_Tq.stp (pw_cod lx_k1340) rfl (fl_bo rfl) rfl ?_
  exact kk m2 hg2
theorem ly_c39 {L : Nat} {xs : Nat → Int32} {m : fl_M} {Q : Option fl_V → fl_M → Prop} {i : Nat} (hall : ∀ c ∈ at_CM ++ at_CA, at_Valid at_XI (pw_P L xs) c) (hL : L ≤ 3072) (hi : i + 6 ≤ L) (hg : t2_Z m) (kk : ∀ m' : fl_M, t2_Z m' → fl_Tq (pw_P L xs) 0 2030 (lx_lv i) [] m' Q) : fl_Tq (pw_P L xs) 0 1343 (lx_lv i) [] m Q := by
  obtain ⟨f, l⟩ := m
  refine fl_Tq.stp (pw_cod lx_k1343) rfl (fl_bo rfl) rfl ?_
  refine lx_arg (i := i) (jn := 1) (pw_cod lx_k1344) (pw_cod lx_k1345) (pw_cod lx_k1346) (pw_cod lx_k1347) (pw_cod lx_k1348) rfl (fl_bo rfl) hL (by omega) ?_
  refine lx_arg (i := i) (jn := 2) (pw_cod lx_k1349) (pw_cod lx_k1350) (pw_cod lx_k1351) (pw_cod lx_k1352) (pw_cod lx_k1353) rfl (fl_bo rfl) hL (by omega) ?_
  refine lx_arg (i := i) (jn := 3) (pw_cod lx_k1354) (pw_cod lx_k1355) (pw_cod lx_k1356) (pw_cod lx_k1357) (pw_cod lx_k1358) rfl (fl_bo rfl) hL (by omega) ?_
  refine lx_callG (as_ := [lx_x, .inl (xs (i + 1)), .inl (xs (i + 2)), .inl (xs (i + 3))]) (rest := []) (pw_cod lx_k1359) (pw_cll lx_l177) rfl (fl_bo rfl) rfl rfl (t2_qcall (hall _ at_c142_in) rfl hg ⟨lx_kx _, lx_ki _, lx_ki _, lx_ki _, True.intro⟩ rfl rfl rfl) (fun v1 m1 hg1 => ?_)
  obtain ⟨⟨y1, rfl⟩, hg1⟩ := hg1
  refine fl_Tq.stp (pw_cod lx_k1362) rfl (fl_bo rfl) rfl ?_
  refine fl_Tq.stp (pw_cod lx_k1363) rfl (fl_bo rfl) rfl ?_
  refine lx_arg (i := i) (jn := 1) (pw_cod lx_k1364) (pw_cod lx_k1365) (pw_cod lx_k1366) (pw_cod lx_k1367) (pw_cod lx_k1368) rfl (fl_bo rfl) hL (by omega) ?_
  refine lx_arg (i := i) (jn := 2) (pw_cod lx_k1369) (pw_cod lx_k1370) (pw_cod lx_k1371) (pw_cod lx_k1372) (pw_cod lx_k1373) rfl (fl_bo rfl) hL (by omega) ?_
  refine lx_arg (i := i) (jn := 3) (pw_cod lx_k1374) (pw_cod lx_k1375) (pw_cod lx_k1376) (pw_cod lx_k1377) (pw_cod lx_k1378) rfl (fl_bo rfl) hL (by omega) ?_
  refine lx_callG (as_ := [at_this, .inl (xs (i + 1)), .inl (xs (i + 2)), .inl (xs (i + 3))]) (rest := []) (pw_cod lx_k1379) (pw_cll lx_l180) rfl (fl_bo rfl) rfl rfl (t2_qcall (hall _ at_c308_in) rfl hg1 ⟨at_k277 _, lx_ki _, lx_ki _, lx_ki _, True.intro⟩ rfl rfl rfl) (fun v2 m2 hg2 => ?_)
  obtain ⟨⟨y2, rfl⟩, hg2⟩ := hg2
  refine fl_Tq.stp (pw_cod lx_k1382) rfl (fl_bo rfl) rfl ?_
  refine fl_Tq.stp (pw_cod lx_k1383) rfl (fl_bo rfl) rfl ?_
  exact kk m2 hg2
theorem ly_c40 {L : Nat} {xs : Nat → Int32} {m : fl_M} {Q : Option fl_V → fl_M → Prop} {i : Nat} (hall : ∀ c ∈ at_CM ++ at_CA, at_Valid at_XI (pw_P L xs) c) (hL : L ≤ 3072) (hi : i + 6 ≤ L) (hg : t2_Z m) (kk : ∀ m' : fl_M, t2_Z m' → fl_Tq (pw_P L xs) 0 2030 (lx_lv i) [] m' Q) : fl_Tq (pw_P L xs) 0 1386 (lx_lv i) [] m Q := by
  obtain ⟨f, l⟩ := m
  refine fl_Tq.stp (pw_cod lx_k1386) rfl (fl_bo rfl) rfl ?_
  refine lx_arg (i := i) (jn := 1) (pw_cod lx_k1387) (pw_cod lx_k1388) (pw_cod lx_k1389) (pw_cod lx_k1390) (pw_cod lx_k1391) rfl (fl_bo rfl) hL (by omega) ?_
  refine lx_arg (i := i) (jn := 2) (pw_cod lx_k1392) (pw_cod lx_k1393) (pw_cod lx_k1394) (pw_cod lx_k1395) (pw_cod lx_k1396) rfl (fl_bo rfl) hL (by omega) ?_
  refine lx_callG (as_ := [lx_x, .inl (xs (i + 1)), .inl (xs (i + 2))]) (rest := []) (pw_cod lx_k1397) (pw_cll lx_l181) rfl (fl_bo rfl) rfl rfl (t2_qcall (hall _ at_c143_in) rfl hg ⟨lx_kx _, lx_ki _, lx_ki _, True.intro⟩ rfl rfl rfl) (fun v1 m1 hg1 => ?_)
  obtain ⟨⟨y1, rfl⟩, hg1⟩ := hg1
  refine fl_Tq.stp (pw_cod lx_k1400) rfl (fl_bo rfl) rfl ?_
  refine fl_Tq.stp (pw_cod lx_k1401) rfl (fl_bo rfl) rfl ?_
  refine lx_arg (i := i) (jn := 1) (pw_cod lx_k1402) (pw_cod lx_k1403) (pw_cod lx_k1404) (pw_cod lx_k1405) (pw_cod lx_k1406) rfl (fl_bo rfl) hL (by omega) ?_
  refine lx_arg (i := i) (jn := 2) (pw_cod lx_k1407) (pw_cod lx_k1408) (pw_cod lx_k1409) (pw_cod lx_k1410) (pw_cod lx_k1411) rfl (fl_bo rfl) hL (by omega) ?_
  refine lx_callG (as_ := [at_this, .inl (xs (i + 1)), .inl (xs (i + 2))]) (rest := []) (pw_cod lx_k1412) (pw_cll lx_l184) rfl (fl_bo rfl) rfl rfl (t2_qcall (hall _ at_c309_in) rfl hg1 ⟨at_k277 _, lx_ki _, lx_ki _, True.intro⟩ rfl rfl rfl) (fun v2 m2 hg2 => ?_)
  obtain ⟨⟨y2, rfl⟩, hg2⟩ := hg2
  refine fl_Tq.stp (pw_cod lx_k1415) rfl (fl_bo rfl) rfl ?_
  refine fl_Tq.stp (pw_cod lx_k1416) rfl (fl_bo rfl) rfl ?_
  exact kk m2 hg2
theorem ly_c41 {L : Nat} {xs : Nat → Int32} {m : fl_M} {Q : Option fl_V → fl_M → Prop} {i : Nat} (hall : ∀ c ∈ at_CM ++ at_CA, at_Valid at_XI (pw_P L xs) c) (hL : L ≤ 3072) (hi : i + 6 ≤ L) (hg : t2_Z m) (kk : ∀ m' : fl_M, t2_Z m' → fl_Tq (pw_P L xs) 0 2030 (lx_lv i) [] m' Q) : fl_Tq (pw_P L xs) 0 1419 (lx_lv i) [] m Q := by
  obtain ⟨f, l⟩ := m
  refine fl_Tq.stp (pw_cod lx_k1419) rfl (fl_bo rfl) rfl ?_
  refine lx_callG (as_ := [lx_x]) (rest := []) (pw_cod lx_k1420) (pw_cll lx_l185) rfl (fl_bo rfl) rfl rfl (t2_qcall (hall _ at_c144_in) rfl hg ⟨lx_kx _, True.intro⟩ rfl rfl rfl) (fun v1 m1 hg1 => ?_)
  obtain ⟨⟨y1, rfl⟩, hg1⟩ := hg1
  refine fl_Tq.stp (pw_cod lx_k1423) rfl (fl_bo rfl) rfl ?_
  refine fl_Tq.stp (pw_cod lx_k1424) rfl (fl_bo rfl) rfl ?_
  refine lx_callG (as_ := [at_this]) (rest := []) (pw_cod lx_k1425) (pw_cll lx_l188) rfl (fl_bo rfl) rfl rfl (t2_qcall (hall _ at_c281_in) rfl hg1 ⟨at_k277 _, True.intro⟩ rfl rfl rfl) (fun v2 m2 hg2 => ?_)
  obtain ⟨⟨y2, rfl⟩, hg2⟩ := hg2
  refine fl_Tq.stp (pw_cod lx_k1428) rfl (fl_bo rfl) rfl ?_
  refine fl_Tq.stp (pw_cod lx_k1429) rfl (fl_bo rfl) rfl ?_
  exact kk m2 hg2
theorem ly_c42 {L : Nat} {xs : Nat → Int32} {m : fl_M} {Q : Option fl_V → fl_M → Prop} {i : Nat} (hall : ∀ c ∈ at_CM ++ at_CA, at_Valid at_XI (pw_P L xs) c) (hL : L ≤ 3072) (hi : i + 6 ≤ L) (hg : t2_Z m) (kk : ∀ m' : fl_M, t2_Z m' → fl_Tq (pw_P L xs) 0 2030 (lx_lv i) [] m' Q) : fl_Tq (pw_P L xs) 0 1432 (lx_lv i) [] m Q := by
  obtain ⟨f, l⟩ := m
  refine fl_Tq.stp (pw_cod lx_k1432) rfl (fl_bo rfl) rfl ?_
  refine lx_arg (i := i) (jn := 1) (pw_cod lx_k1433) (pw_cod lx_k1434) (pw_cod lx_k1435) (pw_cod lx_k1436) (pw_cod lx_k1437) rfl (fl_bo rfl) hL (by omega) ?_
  refine lx_callG (as_ := [lx_x, .inl (xs (i + 1))]) (rest := []) (pw_cod lx_k1438) (pw_cll lx_l189) rfl (fl_bo rfl) rfl rfl (t2_qcall (hall _ at_c145_in) rfl hg ⟨lx_kx _, lx_ki _, True.intro⟩ rfl rfl rfl) (fun v1 m1 hg1 => ?_)
  obtain ⟨⟨y1, rfl⟩, hg1⟩ := hg1
  refine fl_Tq.stp (pw_cod lx_k1441) rfl (fl_bo rfl) rfl ?_
  refine fl_Tq.stp (pw_cod lx_k1442) rfl (fl_bo rfl) rfl ?_
  refine lx_arg (i := i) (jn := 1) (pw_cod lx_k1443) (pw_cod lx_k1444) (pw_cod lx_k1445) (pw_cod lx_k1446) (pw_cod lx_k1447) rfl (fl_bo rfl) hL (by omega) ?_
  refine lx_callG (as_ := [at_this, .inl (xs (i + 1))]) (rest := []) (pw_cod lx_k1448) (pw_cll lx_l192) rfl (fl_bo rfl) rfl rfl (t2_qcall (hall _ at_c282_in) rfl hg1 ⟨at_k277 _, lx_ki _, True.intro⟩ rfl rfl rfl) (fun v2 m2 hg2 => ?_)
  obtain ⟨⟨y2, rfl⟩, hg2⟩ := hg2
  refine fl_Tq.stp (pw_cod lx_k1451) rfl (fl_bo rfl) rfl ?_
  refine fl_Tq.stp (pw_cod lx_k1452) rfl (fl_bo rfl) rfl ?_
  exact kk m2 hg2
theorem ly_c43 {L : Nat} {xs : Nat → Int32} {m : fl_M} {Q : Option fl_V → fl_M → Prop} {i : Nat} (hall : ∀ c ∈ at_CM ++ at_CA, at_Valid at_XI (pw_P L xs) c) (hL : L ≤ 3072) (hi : i + 6 ≤ L) (hg : t2_Z m) (kk : ∀ m' : fl_M, t2_Z m' → fl_Tq (pw_P L xs) 0 2030 (lx_lv i) [] m' Q) : fl_Tq (pw_P L xs) 0 1455 (lx_lv i) [] m Q := by
  obtain ⟨f, l⟩ := m
  refine fl_Tq.stp (pw_cod lx_k1455) rfl (fl_bo rfl) rfl ?_
  refine lx_arg (i := i) (jn := 1) (pw_cod lx_k1456) (pw_cod lx_k1457) (pw_cod lx_k1458) (pw_cod lx_k1459) (pw_cod lx_k1460) rfl (fl_bo rfl) hL (by omega) ?_
  refine lx_callG (as_ := [lx_x, .inl (xs (i + 1))]) (rest := []) (pw_cod lx_k1461) (pw_cll lx_l193) rfl (fl_bo rfl) rfl rfl (t2_qcall (hall _ at_c146_in) rfl hg ⟨lx_kx _, lx_ki _, True.intro⟩ rfl rfl rfl) (fun v1 m1 hg1 => ?_)
  obtain ⟨⟨y1, rfl⟩, hg1⟩ := hg1
  refine fl_Tq.stp (pw_cod lx_k1464) rfl (fl_bo rfl) rfl ?_
  refine fl_Tq.stp (pw_cod lx_k1465) rfl (fl_bo rfl) rfl ?_
  refine lx_arg (i := i) (jn := 1) (pw_cod lx_k1466) (pw_cod lx_k1467) (pw_cod lx_k1468) (pw_cod lx_k1469) (pw_cod lx_k1470) rfl (fl_bo rfl) hL (by omega) ?_
  refine lx_callG (as_ := [at_this, .inl (xs (i + 1))]) (rest := []) (pw_cod lx_k1471) (pw_cll lx_l196) rfl (fl_bo rfl) rfl rfl (t2_qcall (hall _ at_c283_in) rfl hg1 ⟨at_k277 _, lx_ki _, True.intro⟩ rfl rfl rfl) (fun v2 m2 hg2 => ?_)
  obtain ⟨⟨y2, rfl⟩, hg2⟩ := hg2
  refine fl_Tq.stp (pw_cod lx_k1474) rfl (fl_bo rfl) rfl ?_
  refine fl_Tq.stp (pw_cod lx_k1475) rfl (fl_bo rfl) rfl ?_
  exact kk m2 hg2
theorem ly_c44 {L : Nat} {xs : Nat → Int32} {m : fl_M} {Q : Option fl_V → fl_M → Prop} {i : Nat} (hall : ∀ c ∈ at_CM ++ at_CA, at_Valid at_XI (pw_P L xs) c) (hL : L ≤ 3072) (hi : i + 6 ≤ L) (hg : t2_Z m) (kk : ∀ m' : fl_M, t2_Z m' → fl_Tq (pw_P L xs) 0 2030 (lx_lv i) [] m' Q) : fl_Tq (pw_P L xs) 0 1478 (lx_lv i) [] m Q := by
  obtain ⟨f, l⟩ := m
  refine fl_Tq.stp (pw_cod lx_k1478) rfl (fl_bo rfl) rfl ?_
  refine lx_arg (i := i) (jn := 1) (pw_cod lx_k1479) (pw_cod lx_k1480) (pw_cod lx_k1481) (pw_cod lx_k1482) (pw_cod lx_k1483) rfl (fl_bo rfl) hL (by omega) ?_
  refine lx_callG (as_ := [lx_x, .inl (xs (i + 1))]) (rest := []) (pw_cod lx_k1484) (pw_cll lx_l197) rfl (fl_bo rfl) rfl rfl (t2_qcall (hall _ at_c147_in) rfl hg ⟨lx_kx _, lx_ki _, True.intro⟩ rfl rfl rfl) (fun v1 m1 hg1 => ?_)
  obtain ⟨⟨y1, rfl⟩, hg1⟩ := hg1
  refine fl_Tq.stp (pw_cod lx_k1487) rfl (fl_bo rfl) rfl ?_
  refine fl_Tq.stp (pw_cod lx_k1488) rfl (fl_bo rfl) rfl ?_
  refine lx_arg (i := i) (jn := 1) (pw_cod lx_k1489) (pw_cod lx_k1490) (pw_cod lx_k1491) (pw_cod lx_k1492) (pw_cod lx_k1493) rfl (fl_bo rfl) hL (by omega) ?_
  refine lx_callG (as_ := [at_this, .inl (xs (i + 1))]) (rest := []) (pw_cod lx_k1494) (pw_cll lx_l200) rfl (fl_bo rfl) rfl rfl (t2_qcall (hall _ at_c284_in) rfl hg1 ⟨at_k277 _, lx_ki _, True.intro⟩ rfl rfl rfl) (fun v2 m2 hg2 => ?_)
  obtain ⟨⟨y2, rfl⟩, hg2⟩ := hg2
  refine fl_Tq.stp (pw_cod lx_k1497) rfl (fl_bo rfl) rfl ?_
  refine fl_Tq.stp (pw_cod lx_k1498) rfl (fl_bo rfl) rfl ?_
  exact kk m2 hg2
theorem ly_c45 {L : Nat} {xs : Nat → Int32} {m : fl_M} {Q : Option fl_V → fl_M → Prop} {i : Nat} (hall : ∀ c ∈ at_CM ++ at_CA, at_Valid at_XI (pw_P L xs) c) (hL : L ≤ 3072) (hi : i + 6 ≤ L) (hg : t2_Z m) (kk : ∀ m' : fl_M, t2_Z m' → fl_Tq (pw_P L xs) 0 2030 (lx_lv i) [] m' Q) : fl_Tq (pw_P L xs) 0 1501 (lx_lv i) [] m Q := by
  obtain ⟨f, l⟩ := m
  refine fl_Tq.stp (pw_cod lx_k1501) rfl (fl_bo rfl) rfl ?_
  refine lx_arg (i := i) (jn := 1) (pw_cod lx_k1502) (pw_cod lx_k1503) (pw_cod lx_k1504) (pw_cod lx_k1505) (pw_cod lx_k1506) rfl (fl_bo rfl) hL (by omega) ?_
  refine lx_callG (as_ := [lx_x, .inl (xs (i + 1))]) (rest := []) (pw_cod lx_k1507) (pw_cll lx_l201) rfl (fl_bo rfl) rfl rfl (t2_qcall (hall _ at_c148_in) rfl hg ⟨lx_kx _, lx_ki _, True.intro⟩ rfl rfl rfl) (fun v1 m1 hg1 => ?_)
  obtain ⟨⟨y1, rfl⟩, hg1⟩ := hg1
  refine fl_Tq.stp (pw_cod lx_k1510) rfl (fl_bo rfl) rfl ?_
  refine fl_Tq.stp (pw_cod lx_k1511) rfl (fl_bo rfl) rfl ?_
  refine lx_arg (i := i) (jn := 1) (pw_cod lx_k1512) (pw_cod lx_k1513) (pw_cod lx_k1514) (pw_cod lx_k1515) (pw_cod lx_k1516) rfl (fl_bo rfl) hL (by omega) ?_
  refine lx_callG (as_ := [at_this, .inl (xs (i + 1))]) (rest := []) (pw_cod lx_k1517) (pw_cll lx_l204) rfl (fl_bo rfl) rfl rfl (t2_qcall (hall _ at_c285_in) rfl hg1 ⟨at_k277 _, lx_ki _, True.intro⟩ rfl rfl rfl) (fun v2 m2 hg2 => ?_)
  obtain ⟨⟨y2, rfl⟩, hg2⟩ := hg2
  refine fl_Tq.stp (pw_cod lx_k1520) rfl (fl_bo rfl) rfl ?_
  refine fl_Tq.stp (pw_cod lx_k1521) rfl (fl_bo rfl) rfl ?_
  exact kk m2 hg2
theorem ly_c46 {L : Nat} {xs : Nat → Int32} {m : fl_M} {Q : Option fl_V → fl_M → Prop} {i : Nat} (hall : ∀ c ∈ at_CM ++ at_CA, at_Valid at_XI (pw_P L xs) c) (hL : L ≤ 3072) (hi : i + 6 ≤ L) (hg : t2_Z m) (kk : ∀ m' : fl_M, t2_Z m' → fl_Tq (pw_P L xs) 0 2030 (lx_lv i) [] m' Q) : fl_Tq (pw_P L xs) 0 1524 (lx_lv i) [] m Q := by
  obtain ⟨f, l⟩ := m
  refine fl_Tq.stp (pw_cod lx_k1524) rfl (fl_bo rfl) rfl ?_
  refine lx_arg (i := i) (jn := 1) (pw_cod lx_k1525) (pw_cod lx_k1526) (pw_cod lx_k1527) (pw_cod lx_k1528) (pw_cod lx_k1529) rfl (fl_bo rfl) hL (by omega) ?_
  refine lx_callG (as_ := [lx_x, .inl (xs (i + 1))]) (rest := []) (pw_cod lx_k1530) (pw_cll lx_l205) rfl (fl_bo rfl) rfl rfl (t2_qcall (hall _ at_c149_in) rfl hg ⟨lx_kx _, lx_ki _, True.intro⟩ rfl rfl rfl) (fun v1 m1 hg1 => ?_)
  obtain ⟨⟨y1, rfl⟩, hg1⟩ := hg1
  refine fl_Tq.stp (pw_cod lx_k1533) rfl (fl_bo rfl) rfl ?_
  refine fl_Tq.stp (pw_cod lx_k1534) rfl (fl_bo rfl) rfl ?_
  refine lx_arg (i := i) (jn := 1) (pw_cod lx_k1535) (pw_cod lx_k1536) (pw_cod lx_k1537) (pw_cod lx_k1538) (pw_cod lx_k1539) rfl (fl_bo rfl) hL (by omega) ?_
  refine lx_callG (as_ := [at_this, .inl (xs (i + 1))]) (rest := []) (pw_cod lx_k1540) (pw_cll lx_l208) rfl (fl_bo rfl) rfl rfl (t2_qcall (hall _ at_c286_in) rfl hg1 ⟨at_k277 _, lx_ki _, True.intro⟩ rfl rfl rfl) (fun v2 m2 hg2 => ?_)
  obtain ⟨⟨y2, rfl⟩, hg2⟩ := hg2
  refine fl_Tq.stp (pw_cod lx_k1543) rfl (fl_bo rfl) rfl ?_
  refine fl_Tq.stp (pw_cod lx_k1544) rfl (fl_bo rfl) rfl ?_
  exact kk m2 hg2
theorem ly_c47 {L : Nat} {xs : Nat → Int32} {m : fl_M} {Q : Option fl_V → fl_M → Prop} {i : Nat} (hall : ∀ c ∈ at_CM ++ at_CA, at_Valid at_XI (pw_P L xs) c) (hL : L ≤ 3072) (hi : i + 6 ≤ L) (hg : t2_Z m) (kk : ∀ m' : fl_M, t2_Z m' → fl_Tq (pw_P L xs) 0 2030 (lx_lv i) [] m' Q) : fl_Tq (pw_P L xs) 0 1547 (lx_lv i) [] m Q := by
  obtain ⟨f, l⟩ := m
  refine fl_Tq.stp (pw_cod lx_k1547) rfl (fl_bo rfl) rfl ?_
  refine lx_callG (as_ := [lx_x]) (rest := []) (pw_cod lx_k1548) (pw_cll lx_l209) rfl (fl_bo rfl) rfl rfl (t2_qcall (hall _ at_c150_in) rfl hg ⟨lx_kx _, True.intro⟩ rfl rfl rfl) (fun v1 m1 hg1 => ?_)
  obtain ⟨⟨y1, rfl⟩, hg1⟩ := hg1
  refine fl_Tq.stp (pw_cod lx_k1551) rfl (fl_bo rfl) rfl ?_
  refine fl_Tq.stp (pw_cod lx_k1552) rfl (fl_bo rfl) rfl ?_
  refine lx_callG (as_ := [at_this]) (rest := []) (pw_cod lx_k1553) (pw_cll lx_l212) rfl (fl_bo rfl) rfl rfl (t2_qcall (hall _ at_c287_in) rfl hg1 ⟨at_k277 _, True.intro⟩ rfl rfl rfl) (fun v2 m2 hg2 => ?_)
  obtain ⟨⟨y2, rfl⟩, hg2⟩ := hg2
  refine fl_Tq.stp (pw_cod lx_k1556) rfl (fl_bo rfl) rfl ?_
  refine fl_Tq.stp (pw_cod lx_k1557) rfl (fl_bo rfl) rfl ?_
  exact kk m2 hg2
theorem ly_c48 {L : Nat} {xs : Nat → Int32} {m : fl_M} {Q : Option fl_V → fl_M → Prop} {i : Nat} (hall : ∀ c ∈ at_CM ++ at_CA, at_Valid at_XI (pw_P L xs) c) (hL : L ≤ 3072) (hi : i + 6 ≤ L) (hg : t2_Z m) (kk : ∀ m' : fl_M, t2_Z m' → fl_Tq (pw_P L xs) 0 2030 (lx_lv i) [] m' Q) : fl_Tq (pw_P L xs) 0 1560 (lx_lv i) [] m Q := by
  obtain ⟨f, l⟩ := m
  refine fl_Tq.stp (pw_cod lx_k1560) rfl (fl_bo rfl) rfl ?_
  refine lx_arg (i := i) (jn := 1) (pw_cod lx_k1561) (pw_cod lx_k1562) (pw_cod lx_k1563) (pw_cod lx_k1564) (pw_cod lx_k1565) rfl (fl_bo rfl) hL (by omega) ?_
  refine lx_callG (as_ := [lx_x, .inl (xs (i + 1))]) (rest := []) (pw_cod lx_k1566) (pw_cll lx_l213) rfl (fl_bo rfl) rfl rfl (t2_qcall (hall _ at_c151_in) rfl hg ⟨lx_kx _, lx_ki _, True.intro⟩ rfl rfl rfl) (fun v1 m1 hg1 => ?_)
  obtain ⟨⟨y1, rfl⟩, hg1⟩ := hg1
  refine fl_Tq.stp (pw_cod lx_k1569) rfl (fl_bo rfl) rfl ?_
  refine fl_Tq.stp (pw_cod lx_k1570) rfl (fl_bo rfl) rfl ?_
  refine lx_arg (i := i) (jn := 1) (pw_cod lx_k1571) (pw_cod lx_k1572) (pw_cod lx_k1573) (pw_cod lx_k1574) (pw_cod lx_k1575) rfl (fl_bo rfl) hL (by omega) ?_
  refine lx_callG (as_ := [at_this, .inl (xs (i + 1))]) (rest := []) (pw_cod lx_k1576) (pw_cll lx_l216) rfl (fl_bo rfl) rfl rfl (t2_qcall (hall _ at_c253_in) rfl hg1 ⟨at_k277 _, lx_ki _, True.intro⟩ rfl rfl rfl) (fun v2 m2 hg2 => ?_)
  obtain ⟨⟨y2, rfl⟩, hg2⟩ := hg2
  refine fl_Tq.stp (pw_cod lx_k1579) rfl (fl_bo rfl) rfl ?_
  refine fl_Tq.stp (pw_cod lx_k1580) rfl (fl_bo rfl) rfl ?_
  exact kk m2 hg2
theorem ly_c49 {L : Nat} {xs : Nat → Int32} {m : fl_M} {Q : Option fl_V → fl_M → Prop} {i : Nat} (hall : ∀ c ∈ at_CM ++ at_CA, at_Valid at_XI (pw_P L xs) c) (hL : L ≤ 3072) (hi : i + 6 ≤ L) (hg : t2_Z m) (kk : ∀ m' : fl_M, t2_Z m' → fl_Tq (pw_P L xs) 0 2030 (lx_lv i) [] m' Q) : fl_Tq (pw_P L xs) 0 1583 (lx_lv i) [] m Q := by
  obtain ⟨f, l⟩ := m
  refine fl_Tq.stp (pw_cod lx_k1583) rfl (fl_bo rfl) rfl ?_
  refine lx_arg (i := i) (jn := 1) (pw_cod lx_k1584) (pw_cod lx_k1585) (pw_cod lx_k1586) (pw_cod lx_k1587) (pw_cod lx_k1588) rfl (fl_bo rfl) hL (by omega) ?_
  refine lx_callG (as_ := [lx_x, .inl (xs (i + 1))]) (rest := []) (pw_cod lx_k1589) (pw_cll lx_l217) rfl (fl_bo rfl) rfl rfl (t2_qcall (hall _ at_c152_in) rfl hg ⟨lx_kx _, lx_ki _, True.intro⟩ rfl rfl rfl) (fun v1 m1 hg1 => ?_)
  obtain ⟨⟨y1, rfl⟩, hg1⟩ := hg1
  refine fl_Tq.stp (pw_cod lx_k1592) rfl (fl_bo rfl) rfl ?_
  refine fl_Tq.stp (pw_cod lx_k1593) rfl (fl_bo rfl) rfl ?_
  refine lx_arg (i := i) (jn := 1) (pw_cod lx_k1594) (pw_cod lx_k1595) (pw_cod lx_k1596) (pw_cod lx_k1597) (pw_cod lx_k1598) rfl (fl_bo rfl) hL (by omega) ?_
  refine lx_callG (as_ := [at_this, .inl (xs (i + 1))]) (rest := []) (pw_cod lx_k1599) (pw_cll lx_l220) rfl (fl_bo rfl) rfl rfl (t2_qcall (hall _ at_c288_in) rfl hg1 ⟨at_k277 _, lx_ki _, True.intro⟩ rfl rfl rfl) (fun v2 m2 hg2 => ?_)
  obtain ⟨⟨y2, rfl⟩, hg2⟩ := hg2
  refine fl_Tq.stp (pw_cod lx_k1602) rfl (fl_bo rfl) rfl ?_
  refine fl_Tq.stp (pw_cod lx_k1603) rfl (fl_bo rfl) rfl ?_
  exact kk m2 hg2
theorem ly_c50 {L : Nat} {xs : Nat → Int32} {m : fl_M} {Q : Option fl_V → fl_M → Prop} {i : Nat} (hall : ∀ c ∈ at_CM ++ at_CA, at_Valid at_XI (pw_P L xs) c) (hL : L ≤ 3072) (hi : i + 6 ≤ L) (hg : t2_Z m) (kk : ∀ m' : fl_M, t2_Z m' → fl_Tq (pw_P L xs) 0 2030 (lx_lv i) [] m' Q) : fl_Tq (pw_P L xs) 0 1606 (lx_lv i) [] m Q := by
  obtain ⟨f, l⟩ := m
  refine fl_Tq.stp (pw_cod lx_k1606) rfl (fl_bo rfl) rfl ?_
  refine lx_arg (i := i) (jn := 1) (pw_cod lx_k1607) (pw_cod lx_k1608) (pw_cod lx_k1609) (pw_cod lx_k1610) (pw_cod lx_k1611) rfl (fl_bo rfl) hL (by omega) ?_
  refine lx_arg (i := i) (jn := 2) (pw_cod lx_k1612) (pw_cod lx_k1613) (pw_cod lx_k1614) (pw_cod lx_k1615) (pw_cod lx_k1616) rfl (fl_bo rfl) hL (by omega) ?_
  refine lx_callG (as_ := [lx_x, .inl (xs (i + 1)), .inl (xs (i + 2))]) (rest := []) (pw_cod lx_k1617) (pw_cll lx_l221) rfl (fl_bo rfl) rfl rfl (t2_qcall (hall _ at_c153_in) rfl hg ⟨lx_kx _, lx_ki _, lx_ki _, True.intro⟩ rfl rfl rfl) (fun v1 m1 hg1 => ?_)
  obtain ⟨⟨y1, rfl⟩, hg1⟩ := hg1
  refine fl_Tq.stp (pw_cod lx_k1620) rfl (fl_bo rfl) rfl ?_
  refine fl_Tq.stp (pw_cod lx_k1621) rfl (fl_bo rfl) rfl ?_
  refine lx_arg (i := i) (jn := 1) (pw_cod lx_k1622) (pw_cod lx_k1623) (pw_cod lx_k1624) (pw_cod lx_k1625) (pw_cod lx_k1626) rfl (fl_bo rfl) hL (by omega) ?_
  refine lx_arg (i := i) (jn := 2) (pw_cod lx_k1627) (pw_cod lx_k1628) (pw_cod lx_k1629) (pw_cod lx_k1630) (pw_cod lx_k1631) rfl (fl_bo rfl) hL (by omega) ?_
  refine lx_callG (as_ := [at_this, .inl (xs (i + 1)), .inl (xs (i + 2))]) (rest := []) (pw_cod lx_k1632) (pw_cll lx_l224) rfl (fl_bo rfl) rfl rfl (t2_qcall (hall _ at_c289_in) rfl hg1 ⟨at_k277 _, lx_ki _, lx_ki _, True.intro⟩ rfl rfl rfl) (fun v2 m2 hg2 => ?_)
  obtain ⟨⟨y2, rfl⟩, hg2⟩ := hg2
  refine fl_Tq.stp (pw_cod lx_k1635) rfl (fl_bo rfl) rfl ?_
  refine fl_Tq.stp (pw_cod lx_k1636) rfl (fl_bo rfl) rfl ?_
  exact kk m2 hg2

end

/-! 95.14.lawcase.lean.txt -/
section
/-! ===== printed by wip/gen/lawgen3.py: the law's cases ===== -/
theorem ly_c51 {L : Nat} {xs : Nat → Int32} {m : fl_M} {Q : Option fl_V → fl_M → Prop} {i : Nat} (hall : ∀ c ∈ at_CM ++ at_CA, at_Valid at_XI (pw_P L xs) c) (hL : L ≤ 3072) (hi : i + 6 ≤ L) (hg : t2_Z m) (kk : ∀ m' : fl_M, t2_Z m' → fl_Tq (pw_P L xs) 0 2030 (lx_lv i) [] m' Q) : fl_Tq (pw_P L xs) 0 1639 (lx_lv i) [] m Q := by
  obtain ⟨f, l⟩ := m
  refine fl_Tq.stp (pw_cod lx_k1639) rfl (fl_bo rfl) rfl ?_
  refine lx_arg (i := i) (jn := 1) (pw_cod lx_k1640) (pw_cod lx_k1641) (pw_cod lx_k1642) (pw_cod lx_k1643) (pw_cod lx_k1644) rfl (fl_bo rfl) hL (by omega) ?_
  refine lx_arg (i := i) (jn := 2) (pw_cod lx_k1645) (pw_cod lx_k1646) (pw_cod lx_k1647) (pw_cod lx_k1648) (pw_cod lx_k1649) rfl (fl_bo rfl) hL (by omega) ?_
  refine lx_callG (as_ := [lx_x, .inl (xs (i + 1)), .inl (xs (i + 2))]) (rest := []) (pw_cod lx_k1650) (pw_cll lx_l225) rfl (fl_bo rfl) rfl rfl (t2_qcall (hall _ at_c154_in) rfl hg ⟨lx_kx _, lx_ki _, lx_ki _, True.intro⟩ rfl rfl rfl) (fun v1 m1 hg1 => ?_)
  obtain ⟨⟨y1, rfl⟩, hg1⟩ := hg1
  refine fl_Tq.stp (pw_cod lx_k1653) rfl (fl_bo rfl) rfl ?_
  refine fl_Tq.stp (pw_cod lx_k1654) rfl (fl_bo rfl) rfl ?_
  refine lx_arg (i := i) (jn := 1) (pw_cod lx_k1655) (pw_cod lx_k1656) (pw_cod lx_k1657) (pw_cod lx_k1658) (pw_cod lx_k1659) rfl (fl_bo rfl) hL (by omega) ?_
  refine lx_arg (i := i) (jn := 2) (pw_cod lx_k1660) (pw_cod lx_k1661) (pw_cod lx_k1662) (pw_cod lx_k1663) (pw_cod lx_k1664) rfl (fl_bo rfl) hL (by omega) ?_
  refine lx_callG (as_ := [at_this, .inl (xs (i + 1)), .inl (xs (i + 2))]) (rest := []) (pw_cod lx_k1665) (pw_cll lx_l228) rfl (fl_bo rfl) rfl rfl (t2_qcall (hall _ at_c290_in) rfl hg1 ⟨at_k277 _, lx_ki _, lx_ki _, True.intro⟩ rfl rfl rfl) (fun v2 m2 hg2 => ?_)
  obtain ⟨⟨y2, rfl⟩, hg2⟩ := hg2
  refine fl_Tq.stp (pw_cod lx_k1668) rfl (fl_bo rfl) rfl ?_
  refine fl_Tq.stp (pw_cod lx_k1669) rfl (fl_bo rfl) rfl ?_
  exact kk m2 hg2
theorem ly_c52 {L : Nat} {xs : Nat → Int32} {m : fl_M} {Q : Option fl_V → fl_M → Prop} {i : Nat} (hall : ∀ c ∈ at_CM ++ at_CA, at_Valid at_XI (pw_P L xs) c) (hL : L ≤ 3072) (hi : i + 6 ≤ L) (hg : t2_Z m) (kk : ∀ m' : fl_M, t2_Z m' → fl_Tq (pw_P L xs) 0 2030 (lx_lv i) [] m' Q) : fl_Tq (pw_P L xs) 0 1672 (lx_lv i) [] m Q := by
  obtain ⟨f, l⟩ := m
  refine fl_Tq.stp (pw_cod lx_k1672) rfl (fl_bo rfl) rfl ?_
  refine lx_arg (i := i) (jn := 1) (pw_cod lx_k1673) (pw_cod lx_k1674) (pw_cod lx_k1675) (pw_cod lx_k1676) (pw_cod lx_k1677) rfl (fl_bo rfl) hL (by omega) ?_
  refine lx_callG (as_ := [lx_x, .inl (xs (i + 1))]) (rest := []) (pw_cod lx_k1678) (pw_cll lx_l229) rfl (fl_bo rfl) rfl rfl (t2_qcall (hall _ at_c155_in) rfl hg ⟨lx_kx _, lx_ki _, True.intro⟩ rfl rfl rfl) (fun v1 m1 hg1 => ?_)
  obtain ⟨⟨y1, rfl⟩, hg1⟩ := hg1
  refine fl_Tq.stp (pw_cod lx_k1681) rfl (fl_bo rfl) rfl ?_
  refine fl_Tq.stp (pw_cod lx_k1682) rfl (fl_bo rfl) rfl ?_
  refine lx_arg (i := i) (jn := 1) (pw_cod lx_k1683) (pw_cod lx_k1684) (pw_cod lx_k1685) (pw_cod lx_k1686) (pw_cod lx_k1687) rfl (fl_bo rfl) hL (by omega) ?_
  refine lx_callG (as_ := [at_this, .inl (xs (i + 1))]) (rest := []) (pw_cod lx_k1688) (pw_cll lx_l232) rfl (fl_bo rfl) rfl rfl (t2_qcall (hall _ at_c291_in) rfl hg1 ⟨at_k277 _, lx_ki _, True.intro⟩ rfl rfl rfl) (fun v2 m2 hg2 => ?_)
  obtain ⟨⟨y2, rfl⟩, hg2⟩ := hg2
  refine fl_Tq.stp (pw_cod lx_k1691) rfl (fl_bo rfl) rfl ?_
  refine fl_Tq.stp (pw_cod lx_k1692) rfl (fl_bo rfl) rfl ?_
  exact kk m2 hg2
theorem ly_c53 {L : Nat} {xs : Nat → Int32} {m : fl_M} {Q : Option fl_V → fl_M → Prop} {i : Nat} (hall : ∀ c ∈ at_CM ++ at_CA, at_Valid at_XI (pw_P L xs) c) (hL : L ≤ 3072) (hi : i + 6 ≤ L) (hg : t2_Z m) (kk : ∀ m' : fl_M, t2_Z m' → fl_Tq (pw_P L xs) 0 2030 (lx_lv i) [] m' Q) : fl_Tq (pw_P L xs) 0 1695 (lx_lv i) [] m Q := by
  obtain ⟨f, l⟩ := m
  refine fl_Tq.stp (pw_cod lx_k1695) rfl (fl_bo rfl) rfl ?_
  refine lx_callG (as_ := [lx_x]) (rest := []) (pw_cod lx_k1696) (pw_cll lx_l233) rfl (fl_bo rfl) rfl rfl (t2_qcallJ (hall _ at_c156_in) rfl hg ⟨lx_kx _, True.intro⟩ rfl rfl rfl) (fun v1 m1 hg1 => ?_)
  obtain ⟨⟨y1, rfl⟩, hg1⟩ := hg1
  refine fl_Tq.stp (pw_cod lx_k1699) rfl (fl_bo rfl) rfl ?_
  refine fl_Tq.stp (pw_cod lx_k1700) rfl (fl_bo rfl) rfl ?_
  refine lx_callG (as_ := [at_this]) (rest := []) (pw_cod lx_k1701) (pw_cll lx_l237) rfl (fl_bo rfl) rfl rfl (t2_qcallJ (hall _ at_c292_in) rfl hg1 ⟨at_k277 _, True.intro⟩ rfl rfl rfl) (fun v2 m2 hg2 => ?_)
  obtain ⟨⟨y2, rfl⟩, hg2⟩ := hg2
  refine fl_Tq.stp (pw_cod lx_k1704) rfl (fl_bo rfl) rfl ?_
  refine fl_Tq.stp (pw_cod lx_k1705) rfl (fl_bo rfl) rfl ?_
  exact kk m2 hg2
theorem ly_c54 {L : Nat} {xs : Nat → Int32} {m : fl_M} {Q : Option fl_V → fl_M → Prop} {i : Nat} (hall : ∀ c ∈ at_CM ++ at_CA, at_Valid at_XI (pw_P L xs) c) (hL : L ≤ 3072) (hi : i + 6 ≤ L) (hg : t2_Z m) (kk : ∀ m' : fl_M, t2_Z m' → fl_Tq (pw_P L xs) 0 2030 (lx_lv i) [] m' Q) : fl_Tq (pw_P L xs) 0 1708 (lx_lv i) [] m Q := by
  obtain ⟨f, l⟩ := m
  refine fl_Tq.stp (pw_cod lx_k1708) rfl (fl_bo rfl) rfl ?_
  refine lx_callG (as_ := [lx_x]) (rest := []) (pw_cod lx_k1709) (pw_cll lx_l238) rfl (fl_bo rfl) rfl rfl (t2_qcall (hall _ at_c157_in) rfl hg ⟨lx_kx _, True.intro⟩ rfl rfl rfl) (fun v1 m1 hg1 => ?_)
  obtain ⟨⟨y1, rfl⟩, hg1⟩ := hg1
  refine fl_Tq.stp (pw_cod lx_k1712) rfl (fl_bo rfl) rfl ?_
  refine fl_Tq.stp (pw_cod lx_k1713) rfl (fl_bo rfl) rfl ?_
  refine lx_callG (as_ := [at_this]) (rest := []) (pw_cod lx_k1714) (pw_cll lx_l241) rfl (fl_bo rfl) rfl rfl (t2_qcall (hall _ at_c293_in) rfl hg1 ⟨at_k277 _, True.intro⟩ rfl rfl rfl) (fun v2 m2 hg2 => ?_)
  obtain ⟨⟨y2, rfl⟩, hg2⟩ := hg2
  refine fl_Tq.stp (pw_cod lx_k1717) rfl (fl_bo rfl) rfl ?_
  refine fl_Tq.stp (pw_cod lx_k1718) rfl (fl_bo rfl) rfl ?_
  exact kk m2 hg2
theorem ly_c55 {L : Nat} {xs : Nat → Int32} {m : fl_M} {Q : Option fl_V → fl_M → Prop} {i : Nat} (hall : ∀ c ∈ at_CM ++ at_CA, at_Valid at_XI (pw_P L xs) c) (hL : L ≤ 3072) (hi : i + 6 ≤ L) (hg : t2_Z m) (kk : ∀ m' : fl_M, t2_Z m' → fl_Tq (pw_P L xs) 0 2030 (lx_lv i) [] m' Q) : fl_Tq (pw_P L xs) 0 1721 (lx_lv i) [] m Q := by
  obtain ⟨f, l⟩ := m
  refine fl_Tq.stp (pw_cod lx_k1721) rfl (fl_bo rfl) rfl ?_
  refine lx_arg (i := i) (jn := 1) (pw_cod lx_k1722) (pw_cod lx_k1723) (pw_cod lx_k1724) (pw_cod lx_k1725) (pw_cod lx_k1726) rfl (fl_bo rfl) hL (by omega) ?_
  refine lx_arg (i := i) (jn := 2) (pw_cod lx_k1727) (pw_cod lx_k1728) (pw_cod lx_k1729) (pw_cod lx_k1730) (pw_cod lx_k1731) rfl (fl_bo rfl) hL (by omega) ?_
  refine lx_callG (as_ := [lx_x, .inl (xs (i + 1)), .inl (xs (i + 2))]) (rest := []) (pw_cod lx_k1732) (pw_cll lx_l242) rfl (fl_bo rfl) rfl rfl (t2_qcall (hall _ at_c159_in) rfl hg ⟨lx_kx _, lx_ki _, lx_ki _, True.intro⟩ rfl rfl rfl) (fun v1 m1 hg1 => ?_)
  obtain ⟨⟨y1, rfl⟩, hg1⟩ := hg1
  refine fl_Tq.stp (pw_cod lx_k1735) rfl (fl_bo rfl) rfl ?_
  refine fl_Tq.stp (pw_cod lx_k1736) rfl (fl_bo rfl) rfl ?_
  refine lx_arg (i := i) (jn := 1) (pw_cod lx_k1737) (pw_cod lx_k1738) (pw_cod lx_k1739) (pw_cod lx_k1740) (pw_cod lx_k1741) rfl (fl_bo rfl) hL (by omega) ?_
  refine lx_arg (i := i) (jn := 2) (pw_cod lx_k1742) (pw_cod lx_k1743) (pw_cod lx_k1744) (pw_cod lx_k1745) (pw_cod lx_k1746) rfl (fl_bo rfl) hL (by omega) ?_
  obtain ⟨f1, l1⟩ := m1
  refine lx_callG (as_ := [at_this, .inl (xs (i + 1)), .inl (xs (i + 2))]) (rest := []) (pw_cod lx_k1747) (pw_cll lx_l245) rfl (fl_bo rfl) rfl rfl (t2_acallR (hall _ at_c310_in) rfl hg1 ⟨at_k277 _, lx_ki _, lx_ki _, True.intro⟩ rfl rfl rfl rfl (t2_z310 hall hg1.1)) (fun v2 m2 hg2 => ?_)
  obtain ⟨⟨y2, rfl⟩, hg2⟩ := hg2
  refine fl_Tq.stp (pw_cod lx_k1750) rfl (fl_bo rfl) rfl ?_
  refine fl_Tq.stp (pw_cod lx_k1751) rfl (fl_bo rfl) rfl ?_
  exact kk m2 hg2
theorem ly_c56 {L : Nat} {xs : Nat → Int32} {m : fl_M} {Q : Option fl_V → fl_M → Prop} {i : Nat} (hall : ∀ c ∈ at_CM ++ at_CA, at_Valid at_XI (pw_P L xs) c) (hL : L ≤ 3072) (hi : i + 6 ≤ L) (hg : t2_Z m) (kk : ∀ m' : fl_M, t2_Z m' → fl_Tq (pw_P L xs) 0 2030 (lx_lv i) [] m' Q) : fl_Tq (pw_P L xs) 0 1754 (lx_lv i) [] m Q := by
  obtain ⟨f, l⟩ := m
  refine fl_Tq.stp (pw_cod lx_k1754) rfl (fl_bo rfl) rfl ?_
  refine lx_arg (i := i) (jn := 1) (pw_cod lx_k1755) (pw_cod lx_k1756) (pw_cod lx_k1757) (pw_cod lx_k1758) (pw_cod lx_k1759) rfl (fl_bo rfl) hL (by omega) ?_
  refine lx_arg (i := i) (jn := 2) (pw_cod lx_k1760) (pw_cod lx_k1761) (pw_cod lx_k1762) (pw_cod lx_k1763) (pw_cod lx_k1764) rfl (fl_bo rfl) hL (by omega) ?_
  refine lx_arg (i := i) (jn := 3) (pw_cod lx_k1765) (pw_cod lx_k1766) (pw_cod lx_k1767) (pw_cod lx_k1768) (pw_cod lx_k1769) rfl (fl_bo rfl) hL (by omega) ?_
  refine lx_callG (as_ := [lx_x, .inl (xs (i + 1)), .inl (xs (i + 2)), .inl (xs (i + 3))]) (rest := []) (pw_cod lx_k1770) (pw_cll lx_l246) rfl (fl_bo rfl) rfl rfl (t2_qcall (hall _ at_c160_in) rfl hg ⟨lx_kx _, lx_ki _, lx_ki _, lx_ki _, True.intro⟩ rfl rfl rfl) (fun v1 m1 hg1 => ?_)
  obtain ⟨⟨y1, rfl⟩, hg1⟩ := hg1
  refine fl_Tq.stp (pw_cod lx_k1773) rfl (fl_bo rfl) rfl ?_
  refine fl_Tq.stp (pw_cod lx_k1774) rfl (fl_bo rfl) rfl ?_
  refine lx_arg (i := i) (jn := 1) (pw_cod lx_k1775) (pw_cod lx_k1776) (pw_cod lx_k1777) (pw_cod lx_k1778) (pw_cod lx_k1779) rfl (fl_bo rfl) hL (by omega) ?_
  refine lx_arg (i := i) (jn := 2) (pw_cod lx_k1780) (pw_cod lx_k1781) (pw_cod lx_k1782) (pw_cod lx_k1783) (pw_cod lx_k1784) rfl (fl_bo rfl) hL (by omega) ?_
  refine lx_arg (i := i) (jn := 3) (pw_cod lx_k1785) (pw_cod lx_k1786) (pw_cod lx_k1787) (pw_cod lx_k1788) (pw_cod lx_k1789) rfl (fl_bo rfl) hL (by omega) ?_
  obtain ⟨f1, l1⟩ := m1
  refine lx_callG (as_ := [at_this, .inl (xs (i + 1)), .inl (xs (i + 2)), .inl (xs (i + 3))]) (rest := []) (pw_cod lx_k1790) (pw_cll lx_l249) rfl (fl_bo rfl) rfl rfl (t2_acallR (hall _ at_c311_in) rfl hg1 ⟨at_k277 _, lx_ki _, lx_ki _, lx_ki _, True.intro⟩ rfl rfl rfl rfl (t2_z311 hall hg1.1)) (fun v2 m2 hg2 => ?_)
  obtain ⟨⟨y2, rfl⟩, hg2⟩ := hg2
  refine fl_Tq.stp (pw_cod lx_k1793) rfl (fl_bo rfl) rfl ?_
  refine fl_Tq.stp (pw_cod lx_k1794) rfl (fl_bo rfl) rfl ?_
  exact kk m2 hg2
theorem ly_c57 {L : Nat} {xs : Nat → Int32} {m : fl_M} {Q : Option fl_V → fl_M → Prop} {i : Nat} (hall : ∀ c ∈ at_CM ++ at_CA, at_Valid at_XI (pw_P L xs) c) (hL : L ≤ 3072) (hi : i + 6 ≤ L) (hg : t2_Z m) (kk : ∀ m' : fl_M, t2_Z m' → fl_Tq (pw_P L xs) 0 2030 (lx_lv i) [] m' Q) : fl_Tq (pw_P L xs) 0 1797 (lx_lv i) [] m Q := by
  obtain ⟨f, l⟩ := m
  refine fl_Tq.stp (pw_cod lx_k1797) rfl (fl_bo rfl) rfl ?_
  refine lx_arg (i := i) (jn := 1) (pw_cod lx_k1798) (pw_cod lx_k1799) (pw_cod lx_k1800) (pw_cod lx_k1801) (pw_cod lx_k1802) rfl (fl_bo rfl) hL (by omega) ?_
  refine lx_callG (as_ := [lx_x, .inl (xs (i + 1))]) (rest := []) (pw_cod lx_k1803) (pw_cll lx_l250) rfl (fl_bo rfl) rfl rfl (t2_qcall (hall _ at_c161_in) rfl hg ⟨lx_kx _, lx_ki _, True.intro⟩ rfl rfl rfl) (fun v1 m1 hg1 => ?_)
  obtain ⟨⟨y1, rfl⟩, hg1⟩ := hg1
  refine fl_Tq.stp (pw_cod lx_k1806) rfl (fl_bo rfl) rfl ?_
  refine fl_Tq.stp (pw_cod lx_k1807) rfl (fl_bo rfl) rfl ?_
  refine lx_arg (i := i) (jn := 1) (pw_cod lx_k1808) (pw_cod lx_k1809) (pw_cod lx_k1810) (pw_cod lx_k1811) (pw_cod lx_k1812) rfl (fl_bo rfl) hL (by omega) ?_
  obtain ⟨f1, l1⟩ := m1
  refine lx_callG (as_ := [at_this, .inl (xs (i + 1))]) (rest := []) (pw_cod lx_k1813) (pw_cll lx_l253) rfl (fl_bo rfl) rfl rfl (t2_acallR (hall _ at_c312_in) rfl hg1 ⟨at_k277 _, lx_ki _, True.intro⟩ rfl rfl rfl rfl (t2_z312 hall hg1.1)) (fun v2 m2 hg2 => ?_)
  obtain ⟨⟨y2, rfl⟩, hg2⟩ := hg2
  refine fl_Tq.stp (pw_cod lx_k1816) rfl (fl_bo rfl) rfl ?_
  refine fl_Tq.stp (pw_cod lx_k1817) rfl (fl_bo rfl) rfl ?_
  exact kk m2 hg2
theorem ly_c58 {L : Nat} {xs : Nat → Int32} {m : fl_M} {Q : Option fl_V → fl_M → Prop} {i : Nat} (hall : ∀ c ∈ at_CM ++ at_CA, at_Valid at_XI (pw_P L xs) c) (hL : L ≤ 3072) (hi : i + 6 ≤ L) (hg : t2_Z m) (kk : ∀ m' : fl_M, t2_Z m' → fl_Tq (pw_P L xs) 0 2030 (lx_lv i) [] m' Q) : fl_Tq (pw_P L xs) 0 1820 (lx_lv i) [] m Q := by
  obtain ⟨f, l⟩ := m
  refine fl_Tq.stp (pw_cod lx_k1820) rfl (fl_bo rfl) rfl ?_
  refine lx_callG (as_ := [lx_x]) (rest := []) (pw_cod lx_k1821) (pw_cll lx_l254) rfl (fl_bo rfl) rfl rfl (t2_qcall (hall _ at_c162_in) rfl hg ⟨lx_kx _, True.intro⟩ rfl rfl rfl) (fun v1 m1 hg1 => ?_)
  obtain ⟨⟨y1, rfl⟩, hg1⟩ := hg1
  refine fl_Tq.stp (pw_cod lx_k1824) rfl (fl_bo rfl) rfl ?_
  refine fl_Tq.stp (pw_cod lx_k1825) rfl (fl_bo rfl) rfl ?_
  obtain ⟨f1, l1⟩ := m1
  refine lx_callG (as_ := [at_this]) (rest := []) (pw_cod lx_k1826) (pw_cll lx_l257) rfl (fl_bo rfl) rfl rfl (t2_acallR (hall _ at_c313_in) rfl hg1 ⟨at_k277 _, True.intro⟩ rfl rfl rfl rfl (t2_z313 hall hg1.1)) (fun v2 m2 hg2 => ?_)
  obtain ⟨⟨y2, rfl⟩, hg2⟩ := hg2
  refine fl_Tq.stp (pw_cod lx_k1829) rfl (fl_bo rfl) rfl ?_
  refine fl_Tq.stp (pw_cod lx_k1830) rfl (fl_bo rfl) rfl ?_
  exact kk m2 hg2
theorem ly_c59 {L : Nat} {xs : Nat → Int32} {m : fl_M} {Q : Option fl_V → fl_M → Prop} {i : Nat} (hall : ∀ c ∈ at_CM ++ at_CA, at_Valid at_XI (pw_P L xs) c) (hL : L ≤ 3072) (hi : i + 6 ≤ L) (hg : t2_Z m) (kk : ∀ m' : fl_M, t2_Z m' → fl_Tq (pw_P L xs) 0 2030 (lx_lv i) [] m' Q) : fl_Tq (pw_P L xs) 0 1833 (lx_lv i) [] m Q := by
  obtain ⟨f, l⟩ := m
  refine fl_Tq.stp (pw_cod lx_k1833) rfl (fl_bo rfl) rfl ?_
  refine lx_arg (i := i) (jn := 1) (pw_cod lx_k1834) (pw_cod lx_k1835) (pw_cod lx_k1836) (pw_cod lx_k1837) (pw_cod lx_k1838) rfl (fl_bo rfl) hL (by omega) ?_
  refine lx_callG (as_ := [lx_x, .inl (xs (i + 1))]) (rest := []) (pw_cod lx_k1839) (pw_cll lx_l258) rfl (fl_bo rfl) rfl rfl (t2_qcall (hall _ at_c163_in) rfl hg ⟨lx_kx _, lx_ki _, True.intro⟩ rfl rfl rfl) (fun v1 m1 hg1 => ?_)
  obtain ⟨⟨y1, rfl⟩, hg1⟩ := hg1
  refine fl_Tq.stp (pw_cod lx_k1842) rfl (fl_bo rfl) rfl ?_
  refine fl_Tq.stp (pw_cod lx_k1843) rfl (fl_bo rfl) rfl ?_
  refine lx_arg (i := i) (jn := 1) (pw_cod lx_k1844) (pw_cod lx_k1845) (pw_cod lx_k1846) (pw_cod lx_k1847) (pw_cod lx_k1848) rfl (fl_bo rfl) hL (by omega) ?_
  obtain ⟨f1, l1⟩ := m1
  refine lx_callG (as_ := [at_this, .inl (xs (i + 1))]) (rest := []) (pw_cod lx_k1849) (pw_cll lx_l261) rfl (fl_bo rfl) rfl rfl (t2_acallR (hall _ at_c314_in) rfl hg1 ⟨at_k277 _, lx_ki _, True.intro⟩ rfl rfl rfl rfl (t2_z314 hall hg1.1)) (fun v2 m2 hg2 => ?_)
  obtain ⟨⟨y2, rfl⟩, hg2⟩ := hg2
  refine fl_Tq.stp (pw_cod lx_k1852) rfl (fl_bo rfl) rfl ?_
  refine fl_Tq.stp (pw_cod lx_k1853) rfl (fl_bo rfl) rfl ?_
  exact kk m2 hg2
theorem ly_c60 {L : Nat} {xs : Nat → Int32} {m : fl_M} {Q : Option fl_V → fl_M → Prop} {i : Nat} (hall : ∀ c ∈ at_CM ++ at_CA, at_Valid at_XI (pw_P L xs) c) (hL : L ≤ 3072) (hi : i + 6 ≤ L) (hg : t2_Z m) (kk : ∀ m' : fl_M, t2_Z m' → fl_Tq (pw_P L xs) 0 2030 (lx_lv i) [] m' Q) : fl_Tq (pw_P L xs) 0 1856 (lx_lv i) [] m Q := by
  obtain ⟨f, l⟩ := m
  refine fl_Tq.stp (pw_cod lx_k1856) rfl (fl_bo rfl) rfl ?_
  refine lx_arg (i := i) (jn := 1) (pw_cod lx_k1857) (pw_cod lx_k1858) (pw_cod lx_k1859) (pw_cod lx_k1860) (pw_cod lx_k1861) rfl (fl_bo rfl) hL (by omega) ?_
  refine lx_arg (i := i) (jn := 2) (pw_cod lx_k1862) (pw_cod lx_k1863) (pw_cod lx_k1864) (pw_cod lx_k1865) (pw_cod lx_k1866) rfl (fl_bo rfl) hL (by omega) ?_
  refine lx_callG (as_ := [lx_x, .inl (xs (i + 1)), .inl (xs (i + 2))]) (rest := []) (pw_cod lx_k1867) (pw_cll lx_l262) rfl (fl_bo rfl) rfl rfl (t2_qcall (hall _ at_c164_in) rfl hg ⟨lx_kx _, lx_ki _, lx_ki _, True.intro⟩ rfl rfl rfl) (fun v1 m1 hg1 => ?_)
  obtain ⟨⟨y1, rfl⟩, hg1⟩ := hg1
  refine fl_Tq.stp (pw_cod lx_k1870) rfl (fl_bo rfl) rfl ?_
  refine fl_Tq.stp (pw_cod lx_k1871) rfl (fl_bo rfl) rfl ?_
  refine lx_arg (i := i) (jn := 1) (pw_cod lx_k1872) (pw_cod lx_k1873) (pw_cod lx_k1874) (pw_cod lx_k1875) (pw_cod lx_k1876) rfl (fl_bo rfl) hL (by omega) ?_
  refine lx_arg (i := i) (jn := 2) (pw_cod lx_k1877) (pw_cod lx_k1878) (pw_cod lx_k1879) (pw_cod lx_k1880) (pw_cod lx_k1881) rfl (fl_bo rfl) hL (by omega) ?_
  obtain ⟨f1, l1⟩ := m1
  refine lx_callG (as_ := [at_this, .inl (xs (i + 1)), .inl (xs (i + 2))]) (rest := []) (pw_cod lx_k1882) (pw_cll lx_l265) rfl (fl_bo rfl) rfl rfl (t2_acall (hall _ at_c316_in) rfl hg1 ⟨at_k277 _, lx_ki _, lx_ki _, True.intro⟩ rfl rfl rfl (t2_z316 hall hg1.1 hg1.2.2.2.2)) (fun v2 m2 hg2 => ?_)
  obtain ⟨⟨y2, rfl⟩, hg2⟩ := hg2
  refine fl_Tq.stp (pw_cod lx_k1885) rfl (fl_bo rfl) rfl ?_
  refine fl_Tq.stp (pw_cod lx_k1886) rfl (fl_bo rfl) rfl ?_
  exact kk m2 hg2
theorem ly_c61 {L : Nat} {xs : Nat → Int32} {m : fl_M} {Q : Option fl_V → fl_M → Prop} {i : Nat} (hall : ∀ c ∈ at_CM ++ at_CA, at_Valid at_XI (pw_P L xs) c) (hL : L ≤ 3072) (hi : i + 6 ≤ L) (hg : t2_Z m) (kk : ∀ m' : fl_M, t2_Z m' → fl_Tq (pw_P L xs) 0 2030 (lx_lv i) [] m' Q) : fl_Tq (pw_P L xs) 0 1889 (lx_lv i) [] m Q := by
  obtain ⟨f, l⟩ := m
  refine fl_Tq.stp (pw_cod lx_k1889) rfl (fl_bo rfl) rfl ?_
  refine lx_arg (i := i) (jn := 1) (pw_cod lx_k1890) (pw_cod lx_k1891) (pw_cod lx_k1892) (pw_cod lx_k1893) (pw_cod lx_k1894) rfl (fl_bo rfl) hL (by omega) ?_
  refine lx_arg (i := i) (jn := 2) (pw_cod lx_k1895) (pw_cod lx_k1896) (pw_cod lx_k1897) (pw_cod lx_k1898) (pw_cod lx_k1899) rfl (fl_bo rfl) hL (by omega) ?_
  refine lx_callG (as_ := [lx_x, .inl (xs (i + 1)), .inl (xs (i + 2))]) (rest := []) (pw_cod lx_k1900) (pw_cll lx_l266) rfl (fl_bo rfl) rfl rfl (t2_qcall (hall _ at_c165_in) rfl hg ⟨lx_kx _, lx_ki _, lx_ki _, True.intro⟩ rfl rfl rfl) (fun v1 m1 hg1 => ?_)
  obtain ⟨⟨y1, rfl⟩, hg1⟩ := hg1
  refine fl_Tq.stp (pw_cod lx_k1903) rfl (fl_bo rfl) rfl ?_
  refine fl_Tq.stp (pw_cod lx_k1904) rfl (fl_bo rfl) rfl ?_
  refine lx_arg (i := i) (jn := 1) (pw_cod lx_k1905) (pw_cod lx_k1906) (pw_cod lx_k1907) (pw_cod lx_k1908) (pw_cod lx_k1909) rfl (fl_bo rfl) hL (by omega) ?_
  refine lx_arg (i := i) (jn := 2) (pw_cod lx_k1910) (pw_cod lx_k1911) (pw_cod lx_k1912) (pw_cod lx_k1913) (pw_cod lx_k1914) rfl (fl_bo rfl) hL (by omega) ?_
  obtain ⟨f1, l1⟩ := m1
  refine lx_callG (as_ := [at_this, .inl (xs (i + 1)), .inl (xs (i + 2))]) (rest := []) (pw_cod lx_k1915) (pw_cll lx_l269) rfl (fl_bo rfl) rfl rfl (t2_acallR (hall _ at_c319_in) rfl hg1 ⟨at_k277 _, lx_ki _, lx_ki _, True.intro⟩ rfl rfl rfl rfl (t2_z319 hall hg1.1)) (fun v2 m2 hg2 => ?_)
  obtain ⟨⟨y2, rfl⟩, hg2⟩ := hg2
  refine fl_Tq.stp (pw_cod lx_k1918) rfl (fl_bo rfl) rfl ?_
  refine fl_Tq.stp (pw_cod lx_k1919) rfl (fl_bo rfl) rfl ?_
  exact kk m2 hg2
theorem ly_c62 {L : Nat} {xs : Nat → Int32} {m : fl_M} {Q : Option fl_V → fl_M → Prop} {i : Nat} (hall : ∀ c ∈ at_CM ++ at_CA, at_Valid at_XI (pw_P L xs) c) (hL : L ≤ 3072) (hi : i + 6 ≤ L) (hg : t2_Z m) (kk : ∀ m' : fl_M, t2_Z m' → fl_Tq (pw_P L xs) 0 2030 (lx_lv i) [] m' Q) : fl_Tq (pw_P L xs) 0 1922 (lx_lv i) [] m Q := by
  obtain ⟨f, l⟩ := m
  refine fl_Tq.stp (pw_cod lx_k1922) rfl (fl_bo rfl) rfl ?_
  refine lx_arg (i := i) (jn := 1) (pw_cod lx_k1923) (pw_cod lx_k1924) (pw_cod lx_k1925) (pw_cod lx_k1926) (pw_cod lx_k1927) rfl (fl_bo rfl) hL (by omega) ?_
  refine lx_callG (as_ := [lx_x, .inl (xs (i + 1))]) (rest := []) (pw_cod lx_k1928) (pw_cll lx_l270) rfl (fl_bo rfl) rfl rfl (t2_qcall (hall _ at_c166_in) rfl hg ⟨lx_kx _, lx_ki _, True.intro⟩ rfl rfl rfl) (fun v1 m1 hg1 => ?_)
  obtain ⟨⟨y1, rfl⟩, hg1⟩ := hg1
  refine fl_Tq.stp (pw_cod lx_k1931) rfl (fl_bo rfl) rfl ?_
  refine fl_Tq.stp (pw_cod lx_k1932) rfl (fl_bo rfl) rfl ?_
  refine lx_arg (i := i) (jn := 1) (pw_cod lx_k1933) (pw_cod lx_k1934) (pw_cod lx_k1935) (pw_cod lx_k1936) (pw_cod lx_k1937) rfl (fl_bo rfl) hL (by omega) ?_
  obtain ⟨f1, l1⟩ := m1
  refine lx_callG (as_ := [at_this, .inl (xs (i + 1))]) (rest := []) (pw_cod lx_k1938) (pw_cll lx_l273) rfl (fl_bo rfl) rfl rfl (t2_acall (hall _ at_c317_in) rfl hg1 ⟨at_k277 _, lx_ki _, True.intro⟩ rfl rfl rfl (t2_z317 hall hg1.1 hg1.2.2.2.2)) (fun v2 m2 hg2 => ?_)
  obtain ⟨⟨y2, rfl⟩, hg2⟩ := hg2
  refine fl_Tq.stp (pw_cod lx_k1941) rfl (fl_bo rfl) rfl ?_
  refine fl_Tq.stp (pw_cod lx_k1942) rfl (fl_bo rfl) rfl ?_
  exact kk m2 hg2
theorem ly_c63 {L : Nat} {xs : Nat → Int32} {m : fl_M} {Q : Option fl_V → fl_M → Prop} {i : Nat} (hall : ∀ c ∈ at_CM ++ at_CA, at_Valid at_XI (pw_P L xs) c) (hL : L ≤ 3072) (hi : i + 6 ≤ L) (hg : t2_Z m) (kk : ∀ m' : fl_M, t2_Z m' → fl_Tq (pw_P L xs) 0 2030 (lx_lv i) [] m' Q) : fl_Tq (pw_P L xs) 0 1945 (lx_lv i) [] m Q := by
  obtain ⟨f, l⟩ := m
  refine fl_Tq.stp (pw_cod lx_k1945) rfl (fl_bo rfl) rfl ?_
  refine lx_arg (i := i) (jn := 1) (pw_cod lx_k1946) (pw_cod lx_k1947) (pw_cod lx_k1948) (pw_cod lx_k1949) (pw_cod lx_k1950) rfl (fl_bo rfl) hL (by omega) ?_
  refine lx_callG (as_ := [lx_x, .inl (xs (i + 1))]) (rest := []) (pw_cod lx_k1951) (pw_cll lx_l274) rfl (fl_bo rfl) rfl rfl (t2_qcall (hall _ at_c167_in) rfl hg ⟨lx_kx _, lx_ki _, True.intro⟩ rfl rfl rfl) (fun v1 m1 hg1 => ?_)
  obtain ⟨⟨y1, rfl⟩, hg1⟩ := hg1
  refine fl_Tq.stp (pw_cod lx_k1954) rfl (fl_bo rfl) rfl ?_
  refine fl_Tq.stp (pw_cod lx_k1955) rfl (fl_bo rfl) rfl ?_
  refine lx_arg (i := i) (jn := 1) (pw_cod lx_k1956) (pw_cod lx_k1957) (pw_cod lx_k1958) (pw_cod lx_k1959) (pw_cod lx_k1960) rfl (fl_bo rfl) hL (by omega) ?_
  obtain ⟨f1, l1⟩ := m1
  refine lx_callG (as_ := [at_this, .inl (xs (i + 1))]) (rest := []) (pw_cod lx_k1961) (pw_cll lx_l277) rfl (fl_bo rfl) rfl rfl (t2_acallR (hall _ at_c321_in) rfl hg1 ⟨at_k277 _, lx_ki _, True.intro⟩ rfl rfl rfl rfl (t2_z321 hall hg1.1)) (fun v2 m2 hg2 => ?_)
  obtain ⟨⟨y2, rfl⟩, hg2⟩ := hg2
  refine fl_Tq.stp (pw_cod lx_k1964) rfl (fl_bo rfl) rfl ?_
  refine fl_Tq.stp (pw_cod lx_k1965) rfl (fl_bo rfl) rfl ?_
  exact kk m2 hg2
theorem ly_c64 {L : Nat} {xs : Nat → Int32} {m : fl_M} {Q : Option fl_V → fl_M → Prop} {i : Nat} (hall : ∀ c ∈ at_CM ++ at_CA, at_Valid at_XI (pw_P L xs) c) (hL : L ≤ 3072) (hi : i + 6 ≤ L) (hg : t2_Z m) (kk : ∀ m' : fl_M, t2_Z m' → fl_Tq (pw_P L xs) 0 2030 (lx_lv i) [] m' Q) : fl_Tq (pw_P L xs) 0 1968 (lx_lv i) [] m Q := by
  obtain ⟨f, l⟩ := m
  refine fl_Tq.stp (pw_cod lx_k1968) rfl (fl_bo rfl) rfl ?_
  refine lx_arg (i := i) (jn := 1) (pw_cod lx_k1969) (pw_cod lx_k1970) (pw_cod lx_k1971) (pw_cod lx_k1972) (pw_cod lx_k1973) rfl (fl_bo rfl) hL (by omega) ?_
  refine lx_callG (as_ := [lx_x, .inl (xs (i + 1))]) (rest := []) (pw_cod lx_k1974) (pw_cll lx_l278) rfl (fl_bo rfl) rfl rfl (t2_qcall (hall _ at_c168_in) rfl hg ⟨lx_kx _, lx_ki _, True.intro⟩ rfl rfl rfl) (fun v1 m1 hg1 => ?_)
  obtain ⟨⟨y1, rfl⟩, hg1⟩ := hg1
  refine fl_Tq.stp (pw_cod lx_k1977) rfl (fl_bo rfl) rfl ?_
  refine fl_Tq.stp (pw_cod lx_k1978) rfl (fl_bo rfl) rfl ?_
  refine lx_arg (i := i) (jn := 1) (pw_cod lx_k1979) (pw_cod lx_k1980) (pw_cod lx_k1981) (pw_cod lx_k1982) (pw_cod lx_k1983) rfl (fl_bo rfl) hL (by omega) ?_
  obtain ⟨f1, l1⟩ := m1
  refine lx_callG (as_ := [at_this, .inl (xs (i + 1))]) (rest := []) (pw_cod lx_k1984) (pw_cll lx_l281) rfl (fl_bo rfl) rfl rfl (t2_acallR (hall _ at_c322_in) rfl hg1 ⟨at_k277 _, lx_ki _, True.intro⟩ rfl rfl rfl rfl (t2_z322 hall hg1.1)) (fun v2 m2 hg2 => ?_)
  obtain ⟨⟨y2, rfl⟩, hg2⟩ := hg2
  refine fl_Tq.stp (pw_cod lx_k1987) rfl (fl_bo rfl) rfl ?_
  refine fl_Tq.stp (pw_cod lx_k1988) rfl (fl_bo rfl) rfl ?_
  exact kk m2 hg2
theorem ly_c65 {L : Nat} {xs : Nat → Int32} {m : fl_M} {Q : Option fl_V → fl_M → Prop} {i : Nat} (hall : ∀ c ∈ at_CM ++ at_CA, at_Valid at_XI (pw_P L xs) c) (hL : L ≤ 3072) (hi : i + 6 ≤ L) (hg : t2_Z m) (kk : ∀ m' : fl_M, t2_Z m' → fl_Tq (pw_P L xs) 0 2030 (lx_lv i) [] m' Q) : fl_Tq (pw_P L xs) 0 1991 (lx_lv i) [] m Q := by
  obtain ⟨f, l⟩ := m
  refine fl_Tq.stp (pw_cod lx_k1991) rfl (fl_bo rfl) rfl ?_
  refine lx_callG (as_ := [lx_x]) (rest := []) (pw_cod lx_k1992) (pw_cll lx_l282) rfl (fl_bo rfl) rfl rfl (t2_step (ar := [at_this]) (hall _ at_c120_in) (hall _ at_c323_in) rfl rfl hg ⟨lx_kx _, True.intro⟩ rfl (fun _ => ⟨at_k277 _, True.intro⟩) rfl (t2_image hg)) (fun v1 m1 hg1 => ?_)
  obtain ⟨⟨y1, rfl⟩, hg1⟩ := hg1
  refine fl_Tq.stp (pw_cod lx_k1995) rfl (fl_bo rfl) rfl ?_
  refine fl_Tq.stp (pw_cod lx_k1996) rfl (fl_bo rfl) rfl ?_
  refine lx_callG (as_ := [at_this]) (rest := []) (pw_cod lx_k1997) (pw_cll lx_l285) rfl (fl_bo rfl) rfl rfl hg1 (fun v2 m2 hg2 => ?_)
  obtain ⟨rfl, hg2⟩ := hg2
  refine fl_Tq.stp (pw_cod lx_k2000) rfl (fl_bo rfl) rfl ?_
  refine fl_Tq.stp (pw_cod lx_k2001) rfl (fl_bo rfl) rfl ?_
  exact kk m2 hg2
theorem ly_c66 {L : Nat} {xs : Nat → Int32} {m : fl_M} {Q : Option fl_V → fl_M → Prop} {i : Nat} (hall : ∀ c ∈ at_CM ++ at_CA, at_Valid at_XI (pw_P L xs) c) (hL : L ≤ 3072) (hi : i + 6 ≤ L) (hg : t2_Z m) (kk : ∀ m' : fl_M, t2_Z m' → fl_Tq (pw_P L xs) 0 2030 (lx_lv i) [] m' Q) : fl_Tq (pw_P L xs) 0 2004 (lx_lv i) [] m Q := by
  obtain ⟨f, l⟩ := m
  refine fl_Tq.stp (pw_cod lx_k2004) rfl (fl_bo rfl) rfl ?_
  refine lx_callG (as_ := [lx_x]) (rest := []) (pw_cod lx_k2005) (pw_cll lx_l286) rfl (fl_bo rfl) rfl rfl (t2_step (ar := [at_this]) (hall _ at_c121_in) (hall _ at_c324_in) rfl rfl hg ⟨lx_kx _, True.intro⟩ rfl (fun _ => ⟨at_k277 _, True.intro⟩) rfl (t2_back hg)) (fun v1 m1 hg1 => ?_)
  obtain ⟨⟨y1, rfl⟩, hg1⟩ := hg1
  refine fl_Tq.stp (pw_cod lx_k2008) rfl (fl_bo rfl) rfl ?_
  refine fl_Tq.stp (pw_cod lx_k2009) rfl (fl_bo rfl) rfl ?_
  refine lx_callG (as_ := [at_this]) (rest := []) (pw_cod lx_k2010) (pw_cll lx_l289) rfl (fl_bo rfl) rfl rfl hg1 (fun v2 m2 hg2 => ?_)
  obtain ⟨rfl, hg2⟩ := hg2
  refine fl_Tq.stp (pw_cod lx_k2013) rfl (fl_bo rfl) rfl ?_
  refine fl_Tq.stp (pw_cod lx_k2014) rfl (fl_bo rfl) rfl ?_
  exact kk m2 hg2
theorem ly_c67 {L : Nat} {xs : Nat → Int32} {m : fl_M} {Q : Option fl_V → fl_M → Prop} {i : Nat} (hall : ∀ c ∈ at_CM ++ at_CA, at_Valid at_XI (pw_P L xs) c) (hL : L ≤ 3072) (hi : i + 6 ≤ L) (hg : t2_Z m) (kk : ∀ m' : fl_M, t2_Z m' → fl_Tq (pw_P L xs) 0 2030 (lx_lv i) [] m' Q) : fl_Tq (pw_P L xs) 0 2017 (lx_lv i) [] m Q := by
  obtain ⟨f, l⟩ := m
  refine fl_Tq.stp (pw_cod lx_k2017) rfl (fl_bo rfl) rfl ?_
  refine lx_callG (as_ := [lx_x]) (rest := []) (pw_cod lx_k2018) (pw_cll lx_l290) rfl (fl_bo rfl) rfl rfl (t2_qcall (hall _ at_c158_in) rfl hg ⟨lx_kx _, True.intro⟩ rfl rfl rfl) (fun v1 m1 hg1 => ?_)
  obtain ⟨⟨y1, rfl⟩, hg1⟩ := hg1
  refine fl_Tq.stp (pw_cod lx_k2021) rfl (fl_bo rfl) rfl ?_
  refine fl_Tq.stp (pw_cod lx_k2022) rfl (fl_bo rfl) rfl ?_
  refine lx_callG (as_ := [at_this]) (rest := []) (pw_cod lx_k2023) (pw_cll lx_l293) rfl (fl_bo rfl) rfl rfl (t2_qcall (hall _ at_c325_in) rfl hg1 ⟨at_k277 _, True.intro⟩ rfl rfl rfl) (fun v2 m2 hg2 => ?_)
  obtain ⟨⟨y2, rfl⟩, hg2⟩ := hg2
  refine fl_Tq.stp (pw_cod lx_k2026) rfl (fl_bo rfl) rfl ?_
  refine fl_Tq.stp (pw_cod lx_k2027) rfl (fl_bo rfl) rfl ?_
  exact kk m2 hg2

end

/-! 95.19.lawsw.lean.txt -/
section
/-! ===== printed by wip/gen/lawgen3.py: the switch ===== -/
def lx_tg : List Nat := [320, 363, 396, 429, 462, 485, 498, 511, 534, 567, 600, 613, 646, 669, 702, 781, 794, 807, 820, 833, 856, 879, 912, 945, 978, 1011, 1044, 1077, 1100, 1113, 1136, 1169, 1192, 1235, 1258, 1271, 1284, 1297, 1320, 1343, 1386, 1419, 1432, 1455, 1478, 1501, 1524, 1547, 1560, 1583, 1606, 1639, 1672, 1695, 1708, 1721, 1754, 1797, 1820, 1833, 1856, 1889, 1922, 1945, 1968, 1991, 2004, 2017]
theorem lx_swt : (List.range 68).all (fun z => am_swk (Int32.ofNat z) 0 67 #[287, 330, 363, 396, 429, 452, 465, 478, 501, 534, 567, 580, 613, 636, 669, 748, 761, 774, 787, 800, 823, 846, 879, 912, 945, 978, 1011, 1044, 1067, 1080, 1103, 1136, 1159, 1202, 1225, 1238, 1251, 1264, 1287, 1310, 1353, 1386, 1399, 1422, 1445, 1468, 1491, 1514, 1527, 1550, 1573, 1606, 1639, 1662, 1675, 1688, 1721, 1764, 1787, 1800, 1823, 1856, 1889, 1912, 1935, 1958, 1971, 1984] && decide (am_tg 33 (am_sw (Int32.ofNat z) 1997 0 67 #[287, 330, 363, 396, 429, 452, 465, 478, 501, 534, 567, 580, 613, 636, 669, 748, 761, 774, 787, 800, 823, 846, 879, 912, 945, 978, 1011, 1044, 1067, 1080, 1103, 1136, 1159, 1202, 1225, 1238, 1251, 1264, 1287, 1310, 1353, 1386, 1399, 1422, 1445, 1468, 1491, 1514, 1527, 1550, 1573, 1606, 1639, 1662, 1675, 1688, 1721, 1764, 1787, 1800, 1823, 1856, 1889, 1912, 1935, 1958, 1971, 1984]) = some (lx_tg.getD z 0))) = true := by decide +kernel
theorem ly_case {L : Nat} {xs : Nat → Int32} {m : fl_M} {Q : Option fl_V → fl_M → Prop} {i : Nat} (hall : ∀ c ∈ at_CM ++ at_CA, at_Valid at_XI (pw_P L xs) c) (hL : L ≤ 3072) (hi : i + 6 ≤ L) (hg : t2_Z m) (kk : ∀ m' : fl_M, t2_Z m' → fl_Tq (pw_P L xs) 0 2030 (lx_lv i) [] m' Q) : ∀ z : Nat, z < 68 → fl_Tq (pw_P L xs) 0 (lx_tg.getD z 0) (lx_lv i) [] m Q
  | 0, _ => ly_c0 hall hL hi hg kk
  | 1, _ => ly_c1 hall hL hi hg kk
  | 2, _ => ly_c2 hall hL hi hg kk
  | 3, _ => ly_c3 hall hL hi hg kk
  | 4, _ => ly_c4 hall hL hi hg kk
  | 5, _ => ly_c5 hall hL hi hg kk
  | 6, _ => ly_c6 hall hL hi hg kk
  | 7, _ => ly_c7 hall hL hi hg kk
  | 8, _ => ly_c8 hall hL hi hg kk
  | 9, _ => ly_c9 hall hL hi hg kk
  | 10, _ => ly_c10 hall hL hi hg kk
  | 11, _ => ly_c11 hall hL hi hg kk
  | 12, _ => ly_c12 hall hL hi hg kk
  | 13, _ => ly_c13 hall hL hi hg kk
  | 14, _ => ly_c14 hall hL hi hg kk
  | 15, _ => ly_c15 hall hL hi hg kk
  | 16, _ => ly_c16 hall hL hi hg kk
  | 17, _ => ly_c17 hall hL hi hg kk
  | 18, _ => ly_c18 hall hL hi hg kk
  | 19, _ => ly_c19 hall hL hi hg kk
  | 20, _ => ly_c20 hall hL hi hg kk
  | 21, _ => ly_c21 hall hL hi hg kk
  | 22, _ => ly_c22 hall hL hi hg kk
  | 23, _ => ly_c23 hall hL hi hg kk
  | 24, _ => ly_c24 hall hL hi hg kk
  | 25, _ => ly_c25 hall hL hi hg kk
  | 26, _ => ly_c26 hall hL hi hg kk
  | 27, _ => ly_c27 hall hL hi hg kk
  | 28, _ => ly_c28 hall hL hi hg kk
  | 29, _ => ly_c29 hall hL hi hg kk
  | 30, _ => ly_c30 hall hL hi hg kk
  | 31, _ => ly_c31 hall hL hi hg kk
  | 32, _ => ly_c32 hall hL hi hg kk
  | 33, _ => ly_c33 hall hL hi hg kk
  | 34, _ => ly_c34 hall hL hi hg kk
  | 35, _ => ly_c35 hall hL hi hg kk
  | 36, _ => ly_c36 hall hL hi hg kk
  | 37, _ => ly_c37 hall hL hi hg kk
  | 38, _ => ly_c38 hall hL hi hg kk
  | 39, _ => ly_c39 hall hL hi hg kk
  | 40, _ => ly_c40 hall hL hi hg kk
  | 41, _ => ly_c41 hall hL hi hg kk
  | 42, _ => ly_c42 hall hL hi hg kk
  | 43, _ => ly_c43 hall hL hi hg kk
  | 44, _ => ly_c44 hall hL hi hg kk
  | 45, _ => ly_c45 hall hL hi hg kk
  | 46, _ => ly_c46 hall hL hi hg kk
  | 47, _ => ly_c47 hall hL hi hg kk
  | 48, _ => ly_c48 hall hL hi hg kk
  | 49, _ => ly_c49 hall hL hi hg kk
  | 50, _ => ly_c50 hall hL hi hg kk
  | 51, _ => ly_c51 hall hL hi hg kk
  | 52, _ => ly_c52 hall hL hi hg kk
  | 53, _ => ly_c53 hall hL hi hg kk
  | 54, _ => ly_c54 hall hL hi hg kk
  | 55, _ => ly_c55 hall hL hi hg kk
  | 56, _ => ly_c56 hall hL hi hg kk
  | 57, _ => ly_c57 hall hL hi hg kk
  | 58, _ => ly_c58 hall hL hi hg kk
  | 59, _ => ly_c59 hall hL hi hg kk
  | 60, _ => ly_c60 hall hL hi hg kk
  | 61, _ => ly_c61 hall hL hi hg kk
  | 62, _ => ly_c62 hall hL hi hg kk
  | 63, _ => ly_c63 hall hL hi hg kk
  | 64, _ => ly_c64 hall hL hi hg kk
  | 65, _ => ly_c65 hall hL hi hg kk
  | 66, _ => ly_c66 hall hL hi hg kk
  | 67, _ => ly_c67 hall hL hi hg kk
  | n + 68, h => absurd h (by omega)

end

/-! 95.30.loop.lean.txt -/
section
/-! ===== the law's loop ===== -/
section LWLP
variable {L : Nat} {xs : Nat → Int32}
def lx_Q (v : Option fl_V) (m : fl_M) : Prop := v = some (.inl 1) ∧ m.2.2 ≤ 40
theorem lx_and (x : Int32) : 0 ≤ (x &&& (Int8.ofInt 127).toInt32).toInt ∧ (x &&& (Int8.ofInt 127).toInt32).toInt ≤ 127 := by
  have e : (x &&& (Int8.ofInt 127).toInt32).toInt = ((x.toUInt32 &&& 127).toNat : Int) := by
    have h : ∀ u : UInt32, (Int32.ofUInt32 (u &&& 127)).toInt = ((u &&& 127).toNat : Int) := by
      intro u
      have hu : (u &&& 127).toNat ≤ 127 := by
        rw [UInt32.toNat_and]
        exact Nat.and_le_right
      show (Int32.ofUInt32 (u &&& 127)).toBitVec.toInt = _
      rw [BitVec.toInt_eq_toNat_cond]
      have : (Int32.ofUInt32 (u &&& 127)).toBitVec.toNat = (u &&& 127).toNat := rfl
      rw [this, if_pos (by omega)]
    exact h x.toUInt32
  have hu : (x.toUInt32 &&& 127).toNat ≤ 127 := by
    rw [UInt32.toNat_and]
    exact Nat.and_le_right
  omega
theorem ly_loop (hall : ∀ c ∈ at_CM ++ at_CA, at_Valid at_XI (pw_P L xs) c) (hL : L ≤ 3072) : ∀ (d i : Nat) (m : fl_M), L ≤ i + d → i ≤ L + 6 → t2_Z m → fl_Tq (pw_P L xs) 0 18 (lx_lv i) [] m lx_Q := by
  have e6 : (Int8.ofInt 6).toInt32.toInt = 6 := by decide +kernel
  have eL := at_ofN (k := L) (by omega)
  have e7 : (Int32.ofNat L - (Int8.ofInt 6).toInt32).toInt = (L : Int) - 6 := by rw [at_sub32] <;> rw [eL, e6] <;> omega
  have fin : ∀ (i : Nat) (m : fl_M), t2_Z m → fl_Tq (pw_P L xs) 0 2036 (lx_lv i) [] m lx_Q := by
    intro i m hg
    refine fl_Tq.stp (pw_cod lx_k2036) rfl (fl_bo rfl) rfl ?_
    exact fl_Tq.ret (pw_cod lx_k2037) rfl rfl ⟨rfl, hg.1.2.2.h40⟩
  intro d
  induction d with
  | zero =>
    intro i m hd hi hg
    have ei := at_ofN (k := i) (by omega)
    refine fl_Tq.stp rfl rfl (fl_bo rfl) rfl ?_
    refine fl_Tq.stp rfl rfl (fl_bo rfl) rfl ?_
    refine fl_Tq.stp rfl rfl (fl_bo rfl) rfl ?_
    refine fl_Tq.stp rfl rfl (fl_bo rfl) rfl ?_
    refine fl_Tq.stp rfl rfl (fl_bo rfl) rfl ?_
    refine fl_Tq.jt rfl (fl_bo rfl) ?_ rfl ?_
    · rw [at_c2, ei, e7]
      exact decide_eq_true (by omega)
    exact fin i m hg
  | succ d ih =>
    intro i m hd hi hg
    have ei := at_ofN (k := i) (by omega)
    refine fl_Tq.stp rfl rfl (fl_bo rfl) rfl ?_
    refine fl_Tq.stp rfl rfl (fl_bo rfl) rfl ?_
    refine fl_Tq.stp rfl rfl (fl_bo rfl) rfl ?_
    refine fl_Tq.stp rfl rfl (fl_bo rfl) rfl ?_
    refine fl_Tq.stp rfl rfl (fl_bo rfl) rfl ?_
    by_cases hgo : L < i + 6
    · refine fl_Tq.jt rfl (fl_bo rfl) ?_ rfl ?_
      · rw [at_c2, ei, e7]
        exact decide_eq_true (by omega)
      exact fin i m hg
    refine fl_Tq.jf rfl (fl_bo rfl) ?_ rfl ?_
    · rw [at_c2, ei, e7]
      exact decide_eq_false (by omega)
    have back : ∀ m' : fl_M, t2_Z m' → fl_Tq (pw_P L xs) 0 2030 (lx_lv i) [] m' lx_Q := by
      intro m' hg'
      refine fl_Tq.stp (pw_cod lx_k2030) rfl (fl_bo rfl) rfl ?_
      refine fl_Tq.stp (pw_cod lx_k2033) rfl (fl_bo rfl) rfl ?_
      have := ih (i + 6) m' (by omega) (by omega) hg'
      have e : Int32.ofNat i + Int32.ofInt 6 = Int32.ofNat (i + 6) := by
        have e1 : (Int32.ofInt 6).toInt = 6 := rfl
        refine Int32.toInt.inj ?_
        rw [at_add32 (by omega) (by omega), ei, e1, at_ofN (by omega)]
        omega
      unfold lx_lv at this
      rw [← e] at this
      exact this
    refine fl_Tq.stp rfl rfl (fl_bo rfl) rfl ?_
    refine fl_Tq.stp rfl rfl (fl_bo rfl) rfl ?_
    refine fl_Tq.tld (n := L) (f := xs) (k := i) rfl (fl_bo rfl) rfl ei (by omega) ?_
    refine fl_Tq.stp rfl rfl (fl_bo rfl) rfl ?_
    refine fl_Tq.stp rfl rfl (fl_bo rfl) rfl ?_
    have hx := lx_and (xs i)
    generalize hxg : xs i &&& (Int8.ofInt 127).toInt32 = x at hx
    obtain ⟨z, hz⟩ : ∃ z : Nat, x.toInt = z := ⟨x.toInt.toNat, by omega⟩
    have hxz : x = Int32.ofNat z := Int32.toInt.inj (by rw [at_ofN (by omega)]; exact hz)
    by_cases hz2 : z < 68
    · have h1 := List.all_eq_true.mp lx_swt z (List.mem_range.mpr hz2)
      simp only [Bool.and_eq_true, decide_eq_true_eq] at h1
      obtain ⟨s1, s2⟩ := h1
      refine fl_Tq.stp (pc' := lx_tg.getD z 0) (lv' := lx_lv i) (st' := []) (m' := m) rfl rfl (fl_bo rfl) ?_ (ly_case hall hL (by omega) hg back z hz2)
      show (bif am_swk (xs i &&& (Int8.ofInt 127).toInt32) 0 67 _ then fl_go 33 (am_sw (xs i &&& (Int8.ofInt 127).toInt32) 1997 0 67 _) (lx_lv i) [] m else none) = _
      rw [hxg, hxz, s1]
      show fl_go 33 _ (lx_lv i) [] m = _
      unfold fl_go
      rw [s2]
    · refine fl_Tq.stp (pc' := 2030) (lv' := lx_lv i) (st' := []) (m' := m) rfl rfl (fl_bo rfl) ?_ (back m hg)
      show (bif am_swk (xs i &&& (Int8.ofInt 127).toInt32) 0 67 _ then fl_go 33 (am_sw (xs i &&& (Int8.ofInt 127).toInt32) 1997 0 67 _) (lx_lv i) [] m else none) = _
      rw [hxg]
      have h1 : x.toInt < 0 ∨ 67 < x.toInt := by omega
      unfold am_swk am_sw
      rw [decide_eq_true h1, if_pos h1]
      rfl
/-- THE LAW'S RUN -/
theorem ly_run (hall : ∀ c ∈ at_CM ++ at_CA, at_Valid at_XI (pw_P L xs) c) (hL : L ≤ 3072) : pw_Run L xs := by
  refine pw_Run_of (am_To.mono (at_boot (Q := lx_Q) ?_) ?_)
  · refine fl_Tq.stp rfl rfl (fl_bo rfl) rfl ?_
    refine fl_Tq.stp rfl rfl (fl_bo rfl) rfl ?_
    refine fl_Tq.stp rfl rfl (fl_bo rfl) rfl ?_
    exact ly_loop hall hL L 0 at_m0 (by omega) (by omega) t2_Z0
  · rintro v M ⟨v', m', rfl, rfl, rfl, h⟩
    refine ⟨rfl, ?_, ?_⟩
    · show (fl_H m').1.length ≤ 600000
      unfold fl_H fl_N
      simp
      omega
    · show fl_S m'.2.2 ≤ 7302250
      unfold fl_S
      omega
end LWLP

end

/-! 95.60.law.lean.txt -/
section
/-- THE LAW COMES TO ITS END WITH 1 -/
theorem pw_law (L : Nat) (xs : Nat → Int32) (hL : L ≤ 3072) : pw_Run L xs := by
  exact ly_run at_hall hL
/-- THE LAW, from its entry -/
theorem whole_start {p : Program} {e : Env} {s : State} {m : MethodId} {below : List Frame} {meth : Method} {c : Code} (l : Launch) (hflags : l.flags = flags0) {b L : Nat} {xs : Nat → Int32} (hL : L ≤ 3072) (C0 : lw_At p s m meth c b L xs) : W p l e room_1 s m #[Value.ref b] below meth c s.heap [] 0 0 (lw_Z below #[Value.ref b] s) (entryFrame m ([Value.ref b] : List Value).toArray 4) := pw_start l (pw_law L xs hL) C0

end
