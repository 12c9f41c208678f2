/-! ===== printed by wip/gen/lawgen3.py: the law's cases ===== -/
theorem ly_c34 {L : Nat} {xs : Nat → Int32} {m : fl_M} {Q : Option fl_V → fl_M → Prop} {i : Nat} (hall : ∀ c ∈ at_CM ++ at_CA, at_Valid at_XI (pw_P L xs) c) (hL : L ≤ 3072) (hi : i + 6 ≤ L) (hg : t2_Z m) (kk : ∀ m' : fl_M, t2_Z m' → fl_Tq (pw_P L xs) 0 2030 (lx_lv i) [] m' Q) : fl_Tq (pw_P L xs) 0 1258 (lx_lv i) [] m Q := by
  obtain ⟨f, l⟩ := m
  refine fl_Tq.stp (pw_cod lx_k1258) rfl (fl_bo rfl) rfl ?_
  refine lx_callG (as_ := [lx_x]) (rest := []) (pw_cod lx_k1259) (pw_cll lx_l157) rfl (fl_bo rfl) rfl rfl (t2_qcall (hall _ at_c137_in) rfl hg ⟨lx_kx _, True.intro⟩ rfl rfl rfl) (fun v1 m1 hg1 => ?_)
  obtain ⟨⟨y1, rfl⟩, hg1⟩ := hg1
  refine fl_Tq.stp (pw_cod lx_k1262) rfl (fl_bo rfl) rfl ?_
  refine fl_Tq.stp (pw_cod lx_k1263) rfl (fl_bo rfl) rfl ?_
  refine lx_callG (as_ := [at_this]) (rest := []) (pw_cod lx_k1264) (pw_cll lx_l160) rfl (fl_bo rfl) rfl rfl (t2_qcall (hall _ at_c296_in) rfl hg1 ⟨at_k277 _, True.intro⟩ rfl rfl rfl) (fun v2 m2 hg2 => ?_)
  obtain ⟨⟨y2, rfl⟩, hg2⟩ := hg2
  refine fl_Tq.stp (pw_cod lx_k1267) rfl (fl_bo rfl) rfl ?_
  refine fl_Tq.stp (pw_cod lx_k1268) rfl (fl_bo rfl) rfl ?_
  exact kk m2 hg2
theorem ly_c35 {L : Nat} {xs : Nat → Int32} {m : fl_M} {Q : Option fl_V → fl_M → Prop} {i : Nat} (hall : ∀ c ∈ at_CM ++ at_CA, at_Valid at_XI (pw_P L xs) c) (hL : L ≤ 3072) (hi : i + 6 ≤ L) (hg : t2_Z m) (kk : ∀ m' : fl_M, t2_Z m' → fl_Tq (pw_P L xs) 0 2030 (lx_lv i) [] m' Q) : fl_Tq (pw_P L xs) 0 1271 (lx_lv i) [] m Q := by
  obtain ⟨f, l⟩ := m
  refine fl_Tq.stp (pw_cod lx_k1271) rfl (fl_bo rfl) rfl ?_
  refine lx_callG (as_ := [lx_x]) (rest := []) (pw_cod lx_k1272) (pw_cll lx_l161) rfl (fl_bo rfl) rfl rfl (t2_qcall (hall _ at_c138_in) rfl hg ⟨lx_kx _, True.intro⟩ rfl rfl rfl) (fun v1 m1 hg1 => ?_)
  obtain ⟨⟨y1, rfl⟩, hg1⟩ := hg1
  refine fl_Tq.stp (pw_cod lx_k1275) rfl (fl_bo rfl) rfl ?_
  refine fl_Tq.stp (pw_cod lx_k1276) rfl (fl_bo rfl) rfl ?_
  refine lx_callG (as_ := [at_this]) (rest := []) (pw_cod lx_k1277) (pw_cll lx_l164) rfl (fl_bo rfl) rfl rfl (t2_qcall (hall _ at_c297_in) rfl hg1 ⟨at_k277 _, True.intro⟩ rfl rfl rfl) (fun v2 m2 hg2 => ?_)
  obtain ⟨⟨y2, rfl⟩, hg2⟩ := hg2
  refine fl_Tq.stp (pw_cod lx_k1280) rfl (fl_bo rfl) rfl ?_
  refine fl_Tq.stp (pw_cod lx_k1281) rfl (fl_bo rfl) rfl ?_
  exact kk m2 hg2
theorem ly_c36 {L : Nat} {xs : Nat → Int32} {m : fl_M} {Q : Option fl_V → fl_M → Prop} {i : Nat} (hall : ∀ c ∈ at_CM ++ at_CA, at_Valid at_XI (pw_P L xs) c) (hL : L ≤ 3072) (hi : i + 6 ≤ L) (hg : t2_Z m) (kk : ∀ m' : fl_M, t2_Z m' → fl_Tq (pw_P L xs) 0 2030 (lx_lv i) [] m' Q) : fl_Tq (pw_P L xs) 0 1284 (lx_lv i) [] m Q := by
  obtain ⟨f, l⟩ := m
  refine fl_Tq.stp (pw_cod lx_k1284) rfl (fl_bo rfl) rfl ?_
  refine lx_callG (as_ := [lx_x]) (rest := []) (pw_cod lx_k1285) (pw_cll lx_l165) rfl (fl_bo rfl) rfl rfl (t2_qcall (hall _ at_c139_in) rfl hg ⟨lx_kx _, True.intro⟩ rfl rfl rfl) (fun v1 m1 hg1 => ?_)
  obtain ⟨⟨y1, rfl⟩, hg1⟩ := hg1
  refine fl_Tq.stp (pw_cod lx_k1288) rfl (fl_bo rfl) rfl ?_
  refine fl_Tq.stp (pw_cod lx_k1289) rfl (fl_bo rfl) rfl ?_
  refine lx_callG (as_ := [at_this]) (rest := []) (pw_cod lx_k1290) (pw_cll lx_l168) rfl (fl_bo rfl) rfl rfl (t2_qcall (hall _ at_c300_in) rfl hg1 ⟨at_k277 _, True.intro⟩ rfl rfl rfl) (fun v2 m2 hg2 => ?_)
  obtain ⟨⟨y2, rfl⟩, hg2⟩ := hg2
  refine fl_Tq.stp (pw_cod lx_k1293) rfl (fl_bo rfl) rfl ?_
  refine fl_Tq.stp (pw_cod lx_k1294) rfl (fl_bo rfl) rfl ?_
  exact kk m2 hg2
theorem ly_c37 {L : Nat} {xs : Nat → Int32} {m : fl_M} {Q : Option fl_V → fl_M → Prop} {i : Nat} (hall : ∀ c ∈ at_CM ++ at_CA, at_Valid at_XI (pw_P L xs) c) (hL : L ≤ 3072) (hi : i + 6 ≤ L) (hg : t2_Z m) (kk : ∀ m' : fl_M, t2_Z m' → fl_Tq (pw_P L xs) 0 2030 (lx_lv i) [] m' Q) : fl_Tq (pw_P L xs) 0 1297 (lx_lv i) [] m Q := by
  obtain ⟨f, l⟩ := m
  refine fl_Tq.stp (pw_cod lx_k1297) rfl (fl_bo rfl) rfl ?_
  refine lx_arg (i := i) (jn := 1) (pw_cod lx_k1298) (pw_cod lx_k1299) (pw_cod lx_k1300) (pw_cod lx_k1301) (pw_cod lx_k1302) rfl (fl_bo rfl) hL (by omega) ?_
  refine lx_callG (as_ := [lx_x, .inl (xs (i + 1))]) (rest := []) (pw_cod lx_k1303) (pw_cll lx_l169) rfl (fl_bo rfl) rfl rfl (t2_qcall (hall _ at_c140_in) rfl hg ⟨lx_kx _, lx_ki _, True.intro⟩ rfl rfl rfl) (fun v1 m1 hg1 => ?_)
  obtain ⟨⟨y1, rfl⟩, hg1⟩ := hg1
  refine fl_Tq.stp (pw_cod lx_k1306) rfl (fl_bo rfl) rfl ?_
  refine fl_Tq.stp (pw_cod lx_k1307) rfl (fl_bo rfl) rfl ?_
  refine lx_arg (i := i) (jn := 1) (pw_cod lx_k1308) (pw_cod lx_k1309) (pw_cod lx_k1310) (pw_cod lx_k1311) (pw_cod lx_k1312) rfl (fl_bo rfl) hL (by omega) ?_
  refine lx_callG (as_ := [at_this, .inl (xs (i + 1))]) (rest := []) (pw_cod lx_k1313) (pw_cll lx_l172) rfl (fl_bo rfl) rfl rfl (t2_qcall (hall _ at_c301_in) rfl hg1 ⟨at_k277 _, lx_ki _, True.intro⟩ rfl rfl rfl) (fun v2 m2 hg2 => ?_)
  obtain ⟨⟨y2, rfl⟩, hg2⟩ := hg2
  refine fl_Tq.stp (pw_cod lx_k1316) rfl (fl_bo rfl) rfl ?_
  refine fl_Tq.stp (pw_cod lx_k1317) rfl (fl_bo rfl) rfl ?_
  exact kk m2 hg2
theorem ly_c38 {L : Nat} {xs : Nat → Int32} {m : fl_M} {Q : Option fl_V → fl_M → Prop} {i : Nat} (hall : ∀ c ∈ at_CM ++ at_CA, at_Valid at_XI (pw_P L xs) c) (hL : L ≤ 3072) (hi : i + 6 ≤ L) (hg : t2_Z m) (kk : ∀ m' : fl_M, t2_Z m' → fl_Tq (pw_P L xs) 0 2030 (lx_lv i) [] m' Q) : fl_Tq (pw_P L xs) 0 1320 (lx_lv i) [] m Q := by
  obtain ⟨f, l⟩ := m
  refine fl_Tq.stp (pw_cod lx_k1320) rfl (fl_bo rfl) rfl ?_
  refine lx_arg (i := i) (jn := 1) (pw_cod lx_k1321) (pw_cod lx_k1322) (pw_cod lx_k1323) (pw_cod lx_k1324) (pw_cod lx_k1325) rfl (fl_bo rfl) hL (by omega) ?_
  refine lx_callG (as_ := [lx_x, .inl (xs (i + 1))]) (rest := []) (pw_cod lx_k1326) (pw_cll lx_l173) rfl (fl_bo rfl) rfl rfl (t2_qcall (hall _ at_c141_in) rfl hg ⟨lx_kx _, lx_ki _, True.intro⟩ rfl rfl rfl) (fun v1 m1 hg1 => ?_)
  obtain ⟨⟨y1, rfl⟩, hg1⟩ := hg1
  refine fl_Tq.stp (pw_cod lx_k1329) rfl (fl_bo rfl) rfl ?_
  refine fl_Tq.stp (pw_cod lx_k1330) rfl (fl_bo rfl) rfl ?_
  refine lx_arg (i := i) (jn := 1) (pw_cod lx_k1331) (pw_cod lx_k1332) (pw_cod lx_k1333) (pw_cod lx_k1334) (pw_cod lx_k1335) rfl (fl_bo rfl) hL (by omega) ?_
  refine lx_callG (as_ := [at_this, .inl (xs (i + 1))]) (rest := []) (pw_cod lx_k1336) (pw_cll lx_l176) rfl (fl_bo rfl) rfl rfl (t2_qcall (hall _ at_c304_in) rfl hg1 ⟨at_k277 _, lx_ki _, True.intro⟩ rfl rfl rfl) (fun v2 m2 hg2 => ?_)
  obtain ⟨⟨y2, rfl⟩, hg2⟩ := hg2
  refine fl_Tq.stp (pw_cod lx_k1339) rfl (fl_bo rfl) rfl ?_
  refine fl_Tq.stp (pw_cod lx_k1340) rfl (fl_bo rfl) rfl ?_
  exact kk m2 hg2
theorem ly_c39 {L : Nat} {xs : Nat → Int32} {m : fl_M} {Q : Option fl_V → fl_M → Prop} {i : Nat} (hall : ∀ c ∈ at_CM ++ at_CA, at_Valid at_XI (pw_P L xs) c) (hL : L ≤ 3072) (hi : i + 6 ≤ L) (hg : t2_Z m) (kk : ∀ m' : fl_M, t2_Z m' → fl_Tq (pw_P L xs) 0 2030 (lx_lv i) [] m' Q) : fl_Tq (pw_P L xs) 0 1343 (lx_lv i) [] m Q := by
  obtain ⟨f, l⟩ := m
  refine fl_Tq.stp (pw_cod lx_k1343) rfl (fl_bo rfl) rfl ?_
  refine lx_arg (i := i) (jn := 1) (pw_cod lx_k1344) (pw_cod lx_k1345) (pw_cod lx_k1346) (pw_cod lx_k1347) (pw_cod lx_k1348) rfl (fl_bo rfl) hL (by omega) ?_
  refine lx_arg (i := i) (jn := 2) (pw_cod lx_k1349) (pw_cod lx_k1350) (pw_cod lx_k1351) (pw_cod lx_k1352) (pw_cod lx_k1353) rfl (fl_bo rfl) hL (by omega) ?_
  refine lx_arg (i := i) (jn := 3) (pw_cod lx_k1354) (pw_cod lx_k1355) (pw_cod lx_k1356) (pw_cod lx_k1357) (pw_cod lx_k1358) rfl (fl_bo rfl) hL (by omega) ?_
  refine lx_callG (as_ := [lx_x, .inl (xs (i + 1)), .inl (xs (i + 2)), .inl (xs (i + 3))]) (rest := []) (pw_cod lx_k1359) (pw_cll lx_l177) rfl (fl_bo rfl) rfl rfl (t2_qcall (hall _ at_c142_in) rfl hg ⟨lx_kx _, lx_ki _, lx_ki _, lx_ki _, True.intro⟩ rfl rfl rfl) (fun v1 m1 hg1 => ?_)
  obtain ⟨⟨y1, rfl⟩, hg1⟩ := hg1
  refine fl_Tq.stp (pw_cod lx_k1362) rfl (fl_bo rfl) rfl ?_
  refine fl_Tq.stp (pw_cod lx_k1363) rfl (fl_bo rfl) rfl ?_
  refine lx_arg (i := i) (jn := 1) (pw_cod lx_k1364) (pw_cod lx_k1365) (pw_cod lx_k1366) (pw_cod lx_k1367) (pw_cod lx_k1368) rfl (fl_bo rfl) hL (by omega) ?_
  refine lx_arg (i := i) (jn := 2) (pw_cod lx_k1369) (pw_cod lx_k1370) (pw_cod lx_k1371) (pw_cod lx_k1372) (pw_cod lx_k1373) rfl (fl_bo rfl) hL (by omega) ?_
  refine lx_arg (i := i) (jn := 3) (pw_cod lx_k1374) (pw_cod lx_k1375) (pw_cod lx_k1376) (pw_cod lx_k1377) (pw_cod lx_k1378) rfl (fl_bo rfl) hL (by omega) ?_
  refine lx_callG (as_ := [at_this, .inl (xs (i + 1)), .inl (xs (i + 2)), .inl (xs (i + 3))]) (rest := []) (pw_cod lx_k1379) (pw_cll lx_l180) rfl (fl_bo rfl) rfl rfl (t2_qcall (hall _ at_c308_in) rfl hg1 ⟨at_k277 _, lx_ki _, lx_ki _, lx_ki _, True.intro⟩ rfl rfl rfl) (fun v2 m2 hg2 => ?_)
  obtain ⟨⟨y2, rfl⟩, hg2⟩ := hg2
  refine fl_Tq.stp (pw_cod lx_k1382) rfl (fl_bo rfl) rfl ?_
  refine fl_Tq.stp (pw_cod lx_k1383) rfl (fl_bo rfl) rfl ?_
  exact kk m2 hg2
theorem ly_c40 {L : Nat} {xs : Nat → Int32} {m : fl_M} {Q : Option fl_V → fl_M → Prop} {i : Nat} (hall : ∀ c ∈ at_CM ++ at_CA, at_Valid at_XI (pw_P L xs) c) (hL : L ≤ 3072) (hi : i + 6 ≤ L) (hg : t2_Z m) (kk : ∀ m' : fl_M, t2_Z m' → fl_Tq (pw_P L xs) 0 2030 (lx_lv i) [] m' Q) : fl_Tq (pw_P L xs) 0 1386 (lx_lv i) [] m Q := by
  obtain ⟨f, l⟩ := m
  refine fl_Tq.stp (pw_cod lx_k1386) rfl (fl_bo rfl) rfl ?_
  refine lx_arg (i := i) (jn := 1) (pw_cod lx_k1387) (pw_cod lx_k1388) (pw_cod lx_k1389) (pw_cod lx_k1390) (pw_cod lx_k1391) rfl (fl_bo rfl) hL (by omega) ?_
  refine lx_arg (i := i) (jn := 2) (pw_cod lx_k1392) (pw_cod lx_k1393) (pw_cod lx_k1394) (pw_cod lx_k1395) (pw_cod lx_k1396) rfl (fl_bo rfl) hL (by omega) ?_
  refine lx_callG (as_ := [lx_x, .inl (xs (i + 1)), .inl (xs (i + 2))]) (rest := []) (pw_cod lx_k1397) (pw_cll lx_l181) rfl (fl_bo rfl) rfl rfl (t2_qcall (hall _ at_c143_in) rfl hg ⟨lx_kx _, lx_ki _, lx_ki _, True.intro⟩ rfl rfl rfl) (fun v1 m1 hg1 => ?_)
  obtain ⟨⟨y1, rfl⟩, hg1⟩ := hg1
  refine fl_Tq.stp (pw_cod lx_k1400) rfl (fl_bo rfl) rfl ?_
  refine fl_Tq.stp (pw_cod lx_k1401) rfl (fl_bo rfl) rfl ?_
  refine lx_arg (i := i) (jn := 1) (pw_cod lx_k1402) (pw_cod lx_k1403) (pw_cod lx_k1404) (pw_cod lx_k1405) (pw_cod lx_k1406) rfl (fl_bo rfl) hL (by omega) ?_
  refine lx_arg (i := i) (jn := 2) (pw_cod lx_k1407) (pw_cod lx_k1408) (pw_cod lx_k1409) (pw_cod lx_k1410) (pw_cod lx_k1411) rfl (fl_bo rfl) hL (by omega) ?_
  refine lx_callG (as_ := [at_this, .inl (xs (i + 1)), .inl (xs (i + 2))]) (rest := []) (pw_cod lx_k1412) (pw_cll lx_l184) rfl (fl_bo rfl) rfl rfl (t2_qcall (hall _ at_c309_in) rfl hg1 ⟨at_k277 _, lx_ki _, lx_ki _, True.intro⟩ rfl rfl rfl) (fun v2 m2 hg2 => ?_)
  obtain ⟨⟨y2, rfl⟩, hg2⟩ := hg2
  refine fl_Tq.stp (pw_cod lx_k1415) rfl (fl_bo rfl) rfl ?_
  refine fl_Tq.stp (pw_cod lx_k1416) rfl (fl_bo rfl) rfl ?_
  exact kk m2 hg2
theorem ly_c41 {L : Nat} {xs : Nat → Int32} {m : fl_M} {Q : Option fl_V → fl_M → Prop} {i : Nat} (hall : ∀ c ∈ at_CM ++ at_CA, at_Valid at_XI (pw_P L xs) c) (hL : L ≤ 3072) (hi : i + 6 ≤ L) (hg : t2_Z m) (kk : ∀ m' : fl_M, t2_Z m' → fl_Tq (pw_P L xs) 0 2030 (lx_lv i) [] m' Q) : fl_Tq (pw_P L xs) 0 1419 (lx_lv i) [] m Q := by
  obtain ⟨f, l⟩ := m
  refine fl_Tq.stp (pw_cod lx_k1419) rfl (fl_bo rfl) rfl ?_
  refine lx_callG (as_ := [lx_x]) (rest := []) (pw_cod lx_k1420) (pw_cll lx_l185) rfl (fl_bo rfl) rfl rfl (t2_qcall (hall _ at_c144_in) rfl hg ⟨lx_kx _, True.intro⟩ rfl rfl rfl) (fun v1 m1 hg1 => ?_)
  obtain ⟨⟨y1, rfl⟩, hg1⟩ := hg1
  refine fl_Tq.stp (pw_cod lx_k1423) rfl (fl_bo rfl) rfl ?_
  refine fl_Tq.stp (pw_cod lx_k1424) rfl (fl_bo rfl) rfl ?_
  refine lx_callG (as_ := [at_this]) (rest := []) (pw_cod lx_k1425) (pw_cll lx_l188) rfl (fl_bo rfl) rfl rfl (t2_qcall (hall _ at_c281_in) rfl hg1 ⟨at_k277 _, True.intro⟩ rfl rfl rfl) (fun v2 m2 hg2 => ?_)
  obtain ⟨⟨y2, rfl⟩, hg2⟩ := hg2
  refine fl_Tq.stp (pw_cod lx_k1428) rfl (fl_bo rfl) rfl ?_
  refine fl_Tq.stp (pw_cod lx_k1429) rfl (fl_bo rfl) rfl ?_
  exact kk m2 hg2
theorem ly_c42 {L : Nat} {xs : Nat → Int32} {m : fl_M} {Q : Option fl_V → fl_M → Prop} {i : Nat} (hall : ∀ c ∈ at_CM ++ at_CA, at_Valid at_XI (pw_P L xs) c) (hL : L ≤ 3072) (hi : i + 6 ≤ L) (hg : t2_Z m) (kk : ∀ m' : fl_M, t2_Z m' → fl_Tq (pw_P L xs) 0 2030 (lx_lv i) [] m' Q) : fl_Tq (pw_P L xs) 0 1432 (lx_lv i) [] m Q := by
  obtain ⟨f, l⟩ := m
  refine fl_Tq.stp (pw_cod lx_k1432) rfl (fl_bo rfl) rfl ?_
  refine lx_arg (i := i) (jn := 1) (pw_cod lx_k1433) (pw_cod lx_k1434) (pw_cod lx_k1435) (pw_cod lx_k1436) (pw_cod lx_k1437) rfl (fl_bo rfl) hL (by omega) ?_
  refine lx_callG (as_ := [lx_x, .inl (xs (i + 1))]) (rest := []) (pw_cod lx_k1438) (pw_cll lx_l189) rfl (fl_bo rfl) rfl rfl (t2_qcall (hall _ at_c145_in) rfl hg ⟨lx_kx _, lx_ki _, True.intro⟩ rfl rfl rfl) (fun v1 m1 hg1 => ?_)
  obtain ⟨⟨y1, rfl⟩, hg1⟩ := hg1
  refine fl_Tq.stp (pw_cod lx_k1441) rfl (fl_bo rfl) rfl ?_
  refine fl_Tq.stp (pw_cod lx_k1442) rfl (fl_bo rfl) rfl ?_
  refine lx_arg (i := i) (jn := 1) (pw_cod lx_k1443) (pw_cod lx_k1444) (pw_cod lx_k1445) (pw_cod lx_k1446) (pw_cod lx_k1447) rfl (fl_bo rfl) hL (by omega) ?_
  refine lx_callG (as_ := [at_this, .inl (xs (i + 1))]) (rest := []) (pw_cod lx_k1448) (pw_cll lx_l192) rfl (fl_bo rfl) rfl rfl (t2_qcall (hall _ at_c282_in) rfl hg1 ⟨at_k277 _, lx_ki _, True.intro⟩ rfl rfl rfl) (fun v2 m2 hg2 => ?_)
  obtain ⟨⟨y2, rfl⟩, hg2⟩ := hg2
  refine fl_Tq.stp (pw_cod lx_k1451) rfl (fl_bo rfl) rfl ?_
  refine fl_Tq.stp (pw_cod lx_k1452) rfl (fl_bo rfl) rfl ?_
  exact kk m2 hg2
theorem ly_c43 {L : Nat} {xs : Nat → Int32} {m : fl_M} {Q : Option fl_V → fl_M → Prop} {i : Nat} (hall : ∀ c ∈ at_CM ++ at_CA, at_Valid at_XI (pw_P L xs) c) (hL : L ≤ 3072) (hi : i + 6 ≤ L) (hg : t2_Z m) (kk : ∀ m' : fl_M, t2_Z m' → fl_Tq (pw_P L xs) 0 2030 (lx_lv i) [] m' Q) : fl_Tq (pw_P L xs) 0 1455 (lx_lv i) [] m Q := by
  obtain ⟨f, l⟩ := m
  refine fl_Tq.stp (pw_cod lx_k1455) rfl (fl_bo rfl) rfl ?_
  refine lx_arg (i := i) (jn := 1) (pw_cod lx_k1456) (pw_cod lx_k1457) (pw_cod lx_k1458) (pw_cod lx_k1459) (pw_cod lx_k1460) rfl (fl_bo rfl) hL (by omega) ?_
  refine lx_callG (as_ := [lx_x, .inl (xs (i + 1))]) (rest := []) (pw_cod lx_k1461) (pw_cll lx_l193) rfl (fl_bo rfl) rfl rfl (t2_qcall (hall _ at_c146_in) rfl hg ⟨lx_kx _, lx_ki _, True.intro⟩ rfl rfl rfl) (fun v1 m1 hg1 => ?_)
  obtain ⟨⟨y1, rfl⟩, hg1⟩ := hg1
  refine fl_Tq.stp (pw_cod lx_k1464) rfl (fl_bo rfl) rfl ?_
  refine fl_Tq.stp (pw_cod lx_k1465) rfl (fl_bo rfl) rfl ?_
  refine lx_arg (i := i) (jn := 1) (pw_cod lx_k1466) (pw_cod lx_k1467) (pw_cod lx_k1468) (pw_cod lx_k1469) (pw_cod lx_k1470) rfl (fl_bo rfl) hL (by omega) ?_
  refine lx_callG (as_ := [at_this, .inl (xs (i + 1))]) (rest := []) (pw_cod lx_k1471) (pw_cll lx_l196) rfl (fl_bo rfl) rfl rfl (t2_qcall (hall _ at_c283_in) rfl hg1 ⟨at_k277 _, lx_ki _, True.intro⟩ rfl rfl rfl) (fun v2 m2 hg2 => ?_)
  obtain ⟨⟨y2, rfl⟩, hg2⟩ := hg2
  refine fl_Tq.stp (pw_cod lx_k1474) rfl (fl_bo rfl) rfl ?_
  refine fl_Tq.stp (pw_cod lx_k1475) rfl (fl_bo rfl) rfl ?_
  exact kk m2 hg2
theorem ly_c44 {L : Nat} {xs : Nat → Int32} {m : fl_M} {Q : Option fl_V → fl_M → Prop} {i : Nat} (hall : ∀ c ∈ at_CM ++ at_CA, at_Valid at_XI (pw_P L xs) c) (hL : L ≤ 3072) (hi : i + 6 ≤ L) (hg : t2_Z m) (kk : ∀ m' : fl_M, t2_Z m' → fl_Tq (pw_P L xs) 0 2030 (lx_lv i) [] m' Q) : fl_Tq (pw_P L xs) 0 1478 (lx_lv i) [] m Q := by
  obtain ⟨f, l⟩ := m
  refine fl_Tq.stp (pw_cod lx_k1478) rfl (fl_bo rfl) rfl ?_
  refine lx_arg (i := i) (jn := 1) (pw_cod lx_k1479) (pw_cod lx_k1480) (pw_cod lx_k1481) (pw_cod lx_k1482) (pw_cod lx_k1483) rfl (fl_bo rfl) hL (by omega) ?_
  refine lx_callG (as_ := [lx_x, .inl (xs (i + 1))]) (rest := []) (pw_cod lx_k1484) (pw_cll lx_l197) rfl (fl_bo rfl) rfl rfl (t2_qcall (hall _ at_c147_in) rfl hg ⟨lx_kx _, lx_ki _, True.intro⟩ rfl rfl rfl) (fun v1 m1 hg1 => ?_)
  obtain ⟨⟨y1, rfl⟩, hg1⟩ := hg1
  refine fl_Tq.stp (pw_cod lx_k1487) rfl (fl_bo rfl) rfl ?_
  refine fl_Tq.stp (pw_cod lx_k1488) rfl (fl_bo rfl) rfl ?_
  refine lx_arg (i := i) (jn := 1) (pw_cod lx_k1489) (pw_cod lx_k1490) (pw_cod lx_k1491) (pw_cod lx_k1492) (pw_cod lx_k1493) rfl (fl_bo rfl) hL (by omega) ?_
  refine lx_callG (as_ := [at_this, .inl (xs (i + 1))]) (rest := []) (pw_cod lx_k1494) (pw_cll lx_l200) rfl (fl_bo rfl) rfl rfl (t2_qcall (hall _ at_c284_in) rfl hg1 ⟨at_k277 _, lx_ki _, True.intro⟩ rfl rfl rfl) (fun v2 m2 hg2 => ?_)
  obtain ⟨⟨y2, rfl⟩, hg2⟩ := hg2
  refine fl_Tq.stp (pw_cod lx_k1497) rfl (fl_bo rfl) rfl ?_
  refine fl_Tq.stp (pw_cod lx_k1498) rfl (fl_bo rfl) rfl ?_
  exact kk m2 hg2
theorem ly_c45 {L : Nat} {xs : Nat → Int32} {m : fl_M} {Q : Option fl_V → fl_M → Prop} {i : Nat} (hall : ∀ c ∈ at_CM ++ at_CA, at_Valid at_XI (pw_P L xs) c) (hL : L ≤ 3072) (hi : i + 6 ≤ L) (hg : t2_Z m) (kk : ∀ m' : fl_M, t2_Z m' → fl_Tq (pw_P L xs) 0 2030 (lx_lv i) [] m' Q) : fl_Tq (pw_P L xs) 0 1501 (lx_lv i) [] m Q := by
  obtain ⟨f, l⟩ := m
  refine fl_Tq.stp (pw_cod lx_k1501) rfl (fl_bo rfl) rfl ?_
  refine lx_arg (i := i) (jn := 1) (pw_cod lx_k1502) (pw_cod lx_k1503) (pw_cod lx_k1504) (pw_cod lx_k1505) (pw_cod lx_k1506) rfl (fl_bo rfl) hL (by omega) ?_
  refine lx_callG (as_ := [lx_x, .inl (xs (i + 1))]) (rest := []) (pw_cod lx_k1507) (pw_cll lx_l201) rfl (fl_bo rfl) rfl rfl (t2_qcall (hall _ at_c148_in) rfl hg ⟨lx_kx _, lx_ki _, True.intro⟩ rfl rfl rfl) (fun v1 m1 hg1 => ?_)
  obtain ⟨⟨y1, rfl⟩, hg1⟩ := hg1
  refine fl_Tq.stp (pw_cod lx_k1510) rfl (fl_bo rfl) rfl ?_
  refine fl_Tq.stp (pw_cod lx_k1511) rfl (fl_bo rfl) rfl ?_
  refine lx_arg (i := i) (jn := 1) (pw_cod lx_k1512) (pw_cod lx_k1513) (pw_cod lx_k1514) (pw_cod lx_k1515) (pw_cod lx_k1516) rfl (fl_bo rfl) hL (by omega) ?_
  refine lx_callG (as_ := [at_this, .inl (xs (i + 1))]) (rest := []) (pw_cod lx_k1517) (pw_cll lx_l204) rfl (fl_bo rfl) rfl rfl (t2_qcall (hall _ at_c285_in) rfl hg1 ⟨at_k277 _, lx_ki _, True.intro⟩ rfl rfl rfl) (fun v2 m2 hg2 => ?_)
  obtain ⟨⟨y2, rfl⟩, hg2⟩ := hg2
  refine fl_Tq.stp (pw_cod lx_k1520) rfl (fl_bo rfl) rfl ?_
  refine fl_Tq.stp (pw_cod lx_k1521) rfl (fl_bo rfl) rfl ?_
  exact kk m2 hg2
theorem ly_c46 {L : Nat} {xs : Nat → Int32} {m : fl_M} {Q : Option fl_V → fl_M → Prop} {i : Nat} (hall : ∀ c ∈ at_CM ++ at_CA, at_Valid at_XI (pw_P L xs) c) (hL : L ≤ 3072) (hi : i + 6 ≤ L) (hg : t2_Z m) (kk : ∀ m' : fl_M, t2_Z m' → fl_Tq (pw_P L xs) 0 2030 (lx_lv i) [] m' Q) : fl_Tq (pw_P L xs) 0 1524 (lx_lv i) [] m Q := by
  obtain ⟨f, l⟩ := m
  refine fl_Tq.stp (pw_cod lx_k1524) rfl (fl_bo rfl) rfl ?_
  refine lx_arg (i := i) (jn := 1) (pw_cod lx_k1525) (pw_cod lx_k1526) (pw_cod lx_k1527) (pw_cod lx_k1528) (pw_cod lx_k1529) rfl (fl_bo rfl) hL (by omega) ?_
  refine lx_callG (as_ := [lx_x, .inl (xs (i + 1))]) (rest := []) (pw_cod lx_k1530) (pw_cll lx_l205) rfl (fl_bo rfl) rfl rfl (t2_qcall (hall _ at_c149_in) rfl hg ⟨lx_kx _, lx_ki _, True.intro⟩ rfl rfl rfl) (fun v1 m1 hg1 => ?_)
  obtain ⟨⟨y1, rfl⟩, hg1⟩ := hg1
  refine fl_Tq.stp (pw_cod lx_k1533) rfl (fl_bo rfl) rfl ?_
  refine fl_Tq.stp (pw_cod lx_k1534) rfl (fl_bo rfl) rfl ?_
  refine lx_arg (i := i) (jn := 1) (pw_cod lx_k1535) (pw_cod lx_k1536) (pw_cod lx_k1537) (pw_cod lx_k1538) (pw_cod lx_k1539) rfl (fl_bo rfl) hL (by omega) ?_
  refine lx_callG (as_ := [at_this, .inl (xs (i + 1))]) (rest := []) (pw_cod lx_k1540) (pw_cll lx_l208) rfl (fl_bo rfl) rfl rfl (t2_qcall (hall _ at_c286_in) rfl hg1 ⟨at_k277 _, lx_ki _, True.intro⟩ rfl rfl rfl) (fun v2 m2 hg2 => ?_)
  obtain ⟨⟨y2, rfl⟩, hg2⟩ := hg2
  refine fl_Tq.stp (pw_cod lx_k1543) rfl (fl_bo rfl) rfl ?_
  refine fl_Tq.stp (pw_cod lx_k1544) rfl (fl_bo rfl) rfl ?_
  exact kk m2 hg2
theorem ly_c47 {L : Nat} {xs : Nat → Int32} {m : fl_M} {Q : Option fl_V → fl_M → Prop} {i : Nat} (hall : ∀ c ∈ at_CM ++ at_CA, at_Valid at_XI (pw_P L xs) c) (hL : L ≤ 3072) (hi : i + 6 ≤ L) (hg : t2_Z m) (kk : ∀ m' : fl_M, t2_Z m' → fl_Tq (pw_P L xs) 0 2030 (lx_lv i) [] m' Q) : fl_Tq (pw_P L xs) 0 1547 (lx_lv i) [] m Q := by
  obtain ⟨f, l⟩ := m
  refine fl_Tq.stp (pw_cod lx_k1547) rfl (fl_bo rfl) rfl ?_
  refine lx_callG (as_ := [lx_x]) (rest := []) (pw_cod lx_k1548) (pw_cll lx_l209) rfl (fl_bo rfl) rfl rfl (t2_qcall (hall _ at_c150_in) rfl hg ⟨lx_kx _, True.intro⟩ rfl rfl rfl) (fun v1 m1 hg1 => ?_)
  obtain ⟨⟨y1, rfl⟩, hg1⟩ := hg1
  refine fl_Tq.stp (pw_cod lx_k1551) rfl (fl_bo rfl) rfl ?_
  refine fl_Tq.stp (pw_cod lx_k1552) rfl (fl_bo rfl) rfl ?_
  refine lx_callG (as_ := [at_this]) (rest := []) (pw_cod lx_k1553) (pw_cll lx_l212) rfl (fl_bo rfl) rfl rfl (t2_qcall (hall _ at_c287_in) rfl hg1 ⟨at_k277 _, True.intro⟩ rfl rfl rfl) (fun v2 m2 hg2 => ?_)
  obtain ⟨⟨y2, rfl⟩, hg2⟩ := hg2
  refine fl_Tq.stp (pw_cod lx_k1556) rfl (fl_bo rfl) rfl ?_
  refine fl_Tq.stp (pw_cod lx_k1557) rfl (fl_bo rfl) rfl ?_
  exact kk m2 hg2
theorem ly_c48 {L : Nat} {xs : Nat → Int32} {m : fl_M} {Q : Option fl_V → fl_M → Prop} {i : Nat} (hall : ∀ c ∈ at_CM ++ at_CA, at_Valid at_XI (pw_P L xs) c) (hL : L ≤ 3072) (hi : i + 6 ≤ L) (hg : t2_Z m) (kk : ∀ m' : fl_M, t2_Z m' → fl_Tq (pw_P L xs) 0 2030 (lx_lv i) [] m' Q) : fl_Tq (pw_P L xs) 0 1560 (lx_lv i) [] m Q := by
  obtain ⟨f, l⟩ := m
  refine fl_Tq.stp (pw_cod lx_k1560) rfl (fl_bo rfl) rfl ?_
  refine lx_arg (i := i) (jn := 1) (pw_cod lx_k1561) (pw_cod lx_k1562) (pw_cod lx_k1563) (pw_cod lx_k1564) (pw_cod lx_k1565) rfl (fl_bo rfl) hL (by omega) ?_
  refine lx_callG (as_ := [lx_x, .inl (xs (i + 1))]) (rest := []) (pw_cod lx_k1566) (pw_cll lx_l213) rfl (fl_bo rfl) rfl rfl (t2_qcall (hall _ at_c151_in) rfl hg ⟨lx_kx _, lx_ki _, True.intro⟩ rfl rfl rfl) (fun v1 m1 hg1 => ?_)
  obtain ⟨⟨y1, rfl⟩, hg1⟩ := hg1
  refine fl_Tq.stp (pw_cod lx_k1569) rfl (fl_bo rfl) rfl ?_
  refine fl_Tq.stp (pw_cod lx_k1570) rfl (fl_bo rfl) rfl ?_
  refine lx_arg (i := i) (jn := 1) (pw_cod lx_k1571) (pw_cod lx_k1572) (pw_cod lx_k1573) (pw_cod lx_k1574) (pw_cod lx_k1575) rfl (fl_bo rfl) hL (by omega) ?_
  refine lx_callG (as_ := [at_this, .inl (xs (i + 1))]) (rest := []) (pw_cod lx_k1576) (pw_cll lx_l216) rfl (fl_bo rfl) rfl rfl (t2_qcall (hall _ at_c253_in) rfl hg1 ⟨at_k277 _, lx_ki _, True.intro⟩ rfl rfl rfl) (fun v2 m2 hg2 => ?_)
  obtain ⟨⟨y2, rfl⟩, hg2⟩ := hg2
  refine fl_Tq.stp (pw_cod lx_k1579) rfl (fl_bo rfl) rfl ?_
  refine fl_Tq.stp (pw_cod lx_k1580) rfl (fl_bo rfl) rfl ?_
  exact kk m2 hg2
theorem ly_c49 {L : Nat} {xs : Nat → Int32} {m : fl_M} {Q : Option fl_V → fl_M → Prop} {i : Nat} (hall : ∀ c ∈ at_CM ++ at_CA, at_Valid at_XI (pw_P L xs) c) (hL : L ≤ 3072) (hi : i + 6 ≤ L) (hg : t2_Z m) (kk : ∀ m' : fl_M, t2_Z m' → fl_Tq (pw_P L xs) 0 2030 (lx_lv i) [] m' Q) : fl_Tq (pw_P L xs) 0 1583 (lx_lv i) [] m Q := by
  obtain ⟨f, l⟩ := m
  refine fl_Tq.stp (pw_cod lx_k1583) rfl (fl_bo rfl) rfl ?_
  refine lx_arg (i := i) (jn := 1) (pw_cod lx_k1584) (pw_cod lx_k1585) (pw_cod lx_k1586) (pw_cod lx_k1587) (pw_cod lx_k1588) rfl (fl_bo rfl) hL (by omega) ?_
  refine lx_callG (as_ := [lx_x, .inl (xs (i + 1))]) (rest := []) (pw_cod lx_k1589) (pw_cll lx_l217) rfl (fl_bo rfl) rfl rfl (t2_qcall (hall _ at_c152_in) rfl hg ⟨lx_kx _, lx_ki _, True.intro⟩ rfl rfl rfl) (fun v1 m1 hg1 => ?_)
  obtain ⟨⟨y1, rfl⟩, hg1⟩ := hg1
  refine fl_Tq.stp (pw_cod lx_k1592) rfl (fl_bo rfl) rfl ?_
  refine fl_Tq.stp (pw_cod lx_k1593) rfl (fl_bo rfl) rfl ?_
  refine lx_arg (i := i) (jn := 1) (pw_cod lx_k1594) (pw_cod lx_k1595) (pw_cod lx_k1596) (pw_cod lx_k1597) (pw_cod lx_k1598) rfl (fl_bo rfl) hL (by omega) ?_
  refine lx_callG (as_ := [at_this, .inl (xs (i + 1))]) (rest := []) (pw_cod lx_k1599) (pw_cll lx_l220) rfl (fl_bo rfl) rfl rfl (t2_qcall (hall _ at_c288_in) rfl hg1 ⟨at_k277 _, lx_ki _, True.intro⟩ rfl rfl rfl) (fun v2 m2 hg2 => ?_)
  obtain ⟨⟨y2, rfl⟩, hg2⟩ := hg2
  refine fl_Tq.stp (pw_cod lx_k1602) rfl (fl_bo rfl) rfl ?_
  refine fl_Tq.stp (pw_cod lx_k1603) rfl (fl_bo rfl) rfl ?_
  exact kk m2 hg2
theorem ly_c50 {L : Nat} {xs : Nat → Int32} {m : fl_M} {Q : Option fl_V → fl_M → Prop} {i : Nat} (hall : ∀ c ∈ at_CM ++ at_CA, at_Valid at_XI (pw_P L xs) c) (hL : L ≤ 3072) (hi : i + 6 ≤ L) (hg : t2_Z m) (kk : ∀ m' : fl_M, t2_Z m' → fl_Tq (pw_P L xs) 0 2030 (lx_lv i) [] m' Q) : fl_Tq (pw_P L xs) 0 1606 (lx_lv i) [] m Q := by
  obtain ⟨f, l⟩ := m
  refine fl_Tq.stp (pw_cod lx_k1606) rfl (fl_bo rfl) rfl ?_
  refine lx_arg (i := i) (jn := 1) (pw_cod lx_k1607) (pw_cod lx_k1608) (pw_cod lx_k1609) (pw_cod lx_k1610) (pw_cod lx_k1611) rfl (fl_bo rfl) hL (by omega) ?_
  refine lx_arg (i := i) (jn := 2) (pw_cod lx_k1612) (pw_cod lx_k1613) (pw_cod lx_k1614) (pw_cod lx_k1615) (pw_cod lx_k1616) rfl (fl_bo rfl) hL (by omega) ?_
  refine lx_callG (as_ := [lx_x, .inl (xs (i + 1)), .inl (xs (i + 2))]) (rest := []) (pw_cod lx_k1617) (pw_cll lx_l221) rfl (fl_bo rfl) rfl rfl (t2_qcall (hall _ at_c153_in) rfl hg ⟨lx_kx _, lx_ki _, lx_ki _, True.intro⟩ rfl rfl rfl) (fun v1 m1 hg1 => ?_)
  obtain ⟨⟨y1, rfl⟩, hg1⟩ := hg1
  refine fl_Tq.stp (pw_cod lx_k1620) rfl (fl_bo rfl) rfl ?_
  refine fl_Tq.stp (pw_cod lx_k1621) rfl (fl_bo rfl) rfl ?_
  refine lx_arg (i := i) (jn := 1) (pw_cod lx_k1622) (pw_cod lx_k1623) (pw_cod lx_k1624) (pw_cod lx_k1625) (pw_cod lx_k1626) rfl (fl_bo rfl) hL (by omega) ?_
  refine lx_arg (i := i) (jn := 2) (pw_cod lx_k1627) (pw_cod lx_k1628) (pw_cod lx_k1629) (pw_cod lx_k1630) (pw_cod lx_k1631) rfl (fl_bo rfl) hL (by omega) ?_
  refine lx_callG (as_ := [at_this, .inl (xs (i + 1)), .inl (xs (i + 2))]) (rest := []) (pw_cod lx_k1632) (pw_cll lx_l224) rfl (fl_bo rfl) rfl rfl (t2_qcall (hall _ at_c289_in) rfl hg1 ⟨at_k277 _, lx_ki _, lx_ki _, True.intro⟩ rfl rfl rfl) (fun v2 m2 hg2 => ?_)
  obtain ⟨⟨y2, rfl⟩, hg2⟩ := hg2
  refine fl_Tq.stp (pw_cod lx_k1635) rfl (fl_bo rfl) rfl ?_
  refine fl_Tq.stp (pw_cod lx_k1636) rfl (fl_bo rfl) rfl ?_
  exact kk m2 hg2
