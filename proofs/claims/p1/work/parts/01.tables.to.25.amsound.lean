/-! 01.tables.lean.txt -/
section
-- ===== PART A: goes FIRST, ahead of the names: the tables' words, and 'selects' of the private methods out of them =====
/-- a private method of a class that the tables say can be made, by its rows of tables_1 -/
def lw_okq (q : MethodName × Nat) : Prop := (q.1.cls ≠ "java/lang/invoke/MethodHandle" ∧ q.1.cls ≠ "java/lang/invoke/VarHandle") ∧ Cond.instantiable q.1.cls q.2 ∈ tables_1 ∧ Cond.privateMethod q.1 ∈ tables_1 ∧ Cond.instanceMethod q.1 ∈ tables_1
theorem lw_p0 : lw_okq (⟨"PackWatch$History", "place", "(I)I"⟩, 3) := ⟨⟨by decide +kernel, by decide +kernel⟩, List.mem_of_getElem? (i := 346) (by decide +kernel), List.mem_of_getElem? (i := 399) (by decide +kernel), List.mem_of_getElem? (i := 400) (by decide +kernel)⟩
theorem lw_p1 : lw_okq (⟨"PackWatch$History", "stateAt", "(I)LPackWatch$State;"⟩, 3) := ⟨⟨by decide +kernel, by decide +kernel⟩, List.mem_of_getElem? (i := 346) (by decide +kernel), List.mem_of_getElem? (i := 403) (by decide +kernel), List.mem_of_getElem? (i := 404) (by decide +kernel)⟩
theorem lw_p2 : lw_okq (⟨"PackWatch$State", "moveBus", "()Z"⟩, 17) := ⟨⟨by decide +kernel, by decide +kernel⟩, List.mem_of_getElem? (i := 27) (by decide +kernel), List.mem_of_getElem? (i := 523) (by decide +kernel), List.mem_of_getElem? (i := 524) (by decide +kernel)⟩
theorem lw_p3 : lw_okq (⟨"PackWatch$State", "areActual", "(I)Z"⟩, 17) := ⟨⟨by decide +kernel, by decide +kernel⟩, List.mem_of_getElem? (i := 27) (by decide +kernel), List.mem_of_getElem? (i := 538) (by decide +kernel), List.mem_of_getElem? (i := 539) (by decide +kernel)⟩
theorem lw_p4 : lw_okq (⟨"PackWatch$State", "orderedBits", "()I"⟩, 17) := ⟨⟨by decide +kernel, by decide +kernel⟩, List.mem_of_getElem? (i := 27) (by decide +kernel), List.mem_of_getElem? (i := 546) (by decide +kernel), List.mem_of_getElem? (i := 547) (by decide +kernel)⟩
theorem lw_p5 : lw_okq (⟨"PackWatch$State", "letCurrent", "()V"⟩, 17) := ⟨⟨by decide +kernel, by decide +kernel⟩, List.mem_of_getElem? (i := 27) (by decide +kernel), List.mem_of_getElem? (i := 554) (by decide +kernel), List.mem_of_getElem? (i := 555) (by decide +kernel)⟩
theorem lw_p6 : lw_okq (⟨"PackWatch$State", "countHeldBack", "(I)V"⟩, 17) := ⟨⟨by decide +kernel, by decide +kernel⟩, List.mem_of_getElem? (i := 27) (by decide +kernel), List.mem_of_getElem? (i := 579) (by decide +kernel), List.mem_of_getElem? (i := 580) (by decide +kernel)⟩
theorem lw_p7 : lw_okq (⟨"PackWatch$State", "passCells", "()V"⟩, 17) := ⟨⟨by decide +kernel, by decide +kernel⟩, List.mem_of_getElem? (i := 27) (by decide +kernel), List.mem_of_getElem? (i := 583) (by decide +kernel), List.mem_of_getElem? (i := 584) (by decide +kernel)⟩
theorem lw_p8 : lw_okq (⟨"PackWatch$Cell", "wear", "(I)V"⟩, 20) := ⟨⟨by decide +kernel, by decide +kernel⟩, List.mem_of_getElem? (i := 157) (by decide +kernel), List.mem_of_getElem? (i := 594) (by decide +kernel), List.mem_of_getElem? (i := 595) (by decide +kernel)⟩
theorem lw_p9 : lw_okq (⟨"PackWatch$State", "balance", "()V"⟩, 17) := ⟨⟨by decide +kernel, by decide +kernel⟩, List.mem_of_getElem? (i := 27) (by decide +kernel), List.mem_of_getElem? (i := 602) (by decide +kernel), List.mem_of_getElem? (i := 603) (by decide +kernel)⟩
theorem lw_p10 : lw_okq (⟨"PackWatch$State", "shuntCells", "()V"⟩, 17) := ⟨⟨by decide +kernel, by decide +kernel⟩, List.mem_of_getElem? (i := 27) (by decide +kernel), List.mem_of_getElem? (i := 606) (by decide +kernel), List.mem_of_getElem? (i := 607) (by decide +kernel)⟩
theorem lw_p11 : lw_okq (⟨"PackWatch$State", "greatestAbove", "(II)I"⟩, 17) := ⟨⟨by decide +kernel, by decide +kernel⟩, List.mem_of_getElem? (i := 27) (by decide +kernel), List.mem_of_getElem? (i := 614) (by decide +kernel), List.mem_of_getElem? (i := 615) (by decide +kernel)⟩
theorem lw_p12 : lw_okq (⟨"PackWatch$State", "shuttle", "(LPackWatch$Cell;LPackWatch$Cell;)V"⟩, 17) := ⟨⟨by decide +kernel, by decide +kernel⟩, List.mem_of_getElem? (i := 27) (by decide +kernel), List.mem_of_getElem? (i := 622) (by decide +kernel), List.mem_of_getElem? (i := 623) (by decide +kernel)⟩
theorem lw_p13 : lw_okq (⟨"PackWatch$State", "measure", "()V"⟩, 17) := ⟨⟨by decide +kernel, by decide +kernel⟩, List.mem_of_getElem? (i := 27) (by decide +kernel), List.mem_of_getElem? (i := 632) (by decide +kernel), List.mem_of_getElem? (i := 633) (by decide +kernel)⟩
theorem lw_p14 : lw_okq (⟨"PackWatch$State", "taper", "()V"⟩, 17) := ⟨⟨by decide +kernel, by decide +kernel⟩, List.mem_of_getElem? (i := 27) (by decide +kernel), List.mem_of_getElem? (i := 651) (by decide +kernel), List.mem_of_getElem? (i := 652) (by decide +kernel)⟩
theorem lw_p15 : lw_okq (⟨"PackWatch$State", "faultsOfCells", "()I"⟩, 17) := ⟨⟨by decide +kernel, by decide +kernel⟩, List.mem_of_getElem? (i := 27) (by decide +kernel), List.mem_of_getElem? (i := 655) (by decide +kernel), List.mem_of_getElem? (i := 656) (by decide +kernel)⟩
def lw_privs_1 : List (MethodName × Nat) := [(⟨"PackWatch$History", "place", "(I)I"⟩, 3), (⟨"PackWatch$History", "stateAt", "(I)LPackWatch$State;"⟩, 3), (⟨"PackWatch$State", "moveBus", "()Z"⟩, 17), (⟨"PackWatch$State", "areActual", "(I)Z"⟩, 17), (⟨"PackWatch$State", "orderedBits", "()I"⟩, 17), (⟨"PackWatch$State", "letCurrent", "()V"⟩, 17), (⟨"PackWatch$State", "countHeldBack", "(I)V"⟩, 17), (⟨"PackWatch$State", "passCells", "()V"⟩, 17), (⟨"PackWatch$Cell", "wear", "(I)V"⟩, 20), (⟨"PackWatch$State", "balance", "()V"⟩, 17), (⟨"PackWatch$State", "shuntCells", "()V"⟩, 17), (⟨"PackWatch$State", "greatestAbove", "(II)I"⟩, 17), (⟨"PackWatch$State", "shuttle", "(LPackWatch$Cell;LPackWatch$Cell;)V"⟩, 17), (⟨"PackWatch$State", "measure", "()V"⟩, 17), (⟨"PackWatch$State", "taper", "()V"⟩, 17), (⟨"PackWatch$State", "faultsOfCells", "()I"⟩, 17)]
theorem lw_r1 : ∀ q ∈ lw_privs_1, lw_okq q := List.forall_mem_cons.mpr ⟨lw_p0, List.forall_mem_cons.mpr ⟨lw_p1, List.forall_mem_cons.mpr ⟨lw_p2, List.forall_mem_cons.mpr ⟨lw_p3, List.forall_mem_cons.mpr ⟨lw_p4, List.forall_mem_cons.mpr ⟨lw_p5, List.forall_mem_cons.mpr ⟨lw_p6, List.forall_mem_cons.mpr ⟨lw_p7, List.forall_mem_cons.mpr ⟨lw_p8, List.forall_mem_cons.mpr ⟨lw_p9, List.forall_mem_cons.mpr ⟨lw_p10, List.forall_mem_cons.mpr ⟨lw_p11, List.forall_mem_cons.mpr ⟨lw_p12, List.forall_mem_cons.mpr ⟨lw_p13, List.forall_mem_cons.mpr ⟨lw_p14, List.forall_mem_cons.mpr ⟨lw_p15, fun _ h => absurd h List.not_mem_nil⟩⟩⟩⟩⟩⟩⟩⟩⟩⟩⟩⟩⟩⟩⟩⟩
theorem lw_p16 : lw_okq (⟨"PackWatch$State", "faultsOfPack", "()I"⟩, 17) := ⟨⟨by decide +kernel, by decide +kernel⟩, List.mem_of_getElem? (i := 27) (by decide +kernel), List.mem_of_getElem? (i := 663) (by decide +kernel), List.mem_of_getElem? (i := 664) (by decide +kernel)⟩
theorem lw_p17 : lw_okq (⟨"PackWatch$State", "spreadOf", "(II)I"⟩, 17) := ⟨⟨by decide +kernel, by decide +kernel⟩, List.mem_of_getElem? (i := 27) (by decide +kernel), List.mem_of_getElem? (i := 676) (by decide +kernel), List.mem_of_getElem? (i := 677) (by decide +kernel)⟩
theorem lw_p18 : lw_okq (⟨"PackWatch$Lines", "place", "(I)I"⟩, 4) := ⟨⟨by decide +kernel, by decide +kernel⟩, List.mem_of_getElem? (i := 102) (by decide +kernel), List.mem_of_getElem? (i := 696) (by decide +kernel), List.mem_of_getElem? (i := 697) (by decide +kernel)⟩
theorem lw_p19 : lw_okq (⟨"PackWatch$State", "keepTrack", "()V"⟩, 17) := ⟨⟨by decide +kernel, by decide +kernel⟩, List.mem_of_getElem? (i := 27) (by decide +kernel), List.mem_of_getElem? (i := 700) (by decide +kernel), List.mem_of_getElem? (i := 701) (by decide +kernel)⟩
theorem lw_p20 : lw_okq (⟨"PackWatch$Turns", "goesOn", "(I)Z"⟩, 3) := ⟨⟨by decide +kernel, by decide +kernel⟩, List.mem_of_getElem? (i := 163) (by decide +kernel), List.mem_of_getElem? (i := 713) (by decide +kernel), List.mem_of_getElem? (i := 714) (by decide +kernel)⟩
theorem lw_p21 : lw_okq (⟨"PackWatch$Turns", "add", "(I)V"⟩, 3) := ⟨⟨by decide +kernel, by decide +kernel⟩, List.mem_of_getElem? (i := 163) (by decide +kernel), List.mem_of_getElem? (i := 717) (by decide +kernel), List.mem_of_getElem? (i := 718) (by decide +kernel)⟩
theorem lw_p22 : lw_okq (⟨"PackWatch$Turns", "countCycles", "()V"⟩, 3) := ⟨⟨by decide +kernel, by decide +kernel⟩, List.mem_of_getElem? (i := 163) (by decide +kernel), List.mem_of_getElem? (i := 721) (by decide +kernel), List.mem_of_getElem? (i := 722) (by decide +kernel)⟩
theorem lw_p23 : lw_okq (⟨"PackWatch$Turns", "way", "(I)I"⟩, 3) := ⟨⟨by decide +kernel, by decide +kernel⟩, List.mem_of_getElem? (i := 163) (by decide +kernel), List.mem_of_getElem? (i := 725) (by decide +kernel), List.mem_of_getElem? (i := 726) (by decide +kernel)⟩
theorem lw_p24 : lw_okq (⟨"PackWatch$State", "obeyRules", "()V"⟩, 17) := ⟨⟨by decide +kernel, by decide +kernel⟩, List.mem_of_getElem? (i := 27) (by decide +kernel), List.mem_of_getElem? (i := 730) (by decide +kernel), List.mem_of_getElem? (i := 731) (by decide +kernel)⟩
theorem lw_p25 : lw_okq (⟨"PackWatch$State", "placeOf", "(I)I"⟩, 17) := ⟨⟨by decide +kernel, by decide +kernel⟩, List.mem_of_getElem? (i := 27) (by decide +kernel), List.mem_of_getElem? (i := 950) (by decide +kernel), List.mem_of_getElem? (i := 951) (by decide +kernel)⟩
theorem lw_p26 : lw_okq (⟨"PackWatch", "planHours", "(II)V"⟩, 7) := ⟨⟨by decide +kernel, by decide +kernel⟩, List.mem_of_getElem? (i := 19) (by decide +kernel), List.mem_of_getElem? (i := 1008) (by decide +kernel), List.mem_of_getElem? (i := 1009) (by decide +kernel)⟩
theorem lw_p27 : lw_okq (⟨"PackWatch", "planOneHour", "(IIJ)V"⟩, 7) := ⟨⟨by decide +kernel, by decide +kernel⟩, List.mem_of_getElem? (i := 19) (by decide +kernel), List.mem_of_getElem? (i := 1016) (by decide +kernel), List.mem_of_getElem? (i := 1017) (by decide +kernel)⟩
theorem lw_p28 : lw_okq (⟨"PackWatch", "bears", "(II)Z"⟩, 7) := ⟨⟨by decide +kernel, by decide +kernel⟩, List.mem_of_getElem? (i := 19) (by decide +kernel), List.mem_of_getElem? (i := 1137) (by decide +kernel), List.mem_of_getElem? (i := 1138) (by decide +kernel)⟩
theorem lw_p29 : lw_okq (⟨"PackWatch", "spreadBehind", "(III)I"⟩, 7) := ⟨⟨by decide +kernel, by decide +kernel⟩, List.mem_of_getElem? (i := 19) (by decide +kernel), List.mem_of_getElem? (i := 1145) (by decide +kernel), List.mem_of_getElem? (i := 1146) (by decide +kernel)⟩
theorem lw_p30 : lw_okq (⟨"PackWatchModel", "its", "(I)I"⟩, 10) := ⟨⟨by decide +kernel, by decide +kernel⟩, List.mem_of_getElem? (i := 1165) (by decide +kernel), List.mem_of_getElem? (i := 1174) (by decide +kernel), List.mem_of_getElem? (i := 1175) (by decide +kernel)⟩
theorem lw_p31 : lw_okq (⟨"PackWatchModel", "keep", "()V"⟩, 10) := ⟨⟨by decide +kernel, by decide +kernel⟩, List.mem_of_getElem? (i := 1165) (by decide +kernel), List.mem_of_getElem? (i := 1226) (by decide +kernel), List.mem_of_getElem? (i := 1227) (by decide +kernel)⟩
def lw_privs_2 : List (MethodName × Nat) := [(⟨"PackWatch$State", "faultsOfPack", "()I"⟩, 17), (⟨"PackWatch$State", "spreadOf", "(II)I"⟩, 17), (⟨"PackWatch$Lines", "place", "(I)I"⟩, 4), (⟨"PackWatch$State", "keepTrack", "()V"⟩, 17), (⟨"PackWatch$Turns", "goesOn", "(I)Z"⟩, 3), (⟨"PackWatch$Turns", "add", "(I)V"⟩, 3), (⟨"PackWatch$Turns", "countCycles", "()V"⟩, 3), (⟨"PackWatch$Turns", "way", "(I)I"⟩, 3), (⟨"PackWatch$State", "obeyRules", "()V"⟩, 17), (⟨"PackWatch$State", "placeOf", "(I)I"⟩, 17), (⟨"PackWatch", "planHours", "(II)V"⟩, 7), (⟨"PackWatch", "planOneHour", "(IIJ)V"⟩, 7), (⟨"PackWatch", "bears", "(II)Z"⟩, 7), (⟨"PackWatch", "spreadBehind", "(III)I"⟩, 7), (⟨"PackWatchModel", "its", "(I)I"⟩, 10), (⟨"PackWatchModel", "keep", "()V"⟩, 10)]
theorem lw_r2 : ∀ q ∈ lw_privs_2, lw_okq q := List.forall_mem_cons.mpr ⟨lw_p16, List.forall_mem_cons.mpr ⟨lw_p17, List.forall_mem_cons.mpr ⟨lw_p18, List.forall_mem_cons.mpr ⟨lw_p19, List.forall_mem_cons.mpr ⟨lw_p20, List.forall_mem_cons.mpr ⟨lw_p21, List.forall_mem_cons.mpr ⟨lw_p22, List.forall_mem_cons.mpr ⟨lw_p23, List.forall_mem_cons.mpr ⟨lw_p24, List.forall_mem_cons.mpr ⟨lw_p25, List.forall_mem_cons.mpr ⟨lw_p26, List.forall_mem_cons.mpr ⟨lw_p27, List.forall_mem_cons.mpr ⟨lw_p28, List.forall_mem_cons.mpr ⟨lw_p29, List.forall_mem_cons.mpr ⟨lw_p30, List.forall_mem_cons.mpr ⟨lw_p31, fun _ h => absurd h List.not_mem_nil⟩⟩⟩⟩⟩⟩⟩⟩⟩⟩⟩⟩⟩⟩⟩⟩
theorem lw_p32 : lw_okq (⟨"PackWatchModel", "let", "(III)V"⟩, 10) := ⟨⟨by decide +kernel, by decide +kernel⟩, List.mem_of_getElem? (i := 1165) (by decide +kernel), List.mem_of_getElem? (i := 1230) (by decide +kernel), List.mem_of_getElem? (i := 1231) (by decide +kernel)⟩
theorem lw_p33 : lw_okq (⟨"PackWatchModel", "chargeAt", "(II)I"⟩, 10) := ⟨⟨by decide +kernel, by decide +kernel⟩, List.mem_of_getElem? (i := 1165) (by decide +kernel), List.mem_of_getElem? (i := 1234) (by decide +kernel), List.mem_of_getElem? (i := 1235) (by decide +kernel)⟩
theorem lw_p34 : lw_okq (⟨"PackWatchModel", "get", "(II)I"⟩, 10) := ⟨⟨by decide +kernel, by decide +kernel⟩, List.mem_of_getElem? (i := 1165) (by decide +kernel), List.mem_of_getElem? (i := 1239) (by decide +kernel), List.mem_of_getElem? (i := 1240) (by decide +kernel)⟩
theorem lw_p35 : lw_okq (⟨"PackWatchModel", "partOf", "(I)I"⟩, 10) := ⟨⟨by decide +kernel, by decide +kernel⟩, List.mem_of_getElem? (i := 1165) (by decide +kernel), List.mem_of_getElem? (i := 1247) (by decide +kernel), List.mem_of_getElem? (i := 1248) (by decide +kernel)⟩
theorem lw_p36 : lw_okq (⟨"PackWatchModel", "partAt", "(II)I"⟩, 10) := ⟨⟨by decide +kernel, by decide +kernel⟩, List.mem_of_getElem? (i := 1165) (by decide +kernel), List.mem_of_getElem? (i := 1251) (by decide +kernel), List.mem_of_getElem? (i := 1252) (by decide +kernel)⟩
theorem lw_p37 : lw_okq (⟨"PackWatchModel", "full", "(I)I"⟩, 10) := ⟨⟨by decide +kernel, by decide +kernel⟩, List.mem_of_getElem? (i := 1165) (by decide +kernel), List.mem_of_getElem? (i := 1256) (by decide +kernel), List.mem_of_getElem? (i := 1257) (by decide +kernel)⟩
theorem lw_p38 : lw_okq (⟨"PackWatchModel", "isCell", "(I)Z"⟩, 10) := ⟨⟨by decide +kernel, by decide +kernel⟩, List.mem_of_getElem? (i := 1165) (by decide +kernel), List.mem_of_getElem? (i := 1264) (by decide +kernel), List.mem_of_getElem? (i := 1265) (by decide +kernel)⟩
theorem lw_p39 : lw_okq (⟨"PackWatchModel", "isSetting", "(II)Z"⟩, 10) := ⟨⟨by decide +kernel, by decide +kernel⟩, List.mem_of_getElem? (i := 1165) (by decide +kernel), List.mem_of_getElem? (i := 1276) (by decide +kernel), List.mem_of_getElem? (i := 1277) (by decide +kernel)⟩
theorem lw_p40 : lw_okq (⟨"PackWatchModel", "canRun", "(II)Z"⟩, 10) := ⟨⟨by decide +kernel, by decide +kernel⟩, List.mem_of_getElem? (i := 1165) (by decide +kernel), List.mem_of_getElem? (i := 1284) (by decide +kernel), List.mem_of_getElem? (i := 1285) (by decide +kernel)⟩
theorem lw_p41 : lw_okq (⟨"PackWatchModel", "secondsNow", "(I)I"⟩, 10) := ⟨⟨by decide +kernel, by decide +kernel⟩, List.mem_of_getElem? (i := 1165) (by decide +kernel), List.mem_of_getElem? (i := 1288) (by decide +kernel), List.mem_of_getElem? (i := 1289) (by decide +kernel)⟩
theorem lw_p42 : lw_okq (⟨"PackWatchModel", "second", "()I"⟩, 10) := ⟨⟨by decide +kernel, by decide +kernel⟩, List.mem_of_getElem? (i := 1165) (by decide +kernel), List.mem_of_getElem? (i := 1292) (by decide +kernel), List.mem_of_getElem? (i := 1293) (by decide +kernel)⟩
theorem lw_p43 : lw_okq (⟨"PackWatchModel", "goBus", "()V"⟩, 10) := ⟨⟨by decide +kernel, by decide +kernel⟩, List.mem_of_getElem? (i := 1165) (by decide +kernel), List.mem_of_getElem? (i := 1296) (by decide +kernel), List.mem_of_getElem? (i := 1297) (by decide +kernel)⟩
theorem lw_p44 : lw_okq (⟨"PackWatchModel", "packCalm", "()I"⟩, 10) := ⟨⟨by decide +kernel, by decide +kernel⟩, List.mem_of_getElem? (i := 1165) (by decide +kernel), List.mem_of_getElem? (i := 1300) (by decide +kernel), List.mem_of_getElem? (i := 1301) (by decide +kernel)⟩
theorem lw_p45 : lw_okq (⟨"PackWatchModel", "calmVolts", "(I)I"⟩, 10) := ⟨⟨by decide +kernel, by decide +kernel⟩, List.mem_of_getElem? (i := 1165) (by decide +kernel), List.mem_of_getElem? (i := 1304) (by decide +kernel), List.mem_of_getElem? (i := 1305) (by decide +kernel)⟩
theorem lw_p46 : lw_okq (⟨"PackWatchModel", "restOf", "(I)I"⟩, 10) := ⟨⟨by decide +kernel, by decide +kernel⟩, List.mem_of_getElem? (i := 1165) (by decide +kernel), List.mem_of_getElem? (i := 1308) (by decide +kernel), List.mem_of_getElem? (i := 1309) (by decide +kernel)⟩
theorem lw_p47 : lw_okq (⟨"PackWatchModel", "isLive", "()Z"⟩, 10) := ⟨⟨by decide +kernel, by decide +kernel⟩, List.mem_of_getElem? (i := 1165) (by decide +kernel), List.mem_of_getElem? (i := 1312) (by decide +kernel), List.mem_of_getElem? (i := 1313) (by decide +kernel)⟩
def lw_privs_3 : List (MethodName × Nat) := [(⟨"PackWatchModel", "let", "(III)V"⟩, 10), (⟨"PackWatchModel", "chargeAt", "(II)I"⟩, 10), (⟨"PackWatchModel", "get", "(II)I"⟩, 10), (⟨"PackWatchModel", "partOf", "(I)I"⟩, 10), (⟨"PackWatchModel", "partAt", "(II)I"⟩, 10), (⟨"PackWatchModel", "full", "(I)I"⟩, 10), (⟨"PackWatchModel", "isCell", "(I)Z"⟩, 10), (⟨"PackWatchModel", "isSetting", "(II)Z"⟩, 10), (⟨"PackWatchModel", "canRun", "(II)Z"⟩, 10), (⟨"PackWatchModel", "secondsNow", "(I)I"⟩, 10), (⟨"PackWatchModel", "second", "()I"⟩, 10), (⟨"PackWatchModel", "goBus", "()V"⟩, 10), (⟨"PackWatchModel", "packCalm", "()I"⟩, 10), (⟨"PackWatchModel", "calmVolts", "(I)I"⟩, 10), (⟨"PackWatchModel", "restOf", "(I)I"⟩, 10), (⟨"PackWatchModel", "isLive", "()Z"⟩, 10)]
theorem lw_r3 : ∀ q ∈ lw_privs_3, lw_okq q := List.forall_mem_cons.mpr ⟨lw_p32, List.forall_mem_cons.mpr ⟨lw_p33, List.forall_mem_cons.mpr ⟨lw_p34, List.forall_mem_cons.mpr ⟨lw_p35, List.forall_mem_cons.mpr ⟨lw_p36, List.forall_mem_cons.mpr ⟨lw_p37, List.forall_mem_cons.mpr ⟨lw_p38, List.forall_mem_cons.mpr ⟨lw_p39, List.forall_mem_cons.mpr ⟨lw_p40, List.forall_mem_cons.mpr ⟨lw_p41, List.forall_mem_cons.mpr ⟨lw_p42, List.forall_mem_cons.mpr ⟨lw_p43, List.forall_mem_cons.mpr ⟨lw_p44, List.forall_mem_cons.mpr ⟨lw_p45, List.forall_mem_cons.mpr ⟨lw_p46, List.forall_mem_cons.mpr ⟨lw_p47, fun _ h => absurd h List.not_mem_nil⟩⟩⟩⟩⟩⟩⟩⟩⟩⟩⟩⟩⟩⟩⟩⟩
theorem lw_p48 : lw_okq (⟨"PackWatchModel", "actual", "()I"⟩, 10) := ⟨⟨by decide +kernel, by decide +kernel⟩, List.mem_of_getElem? (i := 1165) (by decide +kernel), List.mem_of_getElem? (i := 1316) (by decide +kernel), List.mem_of_getElem? (i := 1317) (by decide +kernel)⟩
theorem lw_p49 : lw_okq (⟨"PackWatchModel", "ordered", "()I"⟩, 10) := ⟨⟨by decide +kernel, by decide +kernel⟩, List.mem_of_getElem? (i := 1165) (by decide +kernel), List.mem_of_getElem? (i := 1320) (by decide +kernel), List.mem_of_getElem? (i := 1321) (by decide +kernel)⟩
theorem lw_p50 : lw_okq (⟨"PackWatchModel", "goCurrent", "()V"⟩, 10) := ⟨⟨by decide +kernel, by decide +kernel⟩, List.mem_of_getElem? (i := 1165) (by decide +kernel), List.mem_of_getElem? (i := 1330) (by decide +kernel), List.mem_of_getElem? (i := 1331) (by decide +kernel)⟩
theorem lw_p51 : lw_okq (⟨"PackWatchModel", "limitOf", "(I)I"⟩, 10) := ⟨⟨by decide +kernel, by decide +kernel⟩, List.mem_of_getElem? (i := 1165) (by decide +kernel), List.mem_of_getElem? (i := 1334) (by decide +kernel), List.mem_of_getElem? (i := 1335) (by decide +kernel)⟩
theorem lw_p52 : lw_okq (⟨"PackWatchModel", "limitBy", "(II)I"⟩, 10) := ⟨⟨by decide +kernel, by decide +kernel⟩, List.mem_of_getElem? (i := 1165) (by decide +kernel), List.mem_of_getElem? (i := 1338) (by decide +kernel), List.mem_of_getElem? (i := 1339) (by decide +kernel)⟩
theorem lw_p53 : lw_okq (⟨"PackWatchModel", "tightest", "(I)I"⟩, 10) := ⟨⟨by decide +kernel, by decide +kernel⟩, List.mem_of_getElem? (i := 1165) (by decide +kernel), List.mem_of_getElem? (i := 1348) (by decide +kernel), List.mem_of_getElem? (i := 1349) (by decide +kernel)⟩
theorem lw_p54 : lw_okq (⟨"PackWatchModel", "goCells", "()V"⟩, 10) := ⟨⟨by decide +kernel, by decide +kernel⟩, List.mem_of_getElem? (i := 1165) (by decide +kernel), List.mem_of_getElem? (i := 1352) (by decide +kernel), List.mem_of_getElem? (i := 1353) (by decide +kernel)⟩
theorem lw_p55 : lw_okq (⟨"PackWatchModel", "goWarm", "(I)V"⟩, 10) := ⟨⟨by decide +kernel, by decide +kernel⟩, List.mem_of_getElem? (i := 1165) (by decide +kernel), List.mem_of_getElem? (i := 1356) (by decide +kernel), List.mem_of_getElem? (i := 1357) (by decide +kernel)⟩
theorem lw_p56 : lw_okq (⟨"PackWatchModel", "touch", "(I)V"⟩, 10) := ⟨⟨by decide +kernel, by decide +kernel⟩, List.mem_of_getElem? (i := 1165) (by decide +kernel), List.mem_of_getElem? (i := 1360) (by decide +kernel), List.mem_of_getElem? (i := 1361) (by decide +kernel)⟩
theorem lw_p57 : lw_okq (⟨"PackWatchModel", "goOld", "(I)V"⟩, 10) := ⟨⟨by decide +kernel, by decide +kernel⟩, List.mem_of_getElem? (i := 1165) (by decide +kernel), List.mem_of_getElem? (i := 1364) (by decide +kernel), List.mem_of_getElem? (i := 1365) (by decide +kernel)⟩
theorem lw_p58 : lw_okq (⟨"PackWatchModel", "hold", "(I)V"⟩, 10) := ⟨⟨by decide +kernel, by decide +kernel⟩, List.mem_of_getElem? (i := 1165) (by decide +kernel), List.mem_of_getElem? (i := 1371) (by decide +kernel), List.mem_of_getElem? (i := 1372) (by decide +kernel)⟩
theorem lw_p59 : lw_okq (⟨"PackWatchModel", "goBalance", "()V"⟩, 10) := ⟨⟨by decide +kernel, by decide +kernel⟩, List.mem_of_getElem? (i := 1165) (by decide +kernel), List.mem_of_getElem? (i := 1375) (by decide +kernel), List.mem_of_getElem? (i := 1376) (by decide +kernel)⟩
theorem lw_p60 : lw_okq (⟨"PackWatchModel", "shuntAll", "()V"⟩, 10) := ⟨⟨by decide +kernel, by decide +kernel⟩, List.mem_of_getElem? (i := 1165) (by decide +kernel), List.mem_of_getElem? (i := 1379) (by decide +kernel), List.mem_of_getElem? (i := 1380) (by decide +kernel)⟩
theorem lw_p61 : lw_okq (⟨"PackWatchModel", "leastPart", "()I"⟩, 10) := ⟨⟨by decide +kernel, by decide +kernel⟩, List.mem_of_getElem? (i := 1165) (by decide +kernel), List.mem_of_getElem? (i := 1383) (by decide +kernel), List.mem_of_getElem? (i := 1384) (by decide +kernel)⟩
theorem lw_p62 : lw_okq (⟨"PackWatchModel", "nextShunt", "(I)I"⟩, 10) := ⟨⟨by decide +kernel, by decide +kernel⟩, List.mem_of_getElem? (i := 1165) (by decide +kernel), List.mem_of_getElem? (i := 1387) (by decide +kernel), List.mem_of_getElem? (i := 1388) (by decide +kernel)⟩
theorem lw_p63 : lw_okq (⟨"PackWatchModel", "shuttle", "(I)V"⟩, 10) := ⟨⟨by decide +kernel, by decide +kernel⟩, List.mem_of_getElem? (i := 1165) (by decide +kernel), List.mem_of_getElem? (i := 1391) (by decide +kernel), List.mem_of_getElem? (i := 1392) (by decide +kernel)⟩
def lw_privs_4 : List (MethodName × Nat) := [(⟨"PackWatchModel", "actual", "()I"⟩, 10), (⟨"PackWatchModel", "ordered", "()I"⟩, 10), (⟨"PackWatchModel", "goCurrent", "()V"⟩, 10), (⟨"PackWatchModel", "limitOf", "(I)I"⟩, 10), (⟨"PackWatchModel", "limitBy", "(II)I"⟩, 10), (⟨"PackWatchModel", "tightest", "(I)I"⟩, 10), (⟨"PackWatchModel", "goCells", "()V"⟩, 10), (⟨"PackWatchModel", "goWarm", "(I)V"⟩, 10), (⟨"PackWatchModel", "touch", "(I)V"⟩, 10), (⟨"PackWatchModel", "goOld", "(I)V"⟩, 10), (⟨"PackWatchModel", "hold", "(I)V"⟩, 10), (⟨"PackWatchModel", "goBalance", "()V"⟩, 10), (⟨"PackWatchModel", "shuntAll", "()V"⟩, 10), (⟨"PackWatchModel", "leastPart", "()I"⟩, 10), (⟨"PackWatchModel", "nextShunt", "(I)I"⟩, 10), (⟨"PackWatchModel", "shuttle", "(I)V"⟩, 10)]
theorem lw_r4 : ∀ q ∈ lw_privs_4, lw_okq q := List.forall_mem_cons.mpr ⟨lw_p48, List.forall_mem_cons.mpr ⟨lw_p49, List.forall_mem_cons.mpr ⟨lw_p50, List.forall_mem_cons.mpr ⟨lw_p51, List.forall_mem_cons.mpr ⟨lw_p52, List.forall_mem_cons.mpr ⟨lw_p53, List.forall_mem_cons.mpr ⟨lw_p54, List.forall_mem_cons.mpr ⟨lw_p55, List.forall_mem_cons.mpr ⟨lw_p56, List.forall_mem_cons.mpr ⟨lw_p57, List.forall_mem_cons.mpr ⟨lw_p58, List.forall_mem_cons.mpr ⟨lw_p59, List.forall_mem_cons.mpr ⟨lw_p60, List.forall_mem_cons.mpr ⟨lw_p61, List.forall_mem_cons.mpr ⟨lw_p62, List.forall_mem_cons.mpr ⟨lw_p63, fun _ h => absurd h List.not_mem_nil⟩⟩⟩⟩⟩⟩⟩⟩⟩⟩⟩⟩⟩⟩⟩⟩
theorem lw_p64 : lw_okq (⟨"PackWatchModel", "goMeasure", "()V"⟩, 10) := ⟨⟨by decide +kernel, by decide +kernel⟩, List.mem_of_getElem? (i := 1165) (by decide +kernel), List.mem_of_getElem? (i := 1395) (by decide +kernel), List.mem_of_getElem? (i := 1396) (by decide +kernel)⟩
theorem lw_p65 : lw_okq (⟨"PackWatchModel", "voltsOf", "(I)I"⟩, 10) := ⟨⟨by decide +kernel, by decide +kernel⟩, List.mem_of_getElem? (i := 1165) (by decide +kernel), List.mem_of_getElem? (i := 1399) (by decide +kernel), List.mem_of_getElem? (i := 1400) (by decide +kernel)⟩
theorem lw_p66 : lw_okq (⟨"PackWatchModel", "restNow", "(I)V"⟩, 10) := ⟨⟨by decide +kernel, by decide +kernel⟩, List.mem_of_getElem? (i := 1165) (by decide +kernel), List.mem_of_getElem? (i := 1403) (by decide +kernel), List.mem_of_getElem? (i := 1404) (by decide +kernel)⟩
theorem lw_p67 : lw_okq (⟨"PackWatchModel", "leastBy", "(I)I"⟩, 10) := ⟨⟨by decide +kernel, by decide +kernel⟩, List.mem_of_getElem? (i := 1165) (by decide +kernel), List.mem_of_getElem? (i := 1407) (by decide +kernel), List.mem_of_getElem? (i := 1408) (by decide +kernel)⟩
theorem lw_p68 : lw_okq (⟨"PackWatchModel", "pack", "()I"⟩, 10) := ⟨⟨by decide +kernel, by decide +kernel⟩, List.mem_of_getElem? (i := 1165) (by decide +kernel), List.mem_of_getElem? (i := 1411) (by decide +kernel), List.mem_of_getElem? (i := 1412) (by decide +kernel)⟩
theorem lw_p69 : lw_okq (⟨"PackWatchModel", "goTaper", "()V"⟩, 10) := ⟨⟨by decide +kernel, by decide +kernel⟩, List.mem_of_getElem? (i := 1165) (by decide +kernel), List.mem_of_getElem? (i := 1415) (by decide +kernel), List.mem_of_getElem? (i := 1416) (by decide +kernel)⟩
theorem lw_p70 : lw_okq (⟨"PackWatchModel", "goFaults", "()I"⟩, 10) := ⟨⟨by decide +kernel, by decide +kernel⟩, List.mem_of_getElem? (i := 1165) (by decide +kernel), List.mem_of_getElem? (i := 1419) (by decide +kernel), List.mem_of_getElem? (i := 1420) (by decide +kernel)⟩
theorem lw_p71 : lw_okq (⟨"PackWatchModel", "isSo", "(I)Z"⟩, 10) := ⟨⟨by decide +kernel, by decide +kernel⟩, List.mem_of_getElem? (i := 1165) (by decide +kernel), List.mem_of_getElem? (i := 1423) (by decide +kernel), List.mem_of_getElem? (i := 1424) (by decide +kernel)⟩
theorem lw_p72 : lw_okq (⟨"PackWatchModel", "soBy", "(I)I"⟩, 10) := ⟨⟨by decide +kernel, by decide +kernel⟩, List.mem_of_getElem? (i := 1165) (by decide +kernel), List.mem_of_getElem? (i := 1427) (by decide +kernel), List.mem_of_getElem? (i := 1428) (by decide +kernel)⟩
theorem lw_p73 : lw_okq (⟨"PackWatchModel", "spreadOf", "()I"⟩, 10) := ⟨⟨by decide +kernel, by decide +kernel⟩, List.mem_of_getElem? (i := 1165) (by decide +kernel), List.mem_of_getElem? (i := 1431) (by decide +kernel), List.mem_of_getElem? (i := 1432) (by decide +kernel)⟩
theorem lw_p74 : lw_okq (⟨"PackWatchModel", "writeDown", "(I)V"⟩, 10) := ⟨⟨by decide +kernel, by decide +kernel⟩, List.mem_of_getElem? (i := 1165) (by decide +kernel), List.mem_of_getElem? (i := 1435) (by decide +kernel), List.mem_of_getElem? (i := 1436) (by decide +kernel)⟩
theorem lw_p75 : lw_okq (⟨"PackWatchModel", "goKept", "()V"⟩, 10) := ⟨⟨by decide +kernel, by decide +kernel⟩, List.mem_of_getElem? (i := 1165) (by decide +kernel), List.mem_of_getElem? (i := 1439) (by decide +kernel), List.mem_of_getElem? (i := 1440) (by decide +kernel)⟩
theorem lw_p76 : lw_okq (⟨"PackWatchModel", "goTurn", "(I)V"⟩, 10) := ⟨⟨by decide +kernel, by decide +kernel⟩, List.mem_of_getElem? (i := 1165) (by decide +kernel), List.mem_of_getElem? (i := 1443) (by decide +kernel), List.mem_of_getElem? (i := 1444) (by decide +kernel)⟩
theorem lw_p77 : lw_okq (⟨"PackWatchModel", "turnAt", "(II)I"⟩, 10) := ⟨⟨by decide +kernel, by decide +kernel⟩, List.mem_of_getElem? (i := 1165) (by decide +kernel), List.mem_of_getElem? (i := 1447) (by decide +kernel), List.mem_of_getElem? (i := 1448) (by decide +kernel)⟩
theorem lw_p78 : lw_okq (⟨"PackWatchModel", "dropTurn", "(II)V"⟩, 10) := ⟨⟨by decide +kernel, by decide +kernel⟩, List.mem_of_getElem? (i := 1165) (by decide +kernel), List.mem_of_getElem? (i := 1451) (by decide +kernel), List.mem_of_getElem? (i := 1452) (by decide +kernel)⟩
theorem lw_p79 : lw_okq (⟨"PackWatchModel", "count", "(I)V"⟩, 10) := ⟨⟨by decide +kernel, by decide +kernel⟩, List.mem_of_getElem? (i := 1165) (by decide +kernel), List.mem_of_getElem? (i := 1455) (by decide +kernel), List.mem_of_getElem? (i := 1456) (by decide +kernel)⟩
def lw_privs_5 : List (MethodName × Nat) := [(⟨"PackWatchModel", "goMeasure", "()V"⟩, 10), (⟨"PackWatchModel", "voltsOf", "(I)I"⟩, 10), (⟨"PackWatchModel", "restNow", "(I)V"⟩, 10), (⟨"PackWatchModel", "leastBy", "(I)I"⟩, 10), (⟨"PackWatchModel", "pack", "()I"⟩, 10), (⟨"PackWatchModel", "goTaper", "()V"⟩, 10), (⟨"PackWatchModel", "goFaults", "()I"⟩, 10), (⟨"PackWatchModel", "isSo", "(I)Z"⟩, 10), (⟨"PackWatchModel", "soBy", "(I)I"⟩, 10), (⟨"PackWatchModel", "spreadOf", "()I"⟩, 10), (⟨"PackWatchModel", "writeDown", "(I)V"⟩, 10), (⟨"PackWatchModel", "goKept", "()V"⟩, 10), (⟨"PackWatchModel", "goTurn", "(I)V"⟩, 10), (⟨"PackWatchModel", "turnAt", "(II)I"⟩, 10), (⟨"PackWatchModel", "dropTurn", "(II)V"⟩, 10), (⟨"PackWatchModel", "count", "(I)V"⟩, 10)]
theorem lw_r5 : ∀ q ∈ lw_privs_5, lw_okq q := List.forall_mem_cons.mpr ⟨lw_p64, List.forall_mem_cons.mpr ⟨lw_p65, List.forall_mem_cons.mpr ⟨lw_p66, List.forall_mem_cons.mpr ⟨lw_p67, List.forall_mem_cons.mpr ⟨lw_p68, List.forall_mem_cons.mpr ⟨lw_p69, List.forall_mem_cons.mpr ⟨lw_p70, List.forall_mem_cons.mpr ⟨lw_p71, List.forall_mem_cons.mpr ⟨lw_p72, List.forall_mem_cons.mpr ⟨lw_p73, List.forall_mem_cons.mpr ⟨lw_p74, List.forall_mem_cons.mpr ⟨lw_p75, List.forall_mem_cons.mpr ⟨lw_p76, List.forall_mem_cons.mpr ⟨lw_p77, List.forall_mem_cons.mpr ⟨lw_p78, List.forall_mem_cons.mpr ⟨lw_p79, fun _ h => absurd h List.not_mem_nil⟩⟩⟩⟩⟩⟩⟩⟩⟩⟩⟩⟩⟩⟩⟩⟩
theorem lw_p80 : lw_okq (⟨"PackWatchModel", "goRules", "()V"⟩, 10) := ⟨⟨by decide +kernel, by decide +kernel⟩, List.mem_of_getElem? (i := 1165) (by decide +kernel), List.mem_of_getElem? (i := 1459) (by decide +kernel), List.mem_of_getElem? (i := 1460) (by decide +kernel)⟩
theorem lw_p81 : lw_okq (⟨"PackWatchModel", "clear", "(III)I"⟩, 10) := ⟨⟨by decide +kernel, by decide +kernel⟩, List.mem_of_getElem? (i := 1165) (by decide +kernel), List.mem_of_getElem? (i := 1517) (by decide +kernel), List.mem_of_getElem? (i := 1518) (by decide +kernel)⟩
theorem lw_p82 : lw_okq (⟨"PackWatchModel", "driveLong", "()I"⟩, 10) := ⟨⟨by decide +kernel, by decide +kernel⟩, List.mem_of_getElem? (i := 1165) (by decide +kernel), List.mem_of_getElem? (i := 1529) (by decide +kernel), List.mem_of_getElem? (i := 1530) (by decide +kernel)⟩
theorem lw_p83 : lw_okq (⟨"PackWatchModel", "driveNow", "()I"⟩, 10) := ⟨⟨by decide +kernel, by decide +kernel⟩, List.mem_of_getElem? (i := 1165) (by decide +kernel), List.mem_of_getElem? (i := 1533) (by decide +kernel), List.mem_of_getElem? (i := 1534) (by decide +kernel)⟩
theorem lw_p84 : lw_okq (⟨"PackWatchModel", "ofCell", "(II)I"⟩, 10) := ⟨⟨by decide +kernel, by decide +kernel⟩, List.mem_of_getElem? (i := 1165) (by decide +kernel), List.mem_of_getElem? (i := 1546) (by decide +kernel), List.mem_of_getElem? (i := 1547) (by decide +kernel)⟩
theorem lw_p85 : lw_okq (⟨"PackWatchModel", "goalOf", "()I"⟩, 10) := ⟨⟨by decide +kernel, by decide +kernel⟩, List.mem_of_getElem? (i := 1165) (by decide +kernel), List.mem_of_getElem? (i := 1685) (by decide +kernel), List.mem_of_getElem? (i := 1686) (by decide +kernel)⟩
theorem lw_p86 : lw_okq (⟨"PackWatchModel", "differ", "(I)I"⟩, 10) := ⟨⟨by decide +kernel, by decide +kernel⟩, List.mem_of_getElem? (i := 1165) (by decide +kernel), List.mem_of_getElem? (i := 1700) (by decide +kernel), List.mem_of_getElem? (i := 1701) (by decide +kernel)⟩
theorem lw_p87 : lw_okq (⟨"PackWatchModel", "layPrices", "()V"⟩, 10) := ⟨⟨by decide +kernel, by decide +kernel⟩, List.mem_of_getElem? (i := 1165) (by decide +kernel), List.mem_of_getElem? (i := 1708) (by decide +kernel), List.mem_of_getElem? (i := 1709) (by decide +kernel)⟩
theorem lw_p88 : lw_okq (⟨"PackWatchModel", "takenBy", "(IIII)I"⟩, 10) := ⟨⟨by decide +kernel, by decide +kernel⟩, List.mem_of_getElem? (i := 1165) (by decide +kernel), List.mem_of_getElem? (i := 1715) (by decide +kernel), List.mem_of_getElem? (i := 1716) (by decide +kernel)⟩
theorem lw_p89 : lw_okq (⟨"PackWatchModel", "putAside", "()V"⟩, 10) := ⟨⟨by decide +kernel, by decide +kernel⟩, List.mem_of_getElem? (i := 1165) (by decide +kernel), List.mem_of_getElem? (i := 1727) (by decide +kernel), List.mem_of_getElem? (i := 1728) (by decide +kernel)⟩
theorem lw_p90 : lw_okq (⟨"PackWatchModel", "bringBack", "()V"⟩, 10) := ⟨⟨by decide +kernel, by decide +kernel⟩, List.mem_of_getElem? (i := 1165) (by decide +kernel), List.mem_of_getElem? (i := 1731) (by decide +kernel), List.mem_of_getElem? (i := 1732) (by decide +kernel)⟩
theorem lw_p91 : lw_okq (⟨"PackWatchModel", "goesBy", "(II)Z"⟩, 10) := ⟨⟨by decide +kernel, by decide +kernel⟩, List.mem_of_getElem? (i := 1165) (by decide +kernel), List.mem_of_getElem? (i := 1756) (by decide +kernel), List.mem_of_getElem? (i := 1757) (by decide +kernel)⟩
theorem lw_p92 : lw_okq (⟨"PackWatchModel", "spreadBy", "(III)I"⟩, 10) := ⟨⟨by decide +kernel, by decide +kernel⟩, List.mem_of_getElem? (i := 1165) (by decide +kernel), List.mem_of_getElem? (i := 1768) (by decide +kernel), List.mem_of_getElem? (i := 1769) (by decide +kernel)⟩
theorem lw_p93 : lw_okq (⟨"PackWatchModel", "isAtEnd", "(I)Z"⟩, 10) := ⟨⟨by decide +kernel, by decide +kernel⟩, List.mem_of_getElem? (i := 1165) (by decide +kernel), List.mem_of_getElem? (i := 1776) (by decide +kernel), List.mem_of_getElem? (i := 1777) (by decide +kernel)⟩
def lw_privs_6 : List (MethodName × Nat) := [(⟨"PackWatchModel", "goRules", "()V"⟩, 10), (⟨"PackWatchModel", "clear", "(III)I"⟩, 10), (⟨"PackWatchModel", "driveLong", "()I"⟩, 10), (⟨"PackWatchModel", "driveNow", "()I"⟩, 10), (⟨"PackWatchModel", "ofCell", "(II)I"⟩, 10), (⟨"PackWatchModel", "goalOf", "()I"⟩, 10), (⟨"PackWatchModel", "differ", "(I)I"⟩, 10), (⟨"PackWatchModel", "layPrices", "()V"⟩, 10), (⟨"PackWatchModel", "takenBy", "(IIII)I"⟩, 10), (⟨"PackWatchModel", "putAside", "()V"⟩, 10), (⟨"PackWatchModel", "bringBack", "()V"⟩, 10), (⟨"PackWatchModel", "goesBy", "(II)Z"⟩, 10), (⟨"PackWatchModel", "spreadBy", "(III)I"⟩, 10), (⟨"PackWatchModel", "isAtEnd", "(I)Z"⟩, 10)]
theorem lw_r6 : ∀ q ∈ lw_privs_6, lw_okq q := List.forall_mem_cons.mpr ⟨lw_p80, List.forall_mem_cons.mpr ⟨lw_p81, List.forall_mem_cons.mpr ⟨lw_p82, List.forall_mem_cons.mpr ⟨lw_p83, List.forall_mem_cons.mpr ⟨lw_p84, List.forall_mem_cons.mpr ⟨lw_p85, List.forall_mem_cons.mpr ⟨lw_p86, List.forall_mem_cons.mpr ⟨lw_p87, List.forall_mem_cons.mpr ⟨lw_p88, List.forall_mem_cons.mpr ⟨lw_p89, List.forall_mem_cons.mpr ⟨lw_p90, List.forall_mem_cons.mpr ⟨lw_p91, List.forall_mem_cons.mpr ⟨lw_p92, List.forall_mem_cons.mpr ⟨lw_p93, fun _ h => absurd h List.not_mem_nil⟩⟩⟩⟩⟩⟩⟩⟩⟩⟩⟩⟩⟩⟩
def lw_privs : List (MethodName × Nat) := lw_privs_1 ++ (lw_privs_2 ++ (lw_privs_3 ++ (lw_privs_4 ++ (lw_privs_5 ++ (lw_privs_6)))))
def lw_tbl : List Cond := k2_sels lw_privs ++ tables_1
theorem lw_privs_ok : ∀ q ∈ lw_privs, lw_okq q := by
  show ∀ q ∈ lw_privs_1 ++ (lw_privs_2 ++ (lw_privs_3 ++ (lw_privs_4 ++ (lw_privs_5 ++ (lw_privs_6))))), lw_okq q
  exact List.forall_mem_append.mpr ⟨lw_r1, List.forall_mem_append.mpr ⟨lw_r2, List.forall_mem_append.mpr ⟨lw_r3, List.forall_mem_append.mpr ⟨lw_r4, List.forall_mem_append.mpr ⟨lw_r5, lw_r6⟩⟩⟩⟩⟩
/-- the streams that the claim lets the run draw from -/
abbrev lw_cs : List Choice := [Jvm.Choice.named "NaN.bits"]
theorem lw_bits : nanBits ∈ lw_cs := by first | decide | exact List.mem_cons_self | simp [lw_cs, nanBits]

end

/-! 12.frame.lean.txt -/
section
-- ===== end of PART A; then your names; then what follows =====
/-! THE CLAIM OUT OF ONE WALK OF THE LAW'S BODY. Your part is whole_start (and what it stands on); all else here is the same for every law, but numbers. -/
def R_law : String := "PackWatchLaw"
def lw_P (b : Addr) (xs : List Int32) (args : Array Value) (s : State) : Prop := args = #[.ref b] ∧ s.IntsAt b xs ∧ xs.length ≤ 6 ∧ (Jvm.Cond.and given_1 narrow_1).before args s = true
/-- what a walk over the start with the record d0 says of its end, said of the start itself -/
theorem lw_closed {s t : State} {o : Outcome} {d0 : Drawn} {L : List Loc} {k n : Nat} (hd0 : s.drawn.sameBut d0 lw_cs) (hv : ∃ v, o = .returned v) (hW : (s.setDrawn d0).WarmedH t.vm) (hs : (s.setDrawn d0).sameButNew ({ t with vm := s.vm } : State) L k n) : State.butDraws s t lw_cs (fun t1 => Framed s o t1 L k n) := by
  have h2 : t.drawn = d0 := congrArg State.drawn hs.1
  refine ⟨⟨hv, hW, State.sameButNew.setDrawn hs s.drawn⟩, ?_, by decide⟩
  rw [h2]
  exact hd0
def lw_Q (_ : Array Value) (s : State) (o : Outcome) (t : State) : Prop := o = .returned (some (.int 1)) ∧ State.butDraws s t lw_cs (fun t1 => Framed s o t1 [] 600000 7302250)
def lw_Z (below : List Frame) (a : Array Value) (s : State) : State → Prop := fun t => ∃ o, t.status = .running ∧ Ended t below o ∧ lw_Q a s o t
/-- the law's own end, with 1 on the stack, nothing written that was there before, its room as the claim has it; d0: the record of draws at this point (at the entry s.drawn: begin with 'refine W.base ?_' and 'have hd0 := Drawn.sameBut.refl s.drawn lw_cs') -/
theorem lw_ret {p : Program} {l : Launch} {e : Env} {s : State} {m : MethodId} {below : List Frame} {meth : Method} {c : Code} {b : Nat} {d0 : Drawn} (hd0 : s.drawn.sameBut d0 lw_cs) (hx : p.tables.exec = Jvm.exec) (hb : c.code = code) (hr : meth.sig.returnType = ret) (hlocks : meth.locks = false) {pc : Nat} {H : Heap} {ls : Array Slot} (hdg : decode code pc = .ok (.ireturn, 1)) : W p l e room_1 (s.setDrawn d0) m #[Value.ref b] below meth c H [] 600000 7302250 (lw_Z below #[Value.ref b] s) (F0 m pc ls [.int 1]) := by
  intro T hT X
  obtain ⟨fs, hret, hrun, hended, hW, hframe⟩ := X.leave (v := some (.int 1)) (hlocks := hlocks) (fun h => by rw [hr] at h; cases h)
  have hmeth' : T.vm.method? m = some meth := X.method'
  refine ⟨T.setFrames fs, ?_, .returned (some (.int 1)), hrun, hended, rfl, lw_closed hd0 ⟨_, rfl⟩ hW hframe⟩
  jvm_step X.here [X.here.top, hx, hb, hdg, hmeth', hr, ret, narrow_b1]
  (try refine ⟨rfl, ?_⟩); (try refine ⟨rfl, ?_⟩)
  first | (intro acts; rw [hret _ acts rfl rfl rfl]) | rw [hret _ _ rfl rfl rfl]
  exact Steps.refl _
/-- what holds at the law's entry: the machine, the code, the tables' words (any of lw_tbl by 'hts w (by decide +kernel)'), the script of L ints xs at the cell b, what the Statement gives of the start (any of its parts by flat_of_before) -/
def lw_At (p : Program) (s : State) (m : MethodId) (meth : Method) (c : Code) (b L : Nat) (xs : Nat → Int32) : Prop :=
  p.tables.exec = Jvm.exec ∧ c.code = code ∧ meth.sig.returnType = ret ∧ c.maxLocals = 4 ∧ s.vm.findClass R_law = some m.cls ∧ (∀ w ∈ lw_tbl, w.before #[Value.ref b] s = true) ∧ va_X b L xs s s.heap ∧ b < s.heap.size ∧ meth.locks = false ∧ (Jvm.Cond.and given_1 narrow_1).before #[Value.ref b] s = true

end

/-! 20.am.lean.txt -/
section
/-! ===== THE PURE MACHINE: bytecode over a heap that is a list; the claim's machine is tied to it once (21, 22), all else is said of it ===== -/
/-- a cell: an array (its kind of array, length, contents) or an object (its class, its fields); a reference is a place of the list; a table that nobody writes is .retAddr and its number -/
abbrev am_O : Type := (Nat × vp_A) ⊕ (Nat × List Value)
/-- the heap, the slots that were made -/
abbrev am_M : Type := List am_O × Nat
abbrev am_L : Type := List (Nat × Value)
abbrev am_C : Type := Nat × am_L × List Value × am_M
/-- a program: code, own class, fields, statics, constants, new, anewarray, calls, natives, answers, tables, field types, locals, finals, constructors, component classes -/
abbrev am_Pg : Type := (Nat → Nat → Option Instr) × (Nat → Nat) × (Nat → Nat → Option (Nat × Nat)) × (Nat → Nat → Option Nat) × (Nat → Nat → Option Value) × (Nat → Nat → Option (Nat × List Value)) × (Nat → Nat → Option Nat) × (Nat → Nat → Option (Nat × Nat × Nat)) × (Nat → Nat → Option Nat) × (Nat → Option FieldType) × (Nat → Option (Nat × (Nat → Int32))) × (Nat → Nat → FieldType) × (Nat → Nat) × (Nat → Nat → Bool) × (Nat → Bool) × (Nat → Nat)
def am_code (P : am_Pg) := P.1
def am_own (P : am_Pg) := P.2.1
def am_fld (P : am_Pg) := P.2.2.1
def am_sta (P : am_Pg) := P.2.2.2.1
def am_con (P : am_Pg) := P.2.2.2.2.1
def am_new (P : am_Pg) := P.2.2.2.2.2.1
def am_anw (P : am_Pg) := P.2.2.2.2.2.2.1
def am_cal (P : am_Pg) := P.2.2.2.2.2.2.2.1
def am_nat (P : am_Pg) := P.2.2.2.2.2.2.2.2.1
def am_ret (P : am_Pg) := P.2.2.2.2.2.2.2.2.2.1
def am_cst (P : am_Pg) := P.2.2.2.2.2.2.2.2.2.2.1
def am_fty (P : am_Pg) := P.2.2.2.2.2.2.2.2.2.2.2.1
def am_mxl (P : am_Pg) := P.2.2.2.2.2.2.2.2.2.2.2.2.1
def am_fin (P : am_Pg) := P.2.2.2.2.2.2.2.2.2.2.2.2.2.1
def am_ini (P : am_Pg) := P.2.2.2.2.2.2.2.2.2.2.2.2.2.2.1
def am_elt (P : am_Pg) := P.2.2.2.2.2.2.2.2.2.2.2.2.2.2.2
def am_lk : am_L → Nat → Option Value
  | [], _ => none
  | q :: r, i => if q.1 = i then some q.2 else am_lk r i
def am_s1 (lv : am_L) (i : Nat) (v : Value) : am_L := (i, v) :: lv.filter (fun q => !(q.1 == i) && !(q.1 + 1 == i && q.2.category == 2))
def am_s2 (lv : am_L) (i : Nat) (v : Value) : am_L := (i, v) :: lv.filter (fun q => !(q.1 == i) && (!(q.1 == i + 1) && !(q.1 + 1 == i && q.2.category == 2)))
def am_ld (w : Nat) (o : Option Value) : Option Value := match w, o with
  | 0, some (.int x) => some (.int x)
  | 1, some (.long x) => some (.long x)
  | 2, some (.float x) => some (.float x)
  | 3, some (.double x) => some (.double x)
  | 4, some (.ref a) => some (.ref a)
  | 4, some (.retAddr a) => some (.retAddr a)
  | _, _ => none
def am_pu (n pc : Nat) (lv : am_L) (st : List Value) (M : am_M) (o : Option Value) : Option am_C := match o with
  | some v => some (pc + n, lv, v :: st, M)
  | none => none
/-- a store: kind of value, place, room for locals -/
def am_so (w n pc i nL : Nat) (lv : am_L) (st : List Value) (M : am_M) : Option am_C := match st with
  | v :: r => match am_ld w (some v) with
    | none => none
    | some _ => if v.category = 2 then (if i + 1 < nL then some (pc + n, am_s2 lv i v, r, M) else none) else if i < nL then some (pc + n, am_s1 lv i v, r, M) else none
  | [] => none
def am_1 (pc : Nat) (lv : am_L) (st : List Value) (M : am_M) (f : Value → Option Value) : Option am_C := match st with
  | x :: r => match f x with
    | some v => some (pc + 1, lv, v :: r, M)
    | none => none
  | [] => none
def am_2 (pc : Nat) (lv : am_L) (st : List Value) (M : am_M) (f : Value → Value → Option Value) : Option am_C := match st with
  | y :: x :: r => match f x y with
    | some v => some (pc + 1, lv, v :: r, M)
    | none => none
  | _ => none
def am_fI (g : Int32 → Int32 → Int32) (x y : Value) : Option Value := match x, y with
  | .int a, .int b => some (.int (g a b))
  | _, _ => none
def am_fID (g : Int32 → Int32 → Int32) (x y : Value) : Option Value := match x, y with
  | .int a, .int b => if b = 0 then none else some (.int (g a b))
  | _, _ => none
def am_fL (g : Int64 → Int64 → Int64) (x y : Value) : Option Value := match x, y with
  | .long a, .long b => some (.long (g a b))
  | _, _ => none
def am_fLD (g : Int64 → Int64 → Int64) (x y : Value) : Option Value := match x, y with
  | .long a, .long b => if b = 0 then none else some (.long (g a b))
  | _, _ => none
def am_fLI (g : Int64 → Int32 → Int64) (x y : Value) : Option Value := match x, y with
  | .long a, .int b => some (.long (g a b))
  | _, _ => none
def am_fF (g : UInt32 → UInt32 → UInt32) (x y : Value) : Option Value := match x, y with
  | .float a, .float b => if (g a b) &&& 0x7fffffff ≤ 0x7f800000 then some (.float (g a b)) else none
  | _, _ => none
def am_fD (g : UInt64 → UInt64 → UInt64) (x y : Value) : Option Value := match x, y with
  | .double a, .double b => if (g a b) &&& 0x7fffffffffffffff ≤ 0x7ff0000000000000 then some (.double (g a b)) else none
  | _, _ => none
def am_tg (pc : Nat) (off : Int) : Option Nat := if 0 ≤ (pc : Int) + off then some ((pc : Int) + off).toNat else none
def am_br (b : Bool) (pc : Nat) (off : Int) (lv : am_L) (r : List Value) (M : am_M) : Option am_C := match am_tg pc off with
  | some t => bif b then some (t, lv, r, M) else some (pc + 3, lv, r, M)
  | none => none
def am_go (pc : Nat) (off : Int) (lv : am_L) (r : List Value) (M : am_M) : Option am_C := match am_tg pc off with
  | some t => some (t, lv, r, M)
  | none => none
def am_c1 (c : ClassFile.Cond) (x : Int32) : Bool := match c with
  | .eq => decide (x = 0)
  | .ne => !decide (x = 0)
  | .lt => decide (x < 0)
  | .ge => decide (0 ≤ x)
  | .gt => decide (0 < x)
  | .le => decide (x ≤ 0)
def am_c2 (c : ClassFile.Cond) (x y : Int32) : Bool := match c with
  | .eq => decide (x = y)
  | .ne => !decide (x = y)
  | .lt => decide (x < y)
  | .ge => decide (y ≤ x)
  | .gt => decide (y < x)
  | .le => decide (x ≤ y)
def am_in (i : Int32) (n : Nat) : Bool := !(decide (i < 0)) && decide (i.toNatClampNeg < n)
/-- does a field of this type take the value as it is? -/
def am_ft (ty : FieldType) (v : Value) : Bool := match ty, v with
  | .int, .int _ => true
  | .boolean, .int x => decide (x = 0) || decide (x = 1)
  | .long, .long _ => true
  | .object _, .ref _ => true
  | .object _, .null => true
  | .array _, .ref _ => true
  | .array _, .null => true
  | _, _ => false
def am_gf (P : am_Pg) (own idx pc : Nat) (lv : am_L) (st : List Value) (M : am_M) : Option am_C := match st with
  | .ref a :: r => match am_fld P own idx, M.1[a]? with
    | some (ci, k), some (.inr (cj, fs)) => if ci = cj then am_pu 3 pc lv r M fs[k]? else none
    | _, _ => none
  | _ => none
def am_pf (P : am_Pg) (mi own idx pc : Nat) (lv : am_L) (st : List Value) (M : am_M) : Option am_C := match st with
  | v :: .ref a :: r => match am_fld P own idx, M.1[a]? with
    | some (ci, k), some (.inr (cj, fs)) => bif decide (ci = cj) && (decide (k < fs.length) && (am_ft (am_fty P ci k) v && (!am_fin P ci k || (am_ini P mi && decide (own = ci))))) then some (pc + 3, lv, r, (M.1.set a (.inr (cj, fs.set k v)), M.2)) else none
    | _, _ => none
  | _ => none
def am_ald (P : am_Pg) (pc : Nat) (lv : am_L) (st : List Value) (M : am_M) : Option am_C := match st with
  | .int i :: .ref a :: r => match M.1[a]? with
    | some (.inl (0, n, .inl f)) => bif am_in i n then some (pc + 1, lv, .int (f i.toNatClampNeg) :: r, M) else none
    | _ => none
  | .int i :: .retAddr a :: r => match am_cst P a with
    | some (n, f) => bif am_in i n then some (pc + 1, lv, .int (f i.toNatClampNeg) :: r, M) else none
    | _ => none
  | _ => none
def am_ast (pc : Nat) (lv : am_L) (st : List Value) (M : am_M) : Option am_C := match st with
  | .int x :: .int i :: .ref a :: r => match M.1[a]? with
    | some (.inl (0, n, .inl f)) => bif am_in i n then some (pc + 1, lv, r, (M.1.set a (.inl (0, n, .inl (upd f i.toNatClampNeg x))), M.2)) else none
    | _ => none
  | _ => none
def am_lald (pc : Nat) (lv : am_L) (st : List Value) (M : am_M) : Option am_C := match st with
  | .int i :: .ref a :: r => match M.1[a]? with
    | some (.inl (1, n, .inr (.inl f))) => bif am_in i n then some (pc + 1, lv, .long (f i.toNatClampNeg) :: r, M) else none
    | _ => none
  | _ => none
def am_last (pc : Nat) (lv : am_L) (st : List Value) (M : am_M) : Option am_C := match st with
  | .long x :: .int i :: .ref a :: r => match M.1[a]? with
    | some (.inl (1, n, .inr (.inl f))) => bif am_in i n then some (pc + 1, lv, r, (M.1.set a (.inl (1, n, .inr (.inl (vp_updL f i.toNatClampNeg x)))), M.2)) else none
    | _ => none
  | _ => none
def am_qald (pc : Nat) (lv : am_L) (st : List Value) (M : am_M) : Option am_C := match st with
  | .int i :: .ref a :: r => match M.1[a]? with
    | some (.inl (t, n, .inr (.inr (.inr (.inr f))))) => bif decide (2 ≤ t ∧ t < 5) && am_in i n then some (pc + 1, lv, va_rf (f i.toNatClampNeg) :: r, M) else none
    | _ => none
  | _ => none
def am_qast (P : am_Pg) (pc : Nat) (lv : am_L) (st : List Value) (M : am_M) : Option am_C := match st with
  | .ref v :: .int i :: .ref a :: r => match M.1[a]?, M.1[v]? with
    | some (.inl (t, n, .inr (.inr (.inr (.inr f))))), some (.inr (cj, _)) => bif decide (2 ≤ t ∧ t < 5) && (decide (am_elt P t = cj) && am_in i n) then some (pc + 1, lv, r, (M.1.set a (.inl (t, n, .inr (.inr (.inr (.inr (va_up f i.toNatClampNeg (some v))))))), M.2)) else none
    | _, _ => none
  | _ => none
def am_len (P : am_Pg) (pc : Nat) (lv : am_L) (st : List Value) (M : am_M) : Option am_C := match st with
  | .ref a :: r => match M.1[a]? with
    | some (.inl (t, n, _)) => if t < 5 then some (pc + 1, lv, .int (Int32.ofNat n) :: r, M) else none
    | _ => none
  | .retAddr a :: r => match am_cst P a with
    | some (n, _) => some (pc + 1, lv, .int (Int32.ofNat n) :: r, M)
    | none => none
  | _ => none
def am_nw (P : am_Pg) (own idx pc : Nat) (lv : am_L) (st : List Value) (M : am_M) : Option am_C := match am_new P own idx with
  | some (ci, fs) => some (pc + 3, lv, .ref M.1.length :: st, (M.1 ++ [.inr (ci, fs)], M.2 + fs.length))
  | none => none
def am_na (at_ : ArrayType) (pc : Nat) (lv : am_L) (st : List Value) (M : am_M) : Option am_C := match at_, st with
  | .int, .int n :: r => bif !(decide (n < 0)) && decide (n.toNatClampNeg ≤ 1000000) then some (pc + 2, lv, .ref M.1.length :: r, (M.1 ++ [.inl (0, n.toNatClampNeg, .inl (fun _ => 0))], M.2 + n.toNatClampNeg)) else none
  | .long, .int n :: r => bif !(decide (n < 0)) && decide (n.toNatClampNeg ≤ 1000000) then some (pc + 2, lv, .ref M.1.length :: r, (M.1 ++ [.inl (1, n.toNatClampNeg, .inr (.inl (fun _ => 0)))], M.2 + n.toNatClampNeg)) else none
  | _, _ => none
def am_nq (P : am_Pg) (own idx pc : Nat) (lv : am_L) (st : List Value) (M : am_M) : Option am_C := match am_anw P own idx, st with
  | some t, .int n :: r => bif !(decide (n < 0)) && decide (n.toNatClampNeg ≤ 1000000) then some (pc + 3, lv, .ref M.1.length :: r, (M.1 ++ [.inl (t, n.toNatClampNeg, .inr (.inr (.inr (.inr (fun _ => none)))))], M.2 + n.toNatClampNeg)) else none
  | _, _ => none
def am_sum (st : List Value) : Nat := (st.map fun v => v.category).sum
/-- the library's own: Object's constructor, arraycopy over ints, a table's clone, the bits of a double, of a float -/
def am_n0 (pc : Nat) (lv : am_L) (st : List Value) (M : am_M) : Option am_C := match st with
  | .ref _ :: r => if am_sum r ≤ 8 then some (pc + 3, lv, r, M) else none
  | _ => none
def am_n1 (pc : Nat) (lv : am_L) (st : List Value) (M : am_M) : Option am_C := match st with
  | .int n :: .int dp :: .ref b :: .int sp :: .ref a :: r => match M.1[a]?, M.1[b]? with
    | some (.inl (0, n0, .inl f)), some (.inl (0, n1, .inl g)) => bif decide (am_sum r ≤ 8) && (!(decide (sp < 0)) && (!(decide (dp < 0)) && (!(decide (n < 0)) && (decide (sp.toNatClampNeg + n.toNatClampNeg ≤ n0) && decide (dp.toNatClampNeg + n.toNatClampNeg ≤ n1))))) then some (pc + 3, lv, r, (M.1.set b (.inl (0, n1, .inl (va_cpy f g sp.toNatClampNeg dp.toNatClampNeg n.toNatClampNeg))), M.2)) else none
    | _, _ => none
  | _ => none
def am_n2 (P : am_Pg) (pc : Nat) (lv : am_L) (st : List Value) (M : am_M) : Option am_C := match st with
  | .retAddr c :: r => match am_cst P c with
    | some (n, f) => if am_sum r ≤ 8 ∧ c ≠ 0 then some (pc + 3, lv, .ref M.1.length :: r, (M.1 ++ [.inl (0, n, .inl f)], M.2 + n)) else none
    | none => none
  | _ => none
def am_n3 (pc : Nat) (lv : am_L) (st : List Value) (M : am_M) : Option am_C := match st with
  | .double b :: r => if am_sum r ≤ 8 then some (pc + 3, lv, .long b.toInt64 :: r, M) else none
  | _ => none
def am_n4 (pc : Nat) (lv : am_L) (st : List Value) (M : am_M) : Option am_C := match st with
  | .float b :: r => if am_sum r ≤ 8 then some (pc + 3, lv, .int b.toInt32 :: r, M) else none
  | _ => none
def am_nt (P : am_Pg) (k pc : Nat) (lv : am_L) (st : List Value) (M : am_M) : Option am_C := match k with
  | 0 => am_n0 pc lv st M
  | 1 => am_n1 pc lv st M
  | 2 => am_n2 P pc lv st M
  | 3 => am_n3 pc lv st M
  | 4 => am_n4 pc lv st M
  | _ => none
def am_ntk (P : am_Pg) (mi : Nat) (ins : Instr) : Option Nat := match ins with
  | .invokespecial i => match am_nat P mi i with
    | some 0 => some 0
    | _ => none
  | .invokestatic i => match am_nat P mi i with
    | some 1 => some 1
    | some 3 => some 3
    | some 4 => some 4
    | _ => none
  | .invokevirtual i => match am_nat P mi i with
    | some 2 => some 2
    | _ => none
  | _ => none
def am_sw (x : Int32) (d lo hi : Int) (offs : Array Int) : Int := if x.toInt < lo ∨ hi < x.toInt then d else (offs[(x.toInt - lo).toNat]?).getD d
def am_swk (x : Int32) (lo hi : Int) (offs : Array Int) : Bool := decide (x.toInt < lo ∨ hi < x.toInt) || (offs[(x.toInt - lo).toNat]?).isSome
/-- one instruction that is no call of ours and no return -/
def am_st (P : am_Pg) (mi : Nat) (ins : Instr) (pc : Nat) (lv : am_L) (st : List Value) (M : am_M) : Option am_C := match ins with
  | .iconst n => some (pc + 1, lv, .int (Int32.ofInt n) :: st, M)
  | .bipush n => some (pc + 2, lv, .int (Int8.ofInt n).toInt32 :: st, M)
  | .sipush n => some (pc + 3, lv, .int (Int16.ofInt n).toInt32 :: st, M)
  | .lconst n => some (pc + 1, lv, .long (Int64.ofNat (n : Nat)) :: st, M)
  | .fconst n => match n with
    | 0 => some (pc + 1, lv, .float 0 :: st, M)
    | 1 => some (pc + 1, lv, .float 0x3f800000 :: st, M)
    | 2 => some (pc + 1, lv, .float 0x40000000 :: st, M)
  | .dconst n => match n with
    | 0 => some (pc + 1, lv, .double 0 :: st, M)
    | 1 => some (pc + 1, lv, .double 0x3ff0000000000000 :: st, M)
  | .ldc i => match am_con P (am_own P mi) i with
    | some (.int v) => some (pc + 2, lv, .int v :: st, M)
    | some (.float v) => some (pc + 2, lv, .float v :: st, M)
    | _ => none
  | .ldc_w i => match am_con P (am_own P mi) i with
    | some (.int v) => some (pc + 3, lv, .int v :: st, M)
    | some (.float v) => some (pc + 3, lv, .float v :: st, M)
    | _ => none
  | .ldc2_w i => match am_con P (am_own P mi) i with
    | some (.long v) => some (pc + 3, lv, .long v :: st, M)
    | some (.double v) => some (pc + 3, lv, .double v :: st, M)
    | _ => none
  | .iload_n k => am_pu 1 pc lv st M (am_ld 0 (am_lk lv k))
  | .lload_n k => am_pu 1 pc lv st M (am_ld 1 (am_lk lv k))
  | .fload_n k => am_pu 1 pc lv st M (am_ld 2 (am_lk lv k))
  | .dload_n k => am_pu 1 pc lv st M (am_ld 3 (am_lk lv k))
  | .aload_n k => am_pu 1 pc lv st M (am_ld 4 (am_lk lv k))
  | .iload i => am_pu 2 pc lv st M (am_ld 0 (am_lk lv i))
  | .lload i => am_pu 2 pc lv st M (am_ld 1 (am_lk lv i))
  | .aload i => am_pu 2 pc lv st M (am_ld 4 (am_lk lv i))
  | .istore_n k => am_so 0 1 pc k (am_mxl P mi) lv st M
  | .lstore_n k => am_so 1 1 pc k (am_mxl P mi) lv st M
  | .fstore_n k => am_so 2 1 pc k (am_mxl P mi) lv st M
  | .dstore_n k => am_so 3 1 pc k (am_mxl P mi) lv st M
  | .astore_n k => am_so 4 1 pc k (am_mxl P mi) lv st M
  | .istore i => am_so 0 2 pc i (am_mxl P mi) lv st M
  | .lstore i => am_so 1 2 pc i (am_mxl P mi) lv st M
  | .astore i => am_so 4 2 pc i (am_mxl P mi) lv st M
  | .iinc i n => match am_lk lv i with
    | some (.int x) => if i < am_mxl P mi then some (pc + 3, am_s1 lv i (.int (x + Int32.ofInt n)), st, M) else none
    | _ => none
  | .iadd => am_2 pc lv st M (am_fI (· + ·))
  | .isub => am_2 pc lv st M (am_fI (· - ·))
  | .imul => am_2 pc lv st M (am_fI (· * ·))
  | .iand => am_2 pc lv st M (am_fI (· &&& ·))
  | .ior => am_2 pc lv st M (am_fI (· ||| ·))
  | .ixor => am_2 pc lv st M (am_fI (· ^^^ ·))
  | .ishl => am_2 pc lv st M (am_fI (fun x y => x <<< (y &&& 31)))
  | .ishr => am_2 pc lv st M (am_fI (fun x y => x >>> (y &&& 31)))
  | .iushr => am_2 pc lv st M (am_fI (fun x y => (x.toUInt32 >>> (y.toUInt32 &&& Int32.toUInt32 31)).toInt32))
  | .idiv => am_2 pc lv st M (am_fID (fun x y => x / y))
  | .irem => am_2 pc lv st M (am_fID (fun x y => x - (x / y) * y))
  | .ineg => am_1 pc lv st M (fun v => match v with | .int x => some (.int (-x)) | _ => none)
  | .ladd => am_2 pc lv st M (am_fL (· + ·))
  | .lsub => am_2 pc lv st M (am_fL (· - ·))
  | .lmul => am_2 pc lv st M (am_fL (· * ·))
  | .land => am_2 pc lv st M (am_fL (· &&& ·))
  | .ldiv => am_2 pc lv st M (am_fLD (fun x y => x / y))
  | .lshl => am_2 pc lv st M (am_fLI (fun x y => x <<< (y.toInt64 &&& 63)))
  | .lshr => am_2 pc lv st M (am_fLI (fun x y => x >>> (y.toInt64 &&& 63)))
  | .lcmp => am_2 pc lv st M (fun x y => match x, y with | .long a, .long b => some (.int (lg_cmp a b)) | _, _ => none)
  | .i2l => am_1 pc lv st M (fun v => match v with | .int x => some (.long x.toInt64) | _ => none)
  | .l2i => am_1 pc lv st M (fun v => match v with | .long x => some (.int x.toInt32) | _ => none)
  | .l2d => am_1 pc lv st M (fun v => match v with | .long x => some (.double (FP.l2d x)) | _ => none)
  | .i2f => am_1 pc lv st M (fun v => match v with | .int x => some (.float (FP.i2f x)) | _ => none)
  | .d2l => am_1 pc lv st M (fun v => match v with | .double x => some (.long (FP.d2l x)) | _ => none)
  | .f2i => am_1 pc lv st M (fun v => match v with | .float x => some (.int (FP.f2i x)) | _ => none)
  | .dadd => am_2 pc lv st M (am_fD FP.dadd)
  | .dsub => am_2 pc lv st M (am_fD FP.dsub)
  | .dmul => am_2 pc lv st M (am_fD FP.dmul)
  | .ddiv => am_2 pc lv st M (am_fD FP.ddiv)
  | .fsub => am_2 pc lv st M (am_fF FP.fsub)
  | .fmul => am_2 pc lv st M (am_fF FP.fmul)
  | .fdiv => am_2 pc lv st M (am_fF FP.fdiv)
  | .dcmp op => am_2 pc lv st M (fun x y => match x, y with | .double a, .double b => some (.int (Op.cmpValue (FP.dcmp a b) op)) | _, _ => none)
  | .fcmp op => am_2 pc lv st M (fun x y => match x, y with | .float a, .float b => some (.int (Op.cmpValue (FP.fcmp a b) op)) | _, _ => none)
  | .dup => match st with
    | v :: r => if v.category = 1 then some (pc + 1, lv, v :: v :: r, M) else none
    | _ => none
  | .pop => match st with
    | v :: r => if v.category = 1 then some (pc + 1, lv, r, M) else none
    | _ => none
  | .pop2 => match st with
    | v :: r => if v.category = 2 then some (pc + 1, lv, r, M) else none
    | _ => none
  | .dup2 => match st with
    | v :: w :: r => if v.category = 1 ∧ w.category = 1 then some (pc + 1, lv, v :: w :: v :: w :: r, M) else none
    | _ => none
  | .dup_x1 => match st with
    | v :: w :: r => if v.category = 1 ∧ w.category = 1 then some (pc + 1, lv, v :: w :: v :: r, M) else none
    | _ => none
  | .ifCond c off => match st with
    | .int x :: r => am_br (am_c1 c x) pc off lv r M
    | _ => none
  | .if_icmp c off => match st with
    | .int y :: .int x :: r => am_br (am_c2 c x y) pc off lv r M
    | _ => none
  | .ifnonnull off => match st with
    | .ref _ :: r => am_go pc off lv r M
    | .null :: r => some (pc + 3, lv, r, M)
    | _ => none
  | .ifnull off => match st with
    | .ref _ :: r => some (pc + 3, lv, r, M)
    | .null :: r => am_go pc off lv r M
    | _ => none
  | .goto off => am_go pc off lv st M
  | .tableswitch d lo hi offs => match st with
    | .int x :: r => bif am_swk x lo hi offs then am_go pc (am_sw x d lo hi offs) lv r M else none
    | _ => none
  | .getfield i => am_gf P (am_own P mi) i pc lv st M
  | .putfield i => am_pf P mi (am_own P mi) i pc lv st M
  | .getstatic i => match am_sta P (am_own P mi) i with
    | some c => some (pc + 3, lv, .retAddr c :: st, M)
    | none => none
  | .iaload => am_ald P pc lv st M
  | .iastore => am_ast pc lv st M
  | .laload => am_lald pc lv st M
  | .lastore => am_last pc lv st M
  | .aaload => am_qald pc lv st M
  | .aastore => am_qast P pc lv st M
  | .arraylength => am_len P pc lv st M
  | .new i => am_nw P (am_own P mi) i pc lv st M
  | .newarray t => am_na t pc lv st M
  | .anewarray i => am_nq P (am_own P mi) i pc lv st M
  | .checkcast _ => match st with
    | .ref a :: r => match M.1[a]? with
      | some (.inl (0, _)) => some (pc + 3, lv, .ref a :: r, M)
      | _ => none
    | _ => none
  | .invokespecial _ => match am_ntk P mi ins with
    | some k => am_nt P k pc lv st M
    | none => none
  | .invokestatic _ => match am_ntk P mi ins with
    | some k => am_nt P k pc lv st M
    | none => none
  | .invokevirtual _ => match am_ntk P mi ins with
    | some k => am_nt P k pc lv st M
    | none => none
  | _ => none
/-- an answer -/
def am_rt (P : am_Pg) (mi : Nat) (ins : Instr) (st : List Value) : Option (Option Value) := match ins, st with
  | .return_, [] => match am_ret P mi with
    | none => some none
    | some _ => none
  | .ireturn, [.int v] => match am_ret P mi with
    | some .int => some (some (.int v))
    | some .boolean => if v = 0 ∨ v = 1 then some (some (.int v)) else none
    | _ => none
  | .lreturn, [.long v] => match am_ret P mi with
    | some .long => some (some (.long v))
    | _ => none
  | .freturn, [.float v] => match am_ret P mi with
    | some .float => some (some (.float v))
    | _ => none
  | .dreturn, [.double v] => match am_ret P mi with
    | some .double => some (some (.double v))
    | _ => none
  | .areturn, [.ref a] => match am_ret P mi with
    | some (.object _) => some (some (.ref a))
    | _ => none
  | _, _ => none
/-- a call of ours: the method, how many of the stack it takes -/
def am_cl (P : am_Pg) (mi : Nat) (ins : Instr) : Option (Nat × Nat) := match ins with
  | .invokestatic i => match am_cal P mi i with
    | some (0, r) => some r
    | _ => none
  | .invokevirtual i => match am_cal P mi i with
    | some (1, r) => some r
    | _ => none
  | .invokespecial i => match am_cal P mi i with
    | some (2, r) => some r
    | _ => none
  | _ => none
def am_rs (as_ : List Value) : Bool := match as_ with
  | .ref _ :: _ => true
  | _ => false
def am_rv (P : am_Pg) (mj : Nat) (as_ : List Value) (M : am_M) : Bool := match as_ with
  | .ref a :: _ => match M.1[a]? with
    | some (.inr (cj, _)) => decide (cj = am_own P mj)
    | _ => false
  | _ => false
/-- the stack of a call: enough on it, little below; the receiver, where there is one, is an object of ours (of the method's class) -/
def am_rc (P : am_Pg) (mi : Nat) (ins : Instr) (mj n : Nat) (st : List Value) (M : am_M) : Bool :=
  decide (n ≤ st.length) && (decide (am_sum (st.drop n) ≤ 8 ∧ am_sum (st.take n) ≤ am_mxl P mj) && (match ins with
  | .invokestatic _ => true
  | .invokespecial _ => am_rs (st.take n).reverse
  | .invokevirtual _ => am_rv P mj (st.take n).reverse M
  | _ => false))
/-- the machine: fuel, method, place, locals, stack, memory; the answer, the memory behind it -/
def am_ev (P : am_Pg) : Nat → Nat → Nat → am_L → List Value → am_M → Option (Option Value × am_M)
  | 0, _, _, _, _, _ => none
  | f + 1, mi, pc, lv, st, M => match am_code P mi pc with
    | none => none
    | some ins => match am_cl P mi ins with
      | some (mj, n) => bif am_rc P mi ins mj n st M then (match am_ev P f mj 0 (lv_args 0 (st.take n).reverse) [] M with
          | some (v, M') => am_ev P f mi (pc + 3) lv (v.toList ++ st.drop n) M'
          | none => none) else none
      | none => match am_rt P mi ins st with
        | some v => some (v, M)
        | none => match am_st P mi ins pc lv st M with
          | some (pc', lv', st', M') => am_ev P f mi pc' lv' st' M'
          | none => none

end

/-! 21.amrows.lean.txt -/
section
/-! ===== what the pure machine's steps are on the claim's machine ===== -/
def am_tr (cs : Nat → Nat) (base : Nat) : Value → Value
  | .ref a => .ref (base + a)
  | .retAddr c => .ref (cs c)
  | .int x => .int x
  | .long x => .long x
  | .float x => .float x
  | .double x => .double x
  | .null => .null
def am_tA (base : Nat) : vp_A → vp_A
  | (n, .inl f) => (n, .inl f)
  | (n, .inr (.inl f)) => (n, .inr (.inl f))
  | (n, .inr (.inr (.inl f))) => (n, .inr (.inr (.inl f)))
  | (n, .inr (.inr (.inr (.inl f)))) => (n, .inr (.inr (.inr (.inl f))))
  | (n, .inr (.inr (.inr (.inr f)))) => (n, .inr (.inr (.inr (.inr (fun i => (f i).map (fun x => base + x))))))
/-- where things are: the classes of arrays, the tables' addresses, where our cells begin -/
abbrev am_Z : Type := (Nat → ClassId) × (Nat → Nat) × Nat
def am_tO (Z : am_Z) : am_O → va_E
  | .inl (t, a) => .inl (Z.1 t, am_tA Z.2.2 a)
  | .inr (ci, fs) => .inr (ci, fs.map (am_tr Z.2.1 Z.2.2))
def am_ws (Z : am_Z) (G : List am_O) : va_W := G.mapIdx (fun i o => (Z.2.2 + i, am_tO Z o))
abbrev am_A (Z : am_Z) : Nat → Prop := fun q => Z.2.2 ≤ q
def am_R (D : va_G) (cl : List vw_C) (Z : am_Z) (M : am_M) (H : Heap) : Prop := va_P D cl (am_ws Z M.1) H ∧ H.size = Z.2.2 + M.1.length
theorem am_ws_get {Z : am_Z} {G : List am_O} {a : Nat} {o : am_O} (h : G[a]? = some o) : (am_ws Z G)[a]? = some (Z.2.2 + a, am_tO Z o) := by
  simp [am_ws, List.getElem?_mapIdx, h]
theorem am_ws_inv {Z : am_Z} {G : List am_O} {k : Nat} {q : Nat × va_E} (h : (am_ws Z G)[k]? = some q) : ∃ o, G[k]? = some o ∧ q = (Z.2.2 + k, am_tO Z o) := by
  simp only [am_ws, List.getElem?_mapIdx, Option.map_eq_some_iff] at h
  obtain ⟨o, h1, h2⟩ := h
  exact ⟨o, h1, h2.symm⟩
theorem am_D (Z : am_Z) (G : List am_O) : va_D (am_A Z) (am_ws Z G) := by
  refine ⟨fun i j p q hi hj h => ?_, fun k q hk => ?_⟩
  · obtain ⟨o, -, rfl⟩ := am_ws_inv hi
    obtain ⟨o', -, rfl⟩ := am_ws_inv hj
    have h : Z.2.2 + i = Z.2.2 + j := h
    omega
  · obtain ⟨o, -, rfl⟩ := am_ws_inv hk
    exact Nat.le_add_right _ _
theorem am_R.set {D : va_G} {cl : List vw_C} {Z : am_Z} {M : am_M} {H H1 : Heap} {a n : Nat} {o o0 : am_O} (h : am_R D cl Z M H) (h0 : M.1[a]? = some o0) (he : va_at D cl (Z.2.2 + a, am_tO Z o) H1) (z : H1.size = H.size) (oq : ∀ q : Nat, q ≠ Z.2.2 + a → H1[q]? = H[q]?) : am_R D cl Z (M.1.set a o, n) H1 := by
  have hl : a < M.1.length := (List.getElem?_eq_some_iff.mp h0).1
  refine ⟨fun k q hk => ?_, by rw [z, h.2, List.length_set]⟩
  obtain ⟨o1, h1, rfl⟩ := am_ws_inv hk
  by_cases hka : k = a
  · subst hka
    rw [List.getElem?_set_self hl] at h1
    cases h1
    exact he
  · rw [List.getElem?_set_ne (Ne.symm hka)] at h1
    have h1 : M.1[k]? = some o1 := h1
    exact (h.1 k _ (am_ws_get h1)).kept (oq _ (by show Z.2.2 + k ≠ _; omega))
theorem am_R.push {D : va_G} {cl : List vw_C} {Z : am_Z} {M : am_M} {H H1 : Heap} {n : Nat} {o : am_O} (h : am_R D cl Z M H) (he : va_at D cl (H.size, am_tO Z o) H1) (z : H1.size = H.size + 1) (oq : ∀ q : Nat, q < H.size → H1[q]? = H[q]?) : am_R D cl Z (M.1 ++ [o], n) H1 := by
  refine ⟨fun k q hk => ?_, by rw [z, h.2, List.length_append]; simp; omega⟩
  obtain ⟨o1, h1, rfl⟩ := am_ws_inv hk
  have h1 : (M.1 ++ [o])[k]? = some o1 := h1
  by_cases hkl : k < M.1.length
  · rw [List.getElem?_append_left hkl] at h1
    exact (h.1 k _ (am_ws_get h1)).kept (oq _ (by show Z.2.2 + k < _; rw [h.2]; omega))
  · rw [List.getElem?_append_right (by omega)] at h1
    have hz : k - M.1.length < 1 := (List.getElem?_eq_some_iff.mp h1).1
    have hk0 : k = M.1.length := by omega
    subst hk0
    rw [Nat.sub_self] at h1
    cases h1
    rw [h.2] at he
    exact he
theorem am_cat (cs : Nat → Nat) (base : Nat) (v : Value) : (am_tr cs base v).category = v.category := by cases v <;> rfl
theorem am_sumT (cs : Nat → Nat) (base : Nat) (st : List Value) : ((st.map (am_tr cs base)).map fun v => v.category).sum = am_sum st := by
  rw [List.map_map]
  unfold am_sum
  congr 1
  apply List.map_congr_left
  intro v _
  exact am_cat cs base v
/-- the locals as the machine has them -/
def am_lt (Z : am_Z) (lv : am_L) : am_L := lv.map (fun q => (q.1, am_tr Z.2.1 Z.2.2 q.2))
theorem am_lkm {lv : am_L} {i : Nat} {v : Value} (h : am_lk lv i = some v) : (i, v) ∈ lv := by
  induction lv with
  | nil => cases h
  | cons q r ih =>
    unfold am_lk at h
    by_cases hq : q.1 = i
    · rw [if_pos hq] at h
      cases h
      subst hq
      exact List.mem_cons_self
    · rw [if_neg hq] at h
      exact List.mem_cons_of_mem _ (ih h)
theorem am_lat {Z : am_Z} {lv : am_L} {ls : Array Slot} {nL i : Nat} {v : Value} (hl : lv_has ls nL (am_lt Z lv)) (h : am_lk lv i = some v) : ls[i]? = some (.val (am_tr Z.2.1 Z.2.2 v)) :=
  hl.2.2 (i, am_tr Z.2.1 Z.2.2 v) (List.mem_map.mpr ⟨(i, v), am_lkm h, rfl⟩)
theorem am_ltf (Z : am_Z) (lv : am_L) (f : Nat → Value → Bool) (hf : ∀ n v, f n (am_tr Z.2.1 Z.2.2 v) = f n v) : (am_lt Z lv).filter (fun q => f q.1 q.2) = am_lt Z (lv.filter (fun q => f q.1 q.2)) := by
  unfold am_lt
  rw [List.filter_map]
  congr 1
  apply List.filter_congr
  intro q _
  exact hf q.1 q.2
theorem am_lt1 (Z : am_Z) (lv : am_L) (i : Nat) (v : Value) : (i, am_tr Z.2.1 Z.2.2 v) :: (am_lt Z lv).filter (fun q => !(q.1 == i) && !(q.1 + 1 == i && q.2.category == 2)) = am_lt Z (am_s1 lv i v) := by
  have h := am_ltf Z lv (fun n v => !(n == i) && !(n + 1 == i && v.category == 2)) (fun n v => by simp only [am_cat])
  rw [h]
  rfl
theorem am_lt2 (Z : am_Z) (lv : am_L) (i : Nat) (v : Value) : (i, am_tr Z.2.1 Z.2.2 v) :: (am_lt Z lv).filter (fun q => !(q.1 == i) && (!(q.1 == i + 1) && !(q.1 + 1 == i && q.2.category == 2))) = am_lt Z (am_s2 lv i v) := by
  have h := am_ltf Z lv (fun n v => !(n == i) && (!(n == i + 1) && !(n + 1 == i && v.category == 2))) (fun n v => by simp only [am_cat])
  rw [h]
  rfl
theorem am_ltA (Z : am_Z) (vs : List Value) : ∀ i, lv_args i (vs.map (am_tr Z.2.1 Z.2.2)) = am_lt Z (lv_args i vs) := by
  induction vs with
  | nil => intro i; rfl
  | cons v r ih =>
    intro i
    show (i, am_tr _ _ v) :: lv_args (if (am_tr Z.2.1 Z.2.2 v).category = 2 then i + 2 else i + 1) _ = _
    rw [am_cat, ih]
    rfl
/-- the program's names: classes, methods, codes, frames and locals of a method, the kit's classes, words, words of nests, array types, statics -/
abbrev am_Nm : Type := (Nat → String) × (Nat → MethodName) × (Nat → ByteArray) × (Nat → Nat) × (Nat → Nat) × List vw_C × List Cond × List Cond × List FieldType × List (String × String × String)
def am_cn (B : am_Nm) := B.1
def am_y (B : am_Nm) := B.2.1
def am_cc (B : am_Nm) := B.2.2.1
def am_rF (B : am_Nm) := B.2.2.2.1
def am_rL (B : am_Nm) := B.2.2.2.2.1
def am_kl (B : am_Nm) := B.2.2.2.2.2.1
def am_W (B : am_Nm) := B.2.2.2.2.2.2.1
def am_N (B : am_Nm) := B.2.2.2.2.2.2.2.1
def am_T (B : am_Nm) := B.2.2.2.2.2.2.2.2.1
def am_S (B : am_Nm) := B.2.2.2.2.2.2.2.2.2
def am_tys (B : am_Nm) (Z : am_Z) : List (ClassId × FieldType) := (am_T B).mapIdx (fun i t => (Z.1 i, t))
theorem am_tyg {B : am_Nm} {Z : am_Z} {t : Nat} {ty : FieldType} (h : (am_T B)[t]? = some ty) : (am_tys B Z)[t]? = some (Z.1 t, ty) := by
  simp [am_tys, List.getElem?_mapIdx, h]
/-- the tables' facts at a method's entry -/
def am_Kc (P : am_Pg) (B : am_Nm) (Z : am_Z) (U : State) (H : Heap) : Prop :=
  (∀ c n f, am_cst P c = some (n, f) → Z.2.1 c < Z.2.2 ∧ Z.2.1 c < H.size ∧ va_X (Z.2.1 c) n f U H ∧ (c ≠ 0 → ∃ cell : Cell, H[Z.2.1 c]? = some cell ∧ U.vm.findClass "[I" = some cell.cls)) ∧
  ∀ k q, (am_S B)[k]? = some q → va_Z q.1 q.2.1 q.2.2 (.ref (Z.2.1 (k + 1))) (am_A Z) U H
theorem am_Kc.moved {P : am_Pg} {B : am_Nm} {Z : am_Z} {u U : State} {H : Heap} (hvm : u.vm.Alike U.vm) (h : am_Kc P B Z u H) : am_Kc P B Z U H := by
  refine ⟨fun c n f hc => ?_, fun k q hq => (h.2 k q hq).moved hvm⟩
  obtain ⟨h1, h2, h3, h4⟩ := h.1 c n f hc
  refine ⟨h1, h2, h3.moved hvm, fun hc0 => ?_⟩
  obtain ⟨cell, h5, h6⟩ := h4 hc0
  exact ⟨cell, h5, by rw [hvm.findClass]; exact h6⟩
theorem am_Kc.kept {P : am_Pg} {B : am_Nm} {Z : am_Z} {U : State} {H H1 : Heap} (h : am_Kc P B Z U H) (hz : H.size ≤ H1.size) (hq : ∀ a : Nat, a < H.size → ¬ am_A Z a → H1[a]? = H[a]?) : am_Kc P B Z U H1 := by
  refine ⟨fun c n f hc => ?_, fun k q hk => (h.2 k q hk).kept hq⟩
  obtain ⟨h1, h2, h3, h4⟩ := h.1 c n f hc
  have e : H1[Z.2.1 c]? = H[Z.2.1 c]? := hq _ h2 (Nat.not_le.mpr h1)
  refine ⟨h1, Nat.lt_of_lt_of_le h2 hz, h3.kept e, fun hc0 => ?_⟩
  obtain ⟨cell, h5, h6⟩ := h4 hc0
  exact ⟨cell, by rw [e]; exact h5, h6⟩
def am_ln : Instr → Nat
  | .bipush _ => 2
  | .sipush _ => 3
  | .ldc _ => 2
  | .ldc_w _ => 3
  | .ldc2_w _ => 3
  | .iload _ => 2
  | .lload _ => 2
  | .aload _ => 2
  | .istore _ => 2
  | .lstore _ => 2
  | .astore _ => 2
  | .iinc _ _ => 3
  | .ifCond _ _ => 3
  | .if_icmp _ _ => 3
  | .ifnonnull _ => 3
  | .ifnull _ => 3
  | .goto _ => 3
  | .tableswitch _ _ _ _ => 0
  | .getfield _ => 3
  | .putfield _ => 3
  | .getstatic _ => 3
  | .new _ => 3
  | .newarray _ => 2
  | .anewarray _ => 3
  | .checkcast _ => 3
  | .invokespecial _ => 3
  | .invokestatic _ => 3
  | .invokevirtual _ => 3
  | _ => 1
/-- the program is what the tables say: code; classes; fields; statics; constants; new; arrays; anewarray, components; casts; natives; calls; words -/
def am_G1 (P : am_Pg) (B : am_Nm) : Prop := ∀ mi pc ins, am_code P mi pc = some ins → ∃ len, decode (am_cc B mi) pc = .ok (ins, len) ∧ (am_ln ins = 0 ∨ len = am_ln ins)
def am_G2 (P : am_Pg) (B : am_Nm) : Prop := ∀ (ci : Nat) (r : vw_C), (am_kl B)[ci]? = some r → am_cn B ci = r.1 ∧ (∀ w ∈ u_ws r.1 r.2.1 r.2.2, w ∈ am_W B) ∧ (∀ k, k < r.2.2 → parseFieldDescriptor (r.2.1 k).2.2.1 = some (am_fty P ci k) ∧ (r.2.1 k).2.2.2 = am_fin P ci k ∧ (r.2.1 k).1 = r.1) ∧ ∀ a, a < r.2.2 → ∀ b, b < r.2.2 → a ≠ b → (r.2.1 a).2.1 ≠ (r.2.1 b).2.1
def am_G3 (P : am_Pg) (B : am_Nm) : Prop := ∀ own i ci k, am_fld P own i = some (ci, k) → ∃ r : vw_C, (am_kl B)[ci]? = some r ∧ k < r.2.2 ∧ (Cond.fieldLink (am_cn B own) i r.1 (r.2.1 k).2.1 (r.2.1 k).2.2.1 ∈ am_W B ∨ (own ≠ ci ∧ ∃ host, Cond.fieldLinkNest (am_cn B own) i r.1 (r.2.1 k).2.1 (r.2.1 k).2.2.1 host ∈ am_N B))
def am_G4 (P : am_Pg) (B : am_Nm) : Prop := ∀ own i c, am_sta P own i = some c → ∃ k q, c = k + 1 ∧ (am_S B)[k]? = some q ∧ (Cond.fieldLink (am_cn B own) i q.1 q.2.1 q.2.2 ∈ am_W B ∨ ∃ host, Cond.fieldLinkNest (am_cn B own) i q.1 q.2.1 q.2.2 host ∈ am_N B)
def am_G5 (P : am_Pg) (B : am_Nm) : Prop := ∀ own i v, am_con P own i = some v → match v with
  | .int x => Cond.constant (am_cn B own) i x ∈ am_W B
  | .long x => Cond.constantLong (am_cn B own) i x ∈ am_W B
  | .float x => Cond.constantFloat (am_cn B own) i x ∈ am_W B
  | .double x => Cond.constantDouble (am_cn B own) i x ∈ am_W B
  | _ => True
def am_G6 (P : am_Pg) (B : am_Nm) : Prop := ∀ own i ci fs, am_new P own i = some (ci, fs) → ∃ r : vw_C, (am_kl B)[ci]? = some r ∧ Cond.classLink (am_cn B own) i r.1 ∈ am_W B ∧ Cond.instantiable r.1 r.2.2 ∈ am_W B ∧ Cond.initialized r.1 ∈ am_W B ∧ fs.length = r.2.2 ∧ ∀ j, j < r.2.2 → defaultValue (am_fty P ci j) = vp_V fs j
def am_G7 (B : am_Nm) : Prop := Cond.arrayClass .int ∈ am_W B ∧ Cond.arrayClass .long ∈ am_W B ∧ (am_T B)[0]? = some .int ∧ (am_T B)[1]? = some .long
def am_G8 (P : am_Pg) (B : am_Nm) : Prop := (∀ own i t, am_anw P own i = some t → 2 ≤ t ∧ t < 5 ∧ ∃ r : vw_C, (am_kl B)[am_elt P t]? = some r ∧ (am_T B)[t]? = some (.object r.1) ∧ Cond.classLink (am_cn B own) i r.1 ∈ am_W B ∧ Cond.arrayOver (.object r.1) ∈ am_N B) ∧ ∀ t, 2 ≤ t → t < 5 → ∃ r : vw_C, (am_kl B)[am_elt P t]? = some r ∧ (am_T B)[t]? = some (.object r.1)
def am_G9 (P : am_Pg) (B : am_Nm) : Prop := ∀ mi pc i, am_code P mi pc = some (.checkcast i) → Cond.classLink (am_cn B (am_own P mi)) i "[I" ∈ am_W B
def am_Ga (P : am_Pg) (B : am_Nm) : Prop := ∀ mi i k, am_nat P mi i = some k → 1 ≤ am_rF B mi ∧ 40 ≤ am_rL B mi ∧ (match k with
  | 0 => Cond.methodLink (am_cn B (am_own P mi)) i objectInit ∈ am_W B ∧ Cond.instanceMethod objectInit ∈ am_W B ∧ Cond.code objectInit ⟨#[0xb1]⟩ 1 none ∈ am_W B
  | 1 => Cond.methodLink (am_cn B (am_own P mi)) i arraycopyName ∈ am_W B ∧ Cond.native arraycopyName ∈ am_W B ∧ Cond.static arraycopyName ∈ am_W B ∧ Cond.initialized "java/lang/System" ∈ am_W B
  | 2 => Cond.methodLink (am_cn B (am_own P mi)) i ⟨"[I", "clone", "()Ljava/lang/Object;"⟩ ∈ am_W B ∧ Cond.sameMethod "[I" "java/lang/Object" "clone" "()Ljava/lang/Object;" ∈ am_W B ∧ Cond.native ⟨"java/lang/Object", "clone", "()Ljava/lang/Object;"⟩ ∈ am_W B ∧ Cond.instanceMethod ⟨"java/lang/Object", "clone", "()Ljava/lang/Object;"⟩ ∈ am_W B ∧ Cond.selects "[I" ⟨"[I", "clone", "()Ljava/lang/Object;"⟩ ⟨"java/lang/Object", "clone", "()Ljava/lang/Object;"⟩ ∈ am_W B ∧ Cond.castable "[I" "java/lang/Cloneable" ∈ am_N B
  | 3 => Cond.methodLink (am_cn B (am_own P mi)) i ⟨"java/lang/Double", "doubleToRawLongBits", "(D)J"⟩ ∈ am_W B ∧ Cond.native ⟨"java/lang/Double", "doubleToRawLongBits", "(D)J"⟩ ∈ am_W B ∧ Cond.static ⟨"java/lang/Double", "doubleToRawLongBits", "(D)J"⟩ ∈ am_W B ∧ Cond.initialized "java/lang/Double" ∈ am_W B
  | 4 => Cond.methodLink (am_cn B (am_own P mi)) i ⟨"java/lang/Float", "floatToRawIntBits", "(F)I"⟩ ∈ am_W B ∧ Cond.native ⟨"java/lang/Float", "floatToRawIntBits", "(F)I"⟩ ∈ am_W B ∧ Cond.static ⟨"java/lang/Float", "floatToRawIntBits", "(F)I"⟩ ∈ am_W B ∧ Cond.initialized "java/lang/Float" ∈ am_W B
  | _ => False)
def am_Gb (P : am_Pg) (B : am_Nm) : Prop := ∀ mi i kd mj n, am_cal P mi i = some (kd, mj, n) → am_rF B mj + 1 ≤ am_rF B mi ∧ 8 + (am_mxl P mj + 11) + am_rL B mj ≤ am_rL B mi ∧ Cond.code (am_y B mj) (am_cc B mj) (am_mxl P mj) (am_ret P mj) ∈ am_W B ∧ Cond.initialized (am_y B mj).cls ∈ am_W B ∧ (am_y B mj).cls = am_cn B (am_own P mj) ∧ plainFor (am_y B mj) = true ∧
  ((am_y B mj).cls ≠ "java/lang/invoke/MethodHandle" ∧ (am_y B mj).cls ≠ "java/lang/invoke/VarHandle" ∧ (parseMethodDescriptor (am_y B mj).desc).map (fun d => d.parameters.length) = some (if kd = 0 then n else n - 1)) ∧
  (Cond.methodLink (am_cn B (am_own P mi)) i (am_y B mj) ∈ am_W B ∨ ∃ host, Cond.methodLinkNest (am_cn B (am_own P mi)) i (am_y B mj) host ∈ am_N B) ∧
  (kd = 0 → Cond.static (am_y B mj) ∈ am_W B) ∧ (kd = 1 → 0 < n ∧ Cond.instanceMethod (am_y B mj) ∈ am_W B ∧ Cond.selects (am_y B mj).cls (am_y B mj) (am_y B mj) ∈ am_W B ∧ ∃ r : vw_C, (am_kl B)[am_own P mj]? = some r) ∧ (kd = 2 → 0 < n ∧ (am_y B mj).name = "<init>" ∧ Cond.instanceMethod (am_y B mj) ∈ am_W B ∧ am_ret P mj = none)
/-- the words of nests, and of casts -/
def am_nw_ : Cond → Bool
  | .fieldLinkNest _ _ _ _ _ _ => true
  | .methodLinkNest _ _ _ _ => true
  | .castable _ _ => true
  | .arrayOver (.object _) => true
  | _ => false
def am_Gc (P : am_Pg) (B : am_Nm) : Prop := (∀ w ∈ am_W B, goodWord w = true) ∧ (∀ w ∈ am_N B, am_nw_ w = true) ∧ ∀ mj, am_ini P mj = true → (am_y B mj).name = "<init>"
def am_Gd (P : am_Pg) (B : am_Nm) : Prop := am_G1 P B ∧ am_G2 P B ∧ am_G3 P B ∧ am_G4 P B ∧ am_G5 P B ∧ am_G6 P B ∧ am_G7 B ∧ am_G8 P B ∧ am_G9 P B ∧ am_Ga P B ∧ am_Gb P B ∧ am_Gc P B
/-- what holds at a method's entry -/
def am_X (P : am_Pg) (B : am_Nm) (D : va_G) (Z : am_Z) (p : Program) (R : Room) (s : State) (m : MethodId) (args : Array Value) (meth : Method) (c : Code) (mi : Nat) : Prop :=
  p.tables.exec = Jvm.exec ∧ c.code = am_cc B mi ∧ c.maxLocals = am_mxl P mi ∧ meth.sig.returnType = am_ret P mi ∧ meth.locks = false ∧ s.vm.findClass (am_cn B (am_own P mi)) = some m.cls ∧ (am_ini P mi = true → meth.name = "<init>") ∧
  (∀ w ∈ am_W B, w.before args s = true) ∧ (∀ w ∈ am_N B, va_Nw w s) ∧ va_K D (am_kl B) (am_tys B Z) s ∧ am_Kc P B Z s s.heap ∧ Z.2.2 ≤ s.heap.size ∧ am_rF B mi ≤ R.frames ∧ am_rL B mi ≤ R.locals

end

/-! 22.amsteps.lean.txt -/
section
/-! ===== a step of the pure machine is a step of the claim's machine ===== -/
section AMV
variable {p : Program} {l : Launch} {e : Env} {R : Room} {s : State} {m : MethodId} {args : Array Value} {below : List Frame} {meth : Method} {c : Code} {Q : State → Prop}
variable {P : am_Pg} {B : am_Nm} {D : va_G} {Z : am_Z} {mi : Nat} {k0 n0 : Nat} {pc pc' len : Nat} {lv lv' : am_L} {st st' : List Value} {M M' : am_M}
/-- the claim's machine, wherever it holds this picture, comes to Q -/
def am_V (p : Program) (l : Launch) (e : Env) (R : Room) (s : State) (m : MethodId) (args : Array Value) (below : List Frame) (meth : Method) (c : Code) (Q : State → Prop) (P : am_Pg) (B : am_Nm) (D : va_G) (Z : am_Z) (mi k0 n0 : Nat) (pc : Nat) (lv : am_L) (st : List Value) (M : am_M) : Prop :=
  ∀ (H : Heap) (locs : List Loc) (ls : Array Slot), am_R D (am_kl B) Z M H → va_S (am_A Z) s.heap H locs → lv_has ls (am_mxl P mi) (am_lt Z lv) → k0 ≤ M.1.length → n0 ≤ M.2 →
    W p l e R s m args below meth c H locs (M.1.length - k0) (M.2 - n0) Q (F0 m pc ls (st.map (am_tr Z.2.1 Z.2.2)))
theorem am_pu_inv {n : Nat} {o : Option Value} (h : am_pu n pc lv st M o = some (pc', lv', st', M')) : ∃ v, o = some v ∧ pc' = pc + n ∧ lv' = lv ∧ st' = v :: st ∧ M' = M := by
  unfold am_pu at h
  cases o with
  | none => cases h
  | some v => cases h; exact ⟨v, rfl, rfl, rfl, rfl, rfl⟩
theorem am_2_inv {f : Value → Value → Option Value} (h : am_2 pc lv st M f = some (pc', lv', st', M')) : ∃ x y r v, st = y :: x :: r ∧ f x y = some v ∧ pc' = pc + 1 ∧ lv' = lv ∧ st' = v :: r ∧ M' = M := by
  unfold am_2 at h
  split at h
  · rename_i y x r
    split at h
    · rename_i v hv
      cases h
      exact ⟨x, y, r, v, rfl, hv, rfl, rfl, rfl, rfl⟩
    · cases h
  · cases h
theorem am_1_inv {f : Value → Option Value} (h : am_1 pc lv st M f = some (pc', lv', st', M')) : ∃ x r v, st = x :: r ∧ f x = some v ∧ pc' = pc + 1 ∧ lv' = lv ∧ st' = v :: r ∧ M' = M := by
  unfold am_1 at h
  split at h
  · rename_i x r
    split at h
    · rename_i v hv
      cases h
      exact ⟨x, r, v, rfl, hv, rfl, rfl, rfl, rfl⟩
    · cases h
  · cases h
theorem am_fI_inv {g : Int32 → Int32 → Int32} {x y v : Value} (h : am_fI g x y = some v) : ∃ a b, x = .int a ∧ y = .int b ∧ v = .int (g a b) := by
  unfold am_fI at h
  split at h
  · cases h; exact ⟨_, _, rfl, rfl, rfl⟩
  · cases h
theorem am_fID_inv {g : Int32 → Int32 → Int32} {x y v : Value} (h : am_fID g x y = some v) : ∃ a b, x = .int a ∧ y = .int b ∧ ¬ b = 0 ∧ v = .int (g a b) := by
  unfold am_fID at h
  split at h
  · rename_i a b
    by_cases hb : b = 0
    · rw [if_pos hb] at h; cases h
    · rw [if_neg hb] at h; cases h; exact ⟨_, _, rfl, rfl, hb, rfl⟩
  · cases h
theorem am_fL_inv {g : Int64 → Int64 → Int64} {x y v : Value} (h : am_fL g x y = some v) : ∃ a b, x = .long a ∧ y = .long b ∧ v = .long (g a b) := by
  unfold am_fL at h
  split at h
  · cases h; exact ⟨_, _, rfl, rfl, rfl⟩
  · cases h
theorem am_fLD_inv {g : Int64 → Int64 → Int64} {x y v : Value} (h : am_fLD g x y = some v) : ∃ a b, x = .long a ∧ y = .long b ∧ ¬ b = 0 ∧ v = .long (g a b) := by
  unfold am_fLD at h
  split at h
  · rename_i a b
    by_cases hb : b = 0
    · rw [if_pos hb] at h; cases h
    · rw [if_neg hb] at h; cases h; exact ⟨_, _, rfl, rfl, hb, rfl⟩
  · cases h
theorem am_fLI_inv {g : Int64 → Int32 → Int64} {x y v : Value} (h : am_fLI g x y = some v) : ∃ a b, x = .long a ∧ y = .int b ∧ v = .long (g a b) := by
  unfold am_fLI at h
  split at h
  · cases h; exact ⟨_, _, rfl, rfl, rfl⟩
  · cases h
theorem am_fF_inv {g : UInt32 → UInt32 → UInt32} {x y v : Value} (h : am_fF g x y = some v) : ∃ a b, x = .float a ∧ y = .float b ∧ vf_n32 (g a b) ∧ v = .float (g a b) := by
  unfold am_fF at h
  split at h
  · rename_i a b
    by_cases hb : (g a b) &&& 0x7fffffff ≤ 0x7f800000
    · rw [if_pos hb] at h; cases h; exact ⟨_, _, rfl, rfl, hb, rfl⟩
    · rw [if_neg hb] at h; cases h
  · cases h
theorem am_fD_inv {g : UInt64 → UInt64 → UInt64} {x y v : Value} (h : am_fD g x y = some v) : ∃ a b, x = .double a ∧ y = .double b ∧ vf_n64 (g a b) ∧ v = .double (g a b) := by
  unfold am_fD at h
  split at h
  · rename_i a b
    by_cases hb : (g a b) &&& 0x7fffffffffffffff ≤ 0x7ff0000000000000
    · rw [if_pos hb] at h; cases h; exact ⟨_, _, rfl, rfl, hb, rfl⟩
    · rw [if_neg hb] at h; cases h
  · cases h
theorem am_tg_inv {off : Int} {t : Nat} (h : am_tg pc off = some t) : (pc : Int) + off = (t : Int) := by
  unfold am_tg at h
  by_cases hc : 0 ≤ (pc : Int) + off
  · rw [if_pos hc] at h
    cases h
    omega
  · rw [if_neg hc] at h; cases h
theorem am_in_inv {i : Int32} {n : Nat} (h : am_in i n = true) : vp_in i n := by
  simp only [am_in, Bool.and_eq_true, Bool.not_eq_true', decide_eq_false_iff_not, decide_eq_true_eq] at h
  exact fun q => q.elim h.1 (fun q => by omega)
theorem am_ld_int {o : Option Value} {v : Value} (h : am_ld 0 o = some v) : ∃ x, v = .int x ∧ o = some (.int x) := by
  unfold am_ld at h
  split at h <;> first | (cases h; exact ⟨_, rfl, rfl⟩) | (rename_i q; cases q; done) | (rename_i q _; cases q; done) | (cases h; done) | (rename_i q; exact absurd q (by decide))
theorem am_ld_long {o : Option Value} {v : Value} (h : am_ld 1 o = some v) : ∃ x, v = .long x ∧ o = some (.long x) := by
  unfold am_ld at h
  split at h <;> first | (cases h; exact ⟨_, rfl, rfl⟩) | (rename_i q; cases q; done) | (rename_i q _; cases q; done) | (cases h; done) | (rename_i q; exact absurd q (by decide))
theorem am_ld_float {o : Option Value} {v : Value} (h : am_ld 2 o = some v) : ∃ x, v = .float x ∧ o = some (.float x) := by
  unfold am_ld at h
  split at h <;> first | (cases h; exact ⟨_, rfl, rfl⟩) | (rename_i q; cases q; done) | (rename_i q _; cases q; done) | (cases h; done) | (rename_i q; exact absurd q (by decide))
theorem am_ld_double {o : Option Value} {v : Value} (h : am_ld 3 o = some v) : ∃ x, v = .double x ∧ o = some (.double x) := by
  unfold am_ld at h
  split at h <;> first | (cases h; exact ⟨_, rfl, rfl⟩) | (rename_i q; cases q; done) | (rename_i q _; cases q; done) | (cases h; done) | (rename_i q; exact absurd q (by decide))
theorem am_ld_ref (Z : am_Z) {o : Option Value} {v : Value} (h : am_ld 4 o = some v) : o = some v ∧ v.category = 1 ∧ ∃ a, am_tr Z.2.1 Z.2.2 v = .ref a := by
  unfold am_ld at h
  split at h <;> first | (cases h; exact ⟨rfl, rfl, _, rfl⟩) | (rename_i q; cases q; done) | (rename_i q _; cases q; done) | (cases h; done) | (rename_i q; exact absurd q (by decide))
theorem am_so_inv {w n i nL : Nat} (h : am_so w n pc i nL lv st M = some (pc', lv', st', M')) : ∃ v r, st = v :: r ∧ (∃ u, am_ld w (some v) = some u) ∧ pc' = pc + n ∧ st' = r ∧ M' = M ∧ ((v.category = 2 ∧ i + 1 < nL ∧ lv' = am_s2 lv i v) ∨ (¬ v.category = 2 ∧ i < nL ∧ lv' = am_s1 lv i v)) := by
  unfold am_so at h
  split at h
  · rename_i v r
    split at h
    · cases h
    · rename_i u hu
      by_cases hc : v.category = 2
      · rw [if_pos hc] at h
        by_cases hi : i + 1 < nL
        · rw [if_pos hi] at h
          cases h
          exact ⟨v, _, rfl, ⟨u, hu⟩, rfl, rfl, rfl, Or.inl ⟨hc, hi, rfl⟩⟩
        · rw [if_neg hi] at h; cases h
      · rw [if_neg hc] at h
        by_cases hi : i < nL
        · rw [if_pos hi] at h
          cases h
          exact ⟨v, _, rfl, ⟨u, hu⟩, rfl, rfl, rfl, Or.inr ⟨hc, hi, rfl⟩⟩
        · rw [if_neg hi] at h; cases h
  · cases h
theorem am_br_inv {b : Bool} {off : Int} {r : List Value} (h : am_br b pc off lv r M = some (pc', lv', st', M')) : ∃ t : Nat, (pc : Int) + off = (t : Int) ∧ lv' = lv ∧ st' = r ∧ M' = M ∧ ((b = true ∧ pc' = t) ∨ (b = false ∧ pc' = pc + 3)) := by
  unfold am_br at h
  split at h
  · rename_i t ht
    cases b with
    | true => cases h; exact ⟨_, am_tg_inv ht, rfl, rfl, rfl, Or.inl ⟨rfl, rfl⟩⟩
    | false => cases h; exact ⟨t, am_tg_inv ht, rfl, rfl, rfl, Or.inr ⟨rfl, rfl⟩⟩
  · cases h
theorem am_go_inv {off : Int} {r : List Value} (h : am_go pc off lv r M = some (pc', lv', st', M')) : (pc : Int) + off = (pc' : Int) ∧ lv' = lv ∧ st' = r ∧ M' = M := by
  unfold am_go at h
  split at h
  · rename_i t ht
    cases h
    exact ⟨am_tg_inv ht, rfl, rfl, rfl⟩
  · cases h
theorem am_t_if {op : ClassFile.Cond} {off : Int} (hC : am_X P B D Z p R s m args meth c mi) (hdg : decode (am_cc B mi) pc = .ok (.ifCond op off, 3)) (h : am_st P mi (.ifCond op off) pc lv st M = some (pc', lv', st', M'))
    (hV : am_V p l e R s m args below meth c Q P B D Z mi k0 n0 pc' lv' st' M') : am_V p l e R s m args below meth c Q P B D Z mi k0 n0 pc lv st M := by
  obtain ⟨hx, hb, -⟩ := hC
  unfold am_st at h
  dsimp only at h
  split at h
  · rename_i x r
    obtain ⟨t, ht, rfl, rfl, rfl, hcs⟩ := am_br_inv h
    intro H locs ls hR hS hl hk hn
    have K := hV H locs ls hR hS hl hk hn
    cases op with
    | eq => exact lv_if_eq hx hb hdg ht (fun q => by rcases hcs with ⟨h1, rfl⟩ | ⟨h1, rfl⟩; exact K; simp [am_c1, q] at h1) (fun q => by rcases hcs with ⟨h1, rfl⟩ | ⟨h1, rfl⟩; simp [am_c1, q] at h1; exact K)
    | ne => exact lv_if_ne hx hb hdg ht (fun q => by rcases hcs with ⟨h1, rfl⟩ | ⟨h1, rfl⟩; exact K; simp [am_c1, q] at h1) (fun q => by rcases hcs with ⟨h1, rfl⟩ | ⟨h1, rfl⟩; simp [am_c1, q] at h1; exact K)
    | lt => exact lv_if_lt hx hb hdg ht (fun q => by rcases hcs with ⟨h1, rfl⟩ | ⟨h1, rfl⟩; exact K; simp [am_c1, q] at h1) (fun q => by rcases hcs with ⟨h1, rfl⟩ | ⟨h1, rfl⟩; simp [am_c1, q] at h1; exact K)
    | ge => exact lv_if_ge hx hb hdg ht (fun q => by rcases hcs with ⟨h1, rfl⟩ | ⟨h1, rfl⟩; exact K; simp [am_c1, q] at h1) (fun q => by rcases hcs with ⟨h1, rfl⟩ | ⟨h1, rfl⟩; simp [am_c1, q] at h1; exact K)
    | gt => exact lv_if_gt hx hb hdg ht (fun q => by rcases hcs with ⟨h1, rfl⟩ | ⟨h1, rfl⟩; exact K; simp [am_c1, q] at h1) (fun q => by rcases hcs with ⟨h1, rfl⟩ | ⟨h1, rfl⟩; simp [am_c1, q] at h1; exact K)
    | le => exact lv_if_le hx hb hdg ht (fun q => by rcases hcs with ⟨h1, rfl⟩ | ⟨h1, rfl⟩; exact K; simp [am_c1, q] at h1) (fun q => by rcases hcs with ⟨h1, rfl⟩ | ⟨h1, rfl⟩; simp [am_c1, q] at h1; exact K)
  · cases h
theorem am_t_icmp {op : ClassFile.Cond} {off : Int} (hC : am_X P B D Z p R s m args meth c mi) (hdg : decode (am_cc B mi) pc = .ok (.if_icmp op off, 3)) (h : am_st P mi (.if_icmp op off) pc lv st M = some (pc', lv', st', M'))
    (hV : am_V p l e R s m args below meth c Q P B D Z mi k0 n0 pc' lv' st' M') : am_V p l e R s m args below meth c Q P B D Z mi k0 n0 pc lv st M := by
  obtain ⟨hx, hb, -⟩ := hC
  unfold am_st at h
  dsimp only at h
  split at h
  · rename_i y x r
    obtain ⟨t, ht, rfl, rfl, rfl, hcs⟩ := am_br_inv h
    intro H locs ls hR hS hl hk hn
    have K := hV H locs ls hR hS hl hk hn
    cases op with
    | eq => exact lv_icmp_eq hx hb hdg ht (fun q => by rcases hcs with ⟨h1, rfl⟩ | ⟨h1, rfl⟩; exact K; simp [am_c2, q] at h1) (fun q => by rcases hcs with ⟨h1, rfl⟩ | ⟨h1, rfl⟩; simp [am_c2, q] at h1; exact K)
    | ne => exact lv_icmp_ne hx hb hdg ht (fun q => by rcases hcs with ⟨h1, rfl⟩ | ⟨h1, rfl⟩; exact K; simp [am_c2, q] at h1) (fun q => by rcases hcs with ⟨h1, rfl⟩ | ⟨h1, rfl⟩; simp [am_c2, q] at h1; exact K)
    | lt => exact lv_icmp_lt hx hb hdg ht (fun q => by rcases hcs with ⟨h1, rfl⟩ | ⟨h1, rfl⟩; exact K; simp [am_c2, q] at h1) (fun q => by rcases hcs with ⟨h1, rfl⟩ | ⟨h1, rfl⟩; simp [am_c2, q] at h1; exact K)
    | ge => exact lv_icmp_ge hx hb hdg ht (fun q => by rcases hcs with ⟨h1, rfl⟩ | ⟨h1, rfl⟩; exact K; simp [am_c2, q] at h1) (fun q => by rcases hcs with ⟨h1, rfl⟩ | ⟨h1, rfl⟩; simp [am_c2, q] at h1; exact K)
    | gt => exact lv_icmp_gt hx hb hdg ht (fun q => by rcases hcs with ⟨h1, rfl⟩ | ⟨h1, rfl⟩; exact K; simp [am_c2, q] at h1) (fun q => by rcases hcs with ⟨h1, rfl⟩ | ⟨h1, rfl⟩; simp [am_c2, q] at h1; exact K)
    | le => exact lv_icmp_le hx hb hdg ht (fun q => by rcases hcs with ⟨h1, rfl⟩ | ⟨h1, rfl⟩; exact K; simp [am_c2, q] at h1) (fun q => by rcases hcs with ⟨h1, rfl⟩ | ⟨h1, rfl⟩; simp [am_c2, q] at h1; exact K)
  · cases h
theorem am_t_iconst {n : Int} (hC : am_X P B D Z p R s m args meth c mi) (hdg : decode (am_cc B mi) pc = .ok (.iconst n, 1)) (h : am_st P mi (.iconst n) pc lv st M = some (pc', lv', st', M'))
    (hV : am_V p l e R s m args below meth c Q P B D Z mi k0 n0 pc' lv' st' M') : am_V p l e R s m args below meth c Q P B D Z mi k0 n0 pc lv st M := by
  obtain ⟨hx, hb, -⟩ := hC
  cases h
  exact fun H locs ls hR hS hl hk hn => lv_iconst hx hb hdg rfl (hV H locs ls hR hS hl hk hn)
theorem am_t_bipush {n : Int} (hC : am_X P B D Z p R s m args meth c mi) (hdg : decode (am_cc B mi) pc = .ok (.bipush n, 2)) (h : am_st P mi (.bipush n) pc lv st M = some (pc', lv', st', M'))
    (hV : am_V p l e R s m args below meth c Q P B D Z mi k0 n0 pc' lv' st' M') : am_V p l e R s m args below meth c Q P B D Z mi k0 n0 pc lv st M := by
  obtain ⟨hx, hb, -⟩ := hC
  cases h
  exact fun H locs ls hR hS hl hk hn => lv_bipush hx hb hdg rfl (hV H locs ls hR hS hl hk hn)
theorem am_t_sipush {n : Int} (hC : am_X P B D Z p R s m args meth c mi) (hdg : decode (am_cc B mi) pc = .ok (.sipush n, 3)) (h : am_st P mi (.sipush n) pc lv st M = some (pc', lv', st', M'))
    (hV : am_V p l e R s m args below meth c Q P B D Z mi k0 n0 pc' lv' st' M') : am_V p l e R s m args below meth c Q P B D Z mi k0 n0 pc lv st M := by
  obtain ⟨hx, hb, -⟩ := hC
  cases h
  exact fun H locs ls hR hS hl hk hn => lv_sipush hx hb hdg rfl (hV H locs ls hR hS hl hk hn)
theorem am_t_lconst {n : Fin 2} (hC : am_X P B D Z p R s m args meth c mi) (hdg : decode (am_cc B mi) pc = .ok (.lconst n, 1)) (h : am_st P mi (.lconst n) pc lv st M = some (pc', lv', st', M'))
    (hV : am_V p l e R s m args below meth c Q P B D Z mi k0 n0 pc' lv' st' M') : am_V p l e R s m args below meth c Q P B D Z mi k0 n0 pc lv st M := by
  obtain ⟨hx, hb, -⟩ := hC
  cases h
  exact fun H locs ls hR hS hl hk hn => lv_lconst hx hb hdg rfl (hV H locs ls hR hS hl hk hn)
theorem am_t_fconst0 (hC : am_X P B D Z p R s m args meth c mi) (hdg : decode (am_cc B mi) pc = .ok (.fconst 0, 1)) (h : am_st P mi (.fconst 0) pc lv st M = some (pc', lv', st', M'))
    (hV : am_V p l e R s m args below meth c Q P B D Z mi k0 n0 pc' lv' st' M') : am_V p l e R s m args below meth c Q P B D Z mi k0 n0 pc lv st M := by
  obtain ⟨hx, hb, -⟩ := hC
  cases h
  exact fun H locs ls hR hS hl hk hn => lv_fconst0 hx hb hdg (hV H locs ls hR hS hl hk hn)
theorem am_t_fconst1 (hC : am_X P B D Z p R s m args meth c mi) (hdg : decode (am_cc B mi) pc = .ok (.fconst 1, 1)) (h : am_st P mi (.fconst 1) pc lv st M = some (pc', lv', st', M'))
    (hV : am_V p l e R s m args below meth c Q P B D Z mi k0 n0 pc' lv' st' M') : am_V p l e R s m args below meth c Q P B D Z mi k0 n0 pc lv st M := by
  obtain ⟨hx, hb, -⟩ := hC
  cases h
  exact fun H locs ls hR hS hl hk hn => lv_fconst1 hx hb hdg (hV H locs ls hR hS hl hk hn)
theorem am_t_fconst2 (hC : am_X P B D Z p R s m args meth c mi) (hdg : decode (am_cc B mi) pc = .ok (.fconst 2, 1)) (h : am_st P mi (.fconst 2) pc lv st M = some (pc', lv', st', M'))
    (hV : am_V p l e R s m args below meth c Q P B D Z mi k0 n0 pc' lv' st' M') : am_V p l e R s m args below meth c Q P B D Z mi k0 n0 pc lv st M := by
  obtain ⟨hx, hb, -⟩ := hC
  cases h
  exact fun H locs ls hR hS hl hk hn => lv_fconst2 hx hb hdg (hV H locs ls hR hS hl hk hn)
theorem am_t_dconst0 (hC : am_X P B D Z p R s m args meth c mi) (hdg : decode (am_cc B mi) pc = .ok (.dconst 0, 1)) (h : am_st P mi (.dconst 0) pc lv st M = some (pc', lv', st', M'))
    (hV : am_V p l e R s m args below meth c Q P B D Z mi k0 n0 pc' lv' st' M') : am_V p l e R s m args below meth c Q P B D Z mi k0 n0 pc lv st M := by
  obtain ⟨hx, hb, -⟩ := hC
  cases h
  exact fun H locs ls hR hS hl hk hn => lv_dconst0 hx hb hdg (hV H locs ls hR hS hl hk hn)
theorem am_t_dconst1 (hC : am_X P B D Z p R s m args meth c mi) (hdg : decode (am_cc B mi) pc = .ok (.dconst 1, 1)) (h : am_st P mi (.dconst 1) pc lv st M = some (pc', lv', st', M'))
    (hV : am_V p l e R s m args below meth c Q P B D Z mi k0 n0 pc' lv' st' M') : am_V p l e R s m args below meth c Q P B D Z mi k0 n0 pc lv st M := by
  obtain ⟨hx, hb, -⟩ := hC
  cases h
  exact fun H locs ls hR hS hl hk hn => lv_dconst1 hx hb hdg (hV H locs ls hR hS hl hk hn)
theorem am_t_iload_n {k : Fin 4} (hC : am_X P B D Z p R s m args meth c mi) (hdg : decode (am_cc B mi) pc = .ok (.iload_n k, 1)) (h : am_st P mi (.iload_n k) pc lv st M = some (pc', lv', st', M'))
    (hV : am_V p l e R s m args below meth c Q P B D Z mi k0 n0 pc' lv' st' M') : am_V p l e R s m args below meth c Q P B D Z mi k0 n0 pc lv st M := by
  obtain ⟨hx, hb, -⟩ := hC
  obtain ⟨v, hv, rfl, rfl, rfl, rfl⟩ := am_pu_inv h
  obtain ⟨x, rfl, ho⟩ := am_ld_int hv
  exact fun H locs ls hR hS hl hk hn => lv_iload_n hx hb hdg rfl (am_lat hl ho) (hV H locs ls hR hS hl hk hn)
theorem am_t_lload_n {k : Fin 4} (hC : am_X P B D Z p R s m args meth c mi) (hdg : decode (am_cc B mi) pc = .ok (.lload_n k, 1)) (h : am_st P mi (.lload_n k) pc lv st M = some (pc', lv', st', M'))
    (hV : am_V p l e R s m args below meth c Q P B D Z mi k0 n0 pc' lv' st' M') : am_V p l e R s m args below meth c Q P B D Z mi k0 n0 pc lv st M := by
  obtain ⟨hx, hb, -⟩ := hC
  obtain ⟨v, hv, rfl, rfl, rfl, rfl⟩ := am_pu_inv h
  obtain ⟨x, rfl, ho⟩ := am_ld_long hv
  exact fun H locs ls hR hS hl hk hn => lv_lload_n hx hb hdg rfl (am_lat hl ho) (hV H locs ls hR hS hl hk hn)
theorem am_t_fload_n {k : Fin 4} (hC : am_X P B D Z p R s m args meth c mi) (hdg : decode (am_cc B mi) pc = .ok (.fload_n k, 1)) (h : am_st P mi (.fload_n k) pc lv st M = some (pc', lv', st', M'))
    (hV : am_V p l e R s m args below meth c Q P B D Z mi k0 n0 pc' lv' st' M') : am_V p l e R s m args below meth c Q P B D Z mi k0 n0 pc lv st M := by
  obtain ⟨hx, hb, -⟩ := hC
  obtain ⟨v, hv, rfl, rfl, rfl, rfl⟩ := am_pu_inv h
  obtain ⟨x, rfl, ho⟩ := am_ld_float hv
  exact fun H locs ls hR hS hl hk hn => lv_fload_n hx hb hdg rfl (am_lat hl ho) (hV H locs ls hR hS hl hk hn)
theorem am_t_dload_n {k : Fin 4} (hC : am_X P B D Z p R s m args meth c mi) (hdg : decode (am_cc B mi) pc = .ok (.dload_n k, 1)) (h : am_st P mi (.dload_n k) pc lv st M = some (pc', lv', st', M'))
    (hV : am_V p l e R s m args below meth c Q P B D Z mi k0 n0 pc' lv' st' M') : am_V p l e R s m args below meth c Q P B D Z mi k0 n0 pc lv st M := by
  obtain ⟨hx, hb, -⟩ := hC
  obtain ⟨v, hv, rfl, rfl, rfl, rfl⟩ := am_pu_inv h
  obtain ⟨x, rfl, ho⟩ := am_ld_double hv
  exact fun H locs ls hR hS hl hk hn => lv_dload_n hx hb hdg rfl (am_lat hl ho) (hV H locs ls hR hS hl hk hn)
theorem am_t_iload {i : Nat} (hC : am_X P B D Z p R s m args meth c mi) (hdg : decode (am_cc B mi) pc = .ok (.iload i, 2)) (h : am_st P mi (.iload i) pc lv st M = some (pc', lv', st', M'))
    (hV : am_V p l e R s m args below meth c Q P B D Z mi k0 n0 pc' lv' st' M') : am_V p l e R s m args below meth c Q P B D Z mi k0 n0 pc lv st M := by
  obtain ⟨hx, hb, -⟩ := hC
  obtain ⟨v, hv, rfl, rfl, rfl, rfl⟩ := am_pu_inv h
  obtain ⟨x, rfl, ho⟩ := am_ld_int hv
  exact fun H locs ls hR hS hl hk hn => lv_iload hx hb hdg (am_lat hl ho) (hV H locs ls hR hS hl hk hn)
theorem am_t_lload {i : Nat} (hC : am_X P B D Z p R s m args meth c mi) (hdg : decode (am_cc B mi) pc = .ok (.lload i, 2)) (h : am_st P mi (.lload i) pc lv st M = some (pc', lv', st', M'))
    (hV : am_V p l e R s m args below meth c Q P B D Z mi k0 n0 pc' lv' st' M') : am_V p l e R s m args below meth c Q P B D Z mi k0 n0 pc lv st M := by
  obtain ⟨hx, hb, -⟩ := hC
  obtain ⟨v, hv, rfl, rfl, rfl, rfl⟩ := am_pu_inv h
  obtain ⟨x, rfl, ho⟩ := am_ld_long hv
  exact fun H locs ls hR hS hl hk hn => lv_lload hx hb hdg (am_lat hl ho) (hV H locs ls hR hS hl hk hn)
theorem am_t_aload_n {k : Fin 4} (hC : am_X P B D Z p R s m args meth c mi) (hdg : decode (am_cc B mi) pc = .ok (.aload_n k, 1)) (h : am_st P mi (.aload_n k) pc lv st M = some (pc', lv', st', M'))
    (hV : am_V p l e R s m args below meth c Q P B D Z mi k0 n0 pc' lv' st' M') : am_V p l e R s m args below meth c Q P B D Z mi k0 n0 pc lv st M := by
  obtain ⟨hx, hb, -⟩ := hC
  obtain ⟨v, hv, rfl, rfl, rfl, rfl⟩ := am_pu_inv h
  obtain ⟨ho, -, a, ha⟩ := am_ld_ref Z hv
  intro H locs ls hR hS hl hk hn
  have K := hV H locs ls hR hS hl hk hn
  have hat := am_lat hl ho
  rw [List.map_cons] at K
  rw [ha] at hat K
  exact lv_aload_n hx hb hdg rfl hat K
theorem am_t_aload {i : Nat} (hC : am_X P B D Z p R s m args meth c mi) (hdg : decode (am_cc B mi) pc = .ok (.aload i, 2)) (h : am_st P mi (.aload i) pc lv st M = some (pc', lv', st', M'))
    (hV : am_V p l e R s m args below meth c Q P B D Z mi k0 n0 pc' lv' st' M') : am_V p l e R s m args below meth c Q P B D Z mi k0 n0 pc lv st M := by
  obtain ⟨hx, hb, -⟩ := hC
  obtain ⟨v, hv, rfl, rfl, rfl, rfl⟩ := am_pu_inv h
  obtain ⟨ho, -, a, ha⟩ := am_ld_ref Z hv
  intro H locs ls hR hS hl hk hn
  have K := hV H locs ls hR hS hl hk hn
  have hat := am_lat hl ho
  rw [List.map_cons] at K
  rw [ha] at hat K
  exact lv_aload hx hb hdg hat K
theorem am_t_istore_n {k : Fin 4} (hC : am_X P B D Z p R s m args meth c mi) (hdg : decode (am_cc B mi) pc = .ok (.istore_n k, 1)) (h : am_st P mi (.istore_n k) pc lv st M = some (pc', lv', st', M'))
    (hV : am_V p l e R s m args below meth c Q P B D Z mi k0 n0 pc' lv' st' M') : am_V p l e R s m args below meth c Q P B D Z mi k0 n0 pc lv st M := by
  obtain ⟨hx, hb, -⟩ := hC
  obtain ⟨v, r, rfl, ⟨u, hu⟩, rfl, rfl, rfl, hcs⟩ := am_so_inv h
  obtain ⟨x, rfl, ho⟩ := am_ld_int hu
  cases ho
  rcases hcs with ⟨hc, -, -⟩ | ⟨-, hi, rfl⟩
  · cases hc
  · exact fun H locs ls hR hS hl hk hn => lv_istore_n hx hb hdg rfl hl hi (am_lt1 Z lv (k : Nat) (.int x)) (fun ls' hl' => hV H locs ls' hR hS hl' hk hn)
theorem am_t_istore {i : Nat} (hC : am_X P B D Z p R s m args meth c mi) (hdg : decode (am_cc B mi) pc = .ok (.istore i, 2)) (h : am_st P mi (.istore i) pc lv st M = some (pc', lv', st', M'))
    (hV : am_V p l e R s m args below meth c Q P B D Z mi k0 n0 pc' lv' st' M') : am_V p l e R s m args below meth c Q P B D Z mi k0 n0 pc lv st M := by
  obtain ⟨hx, hb, -⟩ := hC
  obtain ⟨v, r, rfl, ⟨u, hu⟩, rfl, rfl, rfl, hcs⟩ := am_so_inv h
  obtain ⟨x, rfl, ho⟩ := am_ld_int hu
  cases ho
  rcases hcs with ⟨hc, -, -⟩ | ⟨-, hi, rfl⟩
  · cases hc
  · exact fun H locs ls hR hS hl hk hn => lv_istore hx hb hdg hl hi (am_lt1 Z lv i (.int x)) (fun ls' hl' => hV H locs ls' hR hS hl' hk hn)
theorem am_t_lstore_n {k : Fin 4} (hC : am_X P B D Z p R s m args meth c mi) (hdg : decode (am_cc B mi) pc = .ok (.lstore_n k, 1)) (h : am_st P mi (.lstore_n k) pc lv st M = some (pc', lv', st', M'))
    (hV : am_V p l e R s m args below meth c Q P B D Z mi k0 n0 pc' lv' st' M') : am_V p l e R s m args below meth c Q P B D Z mi k0 n0 pc lv st M := by
  obtain ⟨hx, hb, -⟩ := hC
  obtain ⟨v, r, rfl, ⟨u, hu⟩, rfl, rfl, rfl, hcs⟩ := am_so_inv h
  obtain ⟨x, rfl, ho⟩ := am_ld_long hu
  cases ho
  rcases hcs with ⟨-, hi, rfl⟩ | ⟨hc, -, -⟩
  · exact fun H locs ls hR hS hl hk hn => lv_lstore_n hx hb hdg rfl hl hi (am_lt2 Z lv (k : Nat) (.long x)) (fun ls' hl' => hV H locs ls' hR hS hl' hk hn)
  · exact absurd rfl hc
theorem am_t_lstore {i : Nat} (hC : am_X P B D Z p R s m args meth c mi) (hdg : decode (am_cc B mi) pc = .ok (.lstore i, 2)) (h : am_st P mi (.lstore i) pc lv st M = some (pc', lv', st', M'))
    (hV : am_V p l e R s m args below meth c Q P B D Z mi k0 n0 pc' lv' st' M') : am_V p l e R s m args below meth c Q P B D Z mi k0 n0 pc lv st M := by
  obtain ⟨hx, hb, -⟩ := hC
  obtain ⟨v, r, rfl, ⟨u, hu⟩, rfl, rfl, rfl, hcs⟩ := am_so_inv h
  obtain ⟨x, rfl, ho⟩ := am_ld_long hu
  cases ho
  rcases hcs with ⟨-, hi, rfl⟩ | ⟨hc, -, -⟩
  · exact fun H locs ls hR hS hl hk hn => lv_lstore hx hb hdg hl hi (am_lt2 Z lv i (.long x)) (fun ls' hl' => hV H locs ls' hR hS hl' hk hn)
  · exact absurd rfl hc
theorem am_t_fstore_n {k : Fin 4} (hC : am_X P B D Z p R s m args meth c mi) (hdg : decode (am_cc B mi) pc = .ok (.fstore_n k, 1)) (h : am_st P mi (.fstore_n k) pc lv st M = some (pc', lv', st', M'))
    (hV : am_V p l e R s m args below meth c Q P B D Z mi k0 n0 pc' lv' st' M') : am_V p l e R s m args below meth c Q P B D Z mi k0 n0 pc lv st M := by
  obtain ⟨hx, hb, -⟩ := hC
  obtain ⟨v, r, rfl, ⟨u, hu⟩, rfl, rfl, rfl, hcs⟩ := am_so_inv h
  obtain ⟨x, rfl, ho⟩ := am_ld_float hu
  cases ho
  rcases hcs with ⟨hc, -, -⟩ | ⟨-, hi, rfl⟩
  · cases hc
  · exact fun H locs ls hR hS hl hk hn => lv_fstore_n hx hb hdg rfl hl hi (am_lt1 Z lv (k : Nat) (.float x)) (fun ls' hl' => hV H locs ls' hR hS hl' hk hn)
theorem am_t_dstore_n {k : Fin 4} (hC : am_X P B D Z p R s m args meth c mi) (hdg : decode (am_cc B mi) pc = .ok (.dstore_n k, 1)) (h : am_st P mi (.dstore_n k) pc lv st M = some (pc', lv', st', M'))
    (hV : am_V p l e R s m args below meth c Q P B D Z mi k0 n0 pc' lv' st' M') : am_V p l e R s m args below meth c Q P B D Z mi k0 n0 pc lv st M := by
  obtain ⟨hx, hb, -⟩ := hC
  obtain ⟨v, r, rfl, ⟨u, hu⟩, rfl, rfl, rfl, hcs⟩ := am_so_inv h
  obtain ⟨x, rfl, ho⟩ := am_ld_double hu
  cases ho
  rcases hcs with ⟨-, hi, rfl⟩ | ⟨hc, -, -⟩
  · exact fun H locs ls hR hS hl hk hn => lv_dstore_n hx hb hdg rfl hl hi (am_lt2 Z lv (k : Nat) (.double x)) (fun ls' hl' => hV H locs ls' hR hS hl' hk hn)
  · exact absurd rfl hc
theorem am_t_astore_n {k : Fin 4} (hC : am_X P B D Z p R s m args meth c mi) (hdg : decode (am_cc B mi) pc = .ok (.astore_n k, 1)) (h : am_st P mi (.astore_n k) pc lv st M = some (pc', lv', st', M'))
    (hV : am_V p l e R s m args below meth c Q P B D Z mi k0 n0 pc' lv' st' M') : am_V p l e R s m args below meth c Q P B D Z mi k0 n0 pc lv st M := by
  obtain ⟨hx, hb, -⟩ := hC
  obtain ⟨v, r, rfl, ⟨u, hu⟩, rfl, rfl, rfl, hcs⟩ := am_so_inv h
  obtain ⟨ho, hc1, a, ha⟩ := am_ld_ref Z hu
  cases ho
  rcases hcs with ⟨hc, -, -⟩ | ⟨-, hi, rfl⟩
  · omega
  · intro H locs ls hR hS hl hk hn
    have e1 := am_lt1 Z lv (k : Nat) v
    rw [List.map_cons, ha]
    rw [ha] at e1
    exact lv_astore_n hx hb hdg rfl hl hi e1 (fun ls' hl' => hV H locs ls' hR hS hl' hk hn)
theorem am_t_astore {i : Nat} (hC : am_X P B D Z p R s m args meth c mi) (hdg : decode (am_cc B mi) pc = .ok (.astore i, 2)) (h : am_st P mi (.astore i) pc lv st M = some (pc', lv', st', M'))
    (hV : am_V p l e R s m args below meth c Q P B D Z mi k0 n0 pc' lv' st' M') : am_V p l e R s m args below meth c Q P B D Z mi k0 n0 pc lv st M := by
  obtain ⟨hx, hb, -⟩ := hC
  obtain ⟨v, r, rfl, ⟨u, hu⟩, rfl, rfl, rfl, hcs⟩ := am_so_inv h
  obtain ⟨ho, hc1, a, ha⟩ := am_ld_ref Z hu
  cases ho
  rcases hcs with ⟨hc, -, -⟩ | ⟨-, hi, rfl⟩
  · omega
  · intro H locs ls hR hS hl hk hn
    have e1 := am_lt1 Z lv i v
    rw [List.map_cons, ha]
    rw [ha] at e1
    exact lv_astore hx hb hdg hl hi e1 (fun ls' hl' => hV H locs ls' hR hS hl' hk hn)
theorem am_t_iadd (hC : am_X P B D Z p R s m args meth c mi) (hdg : decode (am_cc B mi) pc = .ok (.iadd, 1)) (h : am_st P mi (.iadd) pc lv st M = some (pc', lv', st', M'))
    (hV : am_V p l e R s m args below meth c Q P B D Z mi k0 n0 pc' lv' st' M') : am_V p l e R s m args below meth c Q P B D Z mi k0 n0 pc lv st M := by
  obtain ⟨hx, hb, -⟩ := hC
  obtain ⟨x, y, r, v, rfl, hv, rfl, rfl, rfl, rfl⟩ := am_2_inv h
  obtain ⟨a, b, rfl, rfl, rfl⟩ := am_fI_inv hv
  exact fun H locs ls hR hS hl hk hn => lv_iadd hx hb hdg (hV H locs ls hR hS hl hk hn)
theorem am_t_isub (hC : am_X P B D Z p R s m args meth c mi) (hdg : decode (am_cc B mi) pc = .ok (.isub, 1)) (h : am_st P mi (.isub) pc lv st M = some (pc', lv', st', M'))
    (hV : am_V p l e R s m args below meth c Q P B D Z mi k0 n0 pc' lv' st' M') : am_V p l e R s m args below meth c Q P B D Z mi k0 n0 pc lv st M := by
  obtain ⟨hx, hb, -⟩ := hC
  obtain ⟨x, y, r, v, rfl, hv, rfl, rfl, rfl, rfl⟩ := am_2_inv h
  obtain ⟨a, b, rfl, rfl, rfl⟩ := am_fI_inv hv
  exact fun H locs ls hR hS hl hk hn => lv_isub hx hb hdg (hV H locs ls hR hS hl hk hn)
theorem am_t_imul (hC : am_X P B D Z p R s m args meth c mi) (hdg : decode (am_cc B mi) pc = .ok (.imul, 1)) (h : am_st P mi (.imul) pc lv st M = some (pc', lv', st', M'))
    (hV : am_V p l e R s m args below meth c Q P B D Z mi k0 n0 pc' lv' st' M') : am_V p l e R s m args below meth c Q P B D Z mi k0 n0 pc lv st M := by
  obtain ⟨hx, hb, -⟩ := hC
  obtain ⟨x, y, r, v, rfl, hv, rfl, rfl, rfl, rfl⟩ := am_2_inv h
  obtain ⟨a, b, rfl, rfl, rfl⟩ := am_fI_inv hv
  exact fun H locs ls hR hS hl hk hn => lv_imul hx hb hdg (hV H locs ls hR hS hl hk hn)
theorem am_t_iand (hC : am_X P B D Z p R s m args meth c mi) (hdg : decode (am_cc B mi) pc = .ok (.iand, 1)) (h : am_st P mi (.iand) pc lv st M = some (pc', lv', st', M'))
    (hV : am_V p l e R s m args below meth c Q P B D Z mi k0 n0 pc' lv' st' M') : am_V p l e R s m args below meth c Q P B D Z mi k0 n0 pc lv st M := by
  obtain ⟨hx, hb, -⟩ := hC
  obtain ⟨x, y, r, v, rfl, hv, rfl, rfl, rfl, rfl⟩ := am_2_inv h
  obtain ⟨a, b, rfl, rfl, rfl⟩ := am_fI_inv hv
  exact fun H locs ls hR hS hl hk hn => lv_iand hx hb hdg (hV H locs ls hR hS hl hk hn)
theorem am_t_ior (hC : am_X P B D Z p R s m args meth c mi) (hdg : decode (am_cc B mi) pc = .ok (.ior, 1)) (h : am_st P mi (.ior) pc lv st M = some (pc', lv', st', M'))
    (hV : am_V p l e R s m args below meth c Q P B D Z mi k0 n0 pc' lv' st' M') : am_V p l e R s m args below meth c Q P B D Z mi k0 n0 pc lv st M := by
  obtain ⟨hx, hb, -⟩ := hC
  obtain ⟨x, y, r, v, rfl, hv, rfl, rfl, rfl, rfl⟩ := am_2_inv h
  obtain ⟨a, b, rfl, rfl, rfl⟩ := am_fI_inv hv
  exact fun H locs ls hR hS hl hk hn => lv_ior hx hb hdg (hV H locs ls hR hS hl hk hn)
theorem am_t_ixor (hC : am_X P B D Z p R s m args meth c mi) (hdg : decode (am_cc B mi) pc = .ok (.ixor, 1)) (h : am_st P mi (.ixor) pc lv st M = some (pc', lv', st', M'))
    (hV : am_V p l e R s m args below meth c Q P B D Z mi k0 n0 pc' lv' st' M') : am_V p l e R s m args below meth c Q P B D Z mi k0 n0 pc lv st M := by
  obtain ⟨hx, hb, -⟩ := hC
  obtain ⟨x, y, r, v, rfl, hv, rfl, rfl, rfl, rfl⟩ := am_2_inv h
  obtain ⟨a, b, rfl, rfl, rfl⟩ := am_fI_inv hv
  exact fun H locs ls hR hS hl hk hn => lv_ixor hx hb hdg (hV H locs ls hR hS hl hk hn)
theorem am_t_ishl (hC : am_X P B D Z p R s m args meth c mi) (hdg : decode (am_cc B mi) pc = .ok (.ishl, 1)) (h : am_st P mi (.ishl) pc lv st M = some (pc', lv', st', M'))
    (hV : am_V p l e R s m args below meth c Q P B D Z mi k0 n0 pc' lv' st' M') : am_V p l e R s m args below meth c Q P B D Z mi k0 n0 pc lv st M := by
  obtain ⟨hx, hb, -⟩ := hC
  obtain ⟨x, y, r, v, rfl, hv, rfl, rfl, rfl, rfl⟩ := am_2_inv h
  obtain ⟨a, b, rfl, rfl, rfl⟩ := am_fI_inv hv
  exact fun H locs ls hR hS hl hk hn => lv_ishl hx hb hdg (hV H locs ls hR hS hl hk hn)
theorem am_t_ishr (hC : am_X P B D Z p R s m args meth c mi) (hdg : decode (am_cc B mi) pc = .ok (.ishr, 1)) (h : am_st P mi (.ishr) pc lv st M = some (pc', lv', st', M'))
    (hV : am_V p l e R s m args below meth c Q P B D Z mi k0 n0 pc' lv' st' M') : am_V p l e R s m args below meth c Q P B D Z mi k0 n0 pc lv st M := by
  obtain ⟨hx, hb, -⟩ := hC
  obtain ⟨x, y, r, v, rfl, hv, rfl, rfl, rfl, rfl⟩ := am_2_inv h
  obtain ⟨a, b, rfl, rfl, rfl⟩ := am_fI_inv hv
  exact fun H locs ls hR hS hl hk hn => lv_ishr hx hb hdg (hV H locs ls hR hS hl hk hn)
theorem am_t_iushr (hC : am_X P B D Z p R s m args meth c mi) (hdg : decode (am_cc B mi) pc = .ok (.iushr, 1)) (h : am_st P mi (.iushr) pc lv st M = some (pc', lv', st', M'))
    (hV : am_V p l e R s m args below meth c Q P B D Z mi k0 n0 pc' lv' st' M') : am_V p l e R s m args below meth c Q P B D Z mi k0 n0 pc lv st M := by
  obtain ⟨hx, hb, -⟩ := hC
  obtain ⟨x, y, r, v, rfl, hv, rfl, rfl, rfl, rfl⟩ := am_2_inv h
  obtain ⟨a, b, rfl, rfl, rfl⟩ := am_fI_inv hv
  exact fun H locs ls hR hS hl hk hn => lv_iushr hx hb hdg rfl (hV H locs ls hR hS hl hk hn)
theorem am_t_idiv (hC : am_X P B D Z p R s m args meth c mi) (hdg : decode (am_cc B mi) pc = .ok (.idiv, 1)) (h : am_st P mi (.idiv) pc lv st M = some (pc', lv', st', M'))
    (hV : am_V p l e R s m args below meth c Q P B D Z mi k0 n0 pc' lv' st' M') : am_V p l e R s m args below meth c Q P B D Z mi k0 n0 pc lv st M := by
  obtain ⟨hx, hb, -⟩ := hC
  obtain ⟨x, y, r, v, rfl, hv, rfl, rfl, rfl, rfl⟩ := am_2_inv h
  obtain ⟨a, b, rfl, rfl, hne, rfl⟩ := am_fID_inv hv
  exact fun H locs ls hR hS hl hk hn => lv_idiv hx hb hdg hne (hV H locs ls hR hS hl hk hn)
theorem am_t_irem (hC : am_X P B D Z p R s m args meth c mi) (hdg : decode (am_cc B mi) pc = .ok (.irem, 1)) (h : am_st P mi (.irem) pc lv st M = some (pc', lv', st', M'))
    (hV : am_V p l e R s m args below meth c Q P B D Z mi k0 n0 pc' lv' st' M') : am_V p l e R s m args below meth c Q P B D Z mi k0 n0 pc lv st M := by
  obtain ⟨hx, hb, -⟩ := hC
  obtain ⟨x, y, r, v, rfl, hv, rfl, rfl, rfl, rfl⟩ := am_2_inv h
  obtain ⟨a, b, rfl, rfl, hne, rfl⟩ := am_fID_inv hv
  exact fun H locs ls hR hS hl hk hn => lv_irem hx hb hdg hne (hV H locs ls hR hS hl hk hn)
theorem am_t_ladd (hC : am_X P B D Z p R s m args meth c mi) (hdg : decode (am_cc B mi) pc = .ok (.ladd, 1)) (h : am_st P mi (.ladd) pc lv st M = some (pc', lv', st', M'))
    (hV : am_V p l e R s m args below meth c Q P B D Z mi k0 n0 pc' lv' st' M') : am_V p l e R s m args below meth c Q P B D Z mi k0 n0 pc lv st M := by
  obtain ⟨hx, hb, -⟩ := hC
  obtain ⟨x, y, r, v, rfl, hv, rfl, rfl, rfl, rfl⟩ := am_2_inv h
  obtain ⟨a, b, rfl, rfl, rfl⟩ := am_fL_inv hv
  exact fun H locs ls hR hS hl hk hn => lv_ladd hx hb hdg (hV H locs ls hR hS hl hk hn)
theorem am_t_lsub (hC : am_X P B D Z p R s m args meth c mi) (hdg : decode (am_cc B mi) pc = .ok (.lsub, 1)) (h : am_st P mi (.lsub) pc lv st M = some (pc', lv', st', M'))
    (hV : am_V p l e R s m args below meth c Q P B D Z mi k0 n0 pc' lv' st' M') : am_V p l e R s m args below meth c Q P B D Z mi k0 n0 pc lv st M := by
  obtain ⟨hx, hb, -⟩ := hC
  obtain ⟨x, y, r, v, rfl, hv, rfl, rfl, rfl, rfl⟩ := am_2_inv h
  obtain ⟨a, b, rfl, rfl, rfl⟩ := am_fL_inv hv
  exact fun H locs ls hR hS hl hk hn => lv_lsub hx hb hdg (hV H locs ls hR hS hl hk hn)
theorem am_t_lmul (hC : am_X P B D Z p R s m args meth c mi) (hdg : decode (am_cc B mi) pc = .ok (.lmul, 1)) (h : am_st P mi (.lmul) pc lv st M = some (pc', lv', st', M'))
    (hV : am_V p l e R s m args below meth c Q P B D Z mi k0 n0 pc' lv' st' M') : am_V p l e R s m args below meth c Q P B D Z mi k0 n0 pc lv st M := by
  obtain ⟨hx, hb, -⟩ := hC
  obtain ⟨x, y, r, v, rfl, hv, rfl, rfl, rfl, rfl⟩ := am_2_inv h
  obtain ⟨a, b, rfl, rfl, rfl⟩ := am_fL_inv hv
  exact fun H locs ls hR hS hl hk hn => lv_lmul hx hb hdg (hV H locs ls hR hS hl hk hn)
theorem am_t_land (hC : am_X P B D Z p R s m args meth c mi) (hdg : decode (am_cc B mi) pc = .ok (.land, 1)) (h : am_st P mi (.land) pc lv st M = some (pc', lv', st', M'))
    (hV : am_V p l e R s m args below meth c Q P B D Z mi k0 n0 pc' lv' st' M') : am_V p l e R s m args below meth c Q P B D Z mi k0 n0 pc lv st M := by
  obtain ⟨hx, hb, -⟩ := hC
  obtain ⟨x, y, r, v, rfl, hv, rfl, rfl, rfl, rfl⟩ := am_2_inv h
  obtain ⟨a, b, rfl, rfl, rfl⟩ := am_fL_inv hv
  exact fun H locs ls hR hS hl hk hn => lv_land hx hb hdg (hV H locs ls hR hS hl hk hn)
theorem am_t_ldiv (hC : am_X P B D Z p R s m args meth c mi) (hdg : decode (am_cc B mi) pc = .ok (.ldiv, 1)) (h : am_st P mi (.ldiv) pc lv st M = some (pc', lv', st', M'))
    (hV : am_V p l e R s m args below meth c Q P B D Z mi k0 n0 pc' lv' st' M') : am_V p l e R s m args below meth c Q P B D Z mi k0 n0 pc lv st M := by
  obtain ⟨hx, hb, -⟩ := hC
  obtain ⟨x, y, r, v, rfl, hv, rfl, rfl, rfl, rfl⟩ := am_2_inv h
  obtain ⟨a, b, rfl, rfl, hne, rfl⟩ := am_fLD_inv hv
  exact fun H locs ls hR hS hl hk hn => lv_ldiv hx hb hdg hne (hV H locs ls hR hS hl hk hn)
theorem am_t_lshl (hC : am_X P B D Z p R s m args meth c mi) (hdg : decode (am_cc B mi) pc = .ok (.lshl, 1)) (h : am_st P mi (.lshl) pc lv st M = some (pc', lv', st', M'))
    (hV : am_V p l e R s m args below meth c Q P B D Z mi k0 n0 pc' lv' st' M') : am_V p l e R s m args below meth c Q P B D Z mi k0 n0 pc lv st M := by
  obtain ⟨hx, hb, -⟩ := hC
  obtain ⟨x, y, r, v, rfl, hv, rfl, rfl, rfl, rfl⟩ := am_2_inv h
  obtain ⟨a, b, rfl, rfl, rfl⟩ := am_fLI_inv hv
  exact fun H locs ls hR hS hl hk hn => lv_lshl hx hb hdg rfl (hV H locs ls hR hS hl hk hn)
theorem am_t_lshr (hC : am_X P B D Z p R s m args meth c mi) (hdg : decode (am_cc B mi) pc = .ok (.lshr, 1)) (h : am_st P mi (.lshr) pc lv st M = some (pc', lv', st', M'))
    (hV : am_V p l e R s m args below meth c Q P B D Z mi k0 n0 pc' lv' st' M') : am_V p l e R s m args below meth c Q P B D Z mi k0 n0 pc lv st M := by
  obtain ⟨hx, hb, -⟩ := hC
  obtain ⟨x, y, r, v, rfl, hv, rfl, rfl, rfl, rfl⟩ := am_2_inv h
  obtain ⟨a, b, rfl, rfl, rfl⟩ := am_fLI_inv hv
  exact fun H locs ls hR hS hl hk hn => lv_lshr hx hb hdg rfl (hV H locs ls hR hS hl hk hn)
theorem am_t_dadd (hC : am_X P B D Z p R s m args meth c mi) (hdg : decode (am_cc B mi) pc = .ok (.dadd, 1)) (h : am_st P mi (.dadd) pc lv st M = some (pc', lv', st', M'))
    (hV : am_V p l e R s m args below meth c Q P B D Z mi k0 n0 pc' lv' st' M') : am_V p l e R s m args below meth c Q P B D Z mi k0 n0 pc lv st M := by
  obtain ⟨hx, hb, -⟩ := hC
  obtain ⟨x, y, r, v, rfl, hv, rfl, rfl, rfl, rfl⟩ := am_2_inv h
  obtain ⟨a, b, rfl, rfl, hne, rfl⟩ := am_fD_inv hv
  exact fun H locs ls hR hS hl hk hn => lv_dadd hx hb hdg hne (hV H locs ls hR hS hl hk hn)
theorem am_t_dsub (hC : am_X P B D Z p R s m args meth c mi) (hdg : decode (am_cc B mi) pc = .ok (.dsub, 1)) (h : am_st P mi (.dsub) pc lv st M = some (pc', lv', st', M'))
    (hV : am_V p l e R s m args below meth c Q P B D Z mi k0 n0 pc' lv' st' M') : am_V p l e R s m args below meth c Q P B D Z mi k0 n0 pc lv st M := by
  obtain ⟨hx, hb, -⟩ := hC
  obtain ⟨x, y, r, v, rfl, hv, rfl, rfl, rfl, rfl⟩ := am_2_inv h
  obtain ⟨a, b, rfl, rfl, hne, rfl⟩ := am_fD_inv hv
  exact fun H locs ls hR hS hl hk hn => lv_dsub hx hb hdg hne (hV H locs ls hR hS hl hk hn)
theorem am_t_dmul (hC : am_X P B D Z p R s m args meth c mi) (hdg : decode (am_cc B mi) pc = .ok (.dmul, 1)) (h : am_st P mi (.dmul) pc lv st M = some (pc', lv', st', M'))
    (hV : am_V p l e R s m args below meth c Q P B D Z mi k0 n0 pc' lv' st' M') : am_V p l e R s m args below meth c Q P B D Z mi k0 n0 pc lv st M := by
  obtain ⟨hx, hb, -⟩ := hC
  obtain ⟨x, y, r, v, rfl, hv, rfl, rfl, rfl, rfl⟩ := am_2_inv h
  obtain ⟨a, b, rfl, rfl, hne, rfl⟩ := am_fD_inv hv
  exact fun H locs ls hR hS hl hk hn => lv_dmul hx hb hdg hne (hV H locs ls hR hS hl hk hn)
theorem am_t_ddiv (hC : am_X P B D Z p R s m args meth c mi) (hdg : decode (am_cc B mi) pc = .ok (.ddiv, 1)) (h : am_st P mi (.ddiv) pc lv st M = some (pc', lv', st', M'))
    (hV : am_V p l e R s m args below meth c Q P B D Z mi k0 n0 pc' lv' st' M') : am_V p l e R s m args below meth c Q P B D Z mi k0 n0 pc lv st M := by
  obtain ⟨hx, hb, -⟩ := hC
  obtain ⟨x, y, r, v, rfl, hv, rfl, rfl, rfl, rfl⟩ := am_2_inv h
  obtain ⟨a, b, rfl, rfl, hne, rfl⟩ := am_fD_inv hv
  exact fun H locs ls hR hS hl hk hn => lv_ddiv hx hb hdg hne (hV H locs ls hR hS hl hk hn)
theorem am_t_fsub (hC : am_X P B D Z p R s m args meth c mi) (hdg : decode (am_cc B mi) pc = .ok (.fsub, 1)) (h : am_st P mi (.fsub) pc lv st M = some (pc', lv', st', M'))
    (hV : am_V p l e R s m args below meth c Q P B D Z mi k0 n0 pc' lv' st' M') : am_V p l e R s m args below meth c Q P B D Z mi k0 n0 pc lv st M := by
  obtain ⟨hx, hb, -⟩ := hC
  obtain ⟨x, y, r, v, rfl, hv, rfl, rfl, rfl, rfl⟩ := am_2_inv h
  obtain ⟨a, b, rfl, rfl, hne, rfl⟩ := am_fF_inv hv
  exact fun H locs ls hR hS hl hk hn => lv_fsub hx hb hdg hne (hV H locs ls hR hS hl hk hn)
theorem am_t_fmul (hC : am_X P B D Z p R s m args meth c mi) (hdg : decode (am_cc B mi) pc = .ok (.fmul, 1)) (h : am_st P mi (.fmul) pc lv st M = some (pc', lv', st', M'))
    (hV : am_V p l e R s m args below meth c Q P B D Z mi k0 n0 pc' lv' st' M') : am_V p l e R s m args below meth c Q P B D Z mi k0 n0 pc lv st M := by
  obtain ⟨hx, hb, -⟩ := hC
  obtain ⟨x, y, r, v, rfl, hv, rfl, rfl, rfl, rfl⟩ := am_2_inv h
  obtain ⟨a, b, rfl, rfl, hne, rfl⟩ := am_fF_inv hv
  exact fun H locs ls hR hS hl hk hn => lv_fmul hx hb hdg hne (hV H locs ls hR hS hl hk hn)
theorem am_t_fdiv (hC : am_X P B D Z p R s m args meth c mi) (hdg : decode (am_cc B mi) pc = .ok (.fdiv, 1)) (h : am_st P mi (.fdiv) pc lv st M = some (pc', lv', st', M'))
    (hV : am_V p l e R s m args below meth c Q P B D Z mi k0 n0 pc' lv' st' M') : am_V p l e R s m args below meth c Q P B D Z mi k0 n0 pc lv st M := by
  obtain ⟨hx, hb, -⟩ := hC
  obtain ⟨x, y, r, v, rfl, hv, rfl, rfl, rfl, rfl⟩ := am_2_inv h
  obtain ⟨a, b, rfl, rfl, hne, rfl⟩ := am_fF_inv hv
  exact fun H locs ls hR hS hl hk hn => lv_fdiv hx hb hdg hne (hV H locs ls hR hS hl hk hn)
theorem am_t_lcmp (hC : am_X P B D Z p R s m args meth c mi) (hdg : decode (am_cc B mi) pc = .ok (.lcmp, 1)) (h : am_st P mi (.lcmp) pc lv st M = some (pc', lv', st', M'))
    (hV : am_V p l e R s m args below meth c Q P B D Z mi k0 n0 pc' lv' st' M') : am_V p l e R s m args below meth c Q P B D Z mi k0 n0 pc lv st M := by
  obtain ⟨hx, hb, -⟩ := hC
  obtain ⟨x, y, r, v, rfl, hv, rfl, rfl, rfl, rfl⟩ := am_2_inv h
  split at hv
  · cases hv
    exact fun H locs ls hR hS hl hk hn => W.lcmp hx hb hdg (hV H locs ls hR hS hl hk hn)
  · cases hv
theorem am_t_dcmp {op : CmpOp} (hC : am_X P B D Z p R s m args meth c mi) (hdg : decode (am_cc B mi) pc = .ok (.dcmp op, 1)) (h : am_st P mi (.dcmp op) pc lv st M = some (pc', lv', st', M'))
    (hV : am_V p l e R s m args below meth c Q P B D Z mi k0 n0 pc' lv' st' M') : am_V p l e R s m args below meth c Q P B D Z mi k0 n0 pc lv st M := by
  obtain ⟨hx, hb, -⟩ := hC
  obtain ⟨x, y, r, v, rfl, hv, rfl, rfl, rfl, rfl⟩ := am_2_inv h
  split at hv
  · cases hv
    exact fun H locs ls hR hS hl hk hn => lv_dcmp hx hb hdg (hV H locs ls hR hS hl hk hn)
  · cases hv
theorem am_t_fcmp {op : CmpOp} (hC : am_X P B D Z p R s m args meth c mi) (hdg : decode (am_cc B mi) pc = .ok (.fcmp op, 1)) (h : am_st P mi (.fcmp op) pc lv st M = some (pc', lv', st', M'))
    (hV : am_V p l e R s m args below meth c Q P B D Z mi k0 n0 pc' lv' st' M') : am_V p l e R s m args below meth c Q P B D Z mi k0 n0 pc lv st M := by
  obtain ⟨hx, hb, -⟩ := hC
  obtain ⟨x, y, r, v, rfl, hv, rfl, rfl, rfl, rfl⟩ := am_2_inv h
  split at hv
  · cases hv
    exact fun H locs ls hR hS hl hk hn => lv_fcmp hx hb hdg (hV H locs ls hR hS hl hk hn)
  · cases hv
theorem am_t_ineg (hC : am_X P B D Z p R s m args meth c mi) (hdg : decode (am_cc B mi) pc = .ok (.ineg, 1)) (h : am_st P mi (.ineg) pc lv st M = some (pc', lv', st', M'))
    (hV : am_V p l e R s m args below meth c Q P B D Z mi k0 n0 pc' lv' st' M') : am_V p l e R s m args below meth c Q P B D Z mi k0 n0 pc lv st M := by
  obtain ⟨hx, hb, -⟩ := hC
  obtain ⟨x, r, v, rfl, hv, rfl, rfl, rfl, rfl⟩ := am_1_inv h
  split at hv
  · cases hv
    exact fun H locs ls hR hS hl hk hn => lv_ineg hx hb hdg (hV H locs ls hR hS hl hk hn)
  · cases hv
theorem am_t_i2l (hC : am_X P B D Z p R s m args meth c mi) (hdg : decode (am_cc B mi) pc = .ok (.i2l, 1)) (h : am_st P mi (.i2l) pc lv st M = some (pc', lv', st', M'))
    (hV : am_V p l e R s m args below meth c Q P B D Z mi k0 n0 pc' lv' st' M') : am_V p l e R s m args below meth c Q P B D Z mi k0 n0 pc lv st M := by
  obtain ⟨hx, hb, -⟩ := hC
  obtain ⟨x, r, v, rfl, hv, rfl, rfl, rfl, rfl⟩ := am_1_inv h
  split at hv
  · cases hv
    exact fun H locs ls hR hS hl hk hn => lv_i2l hx hb hdg rfl (hV H locs ls hR hS hl hk hn)
  · cases hv
theorem am_t_l2i (hC : am_X P B D Z p R s m args meth c mi) (hdg : decode (am_cc B mi) pc = .ok (.l2i, 1)) (h : am_st P mi (.l2i) pc lv st M = some (pc', lv', st', M'))
    (hV : am_V p l e R s m args below meth c Q P B D Z mi k0 n0 pc' lv' st' M') : am_V p l e R s m args below meth c Q P B D Z mi k0 n0 pc lv st M := by
  obtain ⟨hx, hb, -⟩ := hC
  obtain ⟨x, r, v, rfl, hv, rfl, rfl, rfl, rfl⟩ := am_1_inv h
  split at hv
  · cases hv
    exact fun H locs ls hR hS hl hk hn => lv_l2i hx hb hdg rfl (hV H locs ls hR hS hl hk hn)
  · cases hv
theorem am_t_l2d (hC : am_X P B D Z p R s m args meth c mi) (hdg : decode (am_cc B mi) pc = .ok (.l2d, 1)) (h : am_st P mi (.l2d) pc lv st M = some (pc', lv', st', M'))
    (hV : am_V p l e R s m args below meth c Q P B D Z mi k0 n0 pc' lv' st' M') : am_V p l e R s m args below meth c Q P B D Z mi k0 n0 pc lv st M := by
  obtain ⟨hx, hb, -⟩ := hC
  obtain ⟨x, r, v, rfl, hv, rfl, rfl, rfl, rfl⟩ := am_1_inv h
  split at hv
  · cases hv
    exact fun H locs ls hR hS hl hk hn => lv_l2d hx hb hdg (hV H locs ls hR hS hl hk hn)
  · cases hv
theorem am_t_i2f (hC : am_X P B D Z p R s m args meth c mi) (hdg : decode (am_cc B mi) pc = .ok (.i2f, 1)) (h : am_st P mi (.i2f) pc lv st M = some (pc', lv', st', M'))
    (hV : am_V p l e R s m args below meth c Q P B D Z mi k0 n0 pc' lv' st' M') : am_V p l e R s m args below meth c Q P B D Z mi k0 n0 pc lv st M := by
  obtain ⟨hx, hb, -⟩ := hC
  obtain ⟨x, r, v, rfl, hv, rfl, rfl, rfl, rfl⟩ := am_1_inv h
  split at hv
  · cases hv
    exact fun H locs ls hR hS hl hk hn => lv_i2f hx hb hdg (hV H locs ls hR hS hl hk hn)
  · cases hv
theorem am_t_d2l (hC : am_X P B D Z p R s m args meth c mi) (hdg : decode (am_cc B mi) pc = .ok (.d2l, 1)) (h : am_st P mi (.d2l) pc lv st M = some (pc', lv', st', M'))
    (hV : am_V p l e R s m args below meth c Q P B D Z mi k0 n0 pc' lv' st' M') : am_V p l e R s m args below meth c Q P B D Z mi k0 n0 pc lv st M := by
  obtain ⟨hx, hb, -⟩ := hC
  obtain ⟨x, r, v, rfl, hv, rfl, rfl, rfl, rfl⟩ := am_1_inv h
  split at hv
  · cases hv
    exact fun H locs ls hR hS hl hk hn => lv_d2l hx hb hdg (hV H locs ls hR hS hl hk hn)
  · cases hv
theorem am_t_f2i (hC : am_X P B D Z p R s m args meth c mi) (hdg : decode (am_cc B mi) pc = .ok (.f2i, 1)) (h : am_st P mi (.f2i) pc lv st M = some (pc', lv', st', M'))
    (hV : am_V p l e R s m args below meth c Q P B D Z mi k0 n0 pc' lv' st' M') : am_V p l e R s m args below meth c Q P B D Z mi k0 n0 pc lv st M := by
  obtain ⟨hx, hb, -⟩ := hC
  obtain ⟨x, r, v, rfl, hv, rfl, rfl, rfl, rfl⟩ := am_1_inv h
  split at hv
  · cases hv
    exact fun H locs ls hR hS hl hk hn => lv_f2i hx hb hdg (hV H locs ls hR hS hl hk hn)
  · cases hv
theorem am_t_iinc {i : Nat} {n : Int} (hC : am_X P B D Z p R s m args meth c mi) (hdg : decode (am_cc B mi) pc = .ok (.iinc i n, 3)) (h : am_st P mi (.iinc i n) pc lv st M = some (pc', lv', st', M'))
    (hV : am_V p l e R s m args below meth c Q P B D Z mi k0 n0 pc' lv' st' M') : am_V p l e R s m args below meth c Q P B D Z mi k0 n0 pc lv st M := by
  obtain ⟨hx, hb, -⟩ := hC
  unfold am_st at h
  dsimp only at h
  split at h
  · rename_i x ho
    by_cases hi : i < am_mxl P mi
    · rw [if_pos hi] at h
      cases h
      intro H locs ls hR hS hl hk hn
      obtain ⟨k, hk'⟩ := List.getElem?_of_mem (List.mem_map.mpr ⟨(i, .int x), am_lkm ho, rfl⟩ : (i, am_tr Z.2.1 Z.2.2 (.int x)) ∈ am_lt Z lv)
      exact lv_iinc hx hb hdg hl (k := k) hk' rfl hi (am_lt1 Z lv i (.int _)) (fun ls' hl' => hV H locs ls' hR hS hl' hk hn)
    · rw [if_neg hi] at h; cases h
  · cases h
theorem am_t_dup (hC : am_X P B D Z p R s m args meth c mi) (hdg : decode (am_cc B mi) pc = .ok (.dup, 1)) (h : am_st P mi (.dup) pc lv st M = some (pc', lv', st', M'))
    (hV : am_V p l e R s m args below meth c Q P B D Z mi k0 n0 pc' lv' st' M') : am_V p l e R s m args below meth c Q P B D Z mi k0 n0 pc lv st M := by
  obtain ⟨hx, hb, -⟩ := hC
  unfold am_st at h
  dsimp only at h
  split at h
  · rename_i v r
    by_cases hc : v.category = 1
    · rw [if_pos hc] at h
      cases h
      exact fun H locs ls hR hS hl hk hn => lv_dup hx hb hdg (by rw [am_cat]; exact hc) (hV H locs ls hR hS hl hk hn)
    · rw [if_neg hc] at h; cases h
  · cases h
theorem am_t_pop (hC : am_X P B D Z p R s m args meth c mi) (hdg : decode (am_cc B mi) pc = .ok (.pop, 1)) (h : am_st P mi (.pop) pc lv st M = some (pc', lv', st', M'))
    (hV : am_V p l e R s m args below meth c Q P B D Z mi k0 n0 pc' lv' st' M') : am_V p l e R s m args below meth c Q P B D Z mi k0 n0 pc lv st M := by
  obtain ⟨hx, hb, -⟩ := hC
  unfold am_st at h
  dsimp only at h
  split at h
  · rename_i v r
    by_cases hc : v.category = 1
    · rw [if_pos hc] at h
      cases h
      exact fun H locs ls hR hS hl hk hn => lv_pop hx hb hdg (by rw [am_cat]; exact hc) (hV H locs ls hR hS hl hk hn)
    · rw [if_neg hc] at h; cases h
  · cases h
theorem am_t_pop2 (hC : am_X P B D Z p R s m args meth c mi) (hdg : decode (am_cc B mi) pc = .ok (.pop2, 1)) (h : am_st P mi (.pop2) pc lv st M = some (pc', lv', st', M'))
    (hV : am_V p l e R s m args below meth c Q P B D Z mi k0 n0 pc' lv' st' M') : am_V p l e R s m args below meth c Q P B D Z mi k0 n0 pc lv st M := by
  obtain ⟨hx, hb, -⟩ := hC
  unfold am_st at h
  dsimp only at h
  split at h
  · rename_i v r
    by_cases hc : v.category = 2
    · rw [if_pos hc] at h
      cases h
      exact fun H locs ls hR hS hl hk hn => lv_pop2_2 hx hb hdg (by rw [am_cat]; exact hc) (hV H locs ls hR hS hl hk hn)
    · rw [if_neg hc] at h; cases h
  · cases h
theorem am_t_dup2 (hC : am_X P B D Z p R s m args meth c mi) (hdg : decode (am_cc B mi) pc = .ok (.dup2, 1)) (h : am_st P mi (.dup2) pc lv st M = some (pc', lv', st', M'))
    (hV : am_V p l e R s m args below meth c Q P B D Z mi k0 n0 pc' lv' st' M') : am_V p l e R s m args below meth c Q P B D Z mi k0 n0 pc lv st M := by
  obtain ⟨hx, hb, -⟩ := hC
  unfold am_st at h
  dsimp only at h
  split at h
  · rename_i v w r
    by_cases hc : v.category = 1 ∧ w.category = 1
    · rw [if_pos hc] at h
      cases h
      exact fun H locs ls hR hS hl hk hn => lv_dup2_11 hx hb hdg (by rw [am_cat]; exact hc.1) (by rw [am_cat]; exact hc.2) (hV H locs ls hR hS hl hk hn)
    · rw [if_neg hc] at h; cases h
  · cases h
theorem am_t_dup_x1 (hC : am_X P B D Z p R s m args meth c mi) (hdg : decode (am_cc B mi) pc = .ok (.dup_x1, 1)) (h : am_st P mi (.dup_x1) pc lv st M = some (pc', lv', st', M'))
    (hV : am_V p l e R s m args below meth c Q P B D Z mi k0 n0 pc' lv' st' M') : am_V p l e R s m args below meth c Q P B D Z mi k0 n0 pc lv st M := by
  obtain ⟨hx, hb, -⟩ := hC
  unfold am_st at h
  dsimp only at h
  split at h
  · rename_i v w r
    by_cases hc : v.category = 1 ∧ w.category = 1
    · rw [if_pos hc] at h
      cases h
      exact fun H locs ls hR hS hl hk hn => lv_dup_x1 hx hb hdg (by rw [am_cat]; exact hc.1) (by rw [am_cat]; exact hc.2) (hV H locs ls hR hS hl hk hn)
    · rw [if_neg hc] at h; cases h
  · cases h
theorem am_t_ifnonnull {off : Int} (hC : am_X P B D Z p R s m args meth c mi) (hdg : decode (am_cc B mi) pc = .ok (.ifnonnull off, 3)) (h : am_st P mi (.ifnonnull off) pc lv st M = some (pc', lv', st', M'))
    (hV : am_V p l e R s m args below meth c Q P B D Z mi k0 n0 pc' lv' st' M') : am_V p l e R s m args below meth c Q P B D Z mi k0 n0 pc lv st M := by
  obtain ⟨hx, hb, -⟩ := hC
  unfold am_st at h
  dsimp only at h
  split at h
  · obtain ⟨ht, rfl, rfl, rfl⟩ := am_go_inv h
    exact fun H locs ls hR hS hl hk hn => lv_ifnonnull hx hb hdg ht (hV H locs ls hR hS hl hk hn)
  · cases h
    exact fun H locs ls hR hS hl hk hn => lv_ifnonnullN hx hb hdg (hV H locs ls hR hS hl hk hn)
  · cases h
theorem am_t_ifnull {off : Int} (hC : am_X P B D Z p R s m args meth c mi) (hdg : decode (am_cc B mi) pc = .ok (.ifnull off, 3)) (h : am_st P mi (.ifnull off) pc lv st M = some (pc', lv', st', M'))
    (hV : am_V p l e R s m args below meth c Q P B D Z mi k0 n0 pc' lv' st' M') : am_V p l e R s m args below meth c Q P B D Z mi k0 n0 pc lv st M := by
  obtain ⟨hx, hb, -⟩ := hC
  unfold am_st at h
  dsimp only at h
  split at h
  · cases h
    exact fun H locs ls hR hS hl hk hn => lv_ifnull hx hb hdg (hV H locs ls hR hS hl hk hn)
  · obtain ⟨ht, rfl, rfl, rfl⟩ := am_go_inv h
    exact fun H locs ls hR hS hl hk hn => lv_ifnullN hx hb hdg ht (hV H locs ls hR hS hl hk hn)
  · cases h
theorem am_t_goto {off : Int} (hC : am_X P B D Z p R s m args meth c mi) (hdg : decode (am_cc B mi) pc = .ok (.goto off, 3)) (h : am_st P mi (.goto off) pc lv st M = some (pc', lv', st', M'))
    (hV : am_V p l e R s m args below meth c Q P B D Z mi k0 n0 pc' lv' st' M') : am_V p l e R s m args below meth c Q P B D Z mi k0 n0 pc lv st M := by
  obtain ⟨hx, hb, -⟩ := hC
  obtain ⟨ht, rfl, rfl, rfl⟩ := am_go_inv h
  exact fun H locs ls hR hS hl hk hn => lv_goto hx hb hdg ht (hV H locs ls hR hS hl hk hn)
theorem am_t_tableswitch {d lo hi : Int} {offs : Array Int} (hC : am_X P B D Z p R s m args meth c mi) (hdg : decode (am_cc B mi) pc = .ok (.tableswitch d lo hi offs, len)) (h : am_st P mi (.tableswitch d lo hi offs) pc lv st M = some (pc', lv', st', M'))
    (hV : am_V p l e R s m args below meth c Q P B D Z mi k0 n0 pc' lv' st' M') : am_V p l e R s m args below meth c Q P B D Z mi k0 n0 pc lv st M := by
  obtain ⟨hx, hb, -⟩ := hC
  unfold am_st at h
  dsimp only at h
  split at h
  · rename_i x r
    cases hk0 : am_swk x lo hi offs with
    | false => rw [hk0] at h; cases h
    | true =>
      rw [hk0] at h
      obtain ⟨ht, rfl, rfl, rfl⟩ := am_go_inv h
      intro H locs ls hR hS hl hk hn
      have K := hV H locs ls hR hS hl hk hn
      unfold am_sw at ht
      by_cases hc : x.toInt < lo ∨ hi < x.toInt
      · rw [if_pos hc] at ht
        exact lv_tableOut hx hb hdg hc ht K
      · rw [if_neg hc] at ht
        have h3 : (offs[(x.toInt - lo).toNat]?).isSome = true := by
          simp only [am_swk, hc, decide_false, Bool.false_or] at hk0
          exact hk0
        obtain ⟨o, ho⟩ := Option.isSome_iff_exists.mp h3
        rw [ho] at ht
        exact lv_tableIn hx hb hdg (fun q => hc (Or.inl q)) (fun q => hc (Or.inr q)) ho ht K
  · cases h
end AMV

end

/-! 23.amheap.lean.txt -/
section
/-! ===== the steps that read and write the heap ===== -/
section AMH
variable {p : Program} {l : Launch} {e : Env} {R : Room} {s : State} {m : MethodId} {args : Array Value} {below : List Frame} {meth : Method} {c : Code} {Q : State → Prop}
variable {P : am_Pg} {B : am_Nm} {D : va_G} {Z : am_Z} {mi : Nat} {k0 n0 : Nat} {pc pc' len : Nat} {lv lv' : am_L} {st st' : List Value} {M M' : am_M}
theorem am_ft_ok (cs : Nat → Nat) (base : Nat) {ty : FieldType} {v : Value} (h : am_ft ty v = true) : narrow ty (am_tr cs base v) = am_tr cs base v ∧ fits ty (am_tr cs base v) = true := by
  unfold am_ft at h
  split at h
  · exact ⟨rfl, rfl⟩
  · rename_i x
    simp only [Bool.or_eq_true, decide_eq_true_eq] at h
    rcases h with rfl | rfl
    · exact ⟨rfl, show fits .boolean (.int 0) = true by decide⟩
    · exact ⟨rfl, show fits .boolean (.int 1) = true by decide⟩
  · exact ⟨rfl, rfl⟩
  · exact ⟨rfl, rfl⟩
  · exact ⟨rfl, rfl⟩
  · exact ⟨rfl, rfl⟩
  · exact ⟨rfl, rfl⟩
  · cases h
theorem am_at_i (cA : ClassId) (n : Nat) (f : Nat → Int32) (k : Nat) (x : Int32) : (vp_cell cA (n, .inl f)).setSlot k (.int x) = vp_cell cA (n, .inl (upd f k x)) := by
  rw [vp_cell_i, vp_cell_i, arrV_store]
  congr 1
  funext q
  by_cases hq : q = k
  · subst hq
    simp [updV, upd]
  · simp [updV, upd, hq]
theorem am_at_l (cA : ClassId) (n : Nat) (f : Nat → Int64) (k : Nat) (x : Int64) : (vp_cell cA (n, .inr (.inl f))).setSlot k (.long x) = vp_cell cA (n, .inr (.inl (vp_updL f k x))) := by
  rw [vp_cell_l, vp_cell_l, arrV_store]
  congr 1
  funext q
  by_cases hq : q = k
  · subst hq
    simp [updV, vp_updL]
  · simp [updV, vp_updL, hq]
theorem am_at_q (cA : ClassId) (n : Nat) (f : Nat → Option Nat) (k v : Nat) : (vp_cell cA (n, .inr (.inr (.inr (.inr f))))).setSlot k (.ref v) = vp_cell cA (n, .inr (.inr (.inr (.inr (va_up f k (some v)))))) := by
  rw [vp_cell_q, vp_cell_q, arrV_store]
  congr 1
  funext q
  by_cases hq : q = k
  · subst hq
    simp [updV, va_up, va_rf]
  · simp [updV, va_up, hq]
theorem am_S_push {A : Nat → Prop} {H0 H H1 : Heap} {locs : List Loc} (h : va_S A H0 H locs) (z : H1.size = H.size + 1) (oq : ∀ q : Nat, q < H.size → H1[q]? = H[q]?) : va_S A H0 H1 locs :=
  ⟨Nat.le_trans h.1 (by omega), fun x h1 h2 => (oq x (Nat.lt_of_lt_of_le h1 h.1)).trans (h.2.1 x h1 h2), h.2.2⟩
theorem am_t_getfield {i : Nat} (G : am_Gd P B) (hC : am_X P B D Z p R s m args meth c mi) (hdg : decode (am_cc B mi) pc = .ok (.getfield i, 3)) (h : am_st P mi (.getfield i) pc lv st M = some (pc', lv', st', M'))
    (hV : am_V p l e R s m args below meth c Q P B D Z mi k0 n0 pc' lv' st' M') : am_V p l e R s m args below meth c Q P B D Z mi k0 n0 pc lv st M := by
  obtain ⟨hx, hb, hml, hr, hlk, hown, hin0, hts, hNw, hK, -⟩ := hC
  obtain ⟨-, G2, G3, -⟩ := G
  unfold am_st am_gf at h
  dsimp only at h
  split at h
  · rename_i a r
    split at h
    · rename_i ci k cj fs hf ho
      by_cases hc : ci = cj
      · subst hc
        rw [if_pos rfl] at h
        obtain ⟨v, hv, rfl, rfl, rfl, rfl⟩ := am_pu_inv h
        obtain ⟨q, hq, hkN, hln⟩ := G3 _ _ _ _ hf
        obtain ⟨-, g2, g3, -⟩ := G2 _ _ hq
        have hsame : ∀ x, s.fieldFound? (q.2.1 k).1 (q.2.1 k).2.1 (q.2.1 k).2.2.1 = some x → s.fieldFound? q.1 (q.2.1 k).2.1 (q.2.1 k).2.2.1 = some x := by
          intro x hx'
          rw [(g3 k hkN).2.2] at hx'
          exact hx'
        intro H locs ls hR hS hl hk hn
        have K := hV H locs ls hR hS hl hk hn
        have he := am_ws_get (Z := Z) ho
        have hv' : (fs.map (am_tr Z.2.1 Z.2.2))[k]? = some (am_tr Z.2.1 Z.2.2 v) := by rw [List.getElem?_map, hv]; rfl
        rcases hln with hw | ⟨-, host, hw⟩
        · exact va_get (D := D) (C := q.1) (T := q.2.1) (N := q.2.2) hx hb hts g2 hown hK hR.1 a he hq k hkN (hts _ hw) hsame hv' hdg K
        · exact va_getN (D := D) (C := q.1) (T := q.2.1) (N := q.2.2) hx hb hts g2 hown hK hR.1 a he hq k hkN (va_Nw.use rfl (hNw _ hw)) hsame hv' hdg K
      · rw [if_neg hc] at h; cases h
    · cases h
  · cases h
theorem am_t_putfield {i : Nat} (G : am_Gd P B) (hC : am_X P B D Z p R s m args meth c mi) (hdg : decode (am_cc B mi) pc = .ok (.putfield i, 3)) (h : am_st P mi (.putfield i) pc lv st M = some (pc', lv', st', M'))
    (hV : am_V p l e R s m args below meth c Q P B D Z mi k0 n0 pc' lv' st' M') : am_V p l e R s m args below meth c Q P B D Z mi k0 n0 pc lv st M := by
  obtain ⟨hx, hb, hml, hr, hlk, hown, hin0, hts, hNw, hK, -⟩ := hC
  obtain ⟨-, G2, G3, -⟩ := G
  unfold am_st am_pf at h
  dsimp only at h
  split at h
  · rename_i v a r
    split at h
    · rename_i ci k cj fs hf ho
      generalize hbq : (decide (ci = cj) && (decide (k < fs.length) && (am_ft (am_fty P ci k) v && (!am_fin P ci k || (am_ini P mi && decide (am_own P mi = ci)))))) = bq at h
      cases bq with
      | false => cases h
      | true =>
        cases h
        simp only [Bool.and_eq_true, decide_eq_true_eq] at hbq
        obtain ⟨rfl, hkl, hft, hfn⟩ := hbq
        obtain ⟨q, hq, hkN, hln⟩ := G3 _ _ _ _ hf
        obtain ⟨gcn, g2, g3, gnm⟩ := G2 _ _ hq
        obtain ⟨gp, gf, gd⟩ := g3 k hkN
        obtain ⟨hnr, hfit⟩ := am_ft_ok Z.2.1 Z.2.2 hft
        have hty : ∀ j, j < q.2.2 → parseFieldDescriptor (q.2.1 j).2.2.1 = some (am_fty P ci j) := fun j hj => (g3 j hj).1
        intro H locs ls hR hS hl hk hn
        have he := am_ws_get (Z := Z) ho
        have hap := va_apart (own := am_cn B (am_own P mi)) hts g2 (am_fty P ci) hty gnm hK hq
        obtain ⟨q', h1, cell, q1, q2, q3, q4⟩ := hR.1 a _ he
        have hqq : q' = q := Option.some.inj (h1.symm.trans hq)
        subst hqq
        obtain ⟨hSl, hfc, kC, hkC, hkind⟩ := hK.1 ci _ hq
        obtain ⟨cf, kf, fi, f, hi, hsl⟩ := hSl k hkN
        have hst := (u_facts hfc hkC (u_lays hts g2 hkN) hi).1
        have hlay := hts _ (g2 _ (u_in_lay hkN))
        have hi' : s.fieldFound? q'.1 (q'.2.1 k).2.1 (q'.2.1 k).2.2.1 = some (cf, kf, fi, f) := by rw [gd] at hi; exact hi
        have hlm : k < (fs.map (am_tr Z.2.1 Z.2.2)).length := by rw [List.length_map]; exact hkl
        have fin : ∀ H' : Heap, H'[Z.2.2 + a]? = some (cell.setSlot f.slot (am_tr Z.2.1 Z.2.2 v)) → H'.size = H.size → (∀ q : Nat, q ≠ Z.2.2 + a → H'[q]? = H[q]?) → W p l e R s m args below meth c H' (locs ++ [⟨Z.2.2 + a, f.slot⟩]) (M.1.length - k0) (M.2 - n0) Q (F0 m (pc + 3) ls (st'.map (am_tr Z.2.1 Z.2.2))) := by
          intro H' e1 e2 e3
          rw [hsl] at e1 ⊢
          have hR' : am_R D (am_kl B) Z (M.1.set a (.inr (ci, fs.set k v)), M.2) H' := by
            refine hR.set ho ?_ e2 e3
            show va_at D (am_kl B) (Z.2.2 + a, .inr (ci, (fs.set k v).map (am_tr Z.2.1 Z.2.2))) H'
            rw [List.map_set]
            exact ⟨_, hq, t_OB.to (V := updV (vp_V (fs.map (am_tr Z.2.1 Z.2.2))) k (am_tr Z.2.1 Z.2.2 v)) ⟨_, e1, q2, q3, t_set q4 hap hkN _⟩ (fun j _ => vp_updV_set hlm _ j)⟩
          have K := hV H' _ ls hR' (hS.put (k := (D.2 ci) k) e2 e3 (Nat.le_add_right _ _)) hl (by rw [List.length_set]; exact hk) hn
          rw [List.length_set] at K
          exact K
        cases hfb : am_fin P ci k with
        | false =>
          unfold u_lay at hlay
          rw [if_neg (by rw [gf, hfb]; decide)] at hlay
          have h6 := u_store hfc hkC hkind hlay hi gp hnr hfit
          rcases hln with hw | ⟨-, host, hw⟩
          · exact W.putK hx hb (f := f) ⟨hown, hts _ hw, ⟨_, _, _, hi'⟩, hst⟩ (by rw [q2]; exact h6) q1 q3 (by rw [hsl]; exact k2_hasslot (q4 k hkN)) rfl rfl hdg fin
          · exact va_WputK hx hb (f := f) hown (va_Nw.use rfl (hNw _ hw)) hi' hst (by rw [q2]; exact h6) q1 q3 (by rw [hsl]; exact k2_hasslot (q4 k hkN)) rfl rfl hdg fin
        | true =>
          rw [hfb] at hfn
          simp only [Bool.not_true, Bool.false_or, Bool.and_eq_true, decide_eq_true_eq] at hfn
          obtain ⟨hin1, hoc⟩ := hfn
          unfold u_lay at hlay
          rw [if_pos (by rw [gf, hfb])] at hlay
          have h6 := u_fits hfc hkC hkind (Or.inr hlay) hi gp hnr hfit
          have hcl : s.vm.findClass q'.1 = some m.cls := by rw [← gcn, ← hoc]; exact hown
          have hcf : m.cls = cf := by
            rw [gd] at hlay
            exact laid_decl hcl hlay hi'
          rcases hln with hw | ⟨hne, -⟩
          · exact W.putFinK hx hb hown (hts _ hw) hi' hst hcf (hin0 hin1) (by rw [q2]; exact h6) q1 q3 (by rw [hsl]; exact k2_hasslot (q4 k hkN)) rfl rfl hdg fin
          · exact absurd hoc hne
    · cases h
  · cases h
theorem am_t_getstatic {i : Nat} (G : am_Gd P B) (hC : am_X P B D Z p R s m args meth c mi) (hdg : decode (am_cc B mi) pc = .ok (.getstatic i, 3)) (h : am_st P mi (.getstatic i) pc lv st M = some (pc', lv', st', M'))
    (hV : am_V p l e R s m args below meth c Q P B D Z mi k0 n0 pc' lv' st' M') : am_V p l e R s m args below meth c Q P B D Z mi k0 n0 pc lv st M := by
  obtain ⟨hx, hb, hml, hr, hlk, hown, hin0, hts, hNw, hK, hKc, -⟩ := hC
  obtain ⟨-, -, -, G4, -⟩ := G
  unfold am_st at h
  dsimp only at h
  split at h
  · rename_i cn hcn
    cases h
    obtain ⟨k, q, rfl, hq, hln⟩ := G4 _ _ _ hcn
    intro H locs ls hR hS hl hk hn
    have K := hV H locs ls hR hS hl hk hn
    rcases hln with hw | ⟨host, hw⟩
    · exact va_gets hx hb (hKc.2 k q hq) hS hown (hts _ hw) (fun _ h9 => h9) hdg K
    · exact va_getsN hx hb (hKc.2 k q hq) hS hown (va_Nw.use rfl (hNw _ hw)) (fun _ h9 => h9) hdg K
  · cases h
theorem am_t_ldc {i : Nat} (G : am_Gd P B) (hC : am_X P B D Z p R s m args meth c mi) (hdg : decode (am_cc B mi) pc = .ok (.ldc i, 2)) (h : am_st P mi (.ldc i) pc lv st M = some (pc', lv', st', M'))
    (hV : am_V p l e R s m args below meth c Q P B D Z mi k0 n0 pc' lv' st' M') : am_V p l e R s m args below meth c Q P B D Z mi k0 n0 pc lv st M := by
  obtain ⟨hx, hb, hml, hr, hlk, hown, hin0, hts, -⟩ := hC
  obtain ⟨-, -, -, -, G5, -⟩ := G
  unfold am_st at h
  dsimp only at h
  split at h
  · rename_i v hv
    cases h
    exact fun H locs ls hR hS hl hk hn => lv_ldc hx hb hown (hts _ (G5 _ _ _ hv)) hdg (hV H locs ls hR hS hl hk hn)
  · rename_i v hv
    cases h
    exact fun H locs ls hR hS hl hk hn => lv_ldcf hx hb hown (hts _ (G5 _ _ _ hv)) hdg (hV H locs ls hR hS hl hk hn)
  · cases h
/-- a float by its wide number -/
theorem am_ldcwf {cc : ByteArray} {H : Heap} {locs : List Loc} {cells slots : Nat} {ls : Array Slot} {rest : List Value} (hexec : p.tables.exec = Jvm.exec) (hb : c.code = cc) {own : String} {index : Nat} {v : UInt32} (hown : s.vm.findClass own = some m.cls) (hconst : (Jvm.Cond.constantFloat own index v).before args s = true) (hdg : decode cc pc = .ok (.ldc_w index, 3)) (k : W p l e R s m args below meth c H locs cells slots Q (F0 m (pc + 3) ls (.float v :: rest))) : W p l e R s m args below meth c H locs cells slots Q (F0 m pc ls rest) := by
  intro T hT X
  obtain ⟨t, a, b⟩ := k T hT X
  refine ⟨t, ?_, b⟩
  obtain ⟨kc, cf, q1, q2, q3⟩ := Cond.constantFloat_spec hown hconst
  obtain ⟨kc', q4, q5⟩ := X.warmed.alike.2.2 _ _ q1
  have hd : decode c.code (F0 m pc ls rest).pc = .ok (.ldc_w index, 3) := by rw [hb]; exact hdg
  jvm_step X.here [hexec, hd, ldc_w.wp_float (s := T) (f := F0 m pc ls rest) X.here.top q4 (by rw [q5]; exact q2) q3]
  exact a
theorem am_t_ldc_w {i : Nat} (G : am_Gd P B) (hC : am_X P B D Z p R s m args meth c mi) (hdg : decode (am_cc B mi) pc = .ok (.ldc_w i, 3)) (h : am_st P mi (.ldc_w i) pc lv st M = some (pc', lv', st', M'))
    (hV : am_V p l e R s m args below meth c Q P B D Z mi k0 n0 pc' lv' st' M') : am_V p l e R s m args below meth c Q P B D Z mi k0 n0 pc lv st M := by
  obtain ⟨hx, hb, hml, hr, hlk, hown, hin0, hts, -⟩ := hC
  obtain ⟨-, -, -, -, G5, -⟩ := G
  unfold am_st at h
  dsimp only at h
  split at h
  · rename_i v hv
    cases h
    exact fun H locs ls hR hS hl hk hn => lv_ldcw hx hb hown (hts _ (G5 _ _ _ hv)) hdg (hV H locs ls hR hS hl hk hn)
  · rename_i v hv
    cases h
    exact fun H locs ls hR hS hl hk hn => am_ldcwf hx hb hown (hts _ (G5 _ _ _ hv)) hdg (hV H locs ls hR hS hl hk hn)
  · cases h
theorem am_t_ldc2_w {i : Nat} (G : am_Gd P B) (hC : am_X P B D Z p R s m args meth c mi) (hdg : decode (am_cc B mi) pc = .ok (.ldc2_w i, 3)) (h : am_st P mi (.ldc2_w i) pc lv st M = some (pc', lv', st', M'))
    (hV : am_V p l e R s m args below meth c Q P B D Z mi k0 n0 pc' lv' st' M') : am_V p l e R s m args below meth c Q P B D Z mi k0 n0 pc lv st M := by
  obtain ⟨hx, hb, hml, hr, hlk, hown, hin0, hts, -⟩ := hC
  obtain ⟨-, -, -, -, G5, -⟩ := G
  unfold am_st at h
  dsimp only at h
  split at h
  · rename_i v hv
    cases h
    exact fun H locs ls hR hS hl hk hn => lv_ldc2 hx hb hown (hts _ (G5 _ _ _ hv)) hdg (hV H locs ls hR hS hl hk hn)
  · rename_i v hv
    cases h
    exact fun H locs ls hR hS hl hk hn => lv_ldc2d hx hb hown (hts _ (G5 _ _ _ hv)) hdg (hV H locs ls hR hS hl hk hn)
  · cases h
theorem am_t_iaload (G : am_Gd P B) (hC : am_X P B D Z p R s m args meth c mi) (hdg : decode (am_cc B mi) pc = .ok (.iaload, 1)) (h : am_st P mi .iaload pc lv st M = some (pc', lv', st', M'))
    (hV : am_V p l e R s m args below meth c Q P B D Z mi k0 n0 pc' lv' st' M') : am_V p l e R s m args below meth c Q P B D Z mi k0 n0 pc lv st M := by
  obtain ⟨hx, hb, hml, hr, hlk, hown, hin0, hts, hNw, hK, hKc, -⟩ := hC
  obtain ⟨-, -, -, -, -, -, G7, -⟩ := G
  unfold am_st am_ald at h
  dsimp only at h
  split at h
  · rename_i i a r
    split at h
    · rename_i n f ho
      cases hi : am_in i n with
      | false => rw [hi] at h; cases h
      | true =>
        rw [hi] at h
        cases h
        exact fun H locs ls hR hS hl hk hn => va_iald hx hb hK hR.1 a 0 (am_ws_get ho) (am_tyg G7.2.2.1) (am_in_inv hi) hdg (hV H locs ls hR hS hl hk hn)
    · cases h
  · rename_i i a r
    split at h
    · rename_i n f hc
      cases hi : am_in i n with
      | false => rw [hi] at h; cases h
      | true =>
        rw [hi] at h
        cases h
        obtain ⟨c1, c2, c3, -⟩ := hKc.1 _ _ _ hc
        exact fun H locs ls hR hS hl hk hn => va_sld hx hb c3 c2 (Nat.not_le.mpr c1) hS (am_in_inv hi) hdg (hV H locs ls hR hS hl hk hn)
    · cases h
  · cases h
theorem am_t_iastore (G : am_Gd P B) (hC : am_X P B D Z p R s m args meth c mi) (hdg : decode (am_cc B mi) pc = .ok (.iastore, 1)) (h : am_st P mi .iastore pc lv st M = some (pc', lv', st', M'))
    (hV : am_V p l e R s m args below meth c Q P B D Z mi k0 n0 pc' lv' st' M') : am_V p l e R s m args below meth c Q P B D Z mi k0 n0 pc lv st M := by
  obtain ⟨hx, hb, hml, hr, hlk, hown, hin0, hts, hNw, hK, hKc, -⟩ := hC
  obtain ⟨-, -, -, -, -, -, G7, -⟩ := G
  unfold am_st am_ast at h
  dsimp only at h
  split at h
  · rename_i x i a r
    split at h
    · rename_i n f ho
      cases hi : am_in i n with
      | false => rw [hi] at h; cases h
      | true =>
        rw [hi] at h
        cases h
        intro H locs ls hR hS hl hk hn
        have hat := hR.1 a _ (am_ws_get ho)
        refine W.iast hx hb hat ((hK.2 0 _ (am_tyg G7.2.2.1)).1 n (fun j => .int (f j))) (fun q => by cases q) (by show ¬ (i < 0 ∨ (arrV _ _ _).slots.size ≤ _); rw [arrV_size]; exact am_in_inv hi) rfl rfl hdg fun H1 e1 z oq => ?_
        have hR' : am_R D (am_kl B) Z (M.1.set a (.inl (0, n, .inl (upd f i.toNatClampNeg x))), M.2) H1 := by
          refine hR.set ho ?_ z oq
          exact e1.trans (congrArg some (am_at_i _ _ _ _ _))
        have K := hV H1 _ ls hR' (hS.put (k := i.toNatClampNeg) z oq (Nat.le_add_right _ _)) hl (by rw [List.length_set]; exact hk) hn
        rw [List.length_set] at K
        exact K
    · cases h
  · cases h
theorem am_t_laload (G : am_Gd P B) (hC : am_X P B D Z p R s m args meth c mi) (hdg : decode (am_cc B mi) pc = .ok (.laload, 1)) (h : am_st P mi .laload pc lv st M = some (pc', lv', st', M'))
    (hV : am_V p l e R s m args below meth c Q P B D Z mi k0 n0 pc' lv' st' M') : am_V p l e R s m args below meth c Q P B D Z mi k0 n0 pc lv st M := by
  obtain ⟨hx, hb, hml, hr, hlk, hown, hin0, hts, hNw, hK, hKc, -⟩ := hC
  obtain ⟨-, -, -, -, -, -, G7, -⟩ := G
  unfold am_st am_lald at h
  dsimp only at h
  split at h
  · rename_i i a r
    split at h
    · rename_i n f ho
      cases hi : am_in i n with
      | false => rw [hi] at h; cases h
      | true =>
        rw [hi] at h
        cases h
        exact fun H locs ls hR hS hl hk hn => va_lald hx hb hK hR.1 a 1 (am_ws_get ho) (am_tyg G7.2.2.2) (am_in_inv hi) hdg (hV H locs ls hR hS hl hk hn)
    · cases h
  · cases h
theorem am_t_lastore (G : am_Gd P B) (hC : am_X P B D Z p R s m args meth c mi) (hdg : decode (am_cc B mi) pc = .ok (.lastore, 1)) (h : am_st P mi .lastore pc lv st M = some (pc', lv', st', M'))
    (hV : am_V p l e R s m args below meth c Q P B D Z mi k0 n0 pc' lv' st' M') : am_V p l e R s m args below meth c Q P B D Z mi k0 n0 pc lv st M := by
  obtain ⟨hx, hb, hml, hr, hlk, hown, hin0, hts, hNw, hK, hKc, -⟩ := hC
  obtain ⟨-, -, -, -, -, -, G7, -⟩ := G
  unfold am_st am_last at h
  dsimp only at h
  split at h
  · rename_i x i a r
    split at h
    · rename_i n f ho
      cases hi : am_in i n with
      | false => rw [hi] at h; cases h
      | true =>
        rw [hi] at h
        cases h
        intro H locs ls hR hS hl hk hn
        have hat := hR.1 a _ (am_ws_get ho)
        refine W.last hx hb hat ((hK.2 1 _ (am_tyg G7.2.2.2)).1 n (fun j => .long (f j))) (fun q => by cases q) (by show ¬ (i < 0 ∨ (arrV _ _ _).slots.size ≤ _); rw [arrV_size]; exact am_in_inv hi) rfl rfl hdg fun H1 e1 z oq => ?_
        have hR' : am_R D (am_kl B) Z (M.1.set a (.inl (1, n, .inr (.inl (vp_updL f i.toNatClampNeg x)))), M.2) H1 := by
          refine hR.set ho ?_ z oq
          exact e1.trans (congrArg some (am_at_l _ _ _ _ _))
        have K := hV H1 _ ls hR' (hS.put (k := i.toNatClampNeg) z oq (Nat.le_add_right _ _)) hl (by rw [List.length_set]; exact hk) hn
        rw [List.length_set] at K
        exact K
    · cases h
  · cases h
theorem am_t_aaload (G : am_Gd P B) (hC : am_X P B D Z p R s m args meth c mi) (hdg : decode (am_cc B mi) pc = .ok (.aaload, 1)) (h : am_st P mi .aaload pc lv st M = some (pc', lv', st', M'))
    (hV : am_V p l e R s m args below meth c Q P B D Z mi k0 n0 pc' lv' st' M') : am_V p l e R s m args below meth c Q P B D Z mi k0 n0 pc lv st M := by
  obtain ⟨hx, hb, hml, hr, hlk, hown, hin0, hts, hNw, hK, hKc, -⟩ := hC
  obtain ⟨-, -, -, -, -, -, -, G8, -⟩ := G
  unfold am_st am_qald at h
  dsimp only at h
  split at h
  · rename_i i a r
    split at h
    · rename_i t n f ho
      cases hi : (decide (2 ≤ t ∧ t < 5) && am_in i n) with
      | false => rw [hi] at h; cases h
      | true =>
        rw [hi] at h
        cases h
        simp only [Bool.and_eq_true, decide_eq_true_eq] at hi
        obtain ⟨q, hq, hqt⟩ := G8.2 t hi.1.1 hi.1.2
        intro H locs ls hR hS hl hk hn
        have K := hV H locs ls hR hS hl hk hn
        refine va_aldq (C := q.1) hx hb hK hR.1 a t (am_ws_get ho) (am_tyg hqt) (am_in_inv hi.2) hdg ?_
        rw [List.map_cons] at K
        show W p l e R s m args below meth c H locs (M.1.length - k0) (M.2 - n0) Q (F0 m (pc + 1) ls (va_rf ((f i.toNatClampNeg).map (fun x => Z.2.2 + x)) :: r.map (am_tr Z.2.1 Z.2.2)))
        cases hfv : f i.toNatClampNeg with
        | none => rw [hfv] at K; exact K
        | some v => rw [hfv] at K; exact K
    · cases h
  · cases h
theorem am_t_aastore (G : am_Gd P B) (hC : am_X P B D Z p R s m args meth c mi) (hdg : decode (am_cc B mi) pc = .ok (.aastore, 1)) (h : am_st P mi .aastore pc lv st M = some (pc', lv', st', M'))
    (hV : am_V p l e R s m args below meth c Q P B D Z mi k0 n0 pc' lv' st' M') : am_V p l e R s m args below meth c Q P B D Z mi k0 n0 pc lv st M := by
  obtain ⟨hx, hb, hml, hr, hlk, hown, hin0, hts, hNw, hK, hKc, -⟩ := hC
  obtain ⟨-, -, -, -, -, -, -, G8, -⟩ := G
  unfold am_st am_qast at h
  dsimp only at h
  split at h
  · rename_i v i a r
    split at h
    · rename_i t n f cj vs ho hov
      cases hi : (decide (2 ≤ t ∧ t < 5) && (decide (am_elt P t = cj) && am_in i n)) with
      | false => rw [hi] at h; cases h
      | true =>
        rw [hi] at h
        cases h
        simp only [Bool.and_eq_true, decide_eq_true_eq] at hi
        obtain ⟨ht, hel, hin⟩ := hi
        obtain ⟨q, hq, hqt⟩ := G8.2 t ht.1 ht.2
        rw [hel] at hq
        intro H locs ls hR hS hl hk hn
        have hlt : i.toNatClampNeg < n := Nat.not_le.mp fun q => am_in_inv hin (Or.inr q)
        have h0 : ¬ i < 0 := fun q => am_in_inv hin (Or.inl q)
        obtain ⟨r', hr', cellV, g1, g2, g3, -⟩ := hR.1 v _ (am_ws_get hov)
        have hat := hR.1 a _ (am_ws_get ho)
        have hcls := (hK.1 cj q hq).2
        obtain ⟨kA, comp, k1, k2, k3, -⟩ := (hK.2 t _ (am_tyg hqt)).2
        have hcomp : comp = D.1 cj := Option.some.inj (k3.symm.trans hcls.1)
        subst hcomp
        obtain ⟨kC, hkC, -⟩ := hcls.2
        refine W.aast hx hb hat (fun q h => by cases h) (fun h => by cases h) k1 k2 rfl hkC ⟨h0, by show _ < (arrV _ _ _).slots.size; rw [arrV_size]; exact hlt⟩ g1 (fun q h => by rw [g3] at h; cases h) (by rw [g2]; exact hkC) (by rw [g2]; exact va_assign hcls) rfl rfl hdg fun H1 e1 z oq => ?_
        have hR' : am_R D (am_kl B) Z (M.1.set a (.inl (t, n, .inr (.inr (.inr (.inr (va_up f i.toNatClampNeg (some v))))))), M.2) H1 := by
          refine hR.set ho ?_ z oq
          refine e1.trans (congrArg some ((am_at_q _ _ _ _ _).trans ?_))
          show vp_cell _ _ = vp_cell _ (n, .inr (.inr (.inr (.inr (fun i_1 => (va_up f i.toNatClampNeg (some v) i_1).map (fun x => Z.2.2 + x))))))
          have e9 : va_up (fun i => (f i).map (fun x => Z.2.2 + x)) i.toNatClampNeg (some (Z.2.2 + v)) = fun i_1 => (va_up f i.toNatClampNeg (some v) i_1).map (fun x => Z.2.2 + x) := by
            funext j
            by_cases hj : j = i.toNatClampNeg
            · subst hj; simp [va_up]
            · simp [va_up, hj]
          exact congrArg (fun f => vp_cell (Z.1 t) (n, .inr (.inr (.inr (.inr f))))) e9
        have K := hV H1 _ ls hR' (hS.put (k := i.toNatClampNeg) z oq (Nat.le_add_right _ _)) hl (by rw [List.length_set]; exact hk) hn
        rw [List.length_set] at K
        exact K
    · cases h
  · cases h
theorem am_t_arraylength (G : am_Gd P B) (hC : am_X P B D Z p R s m args meth c mi) (hdg : decode (am_cc B mi) pc = .ok (.arraylength, 1)) (h : am_st P mi .arraylength pc lv st M = some (pc', lv', st', M'))
    (hV : am_V p l e R s m args below meth c Q P B D Z mi k0 n0 pc' lv' st' M') : am_V p l e R s m args below meth c Q P B D Z mi k0 n0 pc lv st M := by
  obtain ⟨hx, hb, hml, hr, hlk, hown, hin0, hts, hNw, hK, hKc, -⟩ := hC
  obtain ⟨-, -, -, -, -, -, G7, G8, -⟩ := G
  unfold am_st am_len at h
  dsimp only at h
  split at h
  · rename_i a r
    split at h
    · rename_i t n x ho
      by_cases ht : t < 5
      · rw [if_pos ht] at h
        cases h
        have hty : ∃ ty, (am_T B)[t]? = some ty := by
          by_cases h2 : 2 ≤ t
          · obtain ⟨q, -, hq⟩ := G8.2 t h2 ht
            exact ⟨_, hq⟩
          · rcases (show t = 0 ∨ t = 1 by omega) with rfl | rfl
            · exact ⟨_, G7.2.2.1⟩
            · exact ⟨_, G7.2.2.2⟩
        obtain ⟨ty, hty⟩ := hty
        have hsz : ∀ y : (Nat → Int32) ⊕ (Nat → Int64) ⊕ (Nat → UInt32) ⊕ (Nat → UInt64) ⊕ (Nat → Option Nat), (am_tA Z.2.2 (n, y)).1 = n := by
          intro y
          rcases y with f | f | f | f | f <;> rfl
        intro H locs ls hR hS hl hk hn
        exact va_alen (D := D) hx hb hK hR.1 a t (am_ws_get ho) (am_tyg hty) (by rw [hsz]) hdg (hV H locs ls hR hS hl hk hn)
      · rw [if_neg ht] at h; cases h
    · cases h
  · rename_i a r
    split at h
    · rename_i n f hc
      cases h
      obtain ⟨c1, c2, c3, -⟩ := hKc.1 _ _ _ hc
      exact fun H locs ls hR hS hl hk hn => va_slen hx hb c3 c2 (Nat.not_le.mpr c1) hS hdg (hV H locs ls hR hS hl hk hn)
    · cases h
  · cases h
theorem am_t_new {i : Nat} (G : am_Gd P B) (hC : am_X P B D Z p R s m args meth c mi) (hdg : decode (am_cc B mi) pc = .ok (.new i, 3)) (h : am_st P mi (.new i) pc lv st M = some (pc', lv', st', M')) (hrc : M'.1.length - k0 ≤ R.cells) (hrs : M'.2 - n0 ≤ R.slots)
    (hV : am_V p l e R s m args below meth c Q P B D Z mi k0 n0 pc' lv' st' M') : am_V p l e R s m args below meth c Q P B D Z mi k0 n0 pc lv st M := by
  obtain ⟨hx, hb, hml, hr, hlk, hown, hin0, hts, hNw, hK, hKc, -⟩ := hC
  obtain ⟨-, G2, -, -, -, G6, -⟩ := G
  unfold am_st am_nw at h
  dsimp only at h
  split at h
  · rename_i ci fs hnw
    cases h
    obtain ⟨q, hq, w1, w2, w3, hfl, hdf⟩ := G6 _ _ _ _ hnw
    obtain ⟨-, g2, g3, -⟩ := G2 _ _ hq
    have hKn := hK.1 ci _ hq
    intro H locs ls hR hS hl hk hn
    have e0 : (M.1 ++ [(.inr (ci, fs) : am_O)]).length - k0 = M.1.length - k0 + 1 := by rw [List.length_append]; simp; omega
    have e9 : M.2 + fs.length - n0 = M.2 - n0 + q.2.2 := by omega
    refine W.newcK hx hb hown (hts _ w1) (hts _ w2) (hts _ w3) rfl hdg (by rw [← e0]; exact hrc) (by rw [← e9]; exact hrs) hKn.2.1 rfl fun H1 kC hkC e1 z1 o1 => ?_
    have hR' : am_R D (am_kl B) Z (M.1 ++ [.inr (ci, fs)], M.2 + fs.length) H1 := by
      refine hR.push ?_ z1 o1
      refine ⟨_, hq, (u_born (am_fty P ci) hts g2 hKn hkC e1 (fun j hj => (g3 j hj).1)).to (fun j hj => ?_)⟩
      have hd := hdf j hj
      have hj' : j < fs.length := by rw [hfl]; exact hj
      have e2 : vp_V (fs.map (am_tr Z.2.1 Z.2.2)) j = am_tr Z.2.1 Z.2.2 (vp_V fs j) := by
        simp [vp_V, hj']
      rw [e2, ← hd]
      cases am_fty P ci j <;> rfl
    have K := hV H1 _ ls hR' (am_S_push hS z1 o1) hl (by rw [List.length_append]; simp; omega) (by show n0 ≤ M.2 + fs.length; omega)
    rw [show (F0 m (pc + 3) ls (((.ref M.1.length : Value) :: st).map (am_tr Z.2.1 Z.2.2))) = F0 m (pc + 3) ls (.ref H.size :: st.map (am_tr Z.2.1 Z.2.2)) by rw [hR.2]; rfl] at K
    have K := (show W p l e R s m args below meth c H1 locs ((M.1 ++ [(.inr (ci, fs) : am_O)]).length - k0) (M.2 + fs.length - n0) Q _ from K)
    rw [e0, e9] at K
    exact K
  · cases h
theorem am_t_newarray {at_ : ArrayType} (G : am_Gd P B) (hC : am_X P B D Z p R s m args meth c mi) (hdg : decode (am_cc B mi) pc = .ok (.newarray at_, 2)) (h : am_st P mi (.newarray at_) pc lv st M = some (pc', lv', st', M')) (hrc : M'.1.length - k0 ≤ R.cells) (hrs : M'.2 - n0 ≤ R.slots)
    (hV : am_V p l e R s m args below meth c Q P B D Z mi k0 n0 pc' lv' st' M') : am_V p l e R s m args below meth c Q P B D Z mi k0 n0 pc lv st M := by
  obtain ⟨hx, hb, hml, hr, hlk, hown, hin0, hts, hNw, hK, hKc, -⟩ := hC
  obtain ⟨-, -, -, -, -, -, G7, -⟩ := G
  unfold am_st am_na at h
  dsimp only at h
  split at h
  · rename_i n r
    cases hi : (!(decide (n < 0)) && decide (n.toNatClampNeg ≤ 1000000)) with
    | false => rw [hi] at h; cases h
    | true =>
      rw [hi] at h
      cases h
      simp only [Bool.and_eq_true, Bool.not_eq_true', decide_eq_false_iff_not, decide_eq_true_eq] at hi
      intro H locs ls hR hS hl hk hn
      have e0 : (M.1 ++ [(.inl (0, n.toNatClampNeg, .inl (fun _ => 0)) : am_O)]).length - k0 = M.1.length - k0 + 1 := by rw [List.length_append]; simp; omega
      have e9 : M.2 + n.toNatClampNeg - n0 = M.2 - n0 + n.toNatClampNeg := by omega
      refine va_newaK (atype := .int) hx hb (hts _ G7.1) rfl hdg rfl hi.1 rfl (by show n.toNatClampNeg * 4 ≤ _; omega) (by rw [← e0]; exact hrc) (by rw [← e9]; exact hrs) rfl fun H1 cA e1 z1 o1 hAr hNm => ?_
      have hcA : cA = Z.1 0 := Option.some.inj (hNm.symm.trans (hK.2 0 _ (am_tyg G7.2.2.1)).2)
      have hR' : am_R D (am_kl B) Z (M.1 ++ [.inl (0, n.toNatClampNeg, .inl (fun _ => 0))], M.2 + n.toNatClampNeg) H1 := by
        refine hR.push ?_ z1 o1
        rw [hcA] at e1
        exact e1
      have K := hV H1 _ ls hR' (am_S_push hS z1 o1) hl (by rw [List.length_append]; simp; omega) (by show n0 ≤ M.2 + n.toNatClampNeg; omega)
      rw [show (F0 m (pc + 2) ls (((.ref M.1.length : Value) :: r).map (am_tr Z.2.1 Z.2.2))) = F0 m (pc + 2) ls (.ref H.size :: r.map (am_tr Z.2.1 Z.2.2)) by rw [hR.2]; rfl] at K
      have K := (show W p l e R s m args below meth c H1 locs ((M.1 ++ [(.inl (0, n.toNatClampNeg, .inl (fun _ => 0)) : am_O)]).length - k0) (M.2 + n.toNatClampNeg - n0) Q _ from K)
      rw [e0, e9] at K
      exact K
  · rename_i n r
    cases hi : (!(decide (n < 0)) && decide (n.toNatClampNeg ≤ 1000000)) with
    | false => rw [hi] at h; cases h
    | true =>
      rw [hi] at h
      cases h
      simp only [Bool.and_eq_true, Bool.not_eq_true', decide_eq_false_iff_not, decide_eq_true_eq] at hi
      intro H locs ls hR hS hl hk hn
      have e0 : (M.1 ++ [(.inl (1, n.toNatClampNeg, .inr (.inl (fun _ => 0))) : am_O)]).length - k0 = M.1.length - k0 + 1 := by rw [List.length_append]; simp; omega
      have e9 : M.2 + n.toNatClampNeg - n0 = M.2 - n0 + n.toNatClampNeg := by omega
      refine va_newaK (atype := .long) hx hb (hts _ G7.2.1) rfl hdg rfl hi.1 rfl (by show n.toNatClampNeg * 8 ≤ _; omega) (by rw [← e0]; exact hrc) (by rw [← e9]; exact hrs) rfl fun H1 cA e1 z1 o1 hAr hNm => ?_
      have hcA : cA = Z.1 1 := Option.some.inj (hNm.symm.trans (hK.2 1 _ (am_tyg G7.2.2.2)).2)
      have hR' : am_R D (am_kl B) Z (M.1 ++ [.inl (1, n.toNatClampNeg, .inr (.inl (fun _ => 0)))], M.2 + n.toNatClampNeg) H1 := by
        refine hR.push ?_ z1 o1
        rw [hcA] at e1
        exact e1
      have K := hV H1 _ ls hR' (am_S_push hS z1 o1) hl (by rw [List.length_append]; simp; omega) (by show n0 ≤ M.2 + n.toNatClampNeg; omega)
      rw [show (F0 m (pc + 2) ls (((.ref M.1.length : Value) :: r).map (am_tr Z.2.1 Z.2.2))) = F0 m (pc + 2) ls (.ref H.size :: r.map (am_tr Z.2.1 Z.2.2)) by rw [hR.2]; rfl] at K
      have K := (show W p l e R s m args below meth c H1 locs ((M.1 ++ [(.inl (1, n.toNatClampNeg, .inr (.inl (fun _ => 0))) : am_O)]).length - k0) (M.2 + n.toNatClampNeg - n0) Q _ from K)
      rw [e0, e9] at K
      exact K
  · cases h
theorem am_t_anewarray {i : Nat} (G : am_Gd P B) (hC : am_X P B D Z p R s m args meth c mi) (hdg : decode (am_cc B mi) pc = .ok (.anewarray i, 3)) (h : am_st P mi (.anewarray i) pc lv st M = some (pc', lv', st', M')) (hrc : M'.1.length - k0 ≤ R.cells) (hrs : M'.2 - n0 ≤ R.slots)
    (hV : am_V p l e R s m args below meth c Q P B D Z mi k0 n0 pc' lv' st' M') : am_V p l e R s m args below meth c Q P B D Z mi k0 n0 pc lv st M := by
  obtain ⟨hx, hb, hml, hr, hlk, hown, hin0, hts, hNw, hK, hKc, -⟩ := hC
  obtain ⟨-, -, -, -, -, -, -, G8, -⟩ := G
  unfold am_st am_nq at h
  dsimp only at h
  split at h
  · rename_i t n r hnq
    cases hi : (!(decide (n < 0)) && decide (n.toNatClampNeg ≤ 1000000)) with
    | false => rw [hi] at h; cases h
    | true =>
      rw [hi] at h
      cases h
      simp only [Bool.and_eq_true, Bool.not_eq_true', decide_eq_false_iff_not, decide_eq_true_eq] at hi
      obtain ⟨t1, t2, q, hq, hqt, w1, w2⟩ := G8.1 _ _ _ hnq
      intro H locs ls hR hS hl hk hn
      have e0 : (M.1 ++ [(.inl (t, n.toNatClampNeg, .inr (.inr (.inr (.inr (fun _ => none))))) : am_O)]).length - k0 = M.1.length - k0 + 1 := by rw [List.length_append]; simp; omega
      have e9 : M.2 + n.toNatClampNeg - n0 = M.2 - n0 + n.toNatClampNeg := by omega
      refine W.anew hx hb hown (hts _ w1) (va_AO.use (hNw _ w2)) rfl hdg rfl hi.1 (by show n.toNatClampNeg * 4 ≤ _; omega) (by rw [← e0]; exact hrc) (by rw [← e9]; exact hrs) fun cA kA comp f1 f2 f3 f4 => ?_
      generalize hH1 : H.push ({ cls := cA, slots := Array.replicate n.toNatClampNeg .null, vm := .none } : Cell) = H1
      have z1 : H1.size = H.size + 1 := by rw [← hH1, Array.size_push]
      have e1 : H1[H.size]? = some (arrV cA n.toNatClampNeg (fun _ => .null)) := by rw [← hH1, Array.getElem?_push_size, ← arrV_new]
      have o1 : ∀ q : Nat, q < H.size → H1[q]? = H[q]? := fun q hq => by rw [← hH1, Array.getElem?_push, if_neg (Nat.ne_of_lt hq)]
      obtain ⟨kA', comp', k1, k2, k3, k4⟩ := (hK.2 t _ (am_tyg hqt)).2
      have hcA : cA = Z.1 t := Option.some.inj (f1.symm.trans k4)
      have hR' : am_R D (am_kl B) Z (M.1 ++ [.inl (t, n.toNatClampNeg, .inr (.inr (.inr (.inr (fun _ => none)))))], M.2 + n.toNatClampNeg) H1 := by
        refine hR.push ?_ z1 o1
        rw [hcA] at e1
        exact e1
      have K := hV H1 _ ls hR' (am_S_push hS z1 o1) hl (by rw [List.length_append]; simp; omega) (by show n0 ≤ M.2 + n.toNatClampNeg; omega)
      rw [show (F0 m (pc + 3) ls (((.ref M.1.length : Value) :: r).map (am_tr Z.2.1 Z.2.2))) = F0 m (pc + 3) ls (.ref H.size :: r.map (am_tr Z.2.1 Z.2.2)) by rw [hR.2]; rfl] at K
      have K := (show W p l e R s m args below meth c H1 locs ((M.1 ++ [(.inl (t, n.toNatClampNeg, .inr (.inr (.inr (.inr (fun _ => none))))) : am_O)]).length - k0) (M.2 + n.toNatClampNeg - n0) Q _ from K)
      rw [e0, e9] at K
      exact K
  · cases h
theorem am_t_checkcast {i : Nat} (G : am_Gd P B) (hcd : am_code P mi pc = some (.checkcast i)) (hC : am_X P B D Z p R s m args meth c mi) (hdg : decode (am_cc B mi) pc = .ok (.checkcast i, 3)) (h : am_st P mi (.checkcast i) pc lv st M = some (pc', lv', st', M'))
    (hV : am_V p l e R s m args below meth c Q P B D Z mi k0 n0 pc' lv' st' M') : am_V p l e R s m args below meth c Q P B D Z mi k0 n0 pc lv st M := by
  obtain ⟨hx, hb, hml, hr, hlk, hown, hin0, hts, hNw, hK, hKc, -⟩ := hC
  obtain ⟨-, -, -, -, -, -, G7, -, G9, -⟩ := G
  unfold am_st at h
  dsimp only at h
  split at h
  · rename_i a r
    split at h
    · rename_i x ho
      cases h
      intro H locs ls hR hS hl hk hn
      exact va_castA hx hb hown (hts _ (G9 _ _ _ hcd)) hR.1 a (am_ws_get ho) (hK.2 0 _ (am_tyg G7.2.2.1)).2 hdg (hV H locs ls hR hS hl hk hn)
    · cases h
  · cases h
end AMH

end

/-! 24.amnat.lean.txt -/
section
/-! ===== the library's own steps ===== -/
section AMN
variable {p : Program} {l : Launch} {e : Env} {R : Room} {s : State} {m : MethodId} {args : Array Value} {below : List Frame} {meth : Method} {c : Code} {Q : State → Prop}
variable {P : am_Pg} {B : am_Nm} {D : va_G} {Z : am_Z} {mi : Nat} {k0 n0 : Nat} {pc pc' len : Nat} {lv lv' : am_L} {st st' : List Value} {M M' : am_M}
theorem am_t_n0 {i : Nat} (G : am_Gd P B) (hnt : am_nat P mi i = some 0) (hC : am_X P B D Z p R s m args meth c mi) (hdg : decode (am_cc B mi) pc = .ok (.invokespecial i, 3)) (h : am_nt P 0 pc lv st M = some (pc', lv', st', M'))
    (hV : am_V p l e R s m args below meth c Q P B D Z mi k0 n0 pc' lv' st' M') : am_V p l e R s m args below meth c Q P B D Z mi k0 n0 pc lv st M := by
  obtain ⟨hx, hb, hml, hr, hlk, hown, hin0, hts, hNw, hK, hKc, hbs, hrF, hrL⟩ := hC
  obtain ⟨-, -, -, -, -, -, -, -, -, Ga, -⟩ := G
  obtain ⟨g1, g2, w1, w2, w3⟩ := Ga _ _ _ hnt
  replace h : am_n0 pc lv st M = some (pc', lv', st', M') := h
  unfold am_n0 at h
  split at h
  · rename_i a r
    by_cases hc : am_sum r ≤ 8
    · rw [if_pos hc] at h
      cases h
      intro H locs ls hR hS hl hk hn
      have K := hV H locs ls hR hS hl hk hn
      exact W.objInit hx hb hown (hts _ w1) (hts _ w2) (hts _ w3) rfl (by rw [hml]; exact hl.1) rfl hdg (Nat.le_trans g1 hrF) (by rw [am_sumT]; show 2 * 0 + am_sum st' + 12 ≤ R.locals; omega) K
    · rw [if_neg hc] at h; cases h
  · cases h
theorem am_t_n3 {i : Nat} (G : am_Gd P B) (hnt : am_nat P mi i = some 3) (hC : am_X P B D Z p R s m args meth c mi) (hdg : decode (am_cc B mi) pc = .ok (.invokestatic i, 3)) (h : am_nt P 3 pc lv st M = some (pc', lv', st', M'))
    (hV : am_V p l e R s m args below meth c Q P B D Z mi k0 n0 pc' lv' st' M') : am_V p l e R s m args below meth c Q P B D Z mi k0 n0 pc lv st M := by
  obtain ⟨hx, hb, hml, hr, hlk, hown, hin0, hts, hNw, hK, hKc, hbs, hrF, hrL⟩ := hC
  obtain ⟨-, -, -, -, -, -, -, -, -, Ga, -⟩ := G
  obtain ⟨g1, g2, w1, w2, w3, w4⟩ := Ga _ _ _ hnt
  replace h : am_n3 pc lv st M = some (pc', lv', st', M') := h
  unfold am_n3 at h
  split at h
  · rename_i b r
    by_cases hc : am_sum r ≤ 8
    · rw [if_pos hc] at h
      cases h
      intro H locs ls hR hS hl hk hn
      have K := hV H locs ls hR hS hl hk hn
      exact vn_d2l hx hb (hml.trans hl.1.symm) hown (hts _ w1) (hts _ w2) (hts _ w3) (hts _ w4) (Nat.le_trans g1 hrF) (by rw [am_sumT]; omega) hdg K
    · rw [if_neg hc] at h; cases h
  · cases h
theorem am_t_n4 {i : Nat} (G : am_Gd P B) (hnt : am_nat P mi i = some 4) (hC : am_X P B D Z p R s m args meth c mi) (hdg : decode (am_cc B mi) pc = .ok (.invokestatic i, 3)) (h : am_nt P 4 pc lv st M = some (pc', lv', st', M'))
    (hV : am_V p l e R s m args below meth c Q P B D Z mi k0 n0 pc' lv' st' M') : am_V p l e R s m args below meth c Q P B D Z mi k0 n0 pc lv st M := by
  obtain ⟨hx, hb, hml, hr, hlk, hown, hin0, hts, hNw, hK, hKc, hbs, hrF, hrL⟩ := hC
  obtain ⟨-, -, -, -, -, -, -, -, -, Ga, -⟩ := G
  obtain ⟨g1, g2, w1, w2, w3, w4⟩ := Ga _ _ _ hnt
  replace h : am_n4 pc lv st M = some (pc', lv', st', M') := h
  unfold am_n4 at h
  split at h
  · rename_i b r
    by_cases hc : am_sum r ≤ 8
    · rw [if_pos hc] at h
      cases h
      intro H locs ls hR hS hl hk hn
      have K := hV H locs ls hR hS hl hk hn
      exact vn_f2i hx hb (hml.trans hl.1.symm) hown (hts _ w1) (hts _ w2) (hts _ w3) (hts _ w4) (Nat.le_trans g1 hrF) (by rw [am_sumT]; omega) hdg K
    · rw [if_neg hc] at h; cases h
  · cases h
theorem am_nn {z : Int32} (hz : ¬ z < 0) : z.toInt = (z.toNatClampNeg : Int) := by
  have hz0 : (0 : Int) ≤ z.toInt := by
    have := Int32.not_lt.mp hz
    simpa using Int32.le_iff_toInt_le.mp this
  show z.toInt = ((z.toInt.toNat : Nat) : Int)
  omega
theorem am_t_n1 {i : Nat} (G : am_Gd P B) (hnt : am_nat P mi i = some 1) (hC : am_X P B D Z p R s m args meth c mi) (hdg : decode (am_cc B mi) pc = .ok (.invokestatic i, 3)) (h : am_nt P 1 pc lv st M = some (pc', lv', st', M'))
    (hV : am_V p l e R s m args below meth c Q P B D Z mi k0 n0 pc' lv' st' M') : am_V p l e R s m args below meth c Q P B D Z mi k0 n0 pc lv st M := by
  obtain ⟨hx, hb, hml, hr, hlk, hown, hin0, hts, hNw, hK, hKc, hbs, hrF, hrL⟩ := hC
  obtain ⟨-, -, -, -, -, -, G7, -, -, Ga, -⟩ := G
  obtain ⟨g1, g2, w1, w2, w3, w4⟩ := Ga _ _ _ hnt
  replace h : am_n1 pc lv st M = some (pc', lv', st', M') := h
  unfold am_n1 at h
  split at h
  · rename_i n dp b sp a r
    split at h
    · rename_i nA f nB g hoA hoB
      generalize hbq : (decide (am_sum r ≤ 8) && (!(decide (sp < 0)) && (!(decide (dp < 0)) && (!(decide (n < 0)) && (decide (sp.toNatClampNeg + n.toNatClampNeg ≤ nA) && decide (dp.toNatClampNeg + n.toNatClampNeg ≤ nB)))))) = bq at h
      cases bq with
      | false => cases h
      | true =>
        cases h
        simp only [Bool.and_eq_true, Bool.not_eq_true', decide_eq_false_iff_not, decide_eq_true_eq] at hbq
        obtain ⟨hsm, h1, h2, h3, h4, h5⟩ := hbq
        intro H locs ls hR hS hl hk hn T hT X
        have hcA : H[Z.2.2 + a]? = some (vp_cell (Z.1 0) (nA, .inl f)) := hR.1 a _ (am_ws_get hoA)
        have hcB : H[Z.2.2 + b]? = some (vp_cell (Z.1 0) (nB, .inl g)) := hR.1 b _ (am_ws_get hoB)
        obtain ⟨-, kA, hkA, cmA, hkkA⟩ := (hK.2 0 _ (am_tyg G7.2.2.1)).1 nA (fun j => .int (f j))
        have hnw : nativeFrameWords "java/lang/System" "arraycopy" 5 ≤ 20 := by decide
        obtain ⟨vm', X', step⟩ := X.arraycopy hx hown (hts _ w1) (hts _ w2) (hts _ w3) (hts _ w4) (src := Z.2.2 + a) (dst := Z.2.2 + b) (cs := vp_cell (Z.1 0) (nA, .inl f)) (cd := vp_cell (Z.1 0) (nB, .inl g)) (srcPos := sp) (destPos := dp) (n := n) (by rw [hT]; exact hcA) (by rw [hT]; exact hcB)
          (fun _ h => by cases h) (fun _ h => by cases h) (fun h => by cases h) (fun h => by cases h) hkA hkA hkkA hkkA rfl h1 h2 h3
          (by rw [am_nn h1, am_nn h3]; show ¬ _ > ((arrV (Z.1 0) nA (fun j => .int (f j))).slots.size : Int); rw [arrV_size]; omega)
          (by rw [am_nn h2, am_nn h3]; show ¬ _ > ((arrV (Z.1 0) nB (fun j => .int (g j))).slots.size : Int); rw [arrV_size]; omega)
          (fun vm₁ _ i hi => by
            have e : (vp_cell (Z.1 0) (nA, .inl f)).slots.getD (sp.toNatClampNeg + i) .null = .int (f (sp.toNatClampNeg + i)) := by
              show (arrV (Z.1 0) nA (fun j => .int (f j))).slots.getD _ _ = _
              rw [Array.getD_eq_getD_getElem?, arrV_read _ _ (by omega)]
              rfl
            refine ⟨?_, ?_⟩
            · rw [e]; rfl
            · rw [e]; exact trivial)
          (g := F0 m pc ls (.int n :: .int dp :: .ref (Z.2.2 + b) :: .int sp :: .ref (Z.2.2 + a) :: st'.map (am_tr Z.2.1 Z.2.2))) rfl (by rw [hml]; exact hl.1) (rest := st'.map (am_tr Z.2.1 Z.2.2)) rfl (by rw [hb]; exact hdg) (Nat.le_trans g1 hrF) (by rw [am_sumT]; show 2 * 0 + am_sum st' + _ ≤ R.locals; omega)
        have e1 : copied (vp_cell (Z.1 0) (nA, .inl f)) (vp_cell (Z.1 0) (nB, .inl g)) sp dp n = vp_cell (Z.1 0) (nB, .inl (va_cpy f g sp.toNatClampNeg dp.toNatClampNeg n.toNatClampNeg)) := va_copied (fun z => .int z) (Z.1 0) (Z.1 0) f g h4
        rw [e1] at X' step
        have hlB : Z.2.2 + b < H.size := (Array.getElem?_eq_some_iff.mp hcB).1
        generalize hH1 : H.setIfInBounds (Z.2.2 + b) (vp_cell (Z.1 0) (nB, .inl (va_cpy f g sp.toNatClampNeg dp.toNatClampNeg n.toNatClampNeg))) = H1
        have hheap : ((T.setVm vm').setCell (Z.2.2 + b) (vp_cell (Z.1 0) (nB, .inl (va_cpy f g sp.toNatClampNeg dp.toNatClampNeg n.toNatClampNeg)))).heap = H1 := by rw [← hH1, ← hT]; rfl
        have eb : H1[Z.2.2 + b]? = some (vp_cell (Z.1 0) (nB, .inl (va_cpy f g sp.toNatClampNeg dp.toNatClampNeg n.toNatClampNeg))) := by rw [← hH1]; simp [Array.getElem?_setIfInBounds, hlB]
        have oq : ∀ q : Nat, q ≠ Z.2.2 + b → H1[q]? = H[q]? := fun q hq => by rw [← hH1]; simp [Array.getElem?_setIfInBounds, Ne.symm hq]
        have z1 : H1.size = H.size := by rw [← hH1]; simp
        have hR' : am_R D (am_kl B) Z (M.1.set b (.inl (0, nB, .inl (va_cpy f g sp.toNatClampNeg dp.toNatClampNeg n.toNatClampNeg))), M.2) H1 := hR.set hoB eb z1 oq
        have hS' : va_S (am_A Z) s.heap H1 (locs ++ ((vp_cell (Z.1 0) (nA, .inl f)).stretch sp.toNatClampNeg n.toNatClampNeg).zipIdx.map fun q => ⟨Z.2.2 + b, dp.toNatClampNeg + q.2⟩) := by
          refine ⟨by rw [z1]; exact hS.1, fun q q1 q2 => ?_, fun q hq => ?_⟩
          · rw [oq q (fun e => q2 (by rw [e]; exact Nat.le_add_right _ _))]
            exact hS.2.1 q q1 q2
          · rcases List.mem_append.mp hq with h | h
            · exact hS.2.2 q h
            · obtain ⟨z, -, hz⟩ := List.mem_map.mp h
              rw [← hz]
              exact Nat.le_add_right _ _
        have K := hV H1 _ ls hR' hS' hl (by rw [List.length_set]; exact hk) hn
        rw [List.length_set] at K
        obtain ⟨t, a1, b1⟩ := K _ hheap X'
        exact ⟨t, step t a1, b1⟩
    · cases h
  · cases h
theorem am_t_n2 {i : Nat} (G : am_Gd P B) (hnt : am_nat P mi i = some 2) (hC : am_X P B D Z p R s m args meth c mi) (hdg : decode (am_cc B mi) pc = .ok (.invokevirtual i, 3)) (h : am_nt P 2 pc lv st M = some (pc', lv', st', M')) (hrc : M'.1.length - k0 ≤ R.cells) (hrs : M'.2 - n0 ≤ R.slots)
    (hV : am_V p l e R s m args below meth c Q P B D Z mi k0 n0 pc' lv' st' M') : am_V p l e R s m args below meth c Q P B D Z mi k0 n0 pc lv st M := by
  obtain ⟨hx, hb, hml, hr, hlk, hown, hin0, hts, hNw, hK, hKc, hbs, hrF, hrL⟩ := hC
  obtain ⟨-, -, -, -, -, -, G7, -, -, Ga, -⟩ := G
  obtain ⟨g1, g2, w1, w2, w3, w4, w5, w6⟩ := Ga _ _ _ hnt
  replace h : am_n2 P pc lv st M = some (pc', lv', st', M') := h
  unfold am_n2 at h
  split at h
  · rename_i cn r
    split at h
    · rename_i n f hcf
      by_cases hc : am_sum r ≤ 8 ∧ cn ≠ 0
      · rw [if_pos hc] at h
        cases h
        obtain ⟨c1, c2, ⟨scr, d1, d2, d3, d4, d5⟩, c4⟩ := hKc.1 _ _ _ hcf
        obtain ⟨cell, d6, d7⟩ := c4 hc.2
        cases d1.symm.trans d6
        have hcA : scr.cls = Z.1 0 := Option.some.inj (d7.symm.trans (hK.2 0 _ (am_tyg G7.2.2.1)).2)
        have hsl : ({ cls := scr.cls, slots := scr.slots } : Cell) = vp_cell (Z.1 0) (n, .inl f) := by
          rw [vp_cell_i, hcA]
          unfold arrV
          congr 1
          apply Array.ext
          · rw [d4]; simp
          · intro j h1 h2
            have h3 := d5 j (by rw [← d4]; exact h1)
            rw [Array.getElem?_eq_getElem h1] at h3
            rw [Option.some.inj h3]
            simp
        obtain ⟨f0, f1, f2, f3, f4⟩ := Cond.castable_spec (va_Nw.use (A := args) rfl (hNw _ w6))
        cases d7.symm.trans f2
        intro H locs ls hR hS hl hk hn T hT X
        have e0 : (M.1 ++ [(.inl (0, n, .inl f) : am_O)]).length - k0 = M.1.length - k0 + 1 := by rw [List.length_append]; simp; omega
        have e9 : M.2 + n - n0 = M.2 - n0 + n := by omega
        have hcellT : T.heap[Z.2.1 cn]? = some scr := by rw [hT, hS.2.1 _ c2 (Nat.not_le.mpr c1)]; exact d1
        obtain ⟨hvs, kS, hkS, compS, hkindS⟩ := d2
        obtain ⟨-, kT, hkT, compT, hkindT⟩ := State.isArrayOf_alike X.warmed.alike (show s.isArrayOf scr .int from ⟨hvs, kS, hkS, compS, hkindS⟩)
        obtain ⟨vm', X', step⟩ := X.cloneArray hx hown (hts _ w1) (hts _ w2) (hts _ w3) (hts _ w4) (hts _ w5) (a := Z.2.1 cn) (cell := scr) hcellT hvs d3 d7 f3 f4
          (fun i v hv => by
            have hi : i < n := by
              have := (Array.getElem?_eq_some_iff.mp hv).1
              omega
            have e5 := d5 i hi
            rw [hv] at e5
            cases e5
            simp [State.fitsSlot, State.slotType?, hkT, hkindT]
            rfl)
          (g := F0 m pc ls (.ref (Z.2.1 cn) :: r.map (am_tr Z.2.1 Z.2.2))) rfl (by rw [hml]; exact hl.1) rfl (by rw [hb]; exact hdg) (Nat.le_trans g1 hrF) (by rw [am_sumT]; show 2 * 0 + am_sum r + 14 ≤ R.locals; omega) (by rw [← e0]; exact hrc) (by rw [d4, ← e9]; exact hrs) (hloader := Vm.clonesLoader_of_array hkS hkindS)
        rw [hsl, d4] at X'
        rw [hsl] at step
        generalize hH1 : H.push (vp_cell (Z.1 0) (n, .inl f)) = H1
        have z1 : H1.size = H.size + 1 := by rw [← hH1, Array.size_push]
        have e1 : H1[H.size]? = some (vp_cell (Z.1 0) (n, .inl f)) := by rw [← hH1, Array.getElem?_push_size]
        have o1 : ∀ q : Nat, q < H.size → H1[q]? = H[q]? := fun q hq => by rw [← hH1, Array.getElem?_push, if_neg (Nat.ne_of_lt hq)]
        have hR' : am_R D (am_kl B) Z (M.1 ++ [.inl (0, n, .inl f)], M.2 + n) H1 := hR.push e1 z1 o1
        have K := hV H1 _ ls hR' (am_S_push hS z1 o1) hl (by rw [List.length_append]; simp; omega) (by show n0 ≤ M.2 + n; omega)
        rw [show (F0 m (pc + 3) ls (((.ref M.1.length : Value) :: r).map (am_tr Z.2.1 Z.2.2))) = F0 m (pc + 3) ls (.ref T.heap.size :: r.map (am_tr Z.2.1 Z.2.2)) by rw [hT, hR.2]; rfl] at K
        have K := (show W p l e R s m args below meth c H1 locs ((M.1 ++ [(.inl (0, n, .inl f) : am_O)]).length - k0) (M.2 + n - n0) Q _ from K)
        rw [e0, e9] at K
        obtain ⟨t, a1, b1⟩ := K _ (by rw [← hH1, ← hT]; rfl) X'
        exact ⟨t, step t a1, b1⟩
      · rw [if_neg hc] at h; cases h
    · cases h
  · cases h
theorem am_t_invokespecial {i : Nat} (G : am_Gd P B) (hC : am_X P B D Z p R s m args meth c mi) (hdg : decode (am_cc B mi) pc = .ok (.invokespecial i, 3)) (h : am_st P mi (.invokespecial i) pc lv st M = some (pc', lv', st', M'))
    (hV : am_V p l e R s m args below meth c Q P B D Z mi k0 n0 pc' lv' st' M') : am_V p l e R s m args below meth c Q P B D Z mi k0 n0 pc lv st M := by
  unfold am_st at h
  dsimp only at h
  split at h
  · rename_i k hk
    unfold am_ntk at hk
    dsimp only at hk
    split at hk
    · rename_i hn
      cases hk
      exact am_t_n0 G hn hC hdg h hV
    · cases hk
  · cases h
theorem am_t_invokestatic {i : Nat} (G : am_Gd P B) (hC : am_X P B D Z p R s m args meth c mi) (hdg : decode (am_cc B mi) pc = .ok (.invokestatic i, 3)) (h : am_st P mi (.invokestatic i) pc lv st M = some (pc', lv', st', M'))
    (hV : am_V p l e R s m args below meth c Q P B D Z mi k0 n0 pc' lv' st' M') : am_V p l e R s m args below meth c Q P B D Z mi k0 n0 pc lv st M := by
  unfold am_st at h
  dsimp only at h
  split at h
  · rename_i k hk
    unfold am_ntk at hk
    dsimp only at hk
    split at hk
    · rename_i hn
      cases hk
      exact am_t_n1 G hn hC hdg h hV
    · rename_i hn
      cases hk
      exact am_t_n3 G hn hC hdg h hV
    · rename_i hn
      cases hk
      exact am_t_n4 G hn hC hdg h hV
    · cases hk
  · cases h
theorem am_t_invokevirtual {i : Nat} (G : am_Gd P B) (hC : am_X P B D Z p R s m args meth c mi) (hdg : decode (am_cc B mi) pc = .ok (.invokevirtual i, 3)) (h : am_st P mi (.invokevirtual i) pc lv st M = some (pc', lv', st', M')) (hrc : M'.1.length - k0 ≤ R.cells) (hrs : M'.2 - n0 ≤ R.slots)
    (hV : am_V p l e R s m args below meth c Q P B D Z mi k0 n0 pc' lv' st' M') : am_V p l e R s m args below meth c Q P B D Z mi k0 n0 pc lv st M := by
  unfold am_st at h
  dsimp only at h
  split at h
  · rename_i k hk
    unfold am_ntk at hk
    dsimp only at hk
    split at hk
    · rename_i hn
      cases hk
      exact am_t_n2 G hn hC hdg h hrc hrs hV
    · cases hk
  · cases h
end AMN

end

/-! 25.amsound.lean.txt -/
section
/-! ===== the pure machine's answers are the claim's machine's ===== -/
section AMS
variable {p : Program} {l : Launch} {e : Env} {R : Room} {s : State} {m : MethodId} {args : Array Value} {below : List Frame} {meth : Method} {c : Code} {Q : State → Prop}
variable {P : am_Pg} {B : am_Nm} {D : va_G} {Z : am_Z} {mi : Nat} {k0 n0 : Nat} {pc pc' len : Nat} {lv lv' : am_L} {st st' : List Value} {M M' : am_M}
theorem am_lq {cc : ByteArray} {ins : Instr} {n : Nat} (hl : am_ln ins = 0 ∨ len = am_ln ins) (hd : decode cc pc = .ok (ins, len)) (hn : am_ln ins = n + 1) : decode cc pc = .ok (ins, n + 1) := by
  rcases hl with h | h
  · omega
  · rw [← hn, ← h]; exact hd
set_option maxHeartbeats 4000000 in
theorem am_step {ins : Instr} (G : am_Gd P B) (hcd : am_code P mi pc = some ins) (hC : am_X P B D Z p R s m args meth c mi) (h : am_st P mi ins pc lv st M = some (pc', lv', st', M')) (hrc : M'.1.length - k0 ≤ R.cells) (hrs : M'.2 - n0 ≤ R.slots)
    (hV : am_V p l e R s m args below meth c Q P B D Z mi k0 n0 pc' lv' st' M') : am_V p l e R s m args below meth c Q P B D Z mi k0 n0 pc lv st M := by
  obtain ⟨len, hdg, hlen⟩ := G.1 mi pc ins hcd
  cases ins with
  | iconst n => exact am_t_iconst hC (am_lq hlen hdg rfl) h hV
  | bipush n => exact am_t_bipush hC (am_lq hlen hdg rfl) h hV
  | sipush n => exact am_t_sipush hC (am_lq hlen hdg rfl) h hV
  | lconst n => exact am_t_lconst hC (am_lq hlen hdg rfl) h hV
  | iload_n k => exact am_t_iload_n hC (am_lq hlen hdg rfl) h hV
  | lload_n k => exact am_t_lload_n hC (am_lq hlen hdg rfl) h hV
  | fload_n k => exact am_t_fload_n hC (am_lq hlen hdg rfl) h hV
  | dload_n k => exact am_t_dload_n hC (am_lq hlen hdg rfl) h hV
  | aload_n k => exact am_t_aload_n hC (am_lq hlen hdg rfl) h hV
  | iload i => exact am_t_iload hC (am_lq hlen hdg rfl) h hV
  | lload i => exact am_t_lload hC (am_lq hlen hdg rfl) h hV
  | aload i => exact am_t_aload hC (am_lq hlen hdg rfl) h hV
  | istore_n k => exact am_t_istore_n hC (am_lq hlen hdg rfl) h hV
  | lstore_n k => exact am_t_lstore_n hC (am_lq hlen hdg rfl) h hV
  | fstore_n k => exact am_t_fstore_n hC (am_lq hlen hdg rfl) h hV
  | dstore_n k => exact am_t_dstore_n hC (am_lq hlen hdg rfl) h hV
  | astore_n k => exact am_t_astore_n hC (am_lq hlen hdg rfl) h hV
  | istore i => exact am_t_istore hC (am_lq hlen hdg rfl) h hV
  | lstore i => exact am_t_lstore hC (am_lq hlen hdg rfl) h hV
  | astore i => exact am_t_astore hC (am_lq hlen hdg rfl) h hV
  | iinc i n => exact am_t_iinc hC (am_lq hlen hdg rfl) h hV
  | iadd => exact am_t_iadd hC (am_lq hlen hdg rfl) h hV
  | isub => exact am_t_isub hC (am_lq hlen hdg rfl) h hV
  | imul => exact am_t_imul hC (am_lq hlen hdg rfl) h hV
  | iand => exact am_t_iand hC (am_lq hlen hdg rfl) h hV
  | ior => exact am_t_ior hC (am_lq hlen hdg rfl) h hV
  | ixor => exact am_t_ixor hC (am_lq hlen hdg rfl) h hV
  | ishl => exact am_t_ishl hC (am_lq hlen hdg rfl) h hV
  | ishr => exact am_t_ishr hC (am_lq hlen hdg rfl) h hV
  | iushr => exact am_t_iushr hC (am_lq hlen hdg rfl) h hV
  | idiv => exact am_t_idiv hC (am_lq hlen hdg rfl) h hV
  | irem => exact am_t_irem hC (am_lq hlen hdg rfl) h hV
  | ineg => exact am_t_ineg hC (am_lq hlen hdg rfl) h hV
  | ladd => exact am_t_ladd hC (am_lq hlen hdg rfl) h hV
  | lsub => exact am_t_lsub hC (am_lq hlen hdg rfl) h hV
  | lmul => exact am_t_lmul hC (am_lq hlen hdg rfl) h hV
  | land => exact am_t_land hC (am_lq hlen hdg rfl) h hV
  | ldiv => exact am_t_ldiv hC (am_lq hlen hdg rfl) h hV
  | lshl => exact am_t_lshl hC (am_lq hlen hdg rfl) h hV
  | lshr => exact am_t_lshr hC (am_lq hlen hdg rfl) h hV
  | lcmp => exact am_t_lcmp hC (am_lq hlen hdg rfl) h hV
  | i2l => exact am_t_i2l hC (am_lq hlen hdg rfl) h hV
  | l2i => exact am_t_l2i hC (am_lq hlen hdg rfl) h hV
  | l2d => exact am_t_l2d hC (am_lq hlen hdg rfl) h hV
  | i2f => exact am_t_i2f hC (am_lq hlen hdg rfl) h hV
  | d2l => exact am_t_d2l hC (am_lq hlen hdg rfl) h hV
  | f2i => exact am_t_f2i hC (am_lq hlen hdg rfl) h hV
  | dadd => exact am_t_dadd hC (am_lq hlen hdg rfl) h hV
  | dsub => exact am_t_dsub hC (am_lq hlen hdg rfl) h hV
  | dmul => exact am_t_dmul hC (am_lq hlen hdg rfl) h hV
  | ddiv => exact am_t_ddiv hC (am_lq hlen hdg rfl) h hV
  | fsub => exact am_t_fsub hC (am_lq hlen hdg rfl) h hV
  | fmul => exact am_t_fmul hC (am_lq hlen hdg rfl) h hV
  | fdiv => exact am_t_fdiv hC (am_lq hlen hdg rfl) h hV
  | dcmp o => exact am_t_dcmp hC (am_lq hlen hdg rfl) h hV
  | fcmp o => exact am_t_fcmp hC (am_lq hlen hdg rfl) h hV
  | dup => exact am_t_dup hC (am_lq hlen hdg rfl) h hV
  | pop => exact am_t_pop hC (am_lq hlen hdg rfl) h hV
  | pop2 => exact am_t_pop2 hC (am_lq hlen hdg rfl) h hV
  | dup2 => exact am_t_dup2 hC (am_lq hlen hdg rfl) h hV
  | dup_x1 => exact am_t_dup_x1 hC (am_lq hlen hdg rfl) h hV
  | ifnonnull o => exact am_t_ifnonnull hC (am_lq hlen hdg rfl) h hV
  | ifnull o => exact am_t_ifnull hC (am_lq hlen hdg rfl) h hV
  | goto o => exact am_t_goto hC (am_lq hlen hdg rfl) h hV
  | ifCond o q => exact am_t_if hC (am_lq hlen hdg rfl) h hV
  | if_icmp o q => exact am_t_icmp hC (am_lq hlen hdg rfl) h hV
  | tableswitch a b o q => exact am_t_tableswitch hC hdg h hV
  | getfield i => exact am_t_getfield G hC (am_lq hlen hdg rfl) h hV
  | putfield i => exact am_t_putfield G hC (am_lq hlen hdg rfl) h hV
  | getstatic i => exact am_t_getstatic G hC (am_lq hlen hdg rfl) h hV
  | ldc i => exact am_t_ldc G hC (am_lq hlen hdg rfl) h hV
  | ldc_w i => exact am_t_ldc_w G hC (am_lq hlen hdg rfl) h hV
  | ldc2_w i => exact am_t_ldc2_w G hC (am_lq hlen hdg rfl) h hV
  | iaload => exact am_t_iaload G hC (am_lq hlen hdg rfl) h hV
  | iastore => exact am_t_iastore G hC (am_lq hlen hdg rfl) h hV
  | laload => exact am_t_laload G hC (am_lq hlen hdg rfl) h hV
  | lastore => exact am_t_lastore G hC (am_lq hlen hdg rfl) h hV
  | aaload => exact am_t_aaload G hC (am_lq hlen hdg rfl) h hV
  | aastore => exact am_t_aastore G hC (am_lq hlen hdg rfl) h hV
  | arraylength => exact am_t_arraylength G hC (am_lq hlen hdg rfl) h hV
  | invokespecial i => exact am_t_invokespecial G hC (am_lq hlen hdg rfl) h hV
  | invokestatic i => exact am_t_invokestatic G hC (am_lq hlen hdg rfl) h hV
  | new i => exact am_t_new G hC (am_lq hlen hdg rfl) h hrc hrs hV
  | newarray i => exact am_t_newarray G hC (am_lq hlen hdg rfl) h hrc hrs hV
  | anewarray i => exact am_t_anewarray G hC (am_lq hlen hdg rfl) h hrc hrs hV
  | invokevirtual i => exact am_t_invokevirtual G hC (am_lq hlen hdg rfl) h hrc hrs hV
  | checkcast i => exact am_t_checkcast G hcd hC (am_lq hlen hdg rfl) h hV
  | fconst n =>
    match n, hdg, hlen, h with
    | 0, hdg, hlen, h => exact am_t_fconst0 hC (am_lq hlen hdg rfl) h hV
    | 1, hdg, hlen, h => exact am_t_fconst1 hC (am_lq hlen hdg rfl) h hV
    | 2, hdg, hlen, h => exact am_t_fconst2 hC (am_lq hlen hdg rfl) h hV
  | dconst n =>
    match n, hdg, hlen, h with
    | 0, hdg, hlen, h => exact am_t_dconst0 hC (am_lq hlen hdg rfl) h hV
    | 1, hdg, hlen, h => exact am_t_dconst1 hC (am_lq hlen hdg rfl) h hV
  | _ => exact absurd h (by simp [am_st])
theorem am_bif {α : Type} {b : Bool} {x : Option α} {y : α} (h : (bif b then x else none) = some y) : b = true ∧ x = some y := by
  cases b with
  | false => cases h
  | true => exact ⟨rfl, h⟩
theorem am_mono_nt {k : Nat} (h : am_nt P k pc lv st M = some (pc', lv', st', M')) : M.1.length ≤ M'.1.length ∧ M.2 ≤ M'.2 := by
  match k, h with
  | 0, h =>
    simp only [am_nt, am_n0] at h
    (repeat' (split at h)) <;> first | (cases h; done) | (cases h; exact ⟨Nat.le_refl _, Nat.le_refl _⟩)
  | 1, h =>
    simp only [am_nt, am_n1] at h
    (repeat' (split at h)) <;> first | (cases h; done) | (obtain ⟨-, h⟩ := am_bif h; cases h; exact ⟨by simp, Nat.le_refl _⟩)
  | 2, h =>
    simp only [am_nt, am_n2] at h
    (repeat' (split at h)) <;> first | (cases h; done) | (cases h; exact ⟨by simp, Nat.le_add_right _ _⟩)
  | 3, h =>
    simp only [am_nt, am_n3] at h
    (repeat' (split at h)) <;> first | (cases h; done) | (cases h; exact ⟨Nat.le_refl _, Nat.le_refl _⟩)
  | 4, h =>
    simp only [am_nt, am_n4] at h
    (repeat' (split at h)) <;> first | (cases h; done) | (cases h; exact ⟨Nat.le_refl _, Nat.le_refl _⟩)
  | n + 5, h => exact absurd h (by simp [am_nt])
set_option maxHeartbeats 4000000 in
/-- what is made stays -/
theorem am_mono_st {ins : Instr} (h : am_st P mi ins pc lv st M = some (pc', lv', st', M')) : M.1.length ≤ M'.1.length ∧ M.2 ≤ M'.2 := by
  cases ins with
  | iconst n => cases h; exact ⟨Nat.le_refl _, Nat.le_refl _⟩
  | bipush n => cases h; exact ⟨Nat.le_refl _, Nat.le_refl _⟩
  | sipush n => cases h; exact ⟨Nat.le_refl _, Nat.le_refl _⟩
  | lconst n => cases h; exact ⟨Nat.le_refl _, Nat.le_refl _⟩
  | iload_n k => obtain ⟨v, -, -, -, -, rfl⟩ := am_pu_inv h; exact ⟨Nat.le_refl _, Nat.le_refl _⟩
  | lload_n k => obtain ⟨v, -, -, -, -, rfl⟩ := am_pu_inv h; exact ⟨Nat.le_refl _, Nat.le_refl _⟩
  | fload_n k => obtain ⟨v, -, -, -, -, rfl⟩ := am_pu_inv h; exact ⟨Nat.le_refl _, Nat.le_refl _⟩
  | dload_n k => obtain ⟨v, -, -, -, -, rfl⟩ := am_pu_inv h; exact ⟨Nat.le_refl _, Nat.le_refl _⟩
  | aload_n k => obtain ⟨v, -, -, -, -, rfl⟩ := am_pu_inv h; exact ⟨Nat.le_refl _, Nat.le_refl _⟩
  | iload i => obtain ⟨v, -, -, -, -, rfl⟩ := am_pu_inv h; exact ⟨Nat.le_refl _, Nat.le_refl _⟩
  | lload i => obtain ⟨v, -, -, -, -, rfl⟩ := am_pu_inv h; exact ⟨Nat.le_refl _, Nat.le_refl _⟩
  | aload i => obtain ⟨v, -, -, -, -, rfl⟩ := am_pu_inv h; exact ⟨Nat.le_refl _, Nat.le_refl _⟩
  | istore_n k => obtain ⟨v, r, -, -, -, -, rfl, -⟩ := am_so_inv h; exact ⟨Nat.le_refl _, Nat.le_refl _⟩
  | lstore_n k => obtain ⟨v, r, -, -, -, -, rfl, -⟩ := am_so_inv h; exact ⟨Nat.le_refl _, Nat.le_refl _⟩
  | fstore_n k => obtain ⟨v, r, -, -, -, -, rfl, -⟩ := am_so_inv h; exact ⟨Nat.le_refl _, Nat.le_refl _⟩
  | dstore_n k => obtain ⟨v, r, -, -, -, -, rfl, -⟩ := am_so_inv h; exact ⟨Nat.le_refl _, Nat.le_refl _⟩
  | astore_n k => obtain ⟨v, r, -, -, -, -, rfl, -⟩ := am_so_inv h; exact ⟨Nat.le_refl _, Nat.le_refl _⟩
  | istore i => obtain ⟨v, r, -, -, -, -, rfl, -⟩ := am_so_inv h; exact ⟨Nat.le_refl _, Nat.le_refl _⟩
  | lstore i => obtain ⟨v, r, -, -, -, -, rfl, -⟩ := am_so_inv h; exact ⟨Nat.le_refl _, Nat.le_refl _⟩
  | astore i => obtain ⟨v, r, -, -, -, -, rfl, -⟩ := am_so_inv h; exact ⟨Nat.le_refl _, Nat.le_refl _⟩
  | iadd => obtain ⟨x, y, r, v, -, -, -, -, -, rfl⟩ := am_2_inv h; exact ⟨Nat.le_refl _, Nat.le_refl _⟩
  | isub => obtain ⟨x, y, r, v, -, -, -, -, -, rfl⟩ := am_2_inv h; exact ⟨Nat.le_refl _, Nat.le_refl _⟩
  | imul => obtain ⟨x, y, r, v, -, -, -, -, -, rfl⟩ := am_2_inv h; exact ⟨Nat.le_refl _, Nat.le_refl _⟩
  | iand => obtain ⟨x, y, r, v, -, -, -, -, -, rfl⟩ := am_2_inv h; exact ⟨Nat.le_refl _, Nat.le_refl _⟩
  | ior => obtain ⟨x, y, r, v, -, -, -, -, -, rfl⟩ := am_2_inv h; exact ⟨Nat.le_refl _, Nat.le_refl _⟩
  | ixor => obtain ⟨x, y, r, v, -, -, -, -, -, rfl⟩ := am_2_inv h; exact ⟨Nat.le_refl _, Nat.le_refl _⟩
  | ishl => obtain ⟨x, y, r, v, -, -, -, -, -, rfl⟩ := am_2_inv h; exact ⟨Nat.le_refl _, Nat.le_refl _⟩
  | ishr => obtain ⟨x, y, r, v, -, -, -, -, -, rfl⟩ := am_2_inv h; exact ⟨Nat.le_refl _, Nat.le_refl _⟩
  | iushr => obtain ⟨x, y, r, v, -, -, -, -, -, rfl⟩ := am_2_inv h; exact ⟨Nat.le_refl _, Nat.le_refl _⟩
  | idiv => obtain ⟨x, y, r, v, -, -, -, -, -, rfl⟩ := am_2_inv h; exact ⟨Nat.le_refl _, Nat.le_refl _⟩
  | irem => obtain ⟨x, y, r, v, -, -, -, -, -, rfl⟩ := am_2_inv h; exact ⟨Nat.le_refl _, Nat.le_refl _⟩
  | ladd => obtain ⟨x, y, r, v, -, -, -, -, -, rfl⟩ := am_2_inv h; exact ⟨Nat.le_refl _, Nat.le_refl _⟩
  | lsub => obtain ⟨x, y, r, v, -, -, -, -, -, rfl⟩ := am_2_inv h; exact ⟨Nat.le_refl _, Nat.le_refl _⟩
  | lmul => obtain ⟨x, y, r, v, -, -, -, -, -, rfl⟩ := am_2_inv h; exact ⟨Nat.le_refl _, Nat.le_refl _⟩
  | land => obtain ⟨x, y, r, v, -, -, -, -, -, rfl⟩ := am_2_inv h; exact ⟨Nat.le_refl _, Nat.le_refl _⟩
  | ldiv => obtain ⟨x, y, r, v, -, -, -, -, -, rfl⟩ := am_2_inv h; exact ⟨Nat.le_refl _, Nat.le_refl _⟩
  | lshl => obtain ⟨x, y, r, v, -, -, -, -, -, rfl⟩ := am_2_inv h; exact ⟨Nat.le_refl _, Nat.le_refl _⟩
  | lshr => obtain ⟨x, y, r, v, -, -, -, -, -, rfl⟩ := am_2_inv h; exact ⟨Nat.le_refl _, Nat.le_refl _⟩
  | lcmp => obtain ⟨x, y, r, v, -, -, -, -, -, rfl⟩ := am_2_inv h; exact ⟨Nat.le_refl _, Nat.le_refl _⟩
  | dadd => obtain ⟨x, y, r, v, -, -, -, -, -, rfl⟩ := am_2_inv h; exact ⟨Nat.le_refl _, Nat.le_refl _⟩
  | dsub => obtain ⟨x, y, r, v, -, -, -, -, -, rfl⟩ := am_2_inv h; exact ⟨Nat.le_refl _, Nat.le_refl _⟩
  | dmul => obtain ⟨x, y, r, v, -, -, -, -, -, rfl⟩ := am_2_inv h; exact ⟨Nat.le_refl _, Nat.le_refl _⟩
  | ddiv => obtain ⟨x, y, r, v, -, -, -, -, -, rfl⟩ := am_2_inv h; exact ⟨Nat.le_refl _, Nat.le_refl _⟩
  | fsub => obtain ⟨x, y, r, v, -, -, -, -, -, rfl⟩ := am_2_inv h; exact ⟨Nat.le_refl _, Nat.le_refl _⟩
  | fmul => obtain ⟨x, y, r, v, -, -, -, -, -, rfl⟩ := am_2_inv h; exact ⟨Nat.le_refl _, Nat.le_refl _⟩
  | fdiv => obtain ⟨x, y, r, v, -, -, -, -, -, rfl⟩ := am_2_inv h; exact ⟨Nat.le_refl _, Nat.le_refl _⟩
  | dcmp o => obtain ⟨x, y, r, v, -, -, -, -, -, rfl⟩ := am_2_inv h; exact ⟨Nat.le_refl _, Nat.le_refl _⟩
  | fcmp o => obtain ⟨x, y, r, v, -, -, -, -, -, rfl⟩ := am_2_inv h; exact ⟨Nat.le_refl _, Nat.le_refl _⟩
  | ineg => obtain ⟨x, r, v, -, -, -, -, -, rfl⟩ := am_1_inv h; exact ⟨Nat.le_refl _, Nat.le_refl _⟩
  | i2l => obtain ⟨x, r, v, -, -, -, -, -, rfl⟩ := am_1_inv h; exact ⟨Nat.le_refl _, Nat.le_refl _⟩
  | l2i => obtain ⟨x, r, v, -, -, -, -, -, rfl⟩ := am_1_inv h; exact ⟨Nat.le_refl _, Nat.le_refl _⟩
  | l2d => obtain ⟨x, r, v, -, -, -, -, -, rfl⟩ := am_1_inv h; exact ⟨Nat.le_refl _, Nat.le_refl _⟩
  | i2f => obtain ⟨x, r, v, -, -, -, -, -, rfl⟩ := am_1_inv h; exact ⟨Nat.le_refl _, Nat.le_refl _⟩
  | d2l => obtain ⟨x, r, v, -, -, -, -, -, rfl⟩ := am_1_inv h; exact ⟨Nat.le_refl _, Nat.le_refl _⟩
  | f2i => obtain ⟨x, r, v, -, -, -, -, -, rfl⟩ := am_1_inv h; exact ⟨Nat.le_refl _, Nat.le_refl _⟩
  | goto o => obtain ⟨-, -, -, rfl⟩ := am_go_inv h; exact ⟨Nat.le_refl _, Nat.le_refl _⟩
  | fconst n => (simp only [am_st] at h; repeat' (split at h)) <;> first | (cases h; done) | (cases h; exact ⟨Nat.le_refl _, Nat.le_refl _⟩) | (obtain ⟨t, -, -, -, rfl, -⟩ := am_br_inv h; exact ⟨Nat.le_refl _, Nat.le_refl _⟩) | (obtain ⟨-, -, -, rfl⟩ := am_go_inv h; exact ⟨Nat.le_refl _, Nat.le_refl _⟩)
  | dconst n => (simp only [am_st] at h; repeat' (split at h)) <;> first | (cases h; done) | (cases h; exact ⟨Nat.le_refl _, Nat.le_refl _⟩) | (obtain ⟨t, -, -, -, rfl, -⟩ := am_br_inv h; exact ⟨Nat.le_refl _, Nat.le_refl _⟩) | (obtain ⟨-, -, -, rfl⟩ := am_go_inv h; exact ⟨Nat.le_refl _, Nat.le_refl _⟩)
  | ldc i => (simp only [am_st] at h; repeat' (split at h)) <;> first | (cases h; done) | (cases h; exact ⟨Nat.le_refl _, Nat.le_refl _⟩) | (obtain ⟨t, -, -, -, rfl, -⟩ := am_br_inv h; exact ⟨Nat.le_refl _, Nat.le_refl _⟩) | (obtain ⟨-, -, -, rfl⟩ := am_go_inv h; exact ⟨Nat.le_refl _, Nat.le_refl _⟩)
  | ldc_w i => (simp only [am_st] at h; repeat' (split at h)) <;> first | (cases h; done) | (cases h; exact ⟨Nat.le_refl _, Nat.le_refl _⟩) | (obtain ⟨t, -, -, -, rfl, -⟩ := am_br_inv h; exact ⟨Nat.le_refl _, Nat.le_refl _⟩) | (obtain ⟨-, -, -, rfl⟩ := am_go_inv h; exact ⟨Nat.le_refl _, Nat.le_refl _⟩)
  | ldc2_w i => (simp only [am_st] at h; repeat' (split at h)) <;> first | (cases h; done) | (cases h; exact ⟨Nat.le_refl _, Nat.le_refl _⟩) | (obtain ⟨t, -, -, -, rfl, -⟩ := am_br_inv h; exact ⟨Nat.le_refl _, Nat.le_refl _⟩) | (obtain ⟨-, -, -, rfl⟩ := am_go_inv h; exact ⟨Nat.le_refl _, Nat.le_refl _⟩)
  | iinc i n => (simp only [am_st] at h; repeat' (split at h)) <;> first | (cases h; done) | (cases h; exact ⟨Nat.le_refl _, Nat.le_refl _⟩) | (obtain ⟨t, -, -, -, rfl, -⟩ := am_br_inv h; exact ⟨Nat.le_refl _, Nat.le_refl _⟩) | (obtain ⟨-, -, -, rfl⟩ := am_go_inv h; exact ⟨Nat.le_refl _, Nat.le_refl _⟩)
  | dup => (simp only [am_st] at h; repeat' (split at h)) <;> first | (cases h; done) | (cases h; exact ⟨Nat.le_refl _, Nat.le_refl _⟩) | (obtain ⟨t, -, -, -, rfl, -⟩ := am_br_inv h; exact ⟨Nat.le_refl _, Nat.le_refl _⟩) | (obtain ⟨-, -, -, rfl⟩ := am_go_inv h; exact ⟨Nat.le_refl _, Nat.le_refl _⟩)
  | pop => (simp only [am_st] at h; repeat' (split at h)) <;> first | (cases h; done) | (cases h; exact ⟨Nat.le_refl _, Nat.le_refl _⟩) | (obtain ⟨t, -, -, -, rfl, -⟩ := am_br_inv h; exact ⟨Nat.le_refl _, Nat.le_refl _⟩) | (obtain ⟨-, -, -, rfl⟩ := am_go_inv h; exact ⟨Nat.le_refl _, Nat.le_refl _⟩)
  | pop2 => (simp only [am_st] at h; repeat' (split at h)) <;> first | (cases h; done) | (cases h; exact ⟨Nat.le_refl _, Nat.le_refl _⟩) | (obtain ⟨t, -, -, -, rfl, -⟩ := am_br_inv h; exact ⟨Nat.le_refl _, Nat.le_refl _⟩) | (obtain ⟨-, -, -, rfl⟩ := am_go_inv h; exact ⟨Nat.le_refl _, Nat.le_refl _⟩)
  | dup2 => (simp only [am_st] at h; repeat' (split at h)) <;> first | (cases h; done) | (cases h; exact ⟨Nat.le_refl _, Nat.le_refl _⟩) | (obtain ⟨t, -, -, -, rfl, -⟩ := am_br_inv h; exact ⟨Nat.le_refl _, Nat.le_refl _⟩) | (obtain ⟨-, -, -, rfl⟩ := am_go_inv h; exact ⟨Nat.le_refl _, Nat.le_refl _⟩)
  | dup_x1 => (simp only [am_st] at h; repeat' (split at h)) <;> first | (cases h; done) | (cases h; exact ⟨Nat.le_refl _, Nat.le_refl _⟩) | (obtain ⟨t, -, -, -, rfl, -⟩ := am_br_inv h; exact ⟨Nat.le_refl _, Nat.le_refl _⟩) | (obtain ⟨-, -, -, rfl⟩ := am_go_inv h; exact ⟨Nat.le_refl _, Nat.le_refl _⟩)
  | ifCond o q => (simp only [am_st] at h; repeat' (split at h)) <;> first | (cases h; done) | (cases h; exact ⟨Nat.le_refl _, Nat.le_refl _⟩) | (obtain ⟨t, -, -, -, rfl, -⟩ := am_br_inv h; exact ⟨Nat.le_refl _, Nat.le_refl _⟩) | (obtain ⟨-, -, -, rfl⟩ := am_go_inv h; exact ⟨Nat.le_refl _, Nat.le_refl _⟩)
  | if_icmp o q => (simp only [am_st] at h; repeat' (split at h)) <;> first | (cases h; done) | (cases h; exact ⟨Nat.le_refl _, Nat.le_refl _⟩) | (obtain ⟨t, -, -, -, rfl, -⟩ := am_br_inv h; exact ⟨Nat.le_refl _, Nat.le_refl _⟩) | (obtain ⟨-, -, -, rfl⟩ := am_go_inv h; exact ⟨Nat.le_refl _, Nat.le_refl _⟩)
  | ifnonnull o => (simp only [am_st] at h; repeat' (split at h)) <;> first | (cases h; done) | (cases h; exact ⟨Nat.le_refl _, Nat.le_refl _⟩) | (obtain ⟨t, -, -, -, rfl, -⟩ := am_br_inv h; exact ⟨Nat.le_refl _, Nat.le_refl _⟩) | (obtain ⟨-, -, -, rfl⟩ := am_go_inv h; exact ⟨Nat.le_refl _, Nat.le_refl _⟩)
  | ifnull o => (simp only [am_st] at h; repeat' (split at h)) <;> first | (cases h; done) | (cases h; exact ⟨Nat.le_refl _, Nat.le_refl _⟩) | (obtain ⟨t, -, -, -, rfl, -⟩ := am_br_inv h; exact ⟨Nat.le_refl _, Nat.le_refl _⟩) | (obtain ⟨-, -, -, rfl⟩ := am_go_inv h; exact ⟨Nat.le_refl _, Nat.le_refl _⟩)
  | getstatic i => (simp only [am_st] at h; repeat' (split at h)) <;> first | (cases h; done) | (cases h; exact ⟨Nat.le_refl _, Nat.le_refl _⟩) | (obtain ⟨t, -, -, -, rfl, -⟩ := am_br_inv h; exact ⟨Nat.le_refl _, Nat.le_refl _⟩) | (obtain ⟨-, -, -, rfl⟩ := am_go_inv h; exact ⟨Nat.le_refl _, Nat.le_refl _⟩)
  | checkcast i => (simp only [am_st] at h; repeat' (split at h)) <;> first | (cases h; done) | (cases h; exact ⟨Nat.le_refl _, Nat.le_refl _⟩) | (obtain ⟨t, -, -, -, rfl, -⟩ := am_br_inv h; exact ⟨Nat.le_refl _, Nat.le_refl _⟩) | (obtain ⟨-, -, -, rfl⟩ := am_go_inv h; exact ⟨Nat.le_refl _, Nat.le_refl _⟩)
  | tableswitch a b o q =>
    simp only [am_st] at h
    split at h
    · cases hk : am_swk _ b o q <;> rw [hk] at h
      · cases h
      · obtain ⟨-, -, -, rfl⟩ := am_go_inv h; exact ⟨Nat.le_refl _, Nat.le_refl _⟩
    · cases h
  | getfield i =>
    simp only [am_st, am_gf] at h
    (repeat' (split at h)) <;> first | (obtain ⟨v, -, -, -, -, rfl⟩ := am_pu_inv h; exact ⟨Nat.le_refl _, Nat.le_refl _⟩) | cases h
  | putfield i =>
    simp only [am_st, am_pf] at h
    (repeat' (split at h)) <;> first | (cases h; done) | (obtain ⟨-, h⟩ := am_bif h; cases h; exact ⟨by simp, by first | exact Nat.le_refl _ | exact Nat.le_add_right _ _⟩)
  | iaload =>
    simp only [am_st, am_ald] at h
    (repeat' (split at h)) <;> first | (cases h; done) | (obtain ⟨-, h⟩ := am_bif h; cases h; exact ⟨by simp, by first | exact Nat.le_refl _ | exact Nat.le_add_right _ _⟩)
  | iastore =>
    simp only [am_st, am_ast] at h
    (repeat' (split at h)) <;> first | (cases h; done) | (obtain ⟨-, h⟩ := am_bif h; cases h; exact ⟨by simp, by first | exact Nat.le_refl _ | exact Nat.le_add_right _ _⟩)
  | laload =>
    simp only [am_st, am_lald] at h
    (repeat' (split at h)) <;> first | (cases h; done) | (obtain ⟨-, h⟩ := am_bif h; cases h; exact ⟨by simp, by first | exact Nat.le_refl _ | exact Nat.le_add_right _ _⟩)
  | lastore =>
    simp only [am_st, am_last] at h
    (repeat' (split at h)) <;> first | (cases h; done) | (obtain ⟨-, h⟩ := am_bif h; cases h; exact ⟨by simp, by first | exact Nat.le_refl _ | exact Nat.le_add_right _ _⟩)
  | aaload =>
    simp only [am_st, am_qald] at h
    (repeat' (split at h)) <;> first | (cases h; done) | (obtain ⟨-, h⟩ := am_bif h; cases h; exact ⟨by simp, by first | exact Nat.le_refl _ | exact Nat.le_add_right _ _⟩)
  | aastore =>
    simp only [am_st, am_qast] at h
    (repeat' (split at h)) <;> first | (cases h; done) | (obtain ⟨-, h⟩ := am_bif h; cases h; exact ⟨by simp, by first | exact Nat.le_refl _ | exact Nat.le_add_right _ _⟩)
  | newarray i =>
    simp only [am_st, am_na] at h
    (repeat' (split at h)) <;> first | (cases h; done) | (obtain ⟨-, h⟩ := am_bif h; cases h; exact ⟨by simp, by first | exact Nat.le_refl _ | exact Nat.le_add_right _ _⟩)
  | anewarray i =>
    simp only [am_st, am_nq] at h
    (repeat' (split at h)) <;> first | (cases h; done) | (obtain ⟨-, h⟩ := am_bif h; cases h; exact ⟨by simp, by first | exact Nat.le_refl _ | exact Nat.le_add_right _ _⟩)
  | arraylength =>
    simp only [am_st, am_len] at h
    (repeat' (split at h)) <;> first | (cases h; done) | (cases h; exact ⟨Nat.le_refl _, Nat.le_refl _⟩)
  | new i =>
    simp only [am_st, am_nw] at h
    (repeat' (split at h)) <;> first | (cases h; done) | (cases h; exact ⟨by simp, Nat.le_add_right _ _⟩)
  | invokespecial i =>
    simp only [am_st] at h
    split at h
    · exact am_mono_nt h
    · cases h
  | invokestatic i =>
    simp only [am_st] at h
    split at h
    · exact am_mono_nt h
    · cases h
  | invokevirtual i =>
    simp only [am_st] at h
    split at h
    · exact am_mono_nt h
    · cases h
  | _ => exact absurd h (by simp [am_st])
/-- and so of the whole machine -/
theorem am_mono : ∀ (f mi pc : Nat) (lv : am_L) (st : List Value) (M : am_M) (v : Option Value) (M' : am_M), am_ev P f mi pc lv st M = some (v, M') → M.1.length ≤ M'.1.length ∧ M.2 ≤ M'.2 := by
  intro f
  induction f with
  | zero => intro mi pc lv st M v M' h; cases h
  | succ f ih =>
    intro mi pc lv st M v M' h
    unfold am_ev at h
    split at h
    · cases h
    · rename_i ins hc
      split at h
      · rename_i mj n hcl
        cases hr : am_rc P mi ins mj n st M with
        | false => rw [hr] at h; cases h
        | true =>
          rw [hr] at h
          replace h : (match am_ev P f mj 0 (lv_args 0 (st.take n).reverse) [] M with
            | some (v, M') => am_ev P f mi (pc + 3) lv (v.toList ++ st.drop n) M'
            | none => none) = some (v, M') := h
          split at h
          · rename_i v1 M1 h1
            have a := ih _ _ _ _ _ _ _ h1
            have b := ih _ _ _ _ _ _ _ h
            exact ⟨Nat.le_trans a.1 b.1, Nat.le_trans a.2 b.2⟩
          · cases h
      · split at h
        · cases h; exact ⟨Nat.le_refl _, Nat.le_refl _⟩
        · split at h
          · rename_i pc1 lv1 st1 M1 h1
            have a := am_mono_st h1
            have b := ih _ _ _ _ _ _ _ h
            exact ⟨Nat.le_trans a.1 b.1, Nat.le_trans a.2 b.2⟩
          · cases h
end AMS

end
